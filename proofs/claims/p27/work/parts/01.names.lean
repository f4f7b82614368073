/-! ===== BEGIN words of one list among another's, by their places ===== -/
theorem goodIn_r {big : List Cond} (ws : List Cond) (ps : List Nat) (hp : ws = ps.filterMap (fun i => big[i]?)) (h : ws.all goodWord = true) : GoodIn big ws := by
  intro w hw
  have h1 := List.all_eq_true.mp h w hw
  rw [hp] at hw
  obtain ⟨i, -, hi⟩ := List.mem_filterMap.mp hw
  have hm : w ∈ big := by first | exact List.mem_of_getElem? hi | exact List.getElem?_mem hi
  exact ⟨hm, good_of_word h1⟩
theorem goodIn_app {big a b : List Cond} (ha : GoodIn big a) (hb : GoodIn big b) : GoodIn big (a ++ b) := fun w h => (List.mem_append.mp h).elim (ha w) (hb w)
theorem goodIn_ca {big a b : List Cond} {c : Cond} (ha : GoodIn big (c :: a)) (hb : GoodIn big b) : GoodIn big (c :: (a ++ b)) := fun w h => (List.mem_cons.mp h).elim (fun e => ha w (List.mem_cons.mpr (Or.inl e))) (fun h => (List.mem_append.mp h).elim (fun h => ha w (List.mem_cons.mpr (Or.inr h))) (hb w))
theorem goodIn_sub {big ws : List Cond} (hm : ∀ w ∈ ws, w ∈ big) (h : ws.all goodWord = true) : GoodIn big ws := fun w hw => ⟨hm w hw, good_of_word (List.all_eq_true.mp h w hw)⟩
/-! ===== END ===== -/

/-! ===== BEGIN printed: names, fields, word lists, decode rows ===== -/
def RX0 : String := "ExhibitTexts$Pad"
def TX0 : u_T := fun k => match k with
  | 0 => ("ExhibitTexts$Pad", "characters", "[C", true)
  | 1 => ("ExhibitTexts$Pad", "length", "I", false)
  | 2 => ("ExhibitTexts$Pad", "place", "I", false)
  | 3 => ("ExhibitTexts$Pad", "isCaption", "Z", false)
  | 4 => ("ExhibitTexts$Pad", "exhibit", "I", false)
  | 5 => ("ExhibitTexts$Pad", "text", "I", false)
  | 6 => ("ExhibitTexts$Pad", "words", "I", false)
  | 7 => ("ExhibitTexts$Pad", "sentences", "I", false)
  | 8 => ("ExhibitTexts$Pad", "longs", "I", false)
  | _ => ("ExhibitTexts$Pad", "facts", "I", false)
def tyX0 : Nat → FieldType := fun k => match k with
  | 0 => .array .char
  | 1 => .int
  | 2 => .int
  | 3 => .boolean
  | 4 => .int
  | 5 => .int
  | 6 => .int
  | 7 => .int
  | 8 => .int
  | _ => .int
abbrev wsX00 : List Cond := u_ws RX0 TX0 10
theorem nmX0 : ∀ a, a < 10 → ∀ b, b < 10 → a ≠ b → (TX0 a).2.1 ≠ (TX0 b).2.1 := by decide +kernel
theorem tyX0_ok : ∀ k, k < 10 → parseFieldDescriptor (TX0 k).2.2.1 = some (tyX0 k) := by decide +kernel
abbrev cX0_init : ByteArray := prog_2_method_1_code
def yX0_init : MethodName := ⟨RX0, "<init>", "()V"⟩
def RX1 : String := "ExhibitTexts$State"
def TX1 : u_T := fun k => match k with
  | 0 => ("ExhibitTexts$State", "sizes", "[I", true)
  | 1 => ("ExhibitTexts$State", "cells", "[I", true)
  | 2 => ("ExhibitTexts$State", "standsAt", "I", false)
  | 3 => ("ExhibitTexts$State", "turning", "I", false)
  | 4 => ("ExhibitTexts$State", "visitors", "I", false)
  | 5 => ("ExhibitTexts$State", "textsRead", "I", false)
  | 6 => ("ExhibitTexts$State", "captionsRead", "I", false)
  | 7 => ("ExhibitTexts$State", "hasVisitor", "Z", false)
  | 8 => ("ExhibitTexts$State", "age", "I", false)
  | 9 => ("ExhibitTexts$State", "pace", "I", false)
  | 10 => ("ExhibitTexts$State", "seconds", "I", false)
  | _ => ("ExhibitTexts$State", "learned", "I", false)
def tyX1 : Nat → FieldType := fun k => match k with
  | 0 => .array .int
  | 1 => .array .int
  | 2 => .int
  | 3 => .int
  | 4 => .int
  | 5 => .int
  | 6 => .int
  | 7 => .boolean
  | 8 => .int
  | 9 => .int
  | 10 => .int
  | _ => .int
abbrev wsX10 : List Cond := u_ws RX1 TX1 12
theorem nmX1 : ∀ a, a < 12 → ∀ b, b < 12 → a ≠ b → (TX1 a).2.1 ≠ (TX1 b).2.1 := by decide +kernel
theorem tyX1_ok : ∀ k, k < 12 → parseFieldDescriptor (TX1 k).2.2.1 = some (tyX1 k) := by decide +kernel
abbrev cX1_init : ByteArray := prog_3_method_1_code
def yX1_init : MethodName := ⟨RX1, "<init>", "()V"⟩
abbrev cX1_copyFrom : ByteArray := prog_3_method_2_code
def yX1_copyFrom : MethodName := ⟨RX1, "copyFrom", "(LExhibitTexts$State;)V"⟩
abbrev cX1_rowOf : ByteArray := prog_3_method_3_code
def yX1_rowOf : MethodName := ⟨RX1, "rowOf", "(II)I"⟩
abbrev cX1_captionOf : ByteArray := prog_3_method_4_code
def yX1_captionOf : MethodName := ⟨RX1, "captionOf", "(II)I"⟩
abbrev cX1_putText : ByteArray := prog_3_method_5_code
def yX1_putText : MethodName := ⟨RX1, "putText", "(IIIII)I"⟩
abbrev cX1_dropText : ByteArray := prog_3_method_6_code
def yX1_dropText : MethodName := ⟨RX1, "dropText", "(II)I"⟩
abbrev cX1_changeFacts : ByteArray := prog_3_method_7_code
def yX1_changeFacts : MethodName := ⟨RX1, "changeFacts", "(III)I"⟩
abbrev cX1_captionFacts : ByteArray := prog_3_method_8_code
def yX1_captionFacts : MethodName := ⟨RX1, "captionFacts", "(I)I"⟩
abbrev cX1_putCaption : ByteArray := prog_3_method_9_code
def yX1_putCaption : MethodName := ⟨RX1, "putCaption", "(IIII)I"⟩
abbrev cX1_admit : ByteArray := prog_3_method_10_code
def yX1_admit_n : String := match tables_1[256]? with
  | some (Cond.instanceMethod y) => y.name
  | _ => ""
def yX1_admit : MethodName := ⟨RX1, yX1_admit_n, "(III)I"⟩
abbrev cX1_touchCaption : ByteArray := prog_3_method_11_code
def yX1_touchCaption : MethodName := ⟨RX1, "touchCaption", "(I)I"⟩
abbrev cX1_readUntouched : ByteArray := prog_3_method_12_code
def yX1_readUntouched : MethodName := ⟨RX1, "readUntouched", "()I"⟩
abbrev cX1_readShown : ByteArray := prog_3_method_13_code
def yX1_readShown : MethodName := ⟨RX1, "readShown", "()Z"⟩
abbrev cX1_turnRing : ByteArray := prog_3_method_14_code
def yX1_turnRing : MethodName := ⟨RX1, "turnRing", "(Z)I"⟩
abbrev cX1_changeTurning : ByteArray := prog_3_method_15_code
def yX1_changeTurning : MethodName := ⟨RX1, "changeTurning", "(I)I"⟩
abbrev cX1_shownRow : ByteArray := prog_3_method_16_code
def yX1_shownRow : MethodName := ⟨RX1, "shownRow", "()I"⟩
abbrev cX1_timeFor : ByteArray := prog_3_method_17_code
def yX1_timeFor : MethodName := ⟨RX1, "timeFor", "(I)I"⟩
abbrev cX1_textFor : ByteArray := prog_3_method_18_code
def yX1_textFor : MethodName := ⟨RX1, "textFor", "(II)I"⟩
abbrev cX1_fitsBetter : ByteArray := prog_3_method_19_code
def yX1_fitsBetter : MethodName := ⟨RX1, "fitsBetter", "(III)Z"⟩
abbrev cX1_factsFor : ByteArray := prog_3_method_20_code
def yX1_factsFor : MethodName := ⟨RX1, "factsFor", "(I)I"⟩
abbrev cX1_allFacts : ByteArray := prog_3_method_21_code
def yX1_allFacts : MethodName := ⟨RX1, "allFacts", "()I"⟩
abbrev cX1_countTexts : ByteArray := prog_3_method_22_code
def yX1_countTexts : MethodName := ⟨RX1, "countTexts", "()I"⟩
abbrev cX1_countCaptions : ByteArray := prog_3_method_23_code
def yX1_countCaptions : MethodName := ⟨RX1, "countCaptions", "()I"⟩
abbrev cX1_countNeverRead : ByteArray := prog_3_method_24_code
def yX1_countNeverRead : MethodName := ⟨RX1, "countNeverRead", "()I"⟩
def RX2 : String := "ExhibitTexts"
def TX2 : u_T := fun k => match k with
  | 0 => ("ExhibitTexts", "now", "LExhibitTexts$State;", false)
  | 1 => ("ExhibitTexts", "trial", "LExhibitTexts$State;", false)
  | 2 => ("ExhibitTexts", "snapshot", "LExhibitTexts$State;", true)
  | 3 => ("ExhibitTexts", "kept", "Z", false)
  | 4 => ("ExhibitTexts", "history", "[LExhibitTexts$State;", true)
  | 5 => ("ExhibitTexts", "nextInHistory", "I", false)
  | 6 => ("ExhibitTexts", "statesInHistory", "I", false)
  | 7 => ("ExhibitTexts", "pad", "LExhibitTexts$Pad;", true)
  | 8 => ("ExhibitTexts", "refusedEntry", "I", false)
  | _ => ("ExhibitTexts", "refusedError", "I", false)
def tyX2 : Nat → FieldType := fun k => match k with
  | 0 => .object "ExhibitTexts$State"
  | 1 => .object "ExhibitTexts$State"
  | 2 => .object "ExhibitTexts$State"
  | 3 => .boolean
  | 4 => .array (.object "ExhibitTexts$State")
  | 5 => .int
  | 6 => .int
  | 7 => .object "ExhibitTexts$Pad"
  | 8 => .int
  | _ => .int
abbrev wsX20 : List Cond := u_ws RX2 TX2 10
theorem nmX2 : ∀ a, a < 10 → ∀ b, b < 10 → a ≠ b → (TX2 a).2.1 ≠ (TX2 b).2.1 := by decide +kernel
theorem tyX2_ok : ∀ k, k < 10 → parseFieldDescriptor (TX2 k).2.2.1 = some (tyX2 k) := by decide +kernel
abbrev cX2_init : ByteArray := prog_1_method_1_code
def yX2_init : MethodName := ⟨RX2, "<init>", "()V"⟩
abbrev cX2_addText : ByteArray := prog_1_method_2_code
def yX2_addText : MethodName := ⟨RX2, "addText", "(IIIII)I"⟩
abbrev cX2_removeText : ByteArray := prog_1_method_3_code
def yX2_removeText : MethodName := ⟨RX2, "removeText", "(II)I"⟩
abbrev cX2_setFacts : ByteArray := prog_1_method_4_code
def yX2_setFacts : MethodName := ⟨RX2, "setFacts", "(III)I"⟩
abbrev cX2_addCaption : ByteArray := prog_1_method_5_code
def yX2_addCaption : MethodName := ⟨RX2, "addCaption", "(IIII)I"⟩
abbrev cX2_enter : ByteArray := prog_1_method_8_code
def yX2_enter : MethodName := ⟨RX2, "enter", "(III)I"⟩
abbrev cX2_touch : ByteArray := prog_1_method_9_code
def yX2_touch : MethodName := ⟨RX2, "touch", "(I)I"⟩
abbrev cX2_read : ByteArray := prog_1_method_10_code
def yX2_read : MethodName := ⟨RX2, "read", "()I"⟩
abbrev cX2_turn : ByteArray := prog_1_method_11_code
def yX2_turn : MethodName := ⟨RX2, "turn", "(Z)I"⟩
abbrev cX2_setTurning : ByteArray := prog_1_method_12_code
def yX2_setTurning : MethodName := ⟨RX2, "setTurning", "(I)I"⟩
abbrev cX2_text : ByteArray := prog_1_method_18_code
def yX2_text : MethodName := ⟨RX2, "text", "(III)I"⟩
abbrev cX2_caption : ByteArray := prog_1_method_19_code
def yX2_caption : MethodName := ⟨RX2, "caption", "(IIII)I"⟩
abbrev cX2_visitor : ByteArray := prog_1_method_20_code
def yX2_visitor : MethodName := ⟨RX2, "visitor", "(I)I"⟩
abbrev cX2_shown : ByteArray := prog_1_method_21_code
def yX2_shown : MethodName := ⟨RX2, "shown", "(II)I"⟩
abbrev cX2_unmet : ByteArray := prog_1_method_22_code
def yX2_unmet : MethodName := ⟨RX2, "unmet", "(I)I"⟩
abbrev cX2_round : ByteArray := prog_1_method_23_code
def yX2_round : MethodName := ⟨RX2, "round", "(III)I"⟩
abbrev cX2_ages : ByteArray := prog_1_method_24_code
def yX2_ages : MethodName := ⟨RX2, "ages", "(III)I"⟩
abbrev cX2_count : ByteArray := prog_1_method_25_code
def yX2_count : MethodName := ⟨RX2, "count", "(I)I"⟩
abbrev cX2_attempt : ByteArray := prog_1_method_26_code
def yX2_attempt : MethodName := ⟨RX2, "attempt", "()LExhibitTexts$State;"⟩
abbrev cX2_settle : ByteArray := prog_1_method_27_code
def yX2_settle : MethodName := ⟨RX2, "settle", "(I)I"⟩
abbrev cX2_isExhibit : ByteArray := prog_1_method_30_code
def yX2_isExhibit : MethodName := ⟨RX2, "isExhibit", "(I)Z"⟩
abbrev cX2_isAge : ByteArray := prog_1_method_31_code
def yX2_isAge : MethodName := ⟨RX2, "isAge", "(I)Z"⟩
abbrev cX2_isText : ByteArray := prog_1_method_32_code
def yX2_isText : MethodName := ⟨RX2, "isText", "(III)Z"⟩
def RX3 : String := "ExhibitTextsModel"
def TX3 : u_T := fun k => match k with
  | _ => ("", "", "", false)
def tyX3 : Nat → FieldType := fun k => match k with
  | _ => .int
abbrev wsX30 : List Cond := u_ws RX3 TX3 0
theorem nmX3 : ∀ a, a < 0 → ∀ b, b < 0 → a ≠ b → (TX3 a).2.1 ≠ (TX3 b).2.1 := by decide +kernel
theorem tyX3_ok : ∀ k, k < 0 → parseFieldDescriptor (TX3 k).2.2.1 = some (tyX3 k) := by decide +kernel
def RJ6 : String := "java/lang/Integer"
def TJ6 : u_T := fun k => match k with
  | _ => ("", "", "", false)
def tyJ6 : Nat → FieldType := fun k => match k with
  | _ => .int
abbrev wsJ60 : List Cond := u_ws RJ6 TJ6 0
theorem nmJ6 : ∀ a, a < 0 → ∀ b, b < 0 → a ≠ b → (TJ6 a).2.1 ≠ (TJ6 b).2.1 := by decide +kernel
theorem tyJ6_ok : ∀ k, k < 0 → parseFieldDescriptor (TJ6 k).2.2.1 = some (tyJ6 k) := by decide +kernel
abbrev cJ6_bitCount_0f7a4 : ByteArray := prog_6_method_49_code
def yJ6_bitCount_0f7a4 : MethodName := ⟨RJ6, "bitCount", "(I)I"⟩
def RJ9 : String := "java/lang/Math"
def TJ9 : u_T := fun k => match k with
  | _ => ("", "", "", false)
def tyJ9 : Nat → FieldType := fun k => match k with
  | _ => .int
abbrev wsJ90 : List Cond := u_ws RJ9 TJ9 0
theorem nmJ9 : ∀ a, a < 0 → ∀ b, b < 0 → a ≠ b → (TJ9 a).2.1 ≠ (TJ9 b).2.1 := by decide +kernel
theorem tyJ9_ok : ∀ k, k < 0 → parseFieldDescriptor (TJ9 k).2.2.1 = some (tyJ9 k) := by decide +kernel
abbrev cJ9_floorMod_7cf53 : ByteArray := prog_7_method_50_code
def yJ9_floorMod_7cf53 : MethodName := ⟨RJ9, "floorMod", "(II)I"⟩
abbrev cJ9_max_7cf53 : ByteArray := prog_7_method_65_code
def yJ9_max_7cf53 : MethodName := ⟨RJ9, "max", "(II)I"⟩
abbrev cJ9_min_7cf53 : ByteArray := prog_7_method_69_code
def yJ9_min_7cf53 : MethodName := ⟨RJ9, "min", "(II)I"⟩
def RJ10 : String := "java/lang/System"
def TJ10 : u_T := fun k => match k with
  | _ => ("", "", "", false)
def tyJ10 : Nat → FieldType := fun k => match k with
  | _ => .int
abbrev wsJ100 : List Cond := u_ws RJ10 TJ10 0
theorem nmJ10 : ∀ a, a < 0 → ∀ b, b < 0 → a ≠ b → (TJ10 a).2.1 ≠ (TJ10 b).2.1 := by decide +kernel
theorem tyJ10_ok : ∀ k, k < 0 → parseFieldDescriptor (TJ10 k).2.2.1 = some (tyJ10 k) := by decide +kernel
def RL : String := "ExhibitTextsLaw"
abbrev cL_cell : ByteArray := method_2_code
def yL_cell : MethodName := ⟨RL, "cell", "([II)I"⟩
abbrev cL_low : ByteArray := method_3_code
def yL_low : MethodName := ⟨RL, "low", "(II)I"⟩
abbrev cL_does : ByteArray := method_4_code
def yL_does : MethodName := ⟨RL, "does", "(LExhibitTexts;I)I"⟩
abbrev cL_manyAt : ByteArray := method_5_code
def yL_manyAt : MethodName := ⟨RL, "manyAt", "(LExhibitTexts;I)I"⟩
abbrev cL_bits : ByteArray := method_6_code
def yL_bits : MethodName := ⟨RL, "bits", "(I)I"⟩
abbrev cL_areTextsSo : ByteArray := method_7_code
def yL_areTextsSo : MethodName := ⟨RL, "areTextsSo", "(LExhibitTexts;I)Z"⟩
abbrev cL_law : ByteArray := code
def yL_law : MethodName := ⟨RL, "law", "([I)Z"⟩
def wsX0_init : List Cond := .code yX0_init cX0_init 1 none :: ([.methodLink RX0 3 objectInit, .instanceMethod objectInit, .code objectInit ⟨#[0xb1]⟩ 1 none, .arrayClass .char, .fieldLink RX0 9 "ExhibitTexts$Pad" "characters" "[C"] ++ wsX00)
def wsX1_init : List Cond := .code yX1_init cX1_init 1 none :: ([.methodLink RX1 3 objectInit, .instanceMethod objectInit, .code objectInit ⟨#[0xb1]⟩ 1 none, .arrayClass .int, .fieldLink RX1 9 "ExhibitTexts$State" "sizes" "[I", .fieldLink RX1 15 "ExhibitTexts$State" "cells" "[I", .fieldLink RX1 18 "ExhibitTexts$State" "turning" "I"] ++ wsX10)
def wsX1_copyFrom : List Cond := .code yX1_copyFrom cX1_copyFrom 2 none :: ([.fieldLink RX1 9 "ExhibitTexts$State" "sizes" "[I", .methodLink RX1 22 arraycopyName, .native arraycopyName, .static arraycopyName, .initialized "java/lang/System", .fieldLink RX1 15 "ExhibitTexts$State" "cells" "[I", .fieldLink RX1 28 "ExhibitTexts$State" "standsAt" "I", .fieldLink RX1 18 "ExhibitTexts$State" "turning" "I", .fieldLink RX1 31 "ExhibitTexts$State" "visitors" "I", .fieldLink RX1 34 "ExhibitTexts$State" "textsRead" "I", .fieldLink RX1 37 "ExhibitTexts$State" "captionsRead" "I", .fieldLink RX1 40 "ExhibitTexts$State" "hasVisitor" "Z", .fieldLink RX1 44 "ExhibitTexts$State" "age" "I", .fieldLink RX1 47 "ExhibitTexts$State" "pace" "I", .fieldLink RX1 50 "ExhibitTexts$State" "seconds" "I", .fieldLink RX1 53 "ExhibitTexts$State" "learned" "I"] ++ wsX10)
def wsX2_isExhibit : List Cond := .code yX2_isExhibit cX2_isExhibit 1 (some .boolean) :: ([])
def wsX1_rowOf : List Cond := .code yX1_rowOf cX1_rowOf 3 (some .int) :: ([.fieldLink RX1 9 "ExhibitTexts$State" "sizes" "[I", .static yX2_isExhibit, .initialized RX2, .code yX2_isExhibit cX2_isExhibit 1 (some .boolean)] ++ wsX10)
def wsX1_captionOf : List Cond := .code yX1_captionOf cX1_captionOf 3 (some .int) :: ([.fieldLink RX1 15 "ExhibitTexts$State" "cells" "[I"] ++ wsX10)
def wsX2_isText : List Cond := .code yX2_isText cX2_isText 3 (some .boolean) :: ([])
def wsX1_putText : List Cond := .code yX1_putText cX1_putText 8 (some .int) :: ([.constant RX1 64 (65535), .fieldLink RX1 9 "ExhibitTexts$State" "sizes" "[I", .fieldLink RX1 15 "ExhibitTexts$State" "cells" "[I", .static yX2_isExhibit, .initialized RX2, .code yX2_isExhibit cX2_isExhibit 1 (some .boolean), .static yX2_isText, .code yX2_isText cX2_isText 3 (some .boolean)] ++ wsX10)
def wsX1_dropText : List Cond := .code yX1_dropText cX1_dropText 5 (some .int) :: ([.fieldLink RX1 9 "ExhibitTexts$State" "sizes" "[I", .fieldLink RX1 15 "ExhibitTexts$State" "cells" "[I", .methodLink RX1 22 arraycopyName, .native arraycopyName, .static arraycopyName, .initialized "java/lang/System", .methodLink RX1 65 yX1_rowOf, .instanceMethod yX1_rowOf, .selects RX1 yX1_rowOf yX1_rowOf, .initialized RX1, .code yX1_rowOf cX1_rowOf 3 (some .int), .static yX2_isExhibit, .initialized RX2, .code yX2_isExhibit cX2_isExhibit 1 (some .boolean)] ++ wsX10)
def wsX1_captionFacts : List Cond := .code yX1_captionFacts cX1_captionFacts 4 (some .int) :: ([.fieldLink RX1 15 "ExhibitTexts$State" "cells" "[I"] ++ wsX10)
def wsX1_changeFacts : List Cond := .code yX1_changeFacts cX1_changeFacts 6 (some .int) :: ([.constant RX1 64 (65535), .fieldLink RX1 15 "ExhibitTexts$State" "cells" "[I", .methodLink RX1 65 yX1_rowOf, .instanceMethod yX1_rowOf, .selects RX1 yX1_rowOf yX1_rowOf, .initialized RX1, .code yX1_rowOf cX1_rowOf 3 (some .int), .fieldLink RX1 9 "ExhibitTexts$State" "sizes" "[I", .static yX2_isExhibit, .initialized RX2, .code yX2_isExhibit cX2_isExhibit 1 (some .boolean), .methodLink RX1 69 yX1_captionFacts, .instanceMethod yX1_captionFacts, .selects RX1 yX1_captionFacts yX1_captionFacts, .code yX1_captionFacts cX1_captionFacts 4 (some .int)] ++ wsX10)
def wsX1_putCaption : List Cond := .code yX1_putCaption cX1_putCaption 8 (some .int) :: ([.constant RX1 64 (65535), .fieldLink RX1 15 "ExhibitTexts$State" "cells" "[I", .methodLink RX1 65 yX1_rowOf, .instanceMethod yX1_rowOf, .selects RX1 yX1_rowOf yX1_rowOf, .initialized RX1, .code yX1_rowOf cX1_rowOf 3 (some .int), .fieldLink RX1 9 "ExhibitTexts$State" "sizes" "[I", .static yX2_isExhibit, .initialized RX2, .code yX2_isExhibit cX2_isExhibit 1 (some .boolean)] ++ wsX10)
def wsX2_isAge : List Cond := .code yX2_isAge cX2_isAge 1 (some .boolean) :: ([])
def wsX1_fitsBetter : List Cond := .code yX1_fitsBetter cX1_fitsBetter 6 (some .boolean) :: ([.fieldLink RX1 15 "ExhibitTexts$State" "cells" "[I"] ++ wsX10)
def wsX1_textFor : List Cond := .code yX1_textFor cX1_textFor 6 (some .int) :: ([.fieldLink RX1 9 "ExhibitTexts$State" "sizes" "[I", .static yX2_isExhibit, .initialized RX2, .code yX2_isExhibit cX2_isExhibit 1 (some .boolean), .methodLink RX1 106 yX1_fitsBetter, .instanceMethod yX1_fitsBetter, .selects RX1 yX1_fitsBetter yX1_fitsBetter, .initialized RX1, .code yX1_fitsBetter cX1_fitsBetter 6 (some .boolean), .fieldLink RX1 15 "ExhibitTexts$State" "cells" "[I"] ++ wsX10)
def wsX1_admit : List Cond := .code yX1_admit cX1_admit 5 (some .int) :: ([.fieldLink RX1 40 "ExhibitTexts$State" "hasVisitor" "Z", .fieldLink RX1 44 "ExhibitTexts$State" "age" "I", .fieldLink RX1 47 "ExhibitTexts$State" "pace" "I", .fieldLink RX1 50 "ExhibitTexts$State" "seconds" "I", .fieldLink RX1 53 "ExhibitTexts$State" "learned" "I", .fieldLink RX1 31 "ExhibitTexts$State" "visitors" "I", .fieldLink RX1 28 "ExhibitTexts$State" "standsAt" "I", .static yX2_isAge, .initialized RX2, .code yX2_isAge cX2_isAge 1 (some .boolean), .methodLink RX1 76 yX1_textFor, .instanceMethod yX1_textFor, .selects RX1 yX1_textFor yX1_textFor, .initialized RX1, .code yX1_textFor cX1_textFor 6 (some .int), .fieldLink RX1 9 "ExhibitTexts$State" "sizes" "[I", .static yX2_isExhibit, .code yX2_isExhibit cX2_isExhibit 1 (some .boolean), .methodLink RX1 106 yX1_fitsBetter, .instanceMethod yX1_fitsBetter, .selects RX1 yX1_fitsBetter yX1_fitsBetter, .code yX1_fitsBetter cX1_fitsBetter 6 (some .boolean), .fieldLink RX1 15 "ExhibitTexts$State" "cells" "[I"] ++ wsX10)
def wsX1_shownRow : List Cond := .code yX1_shownRow cX1_shownRow 2 (some .int) :: ([.fieldLink RX1 40 "ExhibitTexts$State" "hasVisitor" "Z", .fieldLink RX1 28 "ExhibitTexts$State" "standsAt" "I", .fieldLink RX1 44 "ExhibitTexts$State" "age" "I", .methodLink RX1 76 yX1_textFor, .instanceMethod yX1_textFor, .selects RX1 yX1_textFor yX1_textFor, .initialized RX1, .code yX1_textFor cX1_textFor 6 (some .int), .fieldLink RX1 9 "ExhibitTexts$State" "sizes" "[I", .static yX2_isExhibit, .initialized RX2, .code yX2_isExhibit cX2_isExhibit 1 (some .boolean), .methodLink RX1 106 yX1_fitsBetter, .instanceMethod yX1_fitsBetter, .selects RX1 yX1_fitsBetter yX1_fitsBetter, .code yX1_fitsBetter cX1_fitsBetter 6 (some .boolean), .fieldLink RX1 15 "ExhibitTexts$State" "cells" "[I", .methodLink RX1 65 yX1_rowOf, .instanceMethod yX1_rowOf, .selects RX1 yX1_rowOf yX1_rowOf, .code yX1_rowOf cX1_rowOf 3 (some .int)] ++ wsX10)
def wsX1_timeFor : List Cond := .code yX1_timeFor cX1_timeFor 3 (some .int) :: ([.fieldLink RX1 47 "ExhibitTexts$State" "pace" "I", .methodLink RX1 103 Lib.Math.max.name, .static Lib.Math.max.name, .initialized "java/lang/Math", .code Lib.Math.max.name Lib.Math.max.code 2 (some .int)] ++ wsX10)
def wsX1_readShown_r1 : List Cond := [Cond.fieldLink RX1 15 "ExhibitTexts$State" "cells" "[I", Cond.fieldLink RX1 50 "ExhibitTexts$State" "seconds" "I", Cond.fieldLink RX1 53 "ExhibitTexts$State" "learned" "I", Cond.fieldLink RX1 34 "ExhibitTexts$State" "textsRead" "I", Cond.methodLink RX1 79 yX1_shownRow, Cond.instanceMethod yX1_shownRow, Cond.selects RX1 yX1_shownRow yX1_shownRow, Cond.initialized RX1, Cond.code yX1_shownRow cX1_shownRow 2 (some .int), Cond.fieldLink RX1 40 "ExhibitTexts$State" "hasVisitor" "Z", Cond.fieldLink RX1 28 "ExhibitTexts$State" "standsAt" "I", Cond.fieldLink RX1 44 "ExhibitTexts$State" "age" "I", Cond.methodLink RX1 76 yX1_textFor, Cond.instanceMethod yX1_textFor, Cond.selects RX1 yX1_textFor yX1_textFor, Cond.code yX1_textFor cX1_textFor 6 (some .int), Cond.fieldLink RX1 9 "ExhibitTexts$State" "sizes" "[I", Cond.static yX2_isExhibit, Cond.initialized RX2, Cond.code yX2_isExhibit cX2_isExhibit 1 (some .boolean), Cond.methodLink RX1 106 yX1_fitsBetter, Cond.instanceMethod yX1_fitsBetter, Cond.selects RX1 yX1_fitsBetter yX1_fitsBetter, Cond.code yX1_fitsBetter cX1_fitsBetter 6 (some .boolean)]
def wsX1_readShown_r2 : List Cond := [Cond.methodLink RX1 65 yX1_rowOf, Cond.instanceMethod yX1_rowOf, Cond.selects RX1 yX1_rowOf yX1_rowOf, Cond.code yX1_rowOf cX1_rowOf 3 (some .int), Cond.methodLink RX1 86 yX1_timeFor, Cond.instanceMethod yX1_timeFor, Cond.selects RX1 yX1_timeFor yX1_timeFor, Cond.code yX1_timeFor cX1_timeFor 3 (some .int), Cond.fieldLink RX1 47 "ExhibitTexts$State" "pace" "I", Cond.methodLink RX1 103 Lib.Math.max.name, Cond.static Lib.Math.max.name, Cond.initialized "java/lang/Math", Cond.code Lib.Math.max.name Lib.Math.max.code 2 (some .int)]
def wsX1_readShown : List Cond := .code yX1_readShown cX1_readShown 3 (some .boolean) :: ((wsX1_readShown_r1 ++ wsX1_readShown_r2) ++ wsX10)
def wsJ6_bitCount_0f7a4 : List Cond := .code yJ6_bitCount_0f7a4 cJ6_bitCount_0f7a4 1 (some .int) :: ([.constant RJ6 265 (1431655765), .constant RJ6 266 (858993459), .constant RJ6 267 (252645135)])
def wsX1_touchCaption_r1 : List Cond := [Cond.fieldLink RX1 15 "ExhibitTexts$State" "cells" "[I", Cond.fieldLink RX1 50 "ExhibitTexts$State" "seconds" "I", Cond.fieldLink RX1 53 "ExhibitTexts$State" "learned" "I", Cond.fieldLink RX1 37 "ExhibitTexts$State" "captionsRead" "I", Cond.methodLink RX1 79 yX1_shownRow, Cond.instanceMethod yX1_shownRow, Cond.selects RX1 yX1_shownRow yX1_shownRow, Cond.initialized RX1, Cond.code yX1_shownRow cX1_shownRow 2 (some .int), Cond.fieldLink RX1 40 "ExhibitTexts$State" "hasVisitor" "Z", Cond.fieldLink RX1 28 "ExhibitTexts$State" "standsAt" "I", Cond.fieldLink RX1 44 "ExhibitTexts$State" "age" "I", Cond.methodLink RX1 76 yX1_textFor, Cond.instanceMethod yX1_textFor, Cond.selects RX1 yX1_textFor yX1_textFor, Cond.code yX1_textFor cX1_textFor 6 (some .int), Cond.fieldLink RX1 9 "ExhibitTexts$State" "sizes" "[I", Cond.static yX2_isExhibit, Cond.initialized RX2, Cond.code yX2_isExhibit cX2_isExhibit 1 (some .boolean), Cond.methodLink RX1 106 yX1_fitsBetter, Cond.instanceMethod yX1_fitsBetter, Cond.selects RX1 yX1_fitsBetter yX1_fitsBetter, Cond.code yX1_fitsBetter cX1_fitsBetter 6 (some .boolean)]
def wsX1_touchCaption_r2 : List Cond := [Cond.methodLink RX1 65 yX1_rowOf, Cond.instanceMethod yX1_rowOf, Cond.selects RX1 yX1_rowOf yX1_rowOf, Cond.code yX1_rowOf cX1_rowOf 3 (some .int), Cond.methodLink RX1 83 yX1_captionOf, Cond.instanceMethod yX1_captionOf, Cond.selects RX1 yX1_captionOf yX1_captionOf, Cond.code yX1_captionOf cX1_captionOf 3 (some .int), Cond.methodLink RX1 86 yX1_timeFor, Cond.instanceMethod yX1_timeFor, Cond.selects RX1 yX1_timeFor yX1_timeFor, Cond.code yX1_timeFor cX1_timeFor 3 (some .int), Cond.fieldLink RX1 47 "ExhibitTexts$State" "pace" "I", Cond.methodLink RX1 103 Lib.Math.max.name, Cond.static Lib.Math.max.name, Cond.initialized "java/lang/Math", Cond.code Lib.Math.max.name Lib.Math.max.code 2 (some .int), Cond.methodLink RX1 89 yX1_readShown, Cond.instanceMethod yX1_readShown, Cond.selects RX1 yX1_readShown yX1_readShown, Cond.code yX1_readShown cX1_readShown 3 (some .boolean), Cond.fieldLink RX1 34 "ExhibitTexts$State" "textsRead" "I", Cond.methodLink RX1 93 yJ6_bitCount_0f7a4, Cond.static yJ6_bitCount_0f7a4]
def wsX1_touchCaption_r3 : List Cond := [Cond.initialized RJ6, Cond.code yJ6_bitCount_0f7a4 cJ6_bitCount_0f7a4 1 (some .int), Cond.constant RJ6 265 (1431655765), Cond.constant RJ6 266 (858993459), Cond.constant RJ6 267 (252645135)]
def wsX1_touchCaption : List Cond := .code yX1_touchCaption cX1_touchCaption 6 (some .int) :: ((wsX1_touchCaption_r1 ++ (wsX1_touchCaption_r2 ++ wsX1_touchCaption_r3)) ++ wsX10)
def wsX1_readUntouched_r1 : List Cond := [Cond.fieldLink RX1 15 "ExhibitTexts$State" "cells" "[I", Cond.fieldLink RX1 53 "ExhibitTexts$State" "learned" "I", Cond.methodLink RX1 79 yX1_shownRow, Cond.instanceMethod yX1_shownRow, Cond.selects RX1 yX1_shownRow yX1_shownRow, Cond.initialized RX1, Cond.code yX1_shownRow cX1_shownRow 2 (some .int), Cond.fieldLink RX1 40 "ExhibitTexts$State" "hasVisitor" "Z", Cond.fieldLink RX1 28 "ExhibitTexts$State" "standsAt" "I", Cond.fieldLink RX1 44 "ExhibitTexts$State" "age" "I", Cond.methodLink RX1 76 yX1_textFor, Cond.instanceMethod yX1_textFor, Cond.selects RX1 yX1_textFor yX1_textFor, Cond.code yX1_textFor cX1_textFor 6 (some .int), Cond.fieldLink RX1 9 "ExhibitTexts$State" "sizes" "[I", Cond.static yX2_isExhibit, Cond.initialized RX2, Cond.code yX2_isExhibit cX2_isExhibit 1 (some .boolean), Cond.methodLink RX1 106 yX1_fitsBetter, Cond.instanceMethod yX1_fitsBetter, Cond.selects RX1 yX1_fitsBetter yX1_fitsBetter, Cond.code yX1_fitsBetter cX1_fitsBetter 6 (some .boolean), Cond.methodLink RX1 65 yX1_rowOf, Cond.instanceMethod yX1_rowOf]
def wsX1_readUntouched_r2 : List Cond := [Cond.selects RX1 yX1_rowOf yX1_rowOf, Cond.code yX1_rowOf cX1_rowOf 3 (some .int), Cond.methodLink RX1 89 yX1_readShown, Cond.instanceMethod yX1_readShown, Cond.selects RX1 yX1_readShown yX1_readShown, Cond.code yX1_readShown cX1_readShown 3 (some .boolean), Cond.fieldLink RX1 50 "ExhibitTexts$State" "seconds" "I", Cond.fieldLink RX1 34 "ExhibitTexts$State" "textsRead" "I", Cond.methodLink RX1 86 yX1_timeFor, Cond.instanceMethod yX1_timeFor, Cond.selects RX1 yX1_timeFor yX1_timeFor, Cond.code yX1_timeFor cX1_timeFor 3 (some .int), Cond.fieldLink RX1 47 "ExhibitTexts$State" "pace" "I", Cond.methodLink RX1 103 Lib.Math.max.name, Cond.static Lib.Math.max.name, Cond.initialized "java/lang/Math", Cond.code Lib.Math.max.name Lib.Math.max.code 2 (some .int), Cond.methodLink RX1 93 yJ6_bitCount_0f7a4, Cond.static yJ6_bitCount_0f7a4, Cond.initialized RJ6, Cond.code yJ6_bitCount_0f7a4 cJ6_bitCount_0f7a4 1 (some .int), Cond.constant RJ6 265 (1431655765), Cond.constant RJ6 266 (858993459), Cond.constant RJ6 267 (252645135)]
def wsX1_readUntouched : List Cond := .code yX1_readUntouched cX1_readUntouched 3 (some .int) :: ((wsX1_readUntouched_r1 ++ wsX1_readUntouched_r2) ++ wsX10)
def wsJ9_floorMod_7cf53 : List Cond := .code yJ9_floorMod_7cf53 cJ9_floorMod_7cf53 3 (some .int) :: ([])
def wsX1_turnRing : List Cond := .code yX1_turnRing cX1_turnRing 2 (some .int) :: ([.fieldLink RX1 28 "ExhibitTexts$State" "standsAt" "I", .fieldLink RX1 50 "ExhibitTexts$State" "seconds" "I", .fieldLink RX1 18 "ExhibitTexts$State" "turning" "I", .methodLink RX1 103 Lib.Math.max.name, .static Lib.Math.max.name, .initialized "java/lang/Math", .code Lib.Math.max.name Lib.Math.max.code 2 (some .int), .methodLink RX1 98 yJ9_floorMod_7cf53, .static yJ9_floorMod_7cf53, .initialized RJ9, .code yJ9_floorMod_7cf53 cJ9_floorMod_7cf53 3 (some .int)] ++ wsX10)
def wsX1_changeTurning : List Cond := .code yX1_changeTurning cX1_changeTurning 3 (some .int) :: ([.fieldLink RX1 18 "ExhibitTexts$State" "turning" "I"] ++ wsX10)
def wsX1_factsFor : List Cond := .code yX1_factsFor cX1_factsFor 5 (some .int) :: ([.fieldLink RX1 15 "ExhibitTexts$State" "cells" "[I", .methodLink RX1 76 yX1_textFor, .instanceMethod yX1_textFor, .selects RX1 yX1_textFor yX1_textFor, .initialized RX1, .code yX1_textFor cX1_textFor 6 (some .int), .fieldLink RX1 9 "ExhibitTexts$State" "sizes" "[I", .static yX2_isExhibit, .initialized RX2, .code yX2_isExhibit cX2_isExhibit 1 (some .boolean), .methodLink RX1 106 yX1_fitsBetter, .instanceMethod yX1_fitsBetter, .selects RX1 yX1_fitsBetter yX1_fitsBetter, .code yX1_fitsBetter cX1_fitsBetter 6 (some .boolean), .methodLink RX1 65 yX1_rowOf, .instanceMethod yX1_rowOf, .selects RX1 yX1_rowOf yX1_rowOf, .code yX1_rowOf cX1_rowOf 3 (some .int)] ++ wsX10)
def wsX1_allFacts : List Cond := .code yX1_allFacts cX1_allFacts 4 (some .int) :: ([.fieldLink RX1 9 "ExhibitTexts$State" "sizes" "[I", .fieldLink RX1 15 "ExhibitTexts$State" "cells" "[I"] ++ wsX10)
def wsX1_countTexts : List Cond := .code yX1_countTexts cX1_countTexts 3 (some .int) :: ([.fieldLink RX1 9 "ExhibitTexts$State" "sizes" "[I"] ++ wsX10)
def wsX1_countCaptions : List Cond := .code yX1_countCaptions cX1_countCaptions 4 (some .int) :: ([.fieldLink RX1 9 "ExhibitTexts$State" "sizes" "[I", .fieldLink RX1 15 "ExhibitTexts$State" "cells" "[I"] ++ wsX10)
def wsX1_countNeverRead : List Cond := .code yX1_countNeverRead cX1_countNeverRead 4 (some .int) :: ([.fieldLink RX1 9 "ExhibitTexts$State" "sizes" "[I", .fieldLink RX1 15 "ExhibitTexts$State" "cells" "[I"] ++ wsX10)
def wsX2_init_r1 : List Cond := [Cond.methodLink RX2 3 objectInit, Cond.instanceMethod objectInit, Cond.code objectInit ⟨#[0xb1]⟩ 1 none, Cond.classLink RX2 9 RX1, Cond.instantiable RX1 12, Cond.initialized RX1, Cond.fieldLink RX2 12 "ExhibitTexts" "now" "LExhibitTexts$State;", Cond.fieldLink RX2 16 "ExhibitTexts" "trial" "LExhibitTexts$State;", Cond.fieldLink RX2 19 "ExhibitTexts" "snapshot" "LExhibitTexts$State;", Cond.fieldLink RX2 22 "ExhibitTexts" "history" "[LExhibitTexts$State;", Cond.classLink RX2 26 RX0, Cond.instantiable RX0 10, Cond.initialized RX0, Cond.fieldLink RX2 29 "ExhibitTexts" "pad" "LExhibitTexts$Pad;", Cond.instanceMethod yX1_init, Cond.code yX1_init cX1_init 1 none, Cond.methodLink RX1 3 objectInit, Cond.arrayClass .int, Cond.fieldLink RX1 9 "ExhibitTexts$State" "sizes" "[I", Cond.fieldLink RX1 15 "ExhibitTexts$State" "cells" "[I", Cond.fieldLink RX1 18 "ExhibitTexts$State" "turning" "I", Cond.instanceMethod yX0_init, Cond.code yX0_init cX0_init 1 none, Cond.methodLink RX0 3 objectInit]
def wsX2_init_r2 : List Cond := [Cond.arrayClass .char, Cond.fieldLink RX0 9 "ExhibitTexts$Pad" "characters" "[C"]
def wsX2_init : List Cond := .code yX2_init cX2_init 2 none :: ((wsX2_init_r1 ++ wsX2_init_r2) ++ wsX10 ++ wsX20 ++ wsX00)
def wsX2_attempt : List Cond := .code yX2_attempt cX2_attempt 1 (some (.object "ExhibitTexts$State")) :: ([.fieldLink RX2 16 "ExhibitTexts" "trial" "LExhibitTexts$State;", .fieldLink RX2 12 "ExhibitTexts" "now" "LExhibitTexts$State;", .methodLink RX2 101 yX1_copyFrom, .instanceMethod yX1_copyFrom, .selects RX1 yX1_copyFrom yX1_copyFrom, .initialized RX1, .code yX1_copyFrom cX1_copyFrom 2 none, .fieldLink RX1 9 "ExhibitTexts$State" "sizes" "[I", .methodLink RX1 22 arraycopyName, .native arraycopyName, .static arraycopyName, .initialized "java/lang/System", .fieldLink RX1 15 "ExhibitTexts$State" "cells" "[I", .fieldLink RX1 28 "ExhibitTexts$State" "standsAt" "I", .fieldLink RX1 18 "ExhibitTexts$State" "turning" "I", .fieldLink RX1 31 "ExhibitTexts$State" "visitors" "I", .fieldLink RX1 34 "ExhibitTexts$State" "textsRead" "I", .fieldLink RX1 37 "ExhibitTexts$State" "captionsRead" "I", .fieldLink RX1 40 "ExhibitTexts$State" "hasVisitor" "Z", .fieldLink RX1 44 "ExhibitTexts$State" "age" "I", .fieldLink RX1 47 "ExhibitTexts$State" "pace" "I", .fieldLink RX1 50 "ExhibitTexts$State" "seconds" "I", .fieldLink RX1 53 "ExhibitTexts$State" "learned" "I"] ++ wsX20 ++ wsX10)
def wsX2_settle : List Cond := .code yX2_settle cX2_settle 4 (some .int) :: ([.fieldLink RX2 98 "ExhibitTexts" "nextInHistory" "I", .fieldLink RX2 22 "ExhibitTexts" "history" "[LExhibitTexts$State;", .fieldLink RX2 12 "ExhibitTexts" "now" "LExhibitTexts$State;", .fieldLink RX2 16 "ExhibitTexts" "trial" "LExhibitTexts$State;", .fieldLink RX2 95 "ExhibitTexts" "statesInHistory" "I", .methodLink RX2 183 Lib.Math.min.name, .static Lib.Math.min.name, .initialized "java/lang/Math", .code Lib.Math.min.name Lib.Math.min.code 2 (some .int)] ++ wsX20)
def wsX2_addText_r1 : List Cond := [Cond.methodLink RX2 33 yX2_attempt, Cond.instanceMethod yX2_attempt, Cond.selects RX2 yX2_attempt yX2_attempt, Cond.initialized RX2, Cond.code yX2_attempt cX2_attempt 1 (some (.object "ExhibitTexts$State")), Cond.fieldLink RX2 16 "ExhibitTexts" "trial" "LExhibitTexts$State;", Cond.fieldLink RX2 12 "ExhibitTexts" "now" "LExhibitTexts$State;", Cond.methodLink RX2 101 yX1_copyFrom, Cond.instanceMethod yX1_copyFrom, Cond.selects RX1 yX1_copyFrom yX1_copyFrom, Cond.initialized RX1, Cond.code yX1_copyFrom cX1_copyFrom 2 none, Cond.fieldLink RX1 9 "ExhibitTexts$State" "sizes" "[I", Cond.methodLink RX1 22 arraycopyName, Cond.native arraycopyName, Cond.static arraycopyName, Cond.initialized "java/lang/System", Cond.fieldLink RX1 15 "ExhibitTexts$State" "cells" "[I", Cond.fieldLink RX1 28 "ExhibitTexts$State" "standsAt" "I", Cond.fieldLink RX1 18 "ExhibitTexts$State" "turning" "I", Cond.fieldLink RX1 31 "ExhibitTexts$State" "visitors" "I", Cond.fieldLink RX1 34 "ExhibitTexts$State" "textsRead" "I", Cond.fieldLink RX1 37 "ExhibitTexts$State" "captionsRead" "I", Cond.fieldLink RX1 40 "ExhibitTexts$State" "hasVisitor" "Z"]
def wsX2_addText_r2 : List Cond := [Cond.fieldLink RX1 44 "ExhibitTexts$State" "age" "I", Cond.fieldLink RX1 47 "ExhibitTexts$State" "pace" "I", Cond.fieldLink RX1 50 "ExhibitTexts$State" "seconds" "I", Cond.fieldLink RX1 53 "ExhibitTexts$State" "learned" "I", Cond.methodLink RX2 37 yX1_putText, Cond.instanceMethod yX1_putText, Cond.selects RX1 yX1_putText yX1_putText, Cond.code yX1_putText cX1_putText 8 (some .int), Cond.constant RX1 64 (65535), Cond.static yX2_isExhibit, Cond.code yX2_isExhibit cX2_isExhibit 1 (some .boolean), Cond.static yX2_isText, Cond.code yX2_isText cX2_isText 3 (some .boolean), Cond.methodLink RX2 41 yX2_settle, Cond.instanceMethod yX2_settle, Cond.selects RX2 yX2_settle yX2_settle, Cond.code yX2_settle cX2_settle 4 (some .int), Cond.fieldLink RX2 98 "ExhibitTexts" "nextInHistory" "I", Cond.fieldLink RX2 22 "ExhibitTexts" "history" "[LExhibitTexts$State;", Cond.fieldLink RX2 95 "ExhibitTexts" "statesInHistory" "I", Cond.methodLink RX2 183 Lib.Math.min.name, Cond.static Lib.Math.min.name, Cond.initialized "java/lang/Math", Cond.code Lib.Math.min.name Lib.Math.min.code 2 (some .int)]
def wsX2_addText : List Cond := .code yX2_addText cX2_addText 6 (some .int) :: ((wsX2_addText_r1 ++ wsX2_addText_r2) ++ wsX20 ++ wsX10)
def wsX2_removeText_r1 : List Cond := [Cond.methodLink RX2 33 yX2_attempt, Cond.instanceMethod yX2_attempt, Cond.selects RX2 yX2_attempt yX2_attempt, Cond.initialized RX2, Cond.code yX2_attempt cX2_attempt 1 (some (.object "ExhibitTexts$State")), Cond.fieldLink RX2 16 "ExhibitTexts" "trial" "LExhibitTexts$State;", Cond.fieldLink RX2 12 "ExhibitTexts" "now" "LExhibitTexts$State;", Cond.methodLink RX2 101 yX1_copyFrom, Cond.instanceMethod yX1_copyFrom, Cond.selects RX1 yX1_copyFrom yX1_copyFrom, Cond.initialized RX1, Cond.code yX1_copyFrom cX1_copyFrom 2 none, Cond.fieldLink RX1 9 "ExhibitTexts$State" "sizes" "[I", Cond.methodLink RX1 22 arraycopyName, Cond.native arraycopyName, Cond.static arraycopyName, Cond.initialized "java/lang/System", Cond.fieldLink RX1 15 "ExhibitTexts$State" "cells" "[I", Cond.fieldLink RX1 28 "ExhibitTexts$State" "standsAt" "I", Cond.fieldLink RX1 18 "ExhibitTexts$State" "turning" "I", Cond.fieldLink RX1 31 "ExhibitTexts$State" "visitors" "I", Cond.fieldLink RX1 34 "ExhibitTexts$State" "textsRead" "I", Cond.fieldLink RX1 37 "ExhibitTexts$State" "captionsRead" "I", Cond.fieldLink RX1 40 "ExhibitTexts$State" "hasVisitor" "Z"]
def wsX2_removeText_r2 : List Cond := [Cond.fieldLink RX1 44 "ExhibitTexts$State" "age" "I", Cond.fieldLink RX1 47 "ExhibitTexts$State" "pace" "I", Cond.fieldLink RX1 50 "ExhibitTexts$State" "seconds" "I", Cond.fieldLink RX1 53 "ExhibitTexts$State" "learned" "I", Cond.methodLink RX2 45 yX1_dropText, Cond.instanceMethod yX1_dropText, Cond.selects RX1 yX1_dropText yX1_dropText, Cond.code yX1_dropText cX1_dropText 5 (some .int), Cond.methodLink RX1 65 yX1_rowOf, Cond.instanceMethod yX1_rowOf, Cond.selects RX1 yX1_rowOf yX1_rowOf, Cond.code yX1_rowOf cX1_rowOf 3 (some .int), Cond.static yX2_isExhibit, Cond.code yX2_isExhibit cX2_isExhibit 1 (some .boolean), Cond.methodLink RX2 41 yX2_settle, Cond.instanceMethod yX2_settle, Cond.selects RX2 yX2_settle yX2_settle, Cond.code yX2_settle cX2_settle 4 (some .int), Cond.fieldLink RX2 98 "ExhibitTexts" "nextInHistory" "I", Cond.fieldLink RX2 22 "ExhibitTexts" "history" "[LExhibitTexts$State;", Cond.fieldLink RX2 95 "ExhibitTexts" "statesInHistory" "I", Cond.methodLink RX2 183 Lib.Math.min.name, Cond.static Lib.Math.min.name, Cond.initialized "java/lang/Math"]
def wsX2_removeText_r3 : List Cond := [Cond.code Lib.Math.min.name Lib.Math.min.code 2 (some .int)]
def wsX2_removeText : List Cond := .code yX2_removeText cX2_removeText 3 (some .int) :: ((wsX2_removeText_r1 ++ (wsX2_removeText_r2 ++ wsX2_removeText_r3)) ++ wsX20 ++ wsX10)
def wsX2_setFacts_r1 : List Cond := [Cond.methodLink RX2 33 yX2_attempt, Cond.instanceMethod yX2_attempt, Cond.selects RX2 yX2_attempt yX2_attempt, Cond.initialized RX2, Cond.code yX2_attempt cX2_attempt 1 (some (.object "ExhibitTexts$State")), Cond.fieldLink RX2 16 "ExhibitTexts" "trial" "LExhibitTexts$State;", Cond.fieldLink RX2 12 "ExhibitTexts" "now" "LExhibitTexts$State;", Cond.methodLink RX2 101 yX1_copyFrom, Cond.instanceMethod yX1_copyFrom, Cond.selects RX1 yX1_copyFrom yX1_copyFrom, Cond.initialized RX1, Cond.code yX1_copyFrom cX1_copyFrom 2 none, Cond.fieldLink RX1 9 "ExhibitTexts$State" "sizes" "[I", Cond.methodLink RX1 22 arraycopyName, Cond.native arraycopyName, Cond.static arraycopyName, Cond.initialized "java/lang/System", Cond.fieldLink RX1 15 "ExhibitTexts$State" "cells" "[I", Cond.fieldLink RX1 28 "ExhibitTexts$State" "standsAt" "I", Cond.fieldLink RX1 18 "ExhibitTexts$State" "turning" "I", Cond.fieldLink RX1 31 "ExhibitTexts$State" "visitors" "I", Cond.fieldLink RX1 34 "ExhibitTexts$State" "textsRead" "I", Cond.fieldLink RX1 37 "ExhibitTexts$State" "captionsRead" "I", Cond.fieldLink RX1 40 "ExhibitTexts$State" "hasVisitor" "Z"]
def wsX2_setFacts_r2 : List Cond := [Cond.fieldLink RX1 44 "ExhibitTexts$State" "age" "I", Cond.fieldLink RX1 47 "ExhibitTexts$State" "pace" "I", Cond.fieldLink RX1 50 "ExhibitTexts$State" "seconds" "I", Cond.fieldLink RX1 53 "ExhibitTexts$State" "learned" "I", Cond.methodLink RX2 49 yX1_changeFacts, Cond.instanceMethod yX1_changeFacts, Cond.selects RX1 yX1_changeFacts yX1_changeFacts, Cond.code yX1_changeFacts cX1_changeFacts 6 (some .int), Cond.constant RX1 64 (65535), Cond.methodLink RX1 65 yX1_rowOf, Cond.instanceMethod yX1_rowOf, Cond.selects RX1 yX1_rowOf yX1_rowOf, Cond.code yX1_rowOf cX1_rowOf 3 (some .int), Cond.static yX2_isExhibit, Cond.code yX2_isExhibit cX2_isExhibit 1 (some .boolean), Cond.methodLink RX1 69 yX1_captionFacts, Cond.instanceMethod yX1_captionFacts, Cond.selects RX1 yX1_captionFacts yX1_captionFacts, Cond.code yX1_captionFacts cX1_captionFacts 4 (some .int), Cond.methodLink RX2 41 yX2_settle, Cond.instanceMethod yX2_settle, Cond.selects RX2 yX2_settle yX2_settle, Cond.code yX2_settle cX2_settle 4 (some .int), Cond.fieldLink RX2 98 "ExhibitTexts" "nextInHistory" "I"]
def wsX2_setFacts_r3 : List Cond := [Cond.fieldLink RX2 22 "ExhibitTexts" "history" "[LExhibitTexts$State;", Cond.fieldLink RX2 95 "ExhibitTexts" "statesInHistory" "I", Cond.methodLink RX2 183 Lib.Math.min.name, Cond.static Lib.Math.min.name, Cond.initialized "java/lang/Math", Cond.code Lib.Math.min.name Lib.Math.min.code 2 (some .int)]
def wsX2_setFacts : List Cond := .code yX2_setFacts cX2_setFacts 4 (some .int) :: ((wsX2_setFacts_r1 ++ (wsX2_setFacts_r2 ++ wsX2_setFacts_r3)) ++ wsX20 ++ wsX10)
def wsX2_addCaption_r1 : List Cond := [Cond.methodLink RX2 33 yX2_attempt, Cond.instanceMethod yX2_attempt, Cond.selects RX2 yX2_attempt yX2_attempt, Cond.initialized RX2, Cond.code yX2_attempt cX2_attempt 1 (some (.object "ExhibitTexts$State")), Cond.fieldLink RX2 16 "ExhibitTexts" "trial" "LExhibitTexts$State;", Cond.fieldLink RX2 12 "ExhibitTexts" "now" "LExhibitTexts$State;", Cond.methodLink RX2 101 yX1_copyFrom, Cond.instanceMethod yX1_copyFrom, Cond.selects RX1 yX1_copyFrom yX1_copyFrom, Cond.initialized RX1, Cond.code yX1_copyFrom cX1_copyFrom 2 none, Cond.fieldLink RX1 9 "ExhibitTexts$State" "sizes" "[I", Cond.methodLink RX1 22 arraycopyName, Cond.native arraycopyName, Cond.static arraycopyName, Cond.initialized "java/lang/System", Cond.fieldLink RX1 15 "ExhibitTexts$State" "cells" "[I", Cond.fieldLink RX1 28 "ExhibitTexts$State" "standsAt" "I", Cond.fieldLink RX1 18 "ExhibitTexts$State" "turning" "I", Cond.fieldLink RX1 31 "ExhibitTexts$State" "visitors" "I", Cond.fieldLink RX1 34 "ExhibitTexts$State" "textsRead" "I", Cond.fieldLink RX1 37 "ExhibitTexts$State" "captionsRead" "I", Cond.fieldLink RX1 40 "ExhibitTexts$State" "hasVisitor" "Z"]
def wsX2_addCaption_r2 : List Cond := [Cond.fieldLink RX1 44 "ExhibitTexts$State" "age" "I", Cond.fieldLink RX1 47 "ExhibitTexts$State" "pace" "I", Cond.fieldLink RX1 50 "ExhibitTexts$State" "seconds" "I", Cond.fieldLink RX1 53 "ExhibitTexts$State" "learned" "I", Cond.methodLink RX2 53 yX1_putCaption, Cond.instanceMethod yX1_putCaption, Cond.selects RX1 yX1_putCaption yX1_putCaption, Cond.code yX1_putCaption cX1_putCaption 8 (some .int), Cond.constant RX1 64 (65535), Cond.methodLink RX1 65 yX1_rowOf, Cond.instanceMethod yX1_rowOf, Cond.selects RX1 yX1_rowOf yX1_rowOf, Cond.code yX1_rowOf cX1_rowOf 3 (some .int), Cond.static yX2_isExhibit, Cond.code yX2_isExhibit cX2_isExhibit 1 (some .boolean), Cond.methodLink RX2 41 yX2_settle, Cond.instanceMethod yX2_settle, Cond.selects RX2 yX2_settle yX2_settle, Cond.code yX2_settle cX2_settle 4 (some .int), Cond.fieldLink RX2 98 "ExhibitTexts" "nextInHistory" "I", Cond.fieldLink RX2 22 "ExhibitTexts" "history" "[LExhibitTexts$State;", Cond.fieldLink RX2 95 "ExhibitTexts" "statesInHistory" "I", Cond.methodLink RX2 183 Lib.Math.min.name, Cond.static Lib.Math.min.name]
def wsX2_addCaption_r3 : List Cond := [Cond.initialized "java/lang/Math", Cond.code Lib.Math.min.name Lib.Math.min.code 2 (some .int)]
def wsX2_addCaption : List Cond := .code yX2_addCaption cX2_addCaption 5 (some .int) :: ((wsX2_addCaption_r1 ++ (wsX2_addCaption_r2 ++ wsX2_addCaption_r3)) ++ wsX20 ++ wsX10)
def wsX2_enter_r1 : List Cond := [Cond.methodLink RX2 33 yX2_attempt, Cond.instanceMethod yX2_attempt, Cond.selects RX2 yX2_attempt yX2_attempt, Cond.initialized RX2, Cond.code yX2_attempt cX2_attempt 1 (some (.object "ExhibitTexts$State")), Cond.fieldLink RX2 16 "ExhibitTexts" "trial" "LExhibitTexts$State;", Cond.fieldLink RX2 12 "ExhibitTexts" "now" "LExhibitTexts$State;", Cond.methodLink RX2 101 yX1_copyFrom, Cond.instanceMethod yX1_copyFrom, Cond.selects RX1 yX1_copyFrom yX1_copyFrom, Cond.initialized RX1, Cond.code yX1_copyFrom cX1_copyFrom 2 none, Cond.fieldLink RX1 9 "ExhibitTexts$State" "sizes" "[I", Cond.methodLink RX1 22 arraycopyName, Cond.native arraycopyName, Cond.static arraycopyName, Cond.initialized "java/lang/System", Cond.fieldLink RX1 15 "ExhibitTexts$State" "cells" "[I", Cond.fieldLink RX1 28 "ExhibitTexts$State" "standsAt" "I", Cond.fieldLink RX1 18 "ExhibitTexts$State" "turning" "I", Cond.fieldLink RX1 31 "ExhibitTexts$State" "visitors" "I", Cond.fieldLink RX1 34 "ExhibitTexts$State" "textsRead" "I", Cond.fieldLink RX1 37 "ExhibitTexts$State" "captionsRead" "I", Cond.fieldLink RX1 40 "ExhibitTexts$State" "hasVisitor" "Z"]
def wsX2_enter_r2 : List Cond := [Cond.fieldLink RX1 44 "ExhibitTexts$State" "age" "I", Cond.fieldLink RX1 47 "ExhibitTexts$State" "pace" "I", Cond.fieldLink RX1 50 "ExhibitTexts$State" "seconds" "I", Cond.fieldLink RX1 53 "ExhibitTexts$State" "learned" "I", Cond.methodLink RX2 72 yX1_admit, Cond.instanceMethod yX1_admit, Cond.selects RX1 yX1_admit yX1_admit, Cond.code yX1_admit cX1_admit 5 (some .int), Cond.static yX2_isAge, Cond.code yX2_isAge cX2_isAge 1 (some .boolean), Cond.methodLink RX1 76 yX1_textFor, Cond.instanceMethod yX1_textFor, Cond.selects RX1 yX1_textFor yX1_textFor, Cond.code yX1_textFor cX1_textFor 6 (some .int), Cond.static yX2_isExhibit, Cond.code yX2_isExhibit cX2_isExhibit 1 (some .boolean), Cond.methodLink RX1 106 yX1_fitsBetter, Cond.instanceMethod yX1_fitsBetter, Cond.selects RX1 yX1_fitsBetter yX1_fitsBetter, Cond.code yX1_fitsBetter cX1_fitsBetter 6 (some .boolean), Cond.methodLink RX2 41 yX2_settle, Cond.instanceMethod yX2_settle, Cond.selects RX2 yX2_settle yX2_settle, Cond.code yX2_settle cX2_settle 4 (some .int)]
def wsX2_enter_r3 : List Cond := [Cond.fieldLink RX2 98 "ExhibitTexts" "nextInHistory" "I", Cond.fieldLink RX2 22 "ExhibitTexts" "history" "[LExhibitTexts$State;", Cond.fieldLink RX2 95 "ExhibitTexts" "statesInHistory" "I", Cond.methodLink RX2 183 Lib.Math.min.name, Cond.static Lib.Math.min.name, Cond.initialized "java/lang/Math", Cond.code Lib.Math.min.name Lib.Math.min.code 2 (some .int)]
def wsX2_enter : List Cond := .code yX2_enter cX2_enter 4 (some .int) :: ((wsX2_enter_r1 ++ (wsX2_enter_r2 ++ wsX2_enter_r3)) ++ wsX20 ++ wsX10)
def wsX2_touch_r1 : List Cond := [Cond.methodLink RX2 33 yX2_attempt, Cond.instanceMethod yX2_attempt, Cond.selects RX2 yX2_attempt yX2_attempt, Cond.initialized RX2, Cond.code yX2_attempt cX2_attempt 1 (some (.object "ExhibitTexts$State")), Cond.fieldLink RX2 16 "ExhibitTexts" "trial" "LExhibitTexts$State;", Cond.fieldLink RX2 12 "ExhibitTexts" "now" "LExhibitTexts$State;", Cond.methodLink RX2 101 yX1_copyFrom, Cond.instanceMethod yX1_copyFrom, Cond.selects RX1 yX1_copyFrom yX1_copyFrom, Cond.initialized RX1, Cond.code yX1_copyFrom cX1_copyFrom 2 none, Cond.fieldLink RX1 9 "ExhibitTexts$State" "sizes" "[I", Cond.methodLink RX1 22 arraycopyName, Cond.native arraycopyName, Cond.static arraycopyName, Cond.initialized "java/lang/System", Cond.fieldLink RX1 15 "ExhibitTexts$State" "cells" "[I", Cond.fieldLink RX1 28 "ExhibitTexts$State" "standsAt" "I", Cond.fieldLink RX1 18 "ExhibitTexts$State" "turning" "I", Cond.fieldLink RX1 31 "ExhibitTexts$State" "visitors" "I", Cond.fieldLink RX1 34 "ExhibitTexts$State" "textsRead" "I", Cond.fieldLink RX1 37 "ExhibitTexts$State" "captionsRead" "I", Cond.fieldLink RX1 40 "ExhibitTexts$State" "hasVisitor" "Z"]
def wsX2_touch_r2 : List Cond := [Cond.fieldLink RX1 44 "ExhibitTexts$State" "age" "I", Cond.fieldLink RX1 47 "ExhibitTexts$State" "pace" "I", Cond.fieldLink RX1 50 "ExhibitTexts$State" "seconds" "I", Cond.fieldLink RX1 53 "ExhibitTexts$State" "learned" "I", Cond.methodLink RX2 75 yX1_touchCaption, Cond.instanceMethod yX1_touchCaption, Cond.selects RX1 yX1_touchCaption yX1_touchCaption, Cond.code yX1_touchCaption cX1_touchCaption 6 (some .int), Cond.methodLink RX1 79 yX1_shownRow, Cond.instanceMethod yX1_shownRow, Cond.selects RX1 yX1_shownRow yX1_shownRow, Cond.code yX1_shownRow cX1_shownRow 2 (some .int), Cond.methodLink RX1 76 yX1_textFor, Cond.instanceMethod yX1_textFor, Cond.selects RX1 yX1_textFor yX1_textFor, Cond.code yX1_textFor cX1_textFor 6 (some .int), Cond.static yX2_isExhibit, Cond.code yX2_isExhibit cX2_isExhibit 1 (some .boolean), Cond.methodLink RX1 106 yX1_fitsBetter, Cond.instanceMethod yX1_fitsBetter, Cond.selects RX1 yX1_fitsBetter yX1_fitsBetter, Cond.code yX1_fitsBetter cX1_fitsBetter 6 (some .boolean), Cond.methodLink RX1 65 yX1_rowOf, Cond.instanceMethod yX1_rowOf]
def wsX2_touch_r3 : List Cond := [Cond.selects RX1 yX1_rowOf yX1_rowOf, Cond.code yX1_rowOf cX1_rowOf 3 (some .int), Cond.methodLink RX1 83 yX1_captionOf, Cond.instanceMethod yX1_captionOf, Cond.selects RX1 yX1_captionOf yX1_captionOf, Cond.code yX1_captionOf cX1_captionOf 3 (some .int), Cond.methodLink RX1 86 yX1_timeFor, Cond.instanceMethod yX1_timeFor, Cond.selects RX1 yX1_timeFor yX1_timeFor, Cond.code yX1_timeFor cX1_timeFor 3 (some .int), Cond.methodLink RX1 103 Lib.Math.max.name, Cond.static Lib.Math.max.name, Cond.initialized "java/lang/Math", Cond.code Lib.Math.max.name Lib.Math.max.code 2 (some .int), Cond.methodLink RX1 89 yX1_readShown, Cond.instanceMethod yX1_readShown, Cond.selects RX1 yX1_readShown yX1_readShown, Cond.code yX1_readShown cX1_readShown 3 (some .boolean), Cond.methodLink RX1 93 yJ6_bitCount_0f7a4, Cond.static yJ6_bitCount_0f7a4, Cond.initialized RJ6, Cond.code yJ6_bitCount_0f7a4 cJ6_bitCount_0f7a4 1 (some .int), Cond.constant RJ6 265 (1431655765), Cond.constant RJ6 266 (858993459)]
def wsX2_touch_r4 : List Cond := [Cond.constant RJ6 267 (252645135), Cond.methodLink RX2 41 yX2_settle, Cond.instanceMethod yX2_settle, Cond.selects RX2 yX2_settle yX2_settle, Cond.code yX2_settle cX2_settle 4 (some .int), Cond.fieldLink RX2 98 "ExhibitTexts" "nextInHistory" "I", Cond.fieldLink RX2 22 "ExhibitTexts" "history" "[LExhibitTexts$State;", Cond.fieldLink RX2 95 "ExhibitTexts" "statesInHistory" "I", Cond.methodLink RX2 183 Lib.Math.min.name, Cond.static Lib.Math.min.name, Cond.code Lib.Math.min.name Lib.Math.min.code 2 (some .int)]
def wsX2_touch : List Cond := .code yX2_touch cX2_touch 2 (some .int) :: ((wsX2_touch_r1 ++ (wsX2_touch_r2 ++ (wsX2_touch_r3 ++ wsX2_touch_r4))) ++ wsX20 ++ wsX10)
def wsX2_read_r1 : List Cond := [Cond.methodLink RX2 33 yX2_attempt, Cond.instanceMethod yX2_attempt, Cond.selects RX2 yX2_attempt yX2_attempt, Cond.initialized RX2, Cond.code yX2_attempt cX2_attempt 1 (some (.object "ExhibitTexts$State")), Cond.fieldLink RX2 16 "ExhibitTexts" "trial" "LExhibitTexts$State;", Cond.fieldLink RX2 12 "ExhibitTexts" "now" "LExhibitTexts$State;", Cond.methodLink RX2 101 yX1_copyFrom, Cond.instanceMethod yX1_copyFrom, Cond.selects RX1 yX1_copyFrom yX1_copyFrom, Cond.initialized RX1, Cond.code yX1_copyFrom cX1_copyFrom 2 none, Cond.fieldLink RX1 9 "ExhibitTexts$State" "sizes" "[I", Cond.methodLink RX1 22 arraycopyName, Cond.native arraycopyName, Cond.static arraycopyName, Cond.initialized "java/lang/System", Cond.fieldLink RX1 15 "ExhibitTexts$State" "cells" "[I", Cond.fieldLink RX1 28 "ExhibitTexts$State" "standsAt" "I", Cond.fieldLink RX1 18 "ExhibitTexts$State" "turning" "I", Cond.fieldLink RX1 31 "ExhibitTexts$State" "visitors" "I", Cond.fieldLink RX1 34 "ExhibitTexts$State" "textsRead" "I", Cond.fieldLink RX1 37 "ExhibitTexts$State" "captionsRead" "I", Cond.fieldLink RX1 40 "ExhibitTexts$State" "hasVisitor" "Z"]
def wsX2_read_r2 : List Cond := [Cond.fieldLink RX1 44 "ExhibitTexts$State" "age" "I", Cond.fieldLink RX1 47 "ExhibitTexts$State" "pace" "I", Cond.fieldLink RX1 50 "ExhibitTexts$State" "seconds" "I", Cond.fieldLink RX1 53 "ExhibitTexts$State" "learned" "I", Cond.methodLink RX2 78 yX1_readUntouched, Cond.instanceMethod yX1_readUntouched, Cond.selects RX1 yX1_readUntouched yX1_readUntouched, Cond.code yX1_readUntouched cX1_readUntouched 3 (some .int), Cond.methodLink RX1 79 yX1_shownRow, Cond.instanceMethod yX1_shownRow, Cond.selects RX1 yX1_shownRow yX1_shownRow, Cond.code yX1_shownRow cX1_shownRow 2 (some .int), Cond.methodLink RX1 76 yX1_textFor, Cond.instanceMethod yX1_textFor, Cond.selects RX1 yX1_textFor yX1_textFor, Cond.code yX1_textFor cX1_textFor 6 (some .int), Cond.static yX2_isExhibit, Cond.code yX2_isExhibit cX2_isExhibit 1 (some .boolean), Cond.methodLink RX1 106 yX1_fitsBetter, Cond.instanceMethod yX1_fitsBetter, Cond.selects RX1 yX1_fitsBetter yX1_fitsBetter, Cond.code yX1_fitsBetter cX1_fitsBetter 6 (some .boolean), Cond.methodLink RX1 65 yX1_rowOf, Cond.instanceMethod yX1_rowOf]
def wsX2_read_r3 : List Cond := [Cond.selects RX1 yX1_rowOf yX1_rowOf, Cond.code yX1_rowOf cX1_rowOf 3 (some .int), Cond.methodLink RX1 89 yX1_readShown, Cond.instanceMethod yX1_readShown, Cond.selects RX1 yX1_readShown yX1_readShown, Cond.code yX1_readShown cX1_readShown 3 (some .boolean), Cond.methodLink RX1 86 yX1_timeFor, Cond.instanceMethod yX1_timeFor, Cond.selects RX1 yX1_timeFor yX1_timeFor, Cond.code yX1_timeFor cX1_timeFor 3 (some .int), Cond.methodLink RX1 103 Lib.Math.max.name, Cond.static Lib.Math.max.name, Cond.initialized "java/lang/Math", Cond.code Lib.Math.max.name Lib.Math.max.code 2 (some .int), Cond.methodLink RX1 93 yJ6_bitCount_0f7a4, Cond.static yJ6_bitCount_0f7a4, Cond.initialized RJ6, Cond.code yJ6_bitCount_0f7a4 cJ6_bitCount_0f7a4 1 (some .int), Cond.constant RJ6 265 (1431655765), Cond.constant RJ6 266 (858993459), Cond.constant RJ6 267 (252645135), Cond.methodLink RX2 41 yX2_settle, Cond.instanceMethod yX2_settle, Cond.selects RX2 yX2_settle yX2_settle]
def wsX2_read_r4 : List Cond := [Cond.code yX2_settle cX2_settle 4 (some .int), Cond.fieldLink RX2 98 "ExhibitTexts" "nextInHistory" "I", Cond.fieldLink RX2 22 "ExhibitTexts" "history" "[LExhibitTexts$State;", Cond.fieldLink RX2 95 "ExhibitTexts" "statesInHistory" "I", Cond.methodLink RX2 183 Lib.Math.min.name, Cond.static Lib.Math.min.name, Cond.code Lib.Math.min.name Lib.Math.min.code 2 (some .int)]
def wsX2_read : List Cond := .code yX2_read cX2_read 1 (some .int) :: ((wsX2_read_r1 ++ (wsX2_read_r2 ++ (wsX2_read_r3 ++ wsX2_read_r4))) ++ wsX20 ++ wsX10)
def wsX2_turn_r1 : List Cond := [Cond.methodLink RX2 33 yX2_attempt, Cond.instanceMethod yX2_attempt, Cond.selects RX2 yX2_attempt yX2_attempt, Cond.initialized RX2, Cond.code yX2_attempt cX2_attempt 1 (some (.object "ExhibitTexts$State")), Cond.fieldLink RX2 16 "ExhibitTexts" "trial" "LExhibitTexts$State;", Cond.fieldLink RX2 12 "ExhibitTexts" "now" "LExhibitTexts$State;", Cond.methodLink RX2 101 yX1_copyFrom, Cond.instanceMethod yX1_copyFrom, Cond.selects RX1 yX1_copyFrom yX1_copyFrom, Cond.initialized RX1, Cond.code yX1_copyFrom cX1_copyFrom 2 none, Cond.fieldLink RX1 9 "ExhibitTexts$State" "sizes" "[I", Cond.methodLink RX1 22 arraycopyName, Cond.native arraycopyName, Cond.static arraycopyName, Cond.initialized "java/lang/System", Cond.fieldLink RX1 15 "ExhibitTexts$State" "cells" "[I", Cond.fieldLink RX1 28 "ExhibitTexts$State" "standsAt" "I", Cond.fieldLink RX1 18 "ExhibitTexts$State" "turning" "I", Cond.fieldLink RX1 31 "ExhibitTexts$State" "visitors" "I", Cond.fieldLink RX1 34 "ExhibitTexts$State" "textsRead" "I", Cond.fieldLink RX1 37 "ExhibitTexts$State" "captionsRead" "I", Cond.fieldLink RX1 40 "ExhibitTexts$State" "hasVisitor" "Z"]
def wsX2_turn_r2 : List Cond := [Cond.fieldLink RX1 44 "ExhibitTexts$State" "age" "I", Cond.fieldLink RX1 47 "ExhibitTexts$State" "pace" "I", Cond.fieldLink RX1 50 "ExhibitTexts$State" "seconds" "I", Cond.fieldLink RX1 53 "ExhibitTexts$State" "learned" "I", Cond.methodLink RX2 81 yX1_turnRing, Cond.instanceMethod yX1_turnRing, Cond.selects RX1 yX1_turnRing yX1_turnRing, Cond.code yX1_turnRing cX1_turnRing 2 (some .int), Cond.methodLink RX1 103 Lib.Math.max.name, Cond.static Lib.Math.max.name, Cond.initialized "java/lang/Math", Cond.code Lib.Math.max.name Lib.Math.max.code 2 (some .int), Cond.methodLink RX1 98 yJ9_floorMod_7cf53, Cond.static yJ9_floorMod_7cf53, Cond.initialized RJ9, Cond.code yJ9_floorMod_7cf53 cJ9_floorMod_7cf53 3 (some .int), Cond.methodLink RX2 41 yX2_settle, Cond.instanceMethod yX2_settle, Cond.selects RX2 yX2_settle yX2_settle, Cond.code yX2_settle cX2_settle 4 (some .int), Cond.fieldLink RX2 98 "ExhibitTexts" "nextInHistory" "I", Cond.fieldLink RX2 22 "ExhibitTexts" "history" "[LExhibitTexts$State;", Cond.fieldLink RX2 95 "ExhibitTexts" "statesInHistory" "I", Cond.methodLink RX2 183 Lib.Math.min.name]
def wsX2_turn_r3 : List Cond := [Cond.static Lib.Math.min.name, Cond.code Lib.Math.min.name Lib.Math.min.code 2 (some .int)]
def wsX2_turn : List Cond := .code yX2_turn cX2_turn 2 (some .int) :: ((wsX2_turn_r1 ++ (wsX2_turn_r2 ++ wsX2_turn_r3)) ++ wsX20 ++ wsX10)
def wsX2_setTurning_r1 : List Cond := [Cond.methodLink RX2 33 yX2_attempt, Cond.instanceMethod yX2_attempt, Cond.selects RX2 yX2_attempt yX2_attempt, Cond.initialized RX2, Cond.code yX2_attempt cX2_attempt 1 (some (.object "ExhibitTexts$State")), Cond.fieldLink RX2 16 "ExhibitTexts" "trial" "LExhibitTexts$State;", Cond.fieldLink RX2 12 "ExhibitTexts" "now" "LExhibitTexts$State;", Cond.methodLink RX2 101 yX1_copyFrom, Cond.instanceMethod yX1_copyFrom, Cond.selects RX1 yX1_copyFrom yX1_copyFrom, Cond.initialized RX1, Cond.code yX1_copyFrom cX1_copyFrom 2 none, Cond.fieldLink RX1 9 "ExhibitTexts$State" "sizes" "[I", Cond.methodLink RX1 22 arraycopyName, Cond.native arraycopyName, Cond.static arraycopyName, Cond.initialized "java/lang/System", Cond.fieldLink RX1 15 "ExhibitTexts$State" "cells" "[I", Cond.fieldLink RX1 28 "ExhibitTexts$State" "standsAt" "I", Cond.fieldLink RX1 18 "ExhibitTexts$State" "turning" "I", Cond.fieldLink RX1 31 "ExhibitTexts$State" "visitors" "I", Cond.fieldLink RX1 34 "ExhibitTexts$State" "textsRead" "I", Cond.fieldLink RX1 37 "ExhibitTexts$State" "captionsRead" "I", Cond.fieldLink RX1 40 "ExhibitTexts$State" "hasVisitor" "Z"]
def wsX2_setTurning_r2 : List Cond := [Cond.fieldLink RX1 44 "ExhibitTexts$State" "age" "I", Cond.fieldLink RX1 47 "ExhibitTexts$State" "pace" "I", Cond.fieldLink RX1 50 "ExhibitTexts$State" "seconds" "I", Cond.fieldLink RX1 53 "ExhibitTexts$State" "learned" "I", Cond.methodLink RX2 85 yX1_changeTurning, Cond.instanceMethod yX1_changeTurning, Cond.selects RX1 yX1_changeTurning yX1_changeTurning, Cond.code yX1_changeTurning cX1_changeTurning 3 (some .int), Cond.methodLink RX2 41 yX2_settle, Cond.instanceMethod yX2_settle, Cond.selects RX2 yX2_settle yX2_settle, Cond.code yX2_settle cX2_settle 4 (some .int), Cond.fieldLink RX2 98 "ExhibitTexts" "nextInHistory" "I", Cond.fieldLink RX2 22 "ExhibitTexts" "history" "[LExhibitTexts$State;", Cond.fieldLink RX2 95 "ExhibitTexts" "statesInHistory" "I", Cond.methodLink RX2 183 Lib.Math.min.name, Cond.static Lib.Math.min.name, Cond.initialized "java/lang/Math", Cond.code Lib.Math.min.name Lib.Math.min.code 2 (some .int)]
def wsX2_setTurning : List Cond := .code yX2_setTurning cX2_setTurning 2 (some .int) :: ((wsX2_setTurning_r1 ++ wsX2_setTurning_r2) ++ wsX20 ++ wsX10)
def wsX2_text : List Cond := .code yX2_text cX2_text 5 (some .int) :: ([.fieldLink RX2 12 "ExhibitTexts" "now" "LExhibitTexts$State;", .fieldLink RX2 115 "ExhibitTexts$State" "cells" "[I", .methodLink RX2 112 yX1_rowOf, .instanceMethod yX1_rowOf, .selects RX1 yX1_rowOf yX1_rowOf, .initialized RX1, .code yX1_rowOf cX1_rowOf 3 (some .int), .fieldLink RX1 9 "ExhibitTexts$State" "sizes" "[I", .static yX2_isExhibit, .initialized RX2, .code yX2_isExhibit cX2_isExhibit 1 (some .boolean)] ++ wsX20 ++ wsX10)
def wsX2_caption : List Cond := .code yX2_caption cX2_caption 7 (some .int) :: ([.fieldLink RX2 12 "ExhibitTexts" "now" "LExhibitTexts$State;", .fieldLink RX2 115 "ExhibitTexts$State" "cells" "[I", .methodLink RX2 112 yX1_rowOf, .instanceMethod yX1_rowOf, .selects RX1 yX1_rowOf yX1_rowOf, .initialized RX1, .code yX1_rowOf cX1_rowOf 3 (some .int), .fieldLink RX1 9 "ExhibitTexts$State" "sizes" "[I", .static yX2_isExhibit, .initialized RX2, .code yX2_isExhibit cX2_isExhibit 1 (some .boolean), .methodLink RX2 119 yX1_captionOf, .instanceMethod yX1_captionOf, .selects RX1 yX1_captionOf yX1_captionOf, .code yX1_captionOf cX1_captionOf 3 (some .int), .fieldLink RX1 15 "ExhibitTexts$State" "cells" "[I"] ++ wsX20 ++ wsX10)
def wsX2_visitor_r1 : List Cond := [Cond.fieldLink RX2 12 "ExhibitTexts" "now" "LExhibitTexts$State;", Cond.fieldLink RX2 122 "ExhibitTexts$State" "hasVisitor" "Z", Cond.fieldLink RX2 125 "ExhibitTexts$State" "age" "I", Cond.fieldLink RX2 128 "ExhibitTexts$State" "pace" "I", Cond.fieldLink RX2 131 "ExhibitTexts$State" "seconds" "I", Cond.fieldLink RX2 134 "ExhibitTexts$State" "learned" "I", Cond.fieldLink RX2 142 "ExhibitTexts$State" "standsAt" "I", Cond.methodLink RX2 137 yJ6_bitCount_0f7a4, Cond.static yJ6_bitCount_0f7a4, Cond.initialized RJ6, Cond.code yJ6_bitCount_0f7a4 cJ6_bitCount_0f7a4 1 (some .int), Cond.constant RJ6 265 (1431655765), Cond.constant RJ6 266 (858993459), Cond.constant RJ6 267 (252645135), Cond.methodLink RX2 145 yX1_textFor, Cond.instanceMethod yX1_textFor, Cond.selects RX1 yX1_textFor yX1_textFor, Cond.initialized RX1, Cond.code yX1_textFor cX1_textFor 6 (some .int), Cond.fieldLink RX1 9 "ExhibitTexts$State" "sizes" "[I", Cond.static yX2_isExhibit, Cond.initialized RX2, Cond.code yX2_isExhibit cX2_isExhibit 1 (some .boolean), Cond.methodLink RX1 106 yX1_fitsBetter]
def wsX2_visitor_r2 : List Cond := [Cond.instanceMethod yX1_fitsBetter, Cond.selects RX1 yX1_fitsBetter yX1_fitsBetter, Cond.code yX1_fitsBetter cX1_fitsBetter 6 (some .boolean), Cond.fieldLink RX1 15 "ExhibitTexts$State" "cells" "[I"]
def wsX2_visitor : List Cond := .code yX2_visitor cX2_visitor 2 (some .int) :: ((wsX2_visitor_r1 ++ wsX2_visitor_r2) ++ wsX20 ++ wsX10)
def wsX2_shown : List Cond := .code yX2_shown cX2_shown 3 (some .int) :: ([.fieldLink RX2 12 "ExhibitTexts" "now" "LExhibitTexts$State;", .methodLink RX2 148 yX2_isExhibit, .static yX2_isExhibit, .initialized RX2, .code yX2_isExhibit cX2_isExhibit 1 (some .boolean), .methodLink RX2 152 yX2_isAge, .static yX2_isAge, .code yX2_isAge cX2_isAge 1 (some .boolean), .methodLink RX2 145 yX1_textFor, .instanceMethod yX1_textFor, .selects RX1 yX1_textFor yX1_textFor, .initialized RX1, .code yX1_textFor cX1_textFor 6 (some .int), .fieldLink RX1 9 "ExhibitTexts$State" "sizes" "[I", .methodLink RX1 106 yX1_fitsBetter, .instanceMethod yX1_fitsBetter, .selects RX1 yX1_fitsBetter yX1_fitsBetter, .code yX1_fitsBetter cX1_fitsBetter 6 (some .boolean), .fieldLink RX1 15 "ExhibitTexts$State" "cells" "[I"] ++ wsX20 ++ wsX10)
def wsX2_unmet_r1 : List Cond := [Cond.fieldLink RX2 12 "ExhibitTexts" "now" "LExhibitTexts$State;", Cond.methodLink RX2 152 yX2_isAge, Cond.static yX2_isAge, Cond.initialized RX2, Cond.code yX2_isAge cX2_isAge 1 (some .boolean), Cond.methodLink RX2 155 yX1_allFacts, Cond.instanceMethod yX1_allFacts, Cond.selects RX1 yX1_allFacts yX1_allFacts, Cond.initialized RX1, Cond.code yX1_allFacts cX1_allFacts 4 (some .int), Cond.fieldLink RX1 9 "ExhibitTexts$State" "sizes" "[I", Cond.fieldLink RX1 15 "ExhibitTexts$State" "cells" "[I", Cond.methodLink RX2 158 yX1_factsFor, Cond.instanceMethod yX1_factsFor, Cond.selects RX1 yX1_factsFor yX1_factsFor, Cond.code yX1_factsFor cX1_factsFor 5 (some .int), Cond.methodLink RX1 76 yX1_textFor, Cond.instanceMethod yX1_textFor, Cond.selects RX1 yX1_textFor yX1_textFor, Cond.code yX1_textFor cX1_textFor 6 (some .int), Cond.static yX2_isExhibit, Cond.code yX2_isExhibit cX2_isExhibit 1 (some .boolean), Cond.methodLink RX1 106 yX1_fitsBetter, Cond.instanceMethod yX1_fitsBetter]
def wsX2_unmet_r2 : List Cond := [Cond.selects RX1 yX1_fitsBetter yX1_fitsBetter, Cond.code yX1_fitsBetter cX1_fitsBetter 6 (some .boolean), Cond.methodLink RX1 65 yX1_rowOf, Cond.instanceMethod yX1_rowOf, Cond.selects RX1 yX1_rowOf yX1_rowOf, Cond.code yX1_rowOf cX1_rowOf 3 (some .int)]
def wsX2_unmet : List Cond := .code yX2_unmet cX2_unmet 2 (some .int) :: ((wsX2_unmet_r1 ++ wsX2_unmet_r2) ++ wsX20 ++ wsX10)
def wsX2_round_r1 : List Cond := [Cond.fieldLink RX2 134 "ExhibitTexts$State" "learned" "I", Cond.methodLink RX2 33 yX2_attempt, Cond.instanceMethod yX2_attempt, Cond.selects RX2 yX2_attempt yX2_attempt, Cond.initialized RX2, Cond.code yX2_attempt cX2_attempt 1 (some (.object "ExhibitTexts$State")), Cond.fieldLink RX2 16 "ExhibitTexts" "trial" "LExhibitTexts$State;", Cond.fieldLink RX2 12 "ExhibitTexts" "now" "LExhibitTexts$State;", Cond.methodLink RX2 101 yX1_copyFrom, Cond.instanceMethod yX1_copyFrom, Cond.selects RX1 yX1_copyFrom yX1_copyFrom, Cond.initialized RX1, Cond.code yX1_copyFrom cX1_copyFrom 2 none, Cond.fieldLink RX1 9 "ExhibitTexts$State" "sizes" "[I", Cond.methodLink RX1 22 arraycopyName, Cond.native arraycopyName, Cond.static arraycopyName, Cond.initialized "java/lang/System", Cond.fieldLink RX1 15 "ExhibitTexts$State" "cells" "[I", Cond.fieldLink RX1 28 "ExhibitTexts$State" "standsAt" "I", Cond.fieldLink RX1 18 "ExhibitTexts$State" "turning" "I", Cond.fieldLink RX1 31 "ExhibitTexts$State" "visitors" "I", Cond.fieldLink RX1 34 "ExhibitTexts$State" "textsRead" "I", Cond.fieldLink RX1 37 "ExhibitTexts$State" "captionsRead" "I"]
def wsX2_round_r2 : List Cond := [Cond.fieldLink RX1 40 "ExhibitTexts$State" "hasVisitor" "Z", Cond.fieldLink RX1 44 "ExhibitTexts$State" "age" "I", Cond.fieldLink RX1 47 "ExhibitTexts$State" "pace" "I", Cond.fieldLink RX1 50 "ExhibitTexts$State" "seconds" "I", Cond.fieldLink RX1 53 "ExhibitTexts$State" "learned" "I", Cond.methodLink RX2 72 yX1_admit, Cond.instanceMethod yX1_admit, Cond.selects RX1 yX1_admit yX1_admit, Cond.code yX1_admit cX1_admit 5 (some .int), Cond.static yX2_isAge, Cond.code yX2_isAge cX2_isAge 1 (some .boolean), Cond.methodLink RX1 76 yX1_textFor, Cond.instanceMethod yX1_textFor, Cond.selects RX1 yX1_textFor yX1_textFor, Cond.code yX1_textFor cX1_textFor 6 (some .int), Cond.static yX2_isExhibit, Cond.code yX2_isExhibit cX2_isExhibit 1 (some .boolean), Cond.methodLink RX1 106 yX1_fitsBetter, Cond.instanceMethod yX1_fitsBetter, Cond.selects RX1 yX1_fitsBetter yX1_fitsBetter, Cond.code yX1_fitsBetter cX1_fitsBetter 6 (some .boolean), Cond.methodLink RX2 161 yX1_readShown, Cond.instanceMethod yX1_readShown, Cond.selects RX1 yX1_readShown yX1_readShown]
def wsX2_round_r3 : List Cond := [Cond.code yX1_readShown cX1_readShown 3 (some .boolean), Cond.methodLink RX1 79 yX1_shownRow, Cond.instanceMethod yX1_shownRow, Cond.selects RX1 yX1_shownRow yX1_shownRow, Cond.code yX1_shownRow cX1_shownRow 2 (some .int), Cond.methodLink RX1 65 yX1_rowOf, Cond.instanceMethod yX1_rowOf, Cond.selects RX1 yX1_rowOf yX1_rowOf, Cond.code yX1_rowOf cX1_rowOf 3 (some .int), Cond.methodLink RX1 86 yX1_timeFor, Cond.instanceMethod yX1_timeFor, Cond.selects RX1 yX1_timeFor yX1_timeFor, Cond.code yX1_timeFor cX1_timeFor 3 (some .int), Cond.methodLink RX1 103 Lib.Math.max.name, Cond.static Lib.Math.max.name, Cond.initialized "java/lang/Math", Cond.code Lib.Math.max.name Lib.Math.max.code 2 (some .int), Cond.methodLink RX2 81 yX1_turnRing, Cond.instanceMethod yX1_turnRing, Cond.selects RX1 yX1_turnRing yX1_turnRing, Cond.code yX1_turnRing cX1_turnRing 2 (some .int), Cond.methodLink RX1 98 yJ9_floorMod_7cf53, Cond.static yJ9_floorMod_7cf53, Cond.initialized RJ9]
def wsX2_round_r4 : List Cond := [Cond.code yJ9_floorMod_7cf53 cJ9_floorMod_7cf53 3 (some .int)]
def wsX2_round : List Cond := .code yX2_round cX2_round 7 (some .int) :: ((wsX2_round_r1 ++ (wsX2_round_r2 ++ (wsX2_round_r3 ++ wsX2_round_r4))) ++ wsX10 ++ wsX20)
def wsX2_ages : List Cond := .code yX2_ages cX2_ages 8 (some .int) :: ([.fieldLink RX2 12 "ExhibitTexts" "now" "LExhibitTexts$State;", .methodLink RX2 112 yX1_rowOf, .instanceMethod yX1_rowOf, .selects RX1 yX1_rowOf yX1_rowOf, .initialized RX1, .code yX1_rowOf cX1_rowOf 3 (some .int), .fieldLink RX1 9 "ExhibitTexts$State" "sizes" "[I", .static yX2_isExhibit, .initialized RX2, .code yX2_isExhibit cX2_isExhibit 1 (some .boolean), .methodLink RX2 145 yX1_textFor, .instanceMethod yX1_textFor, .selects RX1 yX1_textFor yX1_textFor, .code yX1_textFor cX1_textFor 6 (some .int), .methodLink RX1 106 yX1_fitsBetter, .instanceMethod yX1_fitsBetter, .selects RX1 yX1_fitsBetter yX1_fitsBetter, .code yX1_fitsBetter cX1_fitsBetter 6 (some .boolean), .fieldLink RX1 15 "ExhibitTexts$State" "cells" "[I"] ++ wsX20 ++ wsX10)
def wsX2_count_r1 : List Cond := [Cond.fieldLink RX2 12 "ExhibitTexts" "now" "LExhibitTexts$State;", Cond.fieldLink RX2 142 "ExhibitTexts$State" "standsAt" "I", Cond.fieldLink RX2 168 "ExhibitTexts$State" "turning" "I", Cond.fieldLink RX2 171 "ExhibitTexts$State" "visitors" "I", Cond.fieldLink RX2 174 "ExhibitTexts$State" "textsRead" "I", Cond.fieldLink RX2 177 "ExhibitTexts$State" "captionsRead" "I", Cond.fieldLink RX2 95 "ExhibitTexts" "statesInHistory" "I", Cond.fieldLink RX2 29 "ExhibitTexts" "pad" "LExhibitTexts$Pad;", Cond.fieldLink RX2 92 "ExhibitTexts$Pad" "length" "I", Cond.methodLink RX2 109 yX1_countTexts, Cond.instanceMethod yX1_countTexts, Cond.selects RX1 yX1_countTexts yX1_countTexts, Cond.initialized RX1, Cond.code yX1_countTexts cX1_countTexts 3 (some .int), Cond.fieldLink RX1 9 "ExhibitTexts$State" "sizes" "[I", Cond.methodLink RX2 165 yX1_countCaptions, Cond.instanceMethod yX1_countCaptions, Cond.selects RX1 yX1_countCaptions yX1_countCaptions, Cond.code yX1_countCaptions cX1_countCaptions 4 (some .int), Cond.fieldLink RX1 15 "ExhibitTexts$State" "cells" "[I", Cond.methodLink RX2 180 yX1_countNeverRead, Cond.instanceMethod yX1_countNeverRead, Cond.selects RX1 yX1_countNeverRead yX1_countNeverRead, Cond.code yX1_countNeverRead cX1_countNeverRead 4 (some .int)]
def wsX2_count_r2 : List Cond := [Cond.methodLink RX2 155 yX1_allFacts, Cond.instanceMethod yX1_allFacts, Cond.selects RX1 yX1_allFacts yX1_allFacts, Cond.code yX1_allFacts cX1_allFacts 4 (some .int), Cond.methodLink RX2 137 yJ6_bitCount_0f7a4, Cond.static yJ6_bitCount_0f7a4, Cond.initialized RJ6, Cond.code yJ6_bitCount_0f7a4 cJ6_bitCount_0f7a4 1 (some .int), Cond.constant RJ6 265 (1431655765), Cond.constant RJ6 266 (858993459), Cond.constant RJ6 267 (252645135)]
def wsX2_count : List Cond := .code yX2_count cX2_count 2 (some .int) :: ((wsX2_count_r1 ++ wsX2_count_r2) ++ wsX20 ++ wsX10 ++ wsX00)
def wsJ9_max_7cf53 : List Cond := .code yJ9_max_7cf53 cJ9_max_7cf53 2 (some .int) :: ([])
def wsJ9_min_7cf53 : List Cond := .code yJ9_min_7cf53 cJ9_min_7cf53 2 (some .int) :: ([])
theorem inJ6 : ∀ w ∈ wsJ60, w ∈ lw_tbl := by decide +kernel
theorem inJ9 : ∀ w ∈ wsJ90, w ∈ lw_tbl := by decide +kernel
theorem inJ10 : ∀ w ∈ wsJ100, w ∈ lw_tbl := by decide +kernel
theorem dX0_init_0 : decode cX0_init 0 = .ok (.aload_n 0, 1) := by decide +kernel
theorem dX0_init_1 : decode cX0_init 1 = .ok (.invokespecial 3, 3) := by decide +kernel
theorem dX0_init_4 : decode cX0_init 4 = .ok (.aload_n 0, 1) := by decide +kernel
theorem dX0_init_5 : decode cX0_init 5 = .ok (.bipush 60, 2) := by decide +kernel
theorem dX0_init_7 : decode cX0_init 7 = .ok (.newarray .char, 2) := by decide +kernel
theorem dX0_init_9 : decode cX0_init 9 = .ok (.putfield 9, 3) := by decide +kernel
theorem dX0_init_12 : decode cX0_init 12 = .ok (.return_, 1) := by decide +kernel
theorem dX1_init_0 : decode cX1_init 0 = .ok (.aload_n 0, 1) := by decide +kernel
theorem dX1_init_1 : decode cX1_init 1 = .ok (.invokespecial 3, 3) := by decide +kernel
theorem dX1_init_4 : decode cX1_init 4 = .ok (.aload_n 0, 1) := by decide +kernel
theorem dX1_init_5 : decode cX1_init 5 = .ok (.bipush 8, 2) := by decide +kernel
theorem dX1_init_7 : decode cX1_init 7 = .ok (.newarray .int, 2) := by decide +kernel
theorem dX1_init_9 : decode cX1_init 9 = .ok (.putfield 9, 3) := by decide +kernel
theorem dX1_init_12 : decode cX1_init 12 = .ok (.aload_n 0, 1) := by decide +kernel
theorem dX1_init_13 : decode cX1_init 13 = .ok (.sipush 640, 3) := by decide +kernel
theorem dX1_init_16 : decode cX1_init 16 = .ok (.newarray .int, 2) := by decide +kernel
theorem dX1_init_18 : decode cX1_init 18 = .ok (.putfield 15, 3) := by decide +kernel
theorem dX1_init_21 : decode cX1_init 21 = .ok (.aload_n 0, 1) := by decide +kernel
theorem dX1_init_22 : decode cX1_init 22 = .ok (.iconst 5, 1) := by decide +kernel
theorem dX1_init_23 : decode cX1_init 23 = .ok (.putfield 18, 3) := by decide +kernel
theorem dX1_init_26 : decode cX1_init 26 = .ok (.return_, 1) := by decide +kernel
theorem dX1_copyFrom_0 : decode cX1_copyFrom 0 = .ok (.aload_n 1, 1) := by decide +kernel
theorem dX1_copyFrom_1 : decode cX1_copyFrom 1 = .ok (.getfield 9, 3) := by decide +kernel
theorem dX1_copyFrom_4 : decode cX1_copyFrom 4 = .ok (.iconst 0, 1) := by decide +kernel
theorem dX1_copyFrom_5 : decode cX1_copyFrom 5 = .ok (.aload_n 0, 1) := by decide +kernel
theorem dX1_copyFrom_6 : decode cX1_copyFrom 6 = .ok (.getfield 9, 3) := by decide +kernel
theorem dX1_copyFrom_9 : decode cX1_copyFrom 9 = .ok (.iconst 0, 1) := by decide +kernel
theorem dX1_copyFrom_10 : decode cX1_copyFrom 10 = .ok (.bipush 8, 2) := by decide +kernel
theorem dX1_copyFrom_12 : decode cX1_copyFrom 12 = .ok (.invokestatic 22, 3) := by decide +kernel
theorem dX1_copyFrom_15 : decode cX1_copyFrom 15 = .ok (.aload_n 1, 1) := by decide +kernel
theorem dX1_copyFrom_16 : decode cX1_copyFrom 16 = .ok (.getfield 15, 3) := by decide +kernel
theorem dX1_copyFrom_19 : decode cX1_copyFrom 19 = .ok (.iconst 0, 1) := by decide +kernel
theorem dX1_copyFrom_20 : decode cX1_copyFrom 20 = .ok (.aload_n 0, 1) := by decide +kernel
theorem dX1_copyFrom_21 : decode cX1_copyFrom 21 = .ok (.getfield 15, 3) := by decide +kernel
theorem dX1_copyFrom_24 : decode cX1_copyFrom 24 = .ok (.iconst 0, 1) := by decide +kernel
theorem dX1_copyFrom_25 : decode cX1_copyFrom 25 = .ok (.sipush 640, 3) := by decide +kernel
theorem dX1_copyFrom_28 : decode cX1_copyFrom 28 = .ok (.invokestatic 22, 3) := by decide +kernel
theorem dX1_copyFrom_31 : decode cX1_copyFrom 31 = .ok (.aload_n 0, 1) := by decide +kernel
theorem dX1_copyFrom_32 : decode cX1_copyFrom 32 = .ok (.aload_n 1, 1) := by decide +kernel
theorem dX1_copyFrom_33 : decode cX1_copyFrom 33 = .ok (.getfield 28, 3) := by decide +kernel
theorem dX1_copyFrom_36 : decode cX1_copyFrom 36 = .ok (.putfield 28, 3) := by decide +kernel
theorem dX1_copyFrom_39 : decode cX1_copyFrom 39 = .ok (.aload_n 0, 1) := by decide +kernel
theorem dX1_copyFrom_40 : decode cX1_copyFrom 40 = .ok (.aload_n 1, 1) := by decide +kernel
theorem dX1_copyFrom_41 : decode cX1_copyFrom 41 = .ok (.getfield 18, 3) := by decide +kernel
theorem dX1_copyFrom_44 : decode cX1_copyFrom 44 = .ok (.putfield 18, 3) := by decide +kernel
theorem dX1_copyFrom_47 : decode cX1_copyFrom 47 = .ok (.aload_n 0, 1) := by decide +kernel
theorem dX1_copyFrom_48 : decode cX1_copyFrom 48 = .ok (.aload_n 1, 1) := by decide +kernel
theorem dX1_copyFrom_49 : decode cX1_copyFrom 49 = .ok (.getfield 31, 3) := by decide +kernel
theorem dX1_copyFrom_52 : decode cX1_copyFrom 52 = .ok (.putfield 31, 3) := by decide +kernel
theorem dX1_copyFrom_55 : decode cX1_copyFrom 55 = .ok (.aload_n 0, 1) := by decide +kernel
theorem dX1_copyFrom_56 : decode cX1_copyFrom 56 = .ok (.aload_n 1, 1) := by decide +kernel
theorem dX1_copyFrom_57 : decode cX1_copyFrom 57 = .ok (.getfield 34, 3) := by decide +kernel
theorem dX1_copyFrom_60 : decode cX1_copyFrom 60 = .ok (.putfield 34, 3) := by decide +kernel
theorem dX1_copyFrom_63 : decode cX1_copyFrom 63 = .ok (.aload_n 0, 1) := by decide +kernel
theorem dX1_copyFrom_64 : decode cX1_copyFrom 64 = .ok (.aload_n 1, 1) := by decide +kernel
theorem dX1_copyFrom_65 : decode cX1_copyFrom 65 = .ok (.getfield 37, 3) := by decide +kernel
theorem dX1_copyFrom_68 : decode cX1_copyFrom 68 = .ok (.putfield 37, 3) := by decide +kernel
theorem dX1_copyFrom_71 : decode cX1_copyFrom 71 = .ok (.aload_n 0, 1) := by decide +kernel
theorem dX1_copyFrom_72 : decode cX1_copyFrom 72 = .ok (.aload_n 1, 1) := by decide +kernel
theorem dX1_copyFrom_73 : decode cX1_copyFrom 73 = .ok (.getfield 40, 3) := by decide +kernel
theorem dX1_copyFrom_76 : decode cX1_copyFrom 76 = .ok (.putfield 40, 3) := by decide +kernel
theorem dX1_copyFrom_79 : decode cX1_copyFrom 79 = .ok (.aload_n 0, 1) := by decide +kernel
theorem dX1_copyFrom_80 : decode cX1_copyFrom 80 = .ok (.aload_n 1, 1) := by decide +kernel
theorem dX1_copyFrom_81 : decode cX1_copyFrom 81 = .ok (.getfield 44, 3) := by decide +kernel
theorem dX1_copyFrom_84 : decode cX1_copyFrom 84 = .ok (.putfield 44, 3) := by decide +kernel
theorem dX1_copyFrom_87 : decode cX1_copyFrom 87 = .ok (.aload_n 0, 1) := by decide +kernel
theorem dX1_copyFrom_88 : decode cX1_copyFrom 88 = .ok (.aload_n 1, 1) := by decide +kernel
theorem dX1_copyFrom_89 : decode cX1_copyFrom 89 = .ok (.getfield 47, 3) := by decide +kernel
theorem dX1_copyFrom_92 : decode cX1_copyFrom 92 = .ok (.putfield 47, 3) := by decide +kernel
theorem dX1_copyFrom_95 : decode cX1_copyFrom 95 = .ok (.aload_n 0, 1) := by decide +kernel
theorem dX1_copyFrom_96 : decode cX1_copyFrom 96 = .ok (.aload_n 1, 1) := by decide +kernel
theorem dX1_copyFrom_97 : decode cX1_copyFrom 97 = .ok (.getfield 50, 3) := by decide +kernel
theorem dX1_copyFrom_100 : decode cX1_copyFrom 100 = .ok (.putfield 50, 3) := by decide +kernel
theorem dX1_copyFrom_103 : decode cX1_copyFrom 103 = .ok (.aload_n 0, 1) := by decide +kernel
theorem dX1_copyFrom_104 : decode cX1_copyFrom 104 = .ok (.aload_n 1, 1) := by decide +kernel
theorem dX1_copyFrom_105 : decode cX1_copyFrom 105 = .ok (.getfield 53, 3) := by decide +kernel
theorem dX1_copyFrom_108 : decode cX1_copyFrom 108 = .ok (.putfield 53, 3) := by decide +kernel
theorem dX1_copyFrom_111 : decode cX1_copyFrom 111 = .ok (.return_, 1) := by decide +kernel
set_option maxRecDepth 20000 in
theorem ggX1_rowOf_X2_isExhibit : GoodIn wsX1_rowOf wsX2_isExhibit := goodIn_r _ [4] (by decide +kernel) (by decide +kernel)
set_option maxRecDepth 20000 in
theorem gX1_rowOf_X2_isExhibit_n56 : GoodIn wsX1_rowOf (wsX2_isExhibit) := ggX1_rowOf_X2_isExhibit
theorem dX1_rowOf_0 : decode cX1_rowOf 0 = .ok (.iload_n 1, 1) := by decide +kernel
theorem dX1_rowOf_1 : decode cX1_rowOf 1 = .ok (.invokestatic 56, 3) := by decide +kernel
theorem dX1_rowOf_4 : decode cX1_rowOf 4 = .ok (.ifCond .eq 17, 3) := by decide +kernel
theorem dX1_rowOf_7 : decode cX1_rowOf 7 = .ok (.iload_n 2, 1) := by decide +kernel
theorem dX1_rowOf_8 : decode cX1_rowOf 8 = .ok (.ifCond .lt 13, 3) := by decide +kernel
theorem dX1_rowOf_11 : decode cX1_rowOf 11 = .ok (.iload_n 2, 1) := by decide +kernel
theorem dX1_rowOf_12 : decode cX1_rowOf 12 = .ok (.aload_n 0, 1) := by decide +kernel
theorem dX1_rowOf_13 : decode cX1_rowOf 13 = .ok (.getfield 9, 3) := by decide +kernel
theorem dX1_rowOf_16 : decode cX1_rowOf 16 = .ok (.iload_n 1, 1) := by decide +kernel
theorem dX1_rowOf_17 : decode cX1_rowOf 17 = .ok (.iaload, 1) := by decide +kernel
theorem dX1_rowOf_18 : decode cX1_rowOf 18 = .ok (.if_icmp .lt 5, 3) := by decide +kernel
theorem dX1_rowOf_21 : decode cX1_rowOf 21 = .ok (.iconst (-1), 1) := by decide +kernel
theorem dX1_rowOf_22 : decode cX1_rowOf 22 = .ok (.ireturn, 1) := by decide +kernel
theorem dX1_rowOf_23 : decode cX1_rowOf 23 = .ok (.iload_n 1, 1) := by decide +kernel
theorem dX1_rowOf_24 : decode cX1_rowOf 24 = .ok (.iconst 5, 1) := by decide +kernel
theorem dX1_rowOf_25 : decode cX1_rowOf 25 = .ok (.imul, 1) := by decide +kernel
theorem dX1_rowOf_26 : decode cX1_rowOf 26 = .ok (.iload_n 2, 1) := by decide +kernel
theorem dX1_rowOf_27 : decode cX1_rowOf 27 = .ok (.iadd, 1) := by decide +kernel
theorem dX1_rowOf_28 : decode cX1_rowOf 28 = .ok (.bipush 16, 2) := by decide +kernel
theorem dX1_rowOf_30 : decode cX1_rowOf 30 = .ok (.imul, 1) := by decide +kernel
theorem dX1_rowOf_31 : decode cX1_rowOf 31 = .ok (.ireturn, 1) := by decide +kernel
theorem dX1_captionOf_0 : decode cX1_captionOf 0 = .ok (.iload_n 2, 1) := by decide +kernel
theorem dX1_captionOf_1 : decode cX1_captionOf 1 = .ok (.ifCond .lt 15, 3) := by decide +kernel
theorem dX1_captionOf_4 : decode cX1_captionOf 4 = .ok (.iload_n 2, 1) := by decide +kernel
theorem dX1_captionOf_5 : decode cX1_captionOf 5 = .ok (.aload_n 0, 1) := by decide +kernel
theorem dX1_captionOf_6 : decode cX1_captionOf 6 = .ok (.getfield 15, 3) := by decide +kernel
theorem dX1_captionOf_9 : decode cX1_captionOf 9 = .ok (.iload_n 1, 1) := by decide +kernel
theorem dX1_captionOf_10 : decode cX1_captionOf 10 = .ok (.iconst 5, 1) := by decide +kernel
theorem dX1_captionOf_11 : decode cX1_captionOf 11 = .ok (.iadd, 1) := by decide +kernel
theorem dX1_captionOf_12 : decode cX1_captionOf 12 = .ok (.iaload, 1) := by decide +kernel
theorem dX1_captionOf_13 : decode cX1_captionOf 13 = .ok (.if_icmp .lt 5, 3) := by decide +kernel
theorem dX1_captionOf_16 : decode cX1_captionOf 16 = .ok (.iconst (-1), 1) := by decide +kernel
theorem dX1_captionOf_17 : decode cX1_captionOf 17 = .ok (.ireturn, 1) := by decide +kernel
theorem dX1_captionOf_18 : decode cX1_captionOf 18 = .ok (.iload_n 1, 1) := by decide +kernel
theorem dX1_captionOf_19 : decode cX1_captionOf 19 = .ok (.bipush 7, 2) := by decide +kernel
theorem dX1_captionOf_21 : decode cX1_captionOf 21 = .ok (.iadd, 1) := by decide +kernel
theorem dX1_captionOf_22 : decode cX1_captionOf 22 = .ok (.iload_n 2, 1) := by decide +kernel
theorem dX1_captionOf_23 : decode cX1_captionOf 23 = .ok (.iconst 3, 1) := by decide +kernel
theorem dX1_captionOf_24 : decode cX1_captionOf 24 = .ok (.imul, 1) := by decide +kernel
theorem dX1_captionOf_25 : decode cX1_captionOf 25 = .ok (.iadd, 1) := by decide +kernel
theorem dX1_captionOf_26 : decode cX1_captionOf 26 = .ok (.ireturn, 1) := by decide +kernel
set_option maxRecDepth 20000 in
theorem ggX1_putText_X2_isExhibit : GoodIn wsX1_putText wsX2_isExhibit := goodIn_r _ [6] (by decide +kernel) (by decide +kernel)
set_option maxRecDepth 20000 in
theorem gX1_putText_X2_isExhibit_n56 : GoodIn wsX1_putText (wsX2_isExhibit) := ggX1_putText_X2_isExhibit
set_option maxRecDepth 20000 in
theorem ggX1_putText_X2_isText : GoodIn wsX1_putText wsX2_isText := goodIn_r _ [8] (by decide +kernel) (by decide +kernel)
set_option maxRecDepth 20000 in
theorem gX1_putText_X2_isText_n60 : GoodIn wsX1_putText (wsX2_isText) := ggX1_putText_X2_isText
theorem dX1_putText_0 : decode cX1_putText 0 = .ok (.iload_n 1, 1) := by decide +kernel
theorem dX1_putText_1 : decode cX1_putText 1 = .ok (.invokestatic 56, 3) := by decide +kernel
theorem dX1_putText_4 : decode cX1_putText 4 = .ok (.ifCond .ne 5, 3) := by decide +kernel
theorem dX1_putText_7 : decode cX1_putText 7 = .ok (.iconst (-1), 1) := by decide +kernel
theorem dX1_putText_8 : decode cX1_putText 8 = .ok (.ireturn, 1) := by decide +kernel
theorem dX1_putText_9 : decode cX1_putText 9 = .ok (.iload_n 2, 1) := by decide +kernel
theorem dX1_putText_10 : decode cX1_putText 10 = .ok (.iload_n 3, 1) := by decide +kernel
theorem dX1_putText_11 : decode cX1_putText 11 = .ok (.iload 4, 2) := by decide +kernel
theorem dX1_putText_13 : decode cX1_putText 13 = .ok (.invokestatic 60, 3) := by decide +kernel
theorem dX1_putText_16 : decode cX1_putText 16 = .ok (.ifCond .eq 16, 3) := by decide +kernel
theorem dX1_putText_19 : decode cX1_putText 19 = .ok (.iload 5, 2) := by decide +kernel
theorem dX1_putText_21 : decode cX1_putText 21 = .ok (.iconst 1, 1) := by decide +kernel
theorem dX1_putText_22 : decode cX1_putText 22 = .ok (.if_icmp .lt 10, 3) := by decide +kernel
theorem dX1_putText_25 : decode cX1_putText 25 = .ok (.iload 5, 2) := by decide +kernel
theorem dX1_putText_27 : decode cX1_putText 27 = .ok (.ldc 64, 2) := by decide +kernel
theorem dX1_putText_29 : decode cX1_putText 29 = .ok (.if_icmp .le 6, 3) := by decide +kernel
theorem dX1_putText_32 : decode cX1_putText 32 = .ok (.bipush (-2), 2) := by decide +kernel
theorem dX1_putText_34 : decode cX1_putText 34 = .ok (.ireturn, 1) := by decide +kernel
theorem dX1_putText_35 : decode cX1_putText 35 = .ok (.aload_n 0, 1) := by decide +kernel
theorem dX1_putText_36 : decode cX1_putText 36 = .ok (.getfield 9, 3) := by decide +kernel
theorem dX1_putText_39 : decode cX1_putText 39 = .ok (.iload_n 1, 1) := by decide +kernel
theorem dX1_putText_40 : decode cX1_putText 40 = .ok (.iaload, 1) := by decide +kernel
theorem dX1_putText_41 : decode cX1_putText 41 = .ok (.istore 6, 2) := by decide +kernel
theorem dX1_putText_43 : decode cX1_putText 43 = .ok (.iload 6, 2) := by decide +kernel
theorem dX1_putText_45 : decode cX1_putText 45 = .ok (.iconst 5, 1) := by decide +kernel
theorem dX1_putText_46 : decode cX1_putText 46 = .ok (.if_icmp .lt 6, 3) := by decide +kernel
theorem dX1_putText_49 : decode cX1_putText 49 = .ok (.bipush (-3), 2) := by decide +kernel
theorem dX1_putText_51 : decode cX1_putText 51 = .ok (.ireturn, 1) := by decide +kernel
theorem dX1_putText_52 : decode cX1_putText 52 = .ok (.iload_n 1, 1) := by decide +kernel
theorem dX1_putText_53 : decode cX1_putText 53 = .ok (.iconst 5, 1) := by decide +kernel
theorem dX1_putText_54 : decode cX1_putText 54 = .ok (.imul, 1) := by decide +kernel
theorem dX1_putText_55 : decode cX1_putText 55 = .ok (.iload 6, 2) := by decide +kernel
theorem dX1_putText_57 : decode cX1_putText 57 = .ok (.iadd, 1) := by decide +kernel
theorem dX1_putText_58 : decode cX1_putText 58 = .ok (.bipush 16, 2) := by decide +kernel
theorem dX1_putText_60 : decode cX1_putText 60 = .ok (.imul, 1) := by decide +kernel
theorem dX1_putText_61 : decode cX1_putText 61 = .ok (.istore 7, 2) := by decide +kernel
theorem dX1_putText_63 : decode cX1_putText 63 = .ok (.aload_n 0, 1) := by decide +kernel
theorem dX1_putText_64 : decode cX1_putText 64 = .ok (.getfield 15, 3) := by decide +kernel
theorem dX1_putText_67 : decode cX1_putText 67 = .ok (.iload 7, 2) := by decide +kernel
theorem dX1_putText_69 : decode cX1_putText 69 = .ok (.iconst 0, 1) := by decide +kernel
theorem dX1_putText_70 : decode cX1_putText 70 = .ok (.iadd, 1) := by decide +kernel
theorem dX1_putText_71 : decode cX1_putText 71 = .ok (.iload_n 2, 1) := by decide +kernel
theorem dX1_putText_72 : decode cX1_putText 72 = .ok (.iastore, 1) := by decide +kernel
theorem dX1_putText_73 : decode cX1_putText 73 = .ok (.aload_n 0, 1) := by decide +kernel
theorem dX1_putText_74 : decode cX1_putText 74 = .ok (.getfield 15, 3) := by decide +kernel
theorem dX1_putText_77 : decode cX1_putText 77 = .ok (.iload 7, 2) := by decide +kernel
theorem dX1_putText_79 : decode cX1_putText 79 = .ok (.iconst 1, 1) := by decide +kernel
theorem dX1_putText_80 : decode cX1_putText 80 = .ok (.iadd, 1) := by decide +kernel
theorem dX1_putText_81 : decode cX1_putText 81 = .ok (.iload_n 3, 1) := by decide +kernel
theorem dX1_putText_82 : decode cX1_putText 82 = .ok (.iastore, 1) := by decide +kernel
theorem dX1_putText_83 : decode cX1_putText 83 = .ok (.aload_n 0, 1) := by decide +kernel
theorem dX1_putText_84 : decode cX1_putText 84 = .ok (.getfield 15, 3) := by decide +kernel
theorem dX1_putText_87 : decode cX1_putText 87 = .ok (.iload 7, 2) := by decide +kernel
theorem dX1_putText_89 : decode cX1_putText 89 = .ok (.iconst 2, 1) := by decide +kernel
theorem dX1_putText_90 : decode cX1_putText 90 = .ok (.iadd, 1) := by decide +kernel
theorem dX1_putText_91 : decode cX1_putText 91 = .ok (.iload 4, 2) := by decide +kernel
theorem dX1_putText_93 : decode cX1_putText 93 = .ok (.iastore, 1) := by decide +kernel
theorem dX1_putText_94 : decode cX1_putText 94 = .ok (.aload_n 0, 1) := by decide +kernel
theorem dX1_putText_95 : decode cX1_putText 95 = .ok (.getfield 15, 3) := by decide +kernel
theorem dX1_putText_98 : decode cX1_putText 98 = .ok (.iload 7, 2) := by decide +kernel
theorem dX1_putText_100 : decode cX1_putText 100 = .ok (.iconst 3, 1) := by decide +kernel
theorem dX1_putText_101 : decode cX1_putText 101 = .ok (.iadd, 1) := by decide +kernel
theorem dX1_putText_102 : decode cX1_putText 102 = .ok (.iload 5, 2) := by decide +kernel
theorem dX1_putText_104 : decode cX1_putText 104 = .ok (.iastore, 1) := by decide +kernel
theorem dX1_putText_105 : decode cX1_putText 105 = .ok (.aload_n 0, 1) := by decide +kernel
theorem dX1_putText_106 : decode cX1_putText 106 = .ok (.getfield 15, 3) := by decide +kernel
theorem dX1_putText_109 : decode cX1_putText 109 = .ok (.iload 7, 2) := by decide +kernel
theorem dX1_putText_111 : decode cX1_putText 111 = .ok (.iconst 4, 1) := by decide +kernel
theorem dX1_putText_112 : decode cX1_putText 112 = .ok (.iadd, 1) := by decide +kernel
theorem dX1_putText_113 : decode cX1_putText 113 = .ok (.iconst 4, 1) := by decide +kernel
theorem dX1_putText_114 : decode cX1_putText 114 = .ok (.iload_n 2, 1) := by decide +kernel
theorem dX1_putText_115 : decode cX1_putText 115 = .ok (.iconst 2, 1) := by decide +kernel
theorem dX1_putText_116 : decode cX1_putText 116 = .ok (.iload_n 3, 1) := by decide +kernel
theorem dX1_putText_117 : decode cX1_putText 117 = .ok (.imul, 1) := by decide +kernel
theorem dX1_putText_118 : decode cX1_putText 118 = .ok (.idiv, 1) := by decide +kernel
theorem dX1_putText_119 : decode cX1_putText 119 = .ok (.iadd, 1) := by decide +kernel
theorem dX1_putText_120 : decode cX1_putText 120 = .ok (.bipush 30, 2) := by decide +kernel
theorem dX1_putText_122 : decode cX1_putText 122 = .ok (.iload 4, 2) := by decide +kernel
theorem dX1_putText_124 : decode cX1_putText 124 = .ok (.imul, 1) := by decide +kernel
theorem dX1_putText_125 : decode cX1_putText 125 = .ok (.iload_n 2, 1) := by decide +kernel
theorem dX1_putText_126 : decode cX1_putText 126 = .ok (.idiv, 1) := by decide +kernel
theorem dX1_putText_127 : decode cX1_putText 127 = .ok (.iadd, 1) := by decide +kernel
theorem dX1_putText_128 : decode cX1_putText 128 = .ok (.iastore, 1) := by decide +kernel
theorem dX1_putText_129 : decode cX1_putText 129 = .ok (.aload_n 0, 1) := by decide +kernel
theorem dX1_putText_130 : decode cX1_putText 130 = .ok (.getfield 15, 3) := by decide +kernel
theorem dX1_putText_133 : decode cX1_putText 133 = .ok (.iload 7, 2) := by decide +kernel
theorem dX1_putText_135 : decode cX1_putText 135 = .ok (.iconst 5, 1) := by decide +kernel
theorem dX1_putText_136 : decode cX1_putText 136 = .ok (.iadd, 1) := by decide +kernel
theorem dX1_putText_137 : decode cX1_putText 137 = .ok (.iconst 0, 1) := by decide +kernel
theorem dX1_putText_138 : decode cX1_putText 138 = .ok (.iastore, 1) := by decide +kernel
theorem dX1_putText_139 : decode cX1_putText 139 = .ok (.aload_n 0, 1) := by decide +kernel
theorem dX1_putText_140 : decode cX1_putText 140 = .ok (.getfield 15, 3) := by decide +kernel
theorem dX1_putText_143 : decode cX1_putText 143 = .ok (.iload 7, 2) := by decide +kernel
theorem dX1_putText_145 : decode cX1_putText 145 = .ok (.bipush 6, 2) := by decide +kernel
theorem dX1_putText_147 : decode cX1_putText 147 = .ok (.iadd, 1) := by decide +kernel
theorem dX1_putText_148 : decode cX1_putText 148 = .ok (.iconst 0, 1) := by decide +kernel
theorem dX1_putText_149 : decode cX1_putText 149 = .ok (.iastore, 1) := by decide +kernel
theorem dX1_putText_150 : decode cX1_putText 150 = .ok (.aload_n 0, 1) := by decide +kernel
theorem dX1_putText_151 : decode cX1_putText 151 = .ok (.getfield 9, 3) := by decide +kernel
theorem dX1_putText_154 : decode cX1_putText 154 = .ok (.iload_n 1, 1) := by decide +kernel
theorem dX1_putText_155 : decode cX1_putText 155 = .ok (.iload 6, 2) := by decide +kernel
theorem dX1_putText_157 : decode cX1_putText 157 = .ok (.iconst 1, 1) := by decide +kernel
theorem dX1_putText_158 : decode cX1_putText 158 = .ok (.iadd, 1) := by decide +kernel
theorem dX1_putText_159 : decode cX1_putText 159 = .ok (.iastore, 1) := by decide +kernel
theorem dX1_putText_160 : decode cX1_putText 160 = .ok (.iload 6, 2) := by decide +kernel
theorem dX1_putText_162 : decode cX1_putText 162 = .ok (.ireturn, 1) := by decide +kernel
set_option maxRecDepth 20000 in
theorem ggX1_dropText_X1_rowOf : GoodIn wsX1_dropText wsX1_rowOf := goodIn_r _ [11, 1, 12, 13, 14, 15, 16, 17, 18, 19, 20, 21, 22, 23, 24, 25, 26] (by decide +kernel) (by decide +kernel)
set_option maxRecDepth 20000 in
theorem gX1_dropText_X1_rowOf : GoodIn wsX1_dropText (wsV RX1 65 RX1 yX1_rowOf wsX1_rowOf) := goodIn_app (goodIn_of _ (by decide +kernel)) ggX1_dropText_X1_rowOf
theorem dX1_dropText_0 : decode cX1_dropText 0 = .ok (.aload_n 0, 1) := by decide +kernel
theorem dX1_dropText_1 : decode cX1_dropText 1 = .ok (.iload_n 1, 1) := by decide +kernel
theorem dX1_dropText_2 : decode cX1_dropText 2 = .ok (.iload_n 2, 1) := by decide +kernel
theorem dX1_dropText_3 : decode cX1_dropText 3 = .ok (.invokevirtual 65, 3) := by decide +kernel
theorem dX1_dropText_6 : decode cX1_dropText 6 = .ok (.istore_n 3, 1) := by decide +kernel
theorem dX1_dropText_7 : decode cX1_dropText 7 = .ok (.iload_n 3, 1) := by decide +kernel
theorem dX1_dropText_8 : decode cX1_dropText 8 = .ok (.ifCond .ge 5, 3) := by decide +kernel
theorem dX1_dropText_11 : decode cX1_dropText 11 = .ok (.iconst (-1), 1) := by decide +kernel
theorem dX1_dropText_12 : decode cX1_dropText 12 = .ok (.ireturn, 1) := by decide +kernel
theorem dX1_dropText_13 : decode cX1_dropText 13 = .ok (.aload_n 0, 1) := by decide +kernel
theorem dX1_dropText_14 : decode cX1_dropText 14 = .ok (.getfield 9, 3) := by decide +kernel
theorem dX1_dropText_17 : decode cX1_dropText 17 = .ok (.iload_n 1, 1) := by decide +kernel
theorem dX1_dropText_18 : decode cX1_dropText 18 = .ok (.iaload, 1) := by decide +kernel
theorem dX1_dropText_19 : decode cX1_dropText 19 = .ok (.iconst 1, 1) := by decide +kernel
theorem dX1_dropText_20 : decode cX1_dropText 20 = .ok (.isub, 1) := by decide +kernel
theorem dX1_dropText_21 : decode cX1_dropText 21 = .ok (.istore 4, 2) := by decide +kernel
theorem dX1_dropText_23 : decode cX1_dropText 23 = .ok (.iload_n 2, 1) := by decide +kernel
theorem dX1_dropText_24 : decode cX1_dropText 24 = .ok (.iload 4, 2) := by decide +kernel
theorem dX1_dropText_26 : decode cX1_dropText 26 = .ok (.if_icmp .ge 26, 3) := by decide +kernel
theorem dX1_dropText_29 : decode cX1_dropText 29 = .ok (.aload_n 0, 1) := by decide +kernel
theorem dX1_dropText_30 : decode cX1_dropText 30 = .ok (.getfield 15, 3) := by decide +kernel
theorem dX1_dropText_33 : decode cX1_dropText 33 = .ok (.iload_n 3, 1) := by decide +kernel
theorem dX1_dropText_34 : decode cX1_dropText 34 = .ok (.bipush 16, 2) := by decide +kernel
theorem dX1_dropText_36 : decode cX1_dropText 36 = .ok (.iadd, 1) := by decide +kernel
theorem dX1_dropText_37 : decode cX1_dropText 37 = .ok (.aload_n 0, 1) := by decide +kernel
theorem dX1_dropText_38 : decode cX1_dropText 38 = .ok (.getfield 15, 3) := by decide +kernel
theorem dX1_dropText_41 : decode cX1_dropText 41 = .ok (.iload_n 3, 1) := by decide +kernel
theorem dX1_dropText_42 : decode cX1_dropText 42 = .ok (.iload 4, 2) := by decide +kernel
theorem dX1_dropText_44 : decode cX1_dropText 44 = .ok (.iload_n 2, 1) := by decide +kernel
theorem dX1_dropText_45 : decode cX1_dropText 45 = .ok (.isub, 1) := by decide +kernel
theorem dX1_dropText_46 : decode cX1_dropText 46 = .ok (.bipush 16, 2) := by decide +kernel
theorem dX1_dropText_48 : decode cX1_dropText 48 = .ok (.imul, 1) := by decide +kernel
theorem dX1_dropText_49 : decode cX1_dropText 49 = .ok (.invokestatic 22, 3) := by decide +kernel
theorem dX1_dropText_52 : decode cX1_dropText 52 = .ok (.aload_n 0, 1) := by decide +kernel
theorem dX1_dropText_53 : decode cX1_dropText 53 = .ok (.getfield 9, 3) := by decide +kernel
theorem dX1_dropText_56 : decode cX1_dropText 56 = .ok (.iload_n 1, 1) := by decide +kernel
theorem dX1_dropText_57 : decode cX1_dropText 57 = .ok (.iload 4, 2) := by decide +kernel
theorem dX1_dropText_59 : decode cX1_dropText 59 = .ok (.iastore, 1) := by decide +kernel
theorem dX1_dropText_60 : decode cX1_dropText 60 = .ok (.iload 4, 2) := by decide +kernel
theorem dX1_dropText_62 : decode cX1_dropText 62 = .ok (.ireturn, 1) := by decide +kernel
set_option maxRecDepth 20000 in
theorem ggX1_changeFacts_X1_rowOf : GoodIn wsX1_changeFacts wsX1_rowOf := goodIn_r _ [7, 8, 9, 10, 11, 16, 17, 18, 19, 20, 21, 22, 23, 24, 25, 26, 27] (by decide +kernel) (by decide +kernel)
set_option maxRecDepth 20000 in
theorem gX1_changeFacts_X1_rowOf : GoodIn wsX1_changeFacts (wsV RX1 65 RX1 yX1_rowOf wsX1_rowOf) := goodIn_app (goodIn_of _ (by decide +kernel)) ggX1_changeFacts_X1_rowOf
set_option maxRecDepth 20000 in
theorem ggX1_changeFacts_X1_captionFacts : GoodIn wsX1_changeFacts wsX1_captionFacts := goodIn_r _ [15, 2, 16, 17, 18, 19, 20, 21, 22, 23, 24, 25, 26, 27] (by decide +kernel) (by decide +kernel)
set_option maxRecDepth 20000 in
theorem gX1_changeFacts_X1_captionFacts : GoodIn wsX1_changeFacts (wsV RX1 69 RX1 yX1_captionFacts wsX1_captionFacts) := goodIn_app (goodIn_of _ (by decide +kernel)) ggX1_changeFacts_X1_captionFacts
theorem dX1_changeFacts_0 : decode cX1_changeFacts 0 = .ok (.aload_n 0, 1) := by decide +kernel
theorem dX1_changeFacts_1 : decode cX1_changeFacts 1 = .ok (.iload_n 1, 1) := by decide +kernel
theorem dX1_changeFacts_2 : decode cX1_changeFacts 2 = .ok (.iload_n 2, 1) := by decide +kernel
theorem dX1_changeFacts_3 : decode cX1_changeFacts 3 = .ok (.invokevirtual 65, 3) := by decide +kernel
theorem dX1_changeFacts_6 : decode cX1_changeFacts 6 = .ok (.istore 4, 2) := by decide +kernel
theorem dX1_changeFacts_8 : decode cX1_changeFacts 8 = .ok (.iload 4, 2) := by decide +kernel
theorem dX1_changeFacts_10 : decode cX1_changeFacts 10 = .ok (.ifCond .ge 5, 3) := by decide +kernel
theorem dX1_changeFacts_13 : decode cX1_changeFacts 13 = .ok (.iconst (-1), 1) := by decide +kernel
theorem dX1_changeFacts_14 : decode cX1_changeFacts 14 = .ok (.ireturn, 1) := by decide +kernel
theorem dX1_changeFacts_15 : decode cX1_changeFacts 15 = .ok (.iload_n 3, 1) := by decide +kernel
theorem dX1_changeFacts_16 : decode cX1_changeFacts 16 = .ok (.iconst 1, 1) := by decide +kernel
theorem dX1_changeFacts_17 : decode cX1_changeFacts 17 = .ok (.if_icmp .lt 9, 3) := by decide +kernel
theorem dX1_changeFacts_20 : decode cX1_changeFacts 20 = .ok (.iload_n 3, 1) := by decide +kernel
theorem dX1_changeFacts_21 : decode cX1_changeFacts 21 = .ok (.ldc 64, 2) := by decide +kernel
theorem dX1_changeFacts_23 : decode cX1_changeFacts 23 = .ok (.if_icmp .le 6, 3) := by decide +kernel
theorem dX1_changeFacts_26 : decode cX1_changeFacts 26 = .ok (.bipush (-2), 2) := by decide +kernel
theorem dX1_changeFacts_28 : decode cX1_changeFacts 28 = .ok (.ireturn, 1) := by decide +kernel
theorem dX1_changeFacts_29 : decode cX1_changeFacts 29 = .ok (.aload_n 0, 1) := by decide +kernel
theorem dX1_changeFacts_30 : decode cX1_changeFacts 30 = .ok (.iload 4, 2) := by decide +kernel
theorem dX1_changeFacts_32 : decode cX1_changeFacts 32 = .ok (.invokevirtual 69, 3) := by decide +kernel
theorem dX1_changeFacts_35 : decode cX1_changeFacts 35 = .ok (.iload_n 3, 1) := by decide +kernel
theorem dX1_changeFacts_36 : decode cX1_changeFacts 36 = .ok (.iconst (-1), 1) := by decide +kernel
theorem dX1_changeFacts_37 : decode cX1_changeFacts 37 = .ok (.ixor, 1) := by decide +kernel
theorem dX1_changeFacts_38 : decode cX1_changeFacts 38 = .ok (.iand, 1) := by decide +kernel
theorem dX1_changeFacts_39 : decode cX1_changeFacts 39 = .ok (.ifCond .eq 6, 3) := by decide +kernel
theorem dX1_changeFacts_42 : decode cX1_changeFacts 42 = .ok (.bipush (-4), 2) := by decide +kernel
theorem dX1_changeFacts_44 : decode cX1_changeFacts 44 = .ok (.ireturn, 1) := by decide +kernel
theorem dX1_changeFacts_45 : decode cX1_changeFacts 45 = .ok (.aload_n 0, 1) := by decide +kernel
theorem dX1_changeFacts_46 : decode cX1_changeFacts 46 = .ok (.getfield 15, 3) := by decide +kernel
theorem dX1_changeFacts_49 : decode cX1_changeFacts 49 = .ok (.iload 4, 2) := by decide +kernel
theorem dX1_changeFacts_51 : decode cX1_changeFacts 51 = .ok (.iconst 3, 1) := by decide +kernel
theorem dX1_changeFacts_52 : decode cX1_changeFacts 52 = .ok (.iadd, 1) := by decide +kernel
theorem dX1_changeFacts_53 : decode cX1_changeFacts 53 = .ok (.iaload, 1) := by decide +kernel
theorem dX1_changeFacts_54 : decode cX1_changeFacts 54 = .ok (.istore 5, 2) := by decide +kernel
theorem dX1_changeFacts_56 : decode cX1_changeFacts 56 = .ok (.iload 5, 2) := by decide +kernel
theorem dX1_changeFacts_58 : decode cX1_changeFacts 58 = .ok (.iload_n 3, 1) := by decide +kernel
theorem dX1_changeFacts_59 : decode cX1_changeFacts 59 = .ok (.if_icmp .ne 6, 3) := by decide +kernel
theorem dX1_changeFacts_62 : decode cX1_changeFacts 62 = .ok (.bipush (-5), 2) := by decide +kernel
theorem dX1_changeFacts_64 : decode cX1_changeFacts 64 = .ok (.ireturn, 1) := by decide +kernel
theorem dX1_changeFacts_65 : decode cX1_changeFacts 65 = .ok (.aload_n 0, 1) := by decide +kernel
theorem dX1_changeFacts_66 : decode cX1_changeFacts 66 = .ok (.getfield 15, 3) := by decide +kernel
theorem dX1_changeFacts_69 : decode cX1_changeFacts 69 = .ok (.iload 4, 2) := by decide +kernel
theorem dX1_changeFacts_71 : decode cX1_changeFacts 71 = .ok (.iconst 3, 1) := by decide +kernel
theorem dX1_changeFacts_72 : decode cX1_changeFacts 72 = .ok (.iadd, 1) := by decide +kernel
theorem dX1_changeFacts_73 : decode cX1_changeFacts 73 = .ok (.iload_n 3, 1) := by decide +kernel
theorem dX1_changeFacts_74 : decode cX1_changeFacts 74 = .ok (.iastore, 1) := by decide +kernel
theorem dX1_changeFacts_75 : decode cX1_changeFacts 75 = .ok (.iload 5, 2) := by decide +kernel
theorem dX1_changeFacts_77 : decode cX1_changeFacts 77 = .ok (.ireturn, 1) := by decide +kernel
theorem dX1_captionFacts_0 : decode cX1_captionFacts 0 = .ok (.iconst 0, 1) := by decide +kernel
theorem dX1_captionFacts_1 : decode cX1_captionFacts 1 = .ok (.istore_n 2, 1) := by decide +kernel
theorem dX1_captionFacts_2 : decode cX1_captionFacts 2 = .ok (.iconst 0, 1) := by decide +kernel
theorem dX1_captionFacts_3 : decode cX1_captionFacts 3 = .ok (.istore_n 3, 1) := by decide +kernel
theorem dX1_captionFacts_4 : decode cX1_captionFacts 4 = .ok (.iload_n 3, 1) := by decide +kernel
theorem dX1_captionFacts_5 : decode cX1_captionFacts 5 = .ok (.aload_n 0, 1) := by decide +kernel
theorem dX1_captionFacts_6 : decode cX1_captionFacts 6 = .ok (.getfield 15, 3) := by decide +kernel
theorem dX1_captionFacts_9 : decode cX1_captionFacts 9 = .ok (.iload_n 1, 1) := by decide +kernel
theorem dX1_captionFacts_10 : decode cX1_captionFacts 10 = .ok (.iconst 5, 1) := by decide +kernel
theorem dX1_captionFacts_11 : decode cX1_captionFacts 11 = .ok (.iadd, 1) := by decide +kernel
theorem dX1_captionFacts_12 : decode cX1_captionFacts 12 = .ok (.iaload, 1) := by decide +kernel
theorem dX1_captionFacts_13 : decode cX1_captionFacts 13 = .ok (.if_icmp .ge 27, 3) := by decide +kernel
theorem dX1_captionFacts_16 : decode cX1_captionFacts 16 = .ok (.iload_n 2, 1) := by decide +kernel
theorem dX1_captionFacts_17 : decode cX1_captionFacts 17 = .ok (.aload_n 0, 1) := by decide +kernel
theorem dX1_captionFacts_18 : decode cX1_captionFacts 18 = .ok (.getfield 15, 3) := by decide +kernel
theorem dX1_captionFacts_21 : decode cX1_captionFacts 21 = .ok (.iload_n 1, 1) := by decide +kernel
theorem dX1_captionFacts_22 : decode cX1_captionFacts 22 = .ok (.bipush 7, 2) := by decide +kernel
theorem dX1_captionFacts_24 : decode cX1_captionFacts 24 = .ok (.iadd, 1) := by decide +kernel
theorem dX1_captionFacts_25 : decode cX1_captionFacts 25 = .ok (.iload_n 3, 1) := by decide +kernel
theorem dX1_captionFacts_26 : decode cX1_captionFacts 26 = .ok (.iconst 3, 1) := by decide +kernel
theorem dX1_captionFacts_27 : decode cX1_captionFacts 27 = .ok (.imul, 1) := by decide +kernel
theorem dX1_captionFacts_28 : decode cX1_captionFacts 28 = .ok (.iadd, 1) := by decide +kernel
theorem dX1_captionFacts_29 : decode cX1_captionFacts 29 = .ok (.iconst 1, 1) := by decide +kernel
theorem dX1_captionFacts_30 : decode cX1_captionFacts 30 = .ok (.iadd, 1) := by decide +kernel
theorem dX1_captionFacts_31 : decode cX1_captionFacts 31 = .ok (.iaload, 1) := by decide +kernel
theorem dX1_captionFacts_32 : decode cX1_captionFacts 32 = .ok (.ior, 1) := by decide +kernel
theorem dX1_captionFacts_33 : decode cX1_captionFacts 33 = .ok (.istore_n 2, 1) := by decide +kernel
theorem dX1_captionFacts_34 : decode cX1_captionFacts 34 = .ok (.iinc 3 1, 3) := by decide +kernel
theorem dX1_captionFacts_37 : decode cX1_captionFacts 37 = .ok (.goto (-33), 3) := by decide +kernel
theorem dX1_captionFacts_40 : decode cX1_captionFacts 40 = .ok (.iload_n 2, 1) := by decide +kernel
theorem dX1_captionFacts_41 : decode cX1_captionFacts 41 = .ok (.ireturn, 1) := by decide +kernel
set_option maxRecDepth 20000 in
theorem ggX1_putCaption_X1_rowOf : GoodIn wsX1_putCaption wsX1_rowOf := goodIn_r _ [7, 8, 9, 10, 11, 12, 13, 14, 15, 16, 17, 18, 19, 20, 21, 22, 23] (by decide +kernel) (by decide +kernel)
set_option maxRecDepth 20000 in
theorem gX1_putCaption_X1_rowOf : GoodIn wsX1_putCaption (wsV RX1 65 RX1 yX1_rowOf wsX1_rowOf) := goodIn_app (goodIn_of _ (by decide +kernel)) ggX1_putCaption_X1_rowOf
theorem dX1_putCaption_0 : decode cX1_putCaption 0 = .ok (.aload_n 0, 1) := by decide +kernel
theorem dX1_putCaption_1 : decode cX1_putCaption 1 = .ok (.iload_n 1, 1) := by decide +kernel
theorem dX1_putCaption_2 : decode cX1_putCaption 2 = .ok (.iload_n 2, 1) := by decide +kernel
theorem dX1_putCaption_3 : decode cX1_putCaption 3 = .ok (.invokevirtual 65, 3) := by decide +kernel
theorem dX1_putCaption_6 : decode cX1_putCaption 6 = .ok (.istore 5, 2) := by decide +kernel
theorem dX1_putCaption_8 : decode cX1_putCaption 8 = .ok (.iload 5, 2) := by decide +kernel
theorem dX1_putCaption_10 : decode cX1_putCaption 10 = .ok (.ifCond .ge 5, 3) := by decide +kernel
theorem dX1_putCaption_13 : decode cX1_putCaption 13 = .ok (.iconst (-1), 1) := by decide +kernel
theorem dX1_putCaption_14 : decode cX1_putCaption 14 = .ok (.ireturn, 1) := by decide +kernel
theorem dX1_putCaption_15 : decode cX1_putCaption 15 = .ok (.iload_n 3, 1) := by decide +kernel
theorem dX1_putCaption_16 : decode cX1_putCaption 16 = .ok (.iconst 1, 1) := by decide +kernel
theorem dX1_putCaption_17 : decode cX1_putCaption 17 = .ok (.if_icmp .lt 21, 3) := by decide +kernel
theorem dX1_putCaption_20 : decode cX1_putCaption 20 = .ok (.iload_n 3, 1) := by decide +kernel
theorem dX1_putCaption_21 : decode cX1_putCaption 21 = .ok (.bipush 30, 2) := by decide +kernel
theorem dX1_putCaption_23 : decode cX1_putCaption 23 = .ok (.if_icmp .gt 15, 3) := by decide +kernel
theorem dX1_putCaption_26 : decode cX1_putCaption 26 = .ok (.iload 4, 2) := by decide +kernel
theorem dX1_putCaption_28 : decode cX1_putCaption 28 = .ok (.ifCond .lt 10, 3) := by decide +kernel
theorem dX1_putCaption_31 : decode cX1_putCaption 31 = .ok (.iload 4, 2) := by decide +kernel
theorem dX1_putCaption_33 : decode cX1_putCaption 33 = .ok (.ldc 64, 2) := by decide +kernel
theorem dX1_putCaption_35 : decode cX1_putCaption 35 = .ok (.if_icmp .le 6, 3) := by decide +kernel
theorem dX1_putCaption_38 : decode cX1_putCaption 38 = .ok (.bipush (-2), 2) := by decide +kernel
theorem dX1_putCaption_40 : decode cX1_putCaption 40 = .ok (.ireturn, 1) := by decide +kernel
theorem dX1_putCaption_41 : decode cX1_putCaption 41 = .ok (.iload 4, 2) := by decide +kernel
theorem dX1_putCaption_43 : decode cX1_putCaption 43 = .ok (.aload_n 0, 1) := by decide +kernel
theorem dX1_putCaption_44 : decode cX1_putCaption 44 = .ok (.getfield 15, 3) := by decide +kernel
theorem dX1_putCaption_47 : decode cX1_putCaption 47 = .ok (.iload 5, 2) := by decide +kernel
theorem dX1_putCaption_49 : decode cX1_putCaption 49 = .ok (.iconst 3, 1) := by decide +kernel
theorem dX1_putCaption_50 : decode cX1_putCaption 50 = .ok (.iadd, 1) := by decide +kernel
theorem dX1_putCaption_51 : decode cX1_putCaption 51 = .ok (.iaload, 1) := by decide +kernel
theorem dX1_putCaption_52 : decode cX1_putCaption 52 = .ok (.iconst (-1), 1) := by decide +kernel
theorem dX1_putCaption_53 : decode cX1_putCaption 53 = .ok (.ixor, 1) := by decide +kernel
theorem dX1_putCaption_54 : decode cX1_putCaption 54 = .ok (.iand, 1) := by decide +kernel
theorem dX1_putCaption_55 : decode cX1_putCaption 55 = .ok (.ifCond .eq 6, 3) := by decide +kernel
theorem dX1_putCaption_58 : decode cX1_putCaption 58 = .ok (.bipush (-4), 2) := by decide +kernel
theorem dX1_putCaption_60 : decode cX1_putCaption 60 = .ok (.ireturn, 1) := by decide +kernel
theorem dX1_putCaption_61 : decode cX1_putCaption 61 = .ok (.aload_n 0, 1) := by decide +kernel
theorem dX1_putCaption_62 : decode cX1_putCaption 62 = .ok (.getfield 15, 3) := by decide +kernel
theorem dX1_putCaption_65 : decode cX1_putCaption 65 = .ok (.iload 5, 2) := by decide +kernel
theorem dX1_putCaption_67 : decode cX1_putCaption 67 = .ok (.iconst 5, 1) := by decide +kernel
theorem dX1_putCaption_68 : decode cX1_putCaption 68 = .ok (.iadd, 1) := by decide +kernel
theorem dX1_putCaption_69 : decode cX1_putCaption 69 = .ok (.iaload, 1) := by decide +kernel
theorem dX1_putCaption_70 : decode cX1_putCaption 70 = .ok (.istore 6, 2) := by decide +kernel
theorem dX1_putCaption_72 : decode cX1_putCaption 72 = .ok (.iload 6, 2) := by decide +kernel
theorem dX1_putCaption_74 : decode cX1_putCaption 74 = .ok (.iconst 3, 1) := by decide +kernel
theorem dX1_putCaption_75 : decode cX1_putCaption 75 = .ok (.if_icmp .lt 6, 3) := by decide +kernel
theorem dX1_putCaption_78 : decode cX1_putCaption 78 = .ok (.bipush (-3), 2) := by decide +kernel
theorem dX1_putCaption_80 : decode cX1_putCaption 80 = .ok (.ireturn, 1) := by decide +kernel
theorem dX1_putCaption_81 : decode cX1_putCaption 81 = .ok (.iload 5, 2) := by decide +kernel
theorem dX1_putCaption_83 : decode cX1_putCaption 83 = .ok (.bipush 7, 2) := by decide +kernel
theorem dX1_putCaption_85 : decode cX1_putCaption 85 = .ok (.iadd, 1) := by decide +kernel
theorem dX1_putCaption_86 : decode cX1_putCaption 86 = .ok (.iload 6, 2) := by decide +kernel
theorem dX1_putCaption_88 : decode cX1_putCaption 88 = .ok (.iconst 3, 1) := by decide +kernel
theorem dX1_putCaption_89 : decode cX1_putCaption 89 = .ok (.imul, 1) := by decide +kernel
theorem dX1_putCaption_90 : decode cX1_putCaption 90 = .ok (.iadd, 1) := by decide +kernel
theorem dX1_putCaption_91 : decode cX1_putCaption 91 = .ok (.istore 7, 2) := by decide +kernel
theorem dX1_putCaption_93 : decode cX1_putCaption 93 = .ok (.aload_n 0, 1) := by decide +kernel
theorem dX1_putCaption_94 : decode cX1_putCaption 94 = .ok (.getfield 15, 3) := by decide +kernel
theorem dX1_putCaption_97 : decode cX1_putCaption 97 = .ok (.iload 7, 2) := by decide +kernel
theorem dX1_putCaption_99 : decode cX1_putCaption 99 = .ok (.iconst 0, 1) := by decide +kernel
theorem dX1_putCaption_100 : decode cX1_putCaption 100 = .ok (.iadd, 1) := by decide +kernel
theorem dX1_putCaption_101 : decode cX1_putCaption 101 = .ok (.iload_n 3, 1) := by decide +kernel
theorem dX1_putCaption_102 : decode cX1_putCaption 102 = .ok (.iastore, 1) := by decide +kernel
theorem dX1_putCaption_103 : decode cX1_putCaption 103 = .ok (.aload_n 0, 1) := by decide +kernel
theorem dX1_putCaption_104 : decode cX1_putCaption 104 = .ok (.getfield 15, 3) := by decide +kernel
theorem dX1_putCaption_107 : decode cX1_putCaption 107 = .ok (.iload 7, 2) := by decide +kernel
theorem dX1_putCaption_109 : decode cX1_putCaption 109 = .ok (.iconst 1, 1) := by decide +kernel
theorem dX1_putCaption_110 : decode cX1_putCaption 110 = .ok (.iadd, 1) := by decide +kernel
theorem dX1_putCaption_111 : decode cX1_putCaption 111 = .ok (.iload 4, 2) := by decide +kernel
theorem dX1_putCaption_113 : decode cX1_putCaption 113 = .ok (.iastore, 1) := by decide +kernel
theorem dX1_putCaption_114 : decode cX1_putCaption 114 = .ok (.aload_n 0, 1) := by decide +kernel
theorem dX1_putCaption_115 : decode cX1_putCaption 115 = .ok (.getfield 15, 3) := by decide +kernel
theorem dX1_putCaption_118 : decode cX1_putCaption 118 = .ok (.iload 7, 2) := by decide +kernel
theorem dX1_putCaption_120 : decode cX1_putCaption 120 = .ok (.iconst 2, 1) := by decide +kernel
theorem dX1_putCaption_121 : decode cX1_putCaption 121 = .ok (.iadd, 1) := by decide +kernel
theorem dX1_putCaption_122 : decode cX1_putCaption 122 = .ok (.iconst 0, 1) := by decide +kernel
theorem dX1_putCaption_123 : decode cX1_putCaption 123 = .ok (.iastore, 1) := by decide +kernel
theorem dX1_putCaption_124 : decode cX1_putCaption 124 = .ok (.aload_n 0, 1) := by decide +kernel
theorem dX1_putCaption_125 : decode cX1_putCaption 125 = .ok (.getfield 15, 3) := by decide +kernel
theorem dX1_putCaption_128 : decode cX1_putCaption 128 = .ok (.iload 5, 2) := by decide +kernel
theorem dX1_putCaption_130 : decode cX1_putCaption 130 = .ok (.iconst 5, 1) := by decide +kernel
theorem dX1_putCaption_131 : decode cX1_putCaption 131 = .ok (.iadd, 1) := by decide +kernel
theorem dX1_putCaption_132 : decode cX1_putCaption 132 = .ok (.iload 6, 2) := by decide +kernel
theorem dX1_putCaption_134 : decode cX1_putCaption 134 = .ok (.iconst 1, 1) := by decide +kernel
theorem dX1_putCaption_135 : decode cX1_putCaption 135 = .ok (.iadd, 1) := by decide +kernel
theorem dX1_putCaption_136 : decode cX1_putCaption 136 = .ok (.iastore, 1) := by decide +kernel
theorem dX1_putCaption_137 : decode cX1_putCaption 137 = .ok (.iload 6, 2) := by decide +kernel
theorem dX1_putCaption_139 : decode cX1_putCaption 139 = .ok (.ireturn, 1) := by decide +kernel
set_option maxRecDepth 20000 in
theorem ggX1_admit_X2_isAge : GoodIn wsX1_admit wsX2_isAge := goodIn_r _ [10] (by decide +kernel) (by decide +kernel)
set_option maxRecDepth 20000 in
theorem gX1_admit_X2_isAge_n73 : GoodIn wsX1_admit (wsX2_isAge) := ggX1_admit_X2_isAge
set_option maxRecDepth 20000 in
theorem ggX1_admit_X1_textFor : GoodIn wsX1_admit wsX1_textFor := goodIn_r _ [15, 16, 17, 9, 18, 19, 20, 21, 14, 22, 23, 24, 25, 26, 27, 28, 29, 30, 31, 32, 33, 34, 35] (by decide +kernel) (by decide +kernel)
set_option maxRecDepth 20000 in
theorem gX1_admit_X1_textFor : GoodIn wsX1_admit (wsV RX1 76 RX1 yX1_textFor wsX1_textFor) := goodIn_app (goodIn_of _ (by decide +kernel)) ggX1_admit_X1_textFor
theorem dX1_admit_0 : decode cX1_admit 0 = .ok (.iload_n 1, 1) := by decide +kernel
theorem dX1_admit_1 : decode cX1_admit 1 = .ok (.invokestatic 73, 3) := by decide +kernel
theorem dX1_admit_4 : decode cX1_admit 4 = .ok (.ifCond .eq 28, 3) := by decide +kernel
theorem dX1_admit_7 : decode cX1_admit 7 = .ok (.iload_n 2, 1) := by decide +kernel
theorem dX1_admit_8 : decode cX1_admit 8 = .ok (.bipush 30, 2) := by decide +kernel
theorem dX1_admit_10 : decode cX1_admit 10 = .ok (.if_icmp .lt 22, 3) := by decide +kernel
theorem dX1_admit_13 : decode cX1_admit 13 = .ok (.iload_n 2, 1) := by decide +kernel
theorem dX1_admit_14 : decode cX1_admit 14 = .ok (.sipush 400, 3) := by decide +kernel
theorem dX1_admit_17 : decode cX1_admit 17 = .ok (.if_icmp .gt 15, 3) := by decide +kernel
theorem dX1_admit_20 : decode cX1_admit 20 = .ok (.iload_n 3, 1) := by decide +kernel
theorem dX1_admit_21 : decode cX1_admit 21 = .ok (.iconst 1, 1) := by decide +kernel
theorem dX1_admit_22 : decode cX1_admit 22 = .ok (.if_icmp .lt 10, 3) := by decide +kernel
theorem dX1_admit_25 : decode cX1_admit 25 = .ok (.iload_n 3, 1) := by decide +kernel
theorem dX1_admit_26 : decode cX1_admit 26 = .ok (.sipush 9999, 3) := by decide +kernel
theorem dX1_admit_29 : decode cX1_admit 29 = .ok (.if_icmp .le 6, 3) := by decide +kernel
theorem dX1_admit_32 : decode cX1_admit 32 = .ok (.bipush (-2), 2) := by decide +kernel
theorem dX1_admit_34 : decode cX1_admit 34 = .ok (.ireturn, 1) := by decide +kernel
theorem dX1_admit_35 : decode cX1_admit 35 = .ok (.aload_n 0, 1) := by decide +kernel
theorem dX1_admit_36 : decode cX1_admit 36 = .ok (.iconst 1, 1) := by decide +kernel
theorem dX1_admit_37 : decode cX1_admit 37 = .ok (.putfield 40, 3) := by decide +kernel
theorem dX1_admit_40 : decode cX1_admit 40 = .ok (.aload_n 0, 1) := by decide +kernel
theorem dX1_admit_41 : decode cX1_admit 41 = .ok (.iload_n 1, 1) := by decide +kernel
theorem dX1_admit_42 : decode cX1_admit 42 = .ok (.putfield 44, 3) := by decide +kernel
theorem dX1_admit_45 : decode cX1_admit 45 = .ok (.aload_n 0, 1) := by decide +kernel
theorem dX1_admit_46 : decode cX1_admit 46 = .ok (.iload_n 2, 1) := by decide +kernel
theorem dX1_admit_47 : decode cX1_admit 47 = .ok (.putfield 47, 3) := by decide +kernel
theorem dX1_admit_50 : decode cX1_admit 50 = .ok (.aload_n 0, 1) := by decide +kernel
theorem dX1_admit_51 : decode cX1_admit 51 = .ok (.iload_n 3, 1) := by decide +kernel
theorem dX1_admit_52 : decode cX1_admit 52 = .ok (.putfield 50, 3) := by decide +kernel
theorem dX1_admit_55 : decode cX1_admit 55 = .ok (.aload_n 0, 1) := by decide +kernel
theorem dX1_admit_56 : decode cX1_admit 56 = .ok (.iconst 0, 1) := by decide +kernel
theorem dX1_admit_57 : decode cX1_admit 57 = .ok (.putfield 53, 3) := by decide +kernel
theorem dX1_admit_60 : decode cX1_admit 60 = .ok (.aload_n 0, 1) := by decide +kernel
theorem dX1_admit_61 : decode cX1_admit 61 = .ok (.dup, 1) := by decide +kernel
theorem dX1_admit_62 : decode cX1_admit 62 = .ok (.getfield 31, 3) := by decide +kernel
theorem dX1_admit_65 : decode cX1_admit 65 = .ok (.iconst 1, 1) := by decide +kernel
theorem dX1_admit_66 : decode cX1_admit 66 = .ok (.iadd, 1) := by decide +kernel
theorem dX1_admit_67 : decode cX1_admit 67 = .ok (.putfield 31, 3) := by decide +kernel
theorem dX1_admit_70 : decode cX1_admit 70 = .ok (.aload_n 0, 1) := by decide +kernel
theorem dX1_admit_71 : decode cX1_admit 71 = .ok (.aload_n 0, 1) := by decide +kernel
theorem dX1_admit_72 : decode cX1_admit 72 = .ok (.getfield 28, 3) := by decide +kernel
theorem dX1_admit_75 : decode cX1_admit 75 = .ok (.aload_n 0, 1) := by decide +kernel
theorem dX1_admit_76 : decode cX1_admit 76 = .ok (.getfield 44, 3) := by decide +kernel
theorem dX1_admit_79 : decode cX1_admit 79 = .ok (.invokevirtual 76, 3) := by decide +kernel
theorem dX1_admit_82 : decode cX1_admit 82 = .ok (.istore 4, 2) := by decide +kernel
theorem dX1_admit_84 : decode cX1_admit 84 = .ok (.iload 4, 2) := by decide +kernel
theorem dX1_admit_86 : decode cX1_admit 86 = .ok (.bipush (-5), 2) := by decide +kernel
theorem dX1_admit_88 : decode cX1_admit 88 = .ok (.if_icmp .ne 8, 3) := by decide +kernel
theorem dX1_admit_91 : decode cX1_admit 91 = .ok (.bipush 9, 2) := by decide +kernel
theorem dX1_admit_93 : decode cX1_admit 93 = .ok (.goto 5, 3) := by decide +kernel
theorem dX1_admit_96 : decode cX1_admit 96 = .ok (.iload 4, 2) := by decide +kernel
theorem dX1_admit_98 : decode cX1_admit 98 = .ok (.ireturn, 1) := by decide +kernel
set_option maxRecDepth 20000 in
theorem ggX1_touchCaption_X1_shownRow : GoodIn wsX1_touchCaption wsX1_shownRow := goodIn_r _ [9, 10, 11, 12, 13, 14, 15, 8, 16, 17, 18, 19, 20, 21, 22, 23, 24, 1, 25, 26, 27, 28, 54, 55, 56, 57, 58, 59, 60, 61, 62, 63, 64, 65] (by decide +kernel) (by decide +kernel)
set_option maxRecDepth 20000 in
theorem gX1_touchCaption_X1_shownRow : GoodIn wsX1_touchCaption (wsV RX1 79 RX1 yX1_shownRow wsX1_shownRow) := goodIn_app (goodIn_of _ (by decide +kernel)) ggX1_touchCaption_X1_shownRow
set_option maxRecDepth 20000 in
theorem ggX1_touchCaption_X1_captionOf : GoodIn wsX1_touchCaption wsX1_captionOf := goodIn_r _ [32, 1, 54, 55, 56, 57, 58, 59, 60, 61, 62, 63, 64, 65] (by decide +kernel) (by decide +kernel)
set_option maxRecDepth 20000 in
theorem gX1_touchCaption_X1_captionOf : GoodIn wsX1_touchCaption (wsV RX1 83 RX1 yX1_captionOf wsX1_captionOf) := goodIn_app (goodIn_of _ (by decide +kernel)) ggX1_touchCaption_X1_captionOf
set_option maxRecDepth 20000 in
theorem ggX1_touchCaption_X1_timeFor : GoodIn wsX1_touchCaption wsX1_timeFor := goodIn_r _ [36, 37, 38, 39, 40, 41, 54, 55, 56, 57, 58, 59, 60, 61, 62, 63, 64, 65] (by decide +kernel) (by decide +kernel)
set_option maxRecDepth 20000 in
theorem gX1_touchCaption_X1_timeFor : GoodIn wsX1_touchCaption (wsV RX1 86 RX1 yX1_timeFor wsX1_timeFor) := goodIn_app (goodIn_of _ (by decide +kernel)) ggX1_touchCaption_X1_timeFor
set_option maxRecDepth 20000 in
theorem ggX1_touchCaption_X1_readShown : GoodIn wsX1_touchCaption wsX1_readShown := goodIn_r _ [45, 1, 2, 3, 46, 5, 6, 7, 8, 9, 10, 11, 12, 13, 14, 15, 16, 17, 18, 19, 20, 21, 22, 23, 24, 25, 26, 27, 28, 33, 34, 35, 36, 37, 38, 39, 40, 41, 54, 55, 56, 57, 58, 59, 60, 61, 62, 63, 64, 65] (by decide +kernel) (by decide +kernel)
set_option maxRecDepth 20000 in
theorem gX1_touchCaption_X1_readShown : GoodIn wsX1_touchCaption (wsV RX1 89 RX1 yX1_readShown wsX1_readShown) := goodIn_app (goodIn_of _ (by decide +kernel)) ggX1_touchCaption_X1_readShown
set_option maxRecDepth 20000 in
theorem ggX1_touchCaption_J6_bitCount_0f7a4 : GoodIn wsX1_touchCaption wsJ6_bitCount_0f7a4 := goodIn_r _ [50, 51, 52, 53] (by decide +kernel) (by decide +kernel)
set_option maxRecDepth 20000 in
theorem gX1_touchCaption_J6_bitCount_0f7a4 : GoodIn wsX1_touchCaption (va_wsS RX1 93 yJ6_bitCount_0f7a4 wsJ6_bitCount_0f7a4) := goodIn_app (goodIn_of _ (by decide +kernel)) ggX1_touchCaption_J6_bitCount_0f7a4
theorem dX1_touchCaption_0 : decode cX1_touchCaption 0 = .ok (.aload_n 0, 1) := by decide +kernel
theorem dX1_touchCaption_1 : decode cX1_touchCaption 1 = .ok (.invokevirtual 79, 3) := by decide +kernel
theorem dX1_touchCaption_4 : decode cX1_touchCaption 4 = .ok (.istore_n 2, 1) := by decide +kernel
theorem dX1_touchCaption_5 : decode cX1_touchCaption 5 = .ok (.iload_n 2, 1) := by decide +kernel
theorem dX1_touchCaption_6 : decode cX1_touchCaption 6 = .ok (.ifCond .ge 6, 3) := by decide +kernel
theorem dX1_touchCaption_9 : decode cX1_touchCaption 9 = .ok (.bipush (-4), 2) := by decide +kernel
theorem dX1_touchCaption_11 : decode cX1_touchCaption 11 = .ok (.ireturn, 1) := by decide +kernel
theorem dX1_touchCaption_12 : decode cX1_touchCaption 12 = .ok (.aload_n 0, 1) := by decide +kernel
theorem dX1_touchCaption_13 : decode cX1_touchCaption 13 = .ok (.iload_n 2, 1) := by decide +kernel
theorem dX1_touchCaption_14 : decode cX1_touchCaption 14 = .ok (.iload_n 1, 1) := by decide +kernel
theorem dX1_touchCaption_15 : decode cX1_touchCaption 15 = .ok (.invokevirtual 83, 3) := by decide +kernel
theorem dX1_touchCaption_18 : decode cX1_touchCaption 18 = .ok (.istore_n 3, 1) := by decide +kernel
theorem dX1_touchCaption_19 : decode cX1_touchCaption 19 = .ok (.iload_n 3, 1) := by decide +kernel
theorem dX1_touchCaption_20 : decode cX1_touchCaption 20 = .ok (.ifCond .ge 5, 3) := by decide +kernel
theorem dX1_touchCaption_23 : decode cX1_touchCaption 23 = .ok (.iconst (-1), 1) := by decide +kernel
theorem dX1_touchCaption_24 : decode cX1_touchCaption 24 = .ok (.ireturn, 1) := by decide +kernel
theorem dX1_touchCaption_25 : decode cX1_touchCaption 25 = .ok (.aload_n 0, 1) := by decide +kernel
theorem dX1_touchCaption_26 : decode cX1_touchCaption 26 = .ok (.aload_n 0, 1) := by decide +kernel
theorem dX1_touchCaption_27 : decode cX1_touchCaption 27 = .ok (.getfield 15, 3) := by decide +kernel
theorem dX1_touchCaption_30 : decode cX1_touchCaption 30 = .ok (.iload_n 3, 1) := by decide +kernel
theorem dX1_touchCaption_31 : decode cX1_touchCaption 31 = .ok (.iconst 0, 1) := by decide +kernel
theorem dX1_touchCaption_32 : decode cX1_touchCaption 32 = .ok (.iadd, 1) := by decide +kernel
theorem dX1_touchCaption_33 : decode cX1_touchCaption 33 = .ok (.iaload, 1) := by decide +kernel
theorem dX1_touchCaption_34 : decode cX1_touchCaption 34 = .ok (.invokevirtual 86, 3) := by decide +kernel
theorem dX1_touchCaption_37 : decode cX1_touchCaption 37 = .ok (.istore 4, 2) := by decide +kernel
theorem dX1_touchCaption_39 : decode cX1_touchCaption 39 = .ok (.iload 4, 2) := by decide +kernel
theorem dX1_touchCaption_41 : decode cX1_touchCaption 41 = .ok (.aload_n 0, 1) := by decide +kernel
theorem dX1_touchCaption_42 : decode cX1_touchCaption 42 = .ok (.getfield 50, 3) := by decide +kernel
theorem dX1_touchCaption_45 : decode cX1_touchCaption 45 = .ok (.if_icmp .le 6, 3) := by decide +kernel
theorem dX1_touchCaption_48 : decode cX1_touchCaption 48 = .ok (.bipush (-5), 2) := by decide +kernel
theorem dX1_touchCaption_50 : decode cX1_touchCaption 50 = .ok (.ireturn, 1) := by decide +kernel
theorem dX1_touchCaption_51 : decode cX1_touchCaption 51 = .ok (.aload_n 0, 1) := by decide +kernel
theorem dX1_touchCaption_52 : decode cX1_touchCaption 52 = .ok (.getfield 53, 3) := by decide +kernel
theorem dX1_touchCaption_55 : decode cX1_touchCaption 55 = .ok (.istore 5, 2) := by decide +kernel
theorem dX1_touchCaption_57 : decode cX1_touchCaption 57 = .ok (.aload_n 0, 1) := by decide +kernel
theorem dX1_touchCaption_58 : decode cX1_touchCaption 58 = .ok (.dup, 1) := by decide +kernel
theorem dX1_touchCaption_59 : decode cX1_touchCaption 59 = .ok (.getfield 50, 3) := by decide +kernel
theorem dX1_touchCaption_62 : decode cX1_touchCaption 62 = .ok (.iload 4, 2) := by decide +kernel
theorem dX1_touchCaption_64 : decode cX1_touchCaption 64 = .ok (.isub, 1) := by decide +kernel
theorem dX1_touchCaption_65 : decode cX1_touchCaption 65 = .ok (.putfield 50, 3) := by decide +kernel
theorem dX1_touchCaption_68 : decode cX1_touchCaption 68 = .ok (.aload_n 0, 1) := by decide +kernel
theorem dX1_touchCaption_69 : decode cX1_touchCaption 69 = .ok (.dup, 1) := by decide +kernel
theorem dX1_touchCaption_70 : decode cX1_touchCaption 70 = .ok (.getfield 53, 3) := by decide +kernel
theorem dX1_touchCaption_73 : decode cX1_touchCaption 73 = .ok (.aload_n 0, 1) := by decide +kernel
theorem dX1_touchCaption_74 : decode cX1_touchCaption 74 = .ok (.getfield 15, 3) := by decide +kernel
theorem dX1_touchCaption_77 : decode cX1_touchCaption 77 = .ok (.iload_n 3, 1) := by decide +kernel
theorem dX1_touchCaption_78 : decode cX1_touchCaption 78 = .ok (.iconst 1, 1) := by decide +kernel
theorem dX1_touchCaption_79 : decode cX1_touchCaption 79 = .ok (.iadd, 1) := by decide +kernel
theorem dX1_touchCaption_80 : decode cX1_touchCaption 80 = .ok (.iaload, 1) := by decide +kernel
theorem dX1_touchCaption_81 : decode cX1_touchCaption 81 = .ok (.ior, 1) := by decide +kernel
theorem dX1_touchCaption_82 : decode cX1_touchCaption 82 = .ok (.putfield 53, 3) := by decide +kernel
theorem dX1_touchCaption_85 : decode cX1_touchCaption 85 = .ok (.aload_n 0, 1) := by decide +kernel
theorem dX1_touchCaption_86 : decode cX1_touchCaption 86 = .ok (.getfield 15, 3) := by decide +kernel
theorem dX1_touchCaption_89 : decode cX1_touchCaption 89 = .ok (.iload_n 3, 1) := by decide +kernel
theorem dX1_touchCaption_90 : decode cX1_touchCaption 90 = .ok (.iconst 2, 1) := by decide +kernel
theorem dX1_touchCaption_91 : decode cX1_touchCaption 91 = .ok (.iadd, 1) := by decide +kernel
theorem dX1_touchCaption_92 : decode cX1_touchCaption 92 = .ok (.dup2, 1) := by decide +kernel
theorem dX1_touchCaption_93 : decode cX1_touchCaption 93 = .ok (.iaload, 1) := by decide +kernel
theorem dX1_touchCaption_94 : decode cX1_touchCaption 94 = .ok (.iconst 1, 1) := by decide +kernel
theorem dX1_touchCaption_95 : decode cX1_touchCaption 95 = .ok (.iadd, 1) := by decide +kernel
theorem dX1_touchCaption_96 : decode cX1_touchCaption 96 = .ok (.iastore, 1) := by decide +kernel
theorem dX1_touchCaption_97 : decode cX1_touchCaption 97 = .ok (.aload_n 0, 1) := by decide +kernel
theorem dX1_touchCaption_98 : decode cX1_touchCaption 98 = .ok (.dup, 1) := by decide +kernel
theorem dX1_touchCaption_99 : decode cX1_touchCaption 99 = .ok (.getfield 37, 3) := by decide +kernel
theorem dX1_touchCaption_102 : decode cX1_touchCaption 102 = .ok (.iconst 1, 1) := by decide +kernel
theorem dX1_touchCaption_103 : decode cX1_touchCaption 103 = .ok (.iadd, 1) := by decide +kernel
theorem dX1_touchCaption_104 : decode cX1_touchCaption 104 = .ok (.putfield 37, 3) := by decide +kernel
theorem dX1_touchCaption_107 : decode cX1_touchCaption 107 = .ok (.aload_n 0, 1) := by decide +kernel
theorem dX1_touchCaption_108 : decode cX1_touchCaption 108 = .ok (.invokevirtual 89, 3) := by decide +kernel
theorem dX1_touchCaption_111 : decode cX1_touchCaption 111 = .ok (.pop, 1) := by decide +kernel
theorem dX1_touchCaption_112 : decode cX1_touchCaption 112 = .ok (.aload_n 0, 1) := by decide +kernel
theorem dX1_touchCaption_113 : decode cX1_touchCaption 113 = .ok (.getfield 53, 3) := by decide +kernel
theorem dX1_touchCaption_116 : decode cX1_touchCaption 116 = .ok (.iload 5, 2) := by decide +kernel
theorem dX1_touchCaption_118 : decode cX1_touchCaption 118 = .ok (.iconst (-1), 1) := by decide +kernel
theorem dX1_touchCaption_119 : decode cX1_touchCaption 119 = .ok (.ixor, 1) := by decide +kernel
theorem dX1_touchCaption_120 : decode cX1_touchCaption 120 = .ok (.iand, 1) := by decide +kernel
theorem dX1_touchCaption_121 : decode cX1_touchCaption 121 = .ok (.invokestatic 93, 3) := by decide +kernel
theorem dX1_touchCaption_124 : decode cX1_touchCaption 124 = .ok (.ireturn, 1) := by decide +kernel
set_option maxRecDepth 20000 in
theorem ggX1_readUntouched_X1_shownRow : GoodIn wsX1_readUntouched wsX1_shownRow := goodIn_r _ [7, 8, 9, 10, 11, 12, 13, 6, 14, 15, 16, 17, 18, 19, 20, 21, 22, 1, 23, 24, 25, 26, 49, 50, 51, 52, 53, 54, 55, 56, 57, 58, 59, 60] (by decide +kernel) (by decide +kernel)
set_option maxRecDepth 20000 in
theorem gX1_readUntouched_X1_shownRow : GoodIn wsX1_readUntouched (wsV RX1 79 RX1 yX1_shownRow wsX1_shownRow) := goodIn_app (goodIn_of _ (by decide +kernel)) ggX1_readUntouched_X1_shownRow
set_option maxRecDepth 20000 in
theorem ggX1_readUntouched_X1_readShown : GoodIn wsX1_readUntouched wsX1_readShown := goodIn_r _ [30, 1, 31, 2, 32, 3, 4, 5, 6, 7, 8, 9, 10, 11, 12, 13, 14, 15, 16, 17, 18, 19, 20, 21, 22, 23, 24, 25, 26, 33, 34, 35, 36, 37, 38, 39, 40, 41, 49, 50, 51, 52, 53, 54, 55, 56, 57, 58, 59, 60] (by decide +kernel) (by decide +kernel)
set_option maxRecDepth 20000 in
theorem gX1_readUntouched_X1_readShown : GoodIn wsX1_readUntouched (wsV RX1 89 RX1 yX1_readShown wsX1_readShown) := goodIn_app (goodIn_of _ (by decide +kernel)) ggX1_readUntouched_X1_readShown
set_option maxRecDepth 20000 in
theorem ggX1_readUntouched_J6_bitCount_0f7a4 : GoodIn wsX1_readUntouched wsJ6_bitCount_0f7a4 := goodIn_r _ [45, 46, 47, 48] (by decide +kernel) (by decide +kernel)
set_option maxRecDepth 20000 in
theorem gX1_readUntouched_J6_bitCount_0f7a4 : GoodIn wsX1_readUntouched (va_wsS RX1 93 yJ6_bitCount_0f7a4 wsJ6_bitCount_0f7a4) := goodIn_app (goodIn_of _ (by decide +kernel)) ggX1_readUntouched_J6_bitCount_0f7a4
theorem dX1_readUntouched_0 : decode cX1_readUntouched 0 = .ok (.aload_n 0, 1) := by decide +kernel
theorem dX1_readUntouched_1 : decode cX1_readUntouched 1 = .ok (.invokevirtual 79, 3) := by decide +kernel
theorem dX1_readUntouched_4 : decode cX1_readUntouched 4 = .ok (.istore_n 1, 1) := by decide +kernel
theorem dX1_readUntouched_5 : decode cX1_readUntouched 5 = .ok (.iload_n 1, 1) := by decide +kernel
theorem dX1_readUntouched_6 : decode cX1_readUntouched 6 = .ok (.ifCond .lt 14, 3) := by decide +kernel
theorem dX1_readUntouched_9 : decode cX1_readUntouched 9 = .ok (.aload_n 0, 1) := by decide +kernel
theorem dX1_readUntouched_10 : decode cX1_readUntouched 10 = .ok (.getfield 15, 3) := by decide +kernel
theorem dX1_readUntouched_13 : decode cX1_readUntouched 13 = .ok (.iload_n 1, 1) := by decide +kernel
theorem dX1_readUntouched_14 : decode cX1_readUntouched 14 = .ok (.iconst 5, 1) := by decide +kernel
theorem dX1_readUntouched_15 : decode cX1_readUntouched 15 = .ok (.iadd, 1) := by decide +kernel
theorem dX1_readUntouched_16 : decode cX1_readUntouched 16 = .ok (.iaload, 1) := by decide +kernel
theorem dX1_readUntouched_17 : decode cX1_readUntouched 17 = .ok (.ifCond .le 6, 3) := by decide +kernel
theorem dX1_readUntouched_20 : decode cX1_readUntouched 20 = .ok (.bipush (-4), 2) := by decide +kernel
theorem dX1_readUntouched_22 : decode cX1_readUntouched 22 = .ok (.ireturn, 1) := by decide +kernel
theorem dX1_readUntouched_23 : decode cX1_readUntouched 23 = .ok (.aload_n 0, 1) := by decide +kernel
theorem dX1_readUntouched_24 : decode cX1_readUntouched 24 = .ok (.getfield 53, 3) := by decide +kernel
theorem dX1_readUntouched_27 : decode cX1_readUntouched 27 = .ok (.istore_n 2, 1) := by decide +kernel
theorem dX1_readUntouched_28 : decode cX1_readUntouched 28 = .ok (.aload_n 0, 1) := by decide +kernel
theorem dX1_readUntouched_29 : decode cX1_readUntouched 29 = .ok (.invokevirtual 89, 3) := by decide +kernel
theorem dX1_readUntouched_32 : decode cX1_readUntouched 32 = .ok (.ifCond .ne 6, 3) := by decide +kernel
theorem dX1_readUntouched_35 : decode cX1_readUntouched 35 = .ok (.bipush (-5), 2) := by decide +kernel
theorem dX1_readUntouched_37 : decode cX1_readUntouched 37 = .ok (.ireturn, 1) := by decide +kernel
theorem dX1_readUntouched_38 : decode cX1_readUntouched 38 = .ok (.aload_n 0, 1) := by decide +kernel
theorem dX1_readUntouched_39 : decode cX1_readUntouched 39 = .ok (.getfield 53, 3) := by decide +kernel
theorem dX1_readUntouched_42 : decode cX1_readUntouched 42 = .ok (.iload_n 2, 1) := by decide +kernel
theorem dX1_readUntouched_43 : decode cX1_readUntouched 43 = .ok (.iconst (-1), 1) := by decide +kernel
theorem dX1_readUntouched_44 : decode cX1_readUntouched 44 = .ok (.ixor, 1) := by decide +kernel
theorem dX1_readUntouched_45 : decode cX1_readUntouched 45 = .ok (.iand, 1) := by decide +kernel
theorem dX1_readUntouched_46 : decode cX1_readUntouched 46 = .ok (.invokestatic 93, 3) := by decide +kernel
theorem dX1_readUntouched_49 : decode cX1_readUntouched 49 = .ok (.ireturn, 1) := by decide +kernel
set_option maxRecDepth 20000 in
theorem ggX1_readShown_X1_shownRow : GoodIn wsX1_readShown wsX1_shownRow := goodIn_r _ [9, 10, 11, 12, 13, 14, 15, 8, 16, 17, 18, 19, 20, 21, 22, 23, 24, 1, 25, 26, 27, 28, 38, 39, 40, 41, 42, 43, 44, 45, 46, 47, 48, 49] (by decide +kernel) (by decide +kernel)
set_option maxRecDepth 20000 in
theorem gX1_readShown_X1_shownRow : GoodIn wsX1_readShown (wsV RX1 79 RX1 yX1_shownRow wsX1_shownRow) := goodIn_app (goodIn_of _ (by decide +kernel)) ggX1_readShown_X1_shownRow
set_option maxRecDepth 20000 in
theorem ggX1_readShown_X1_timeFor : GoodIn wsX1_readShown wsX1_timeFor := goodIn_r _ [32, 33, 34, 35, 36, 37, 38, 39, 40, 41, 42, 43, 44, 45, 46, 47, 48, 49] (by decide +kernel) (by decide +kernel)
set_option maxRecDepth 20000 in
theorem gX1_readShown_X1_timeFor : GoodIn wsX1_readShown (wsV RX1 86 RX1 yX1_timeFor wsX1_timeFor) := goodIn_app (goodIn_of _ (by decide +kernel)) ggX1_readShown_X1_timeFor
theorem dX1_readShown_0 : decode cX1_readShown 0 = .ok (.aload_n 0, 1) := by decide +kernel
theorem dX1_readShown_1 : decode cX1_readShown 1 = .ok (.invokevirtual 79, 3) := by decide +kernel
theorem dX1_readShown_4 : decode cX1_readShown 4 = .ok (.istore_n 1, 1) := by decide +kernel
theorem dX1_readShown_5 : decode cX1_readShown 5 = .ok (.iload_n 1, 1) := by decide +kernel
theorem dX1_readShown_6 : decode cX1_readShown 6 = .ok (.ifCond .ge 5, 3) := by decide +kernel
theorem dX1_readShown_9 : decode cX1_readShown 9 = .ok (.iconst 0, 1) := by decide +kernel
theorem dX1_readShown_10 : decode cX1_readShown 10 = .ok (.ireturn, 1) := by decide +kernel
theorem dX1_readShown_11 : decode cX1_readShown 11 = .ok (.aload_n 0, 1) := by decide +kernel
theorem dX1_readShown_12 : decode cX1_readShown 12 = .ok (.aload_n 0, 1) := by decide +kernel
theorem dX1_readShown_13 : decode cX1_readShown 13 = .ok (.getfield 15, 3) := by decide +kernel
theorem dX1_readShown_16 : decode cX1_readShown 16 = .ok (.iload_n 1, 1) := by decide +kernel
theorem dX1_readShown_17 : decode cX1_readShown 17 = .ok (.iconst 0, 1) := by decide +kernel
theorem dX1_readShown_18 : decode cX1_readShown 18 = .ok (.iadd, 1) := by decide +kernel
theorem dX1_readShown_19 : decode cX1_readShown 19 = .ok (.iaload, 1) := by decide +kernel
theorem dX1_readShown_20 : decode cX1_readShown 20 = .ok (.invokevirtual 86, 3) := by decide +kernel
theorem dX1_readShown_23 : decode cX1_readShown 23 = .ok (.istore_n 2, 1) := by decide +kernel
theorem dX1_readShown_24 : decode cX1_readShown 24 = .ok (.iload_n 2, 1) := by decide +kernel
theorem dX1_readShown_25 : decode cX1_readShown 25 = .ok (.aload_n 0, 1) := by decide +kernel
theorem dX1_readShown_26 : decode cX1_readShown 26 = .ok (.getfield 50, 3) := by decide +kernel
theorem dX1_readShown_29 : decode cX1_readShown 29 = .ok (.if_icmp .gt 21, 3) := by decide +kernel
theorem dX1_readShown_32 : decode cX1_readShown 32 = .ok (.aload_n 0, 1) := by decide +kernel
theorem dX1_readShown_33 : decode cX1_readShown 33 = .ok (.getfield 15, 3) := by decide +kernel
theorem dX1_readShown_36 : decode cX1_readShown 36 = .ok (.iload_n 1, 1) := by decide +kernel
theorem dX1_readShown_37 : decode cX1_readShown 37 = .ok (.iconst 3, 1) := by decide +kernel
theorem dX1_readShown_38 : decode cX1_readShown 38 = .ok (.iadd, 1) := by decide +kernel
theorem dX1_readShown_39 : decode cX1_readShown 39 = .ok (.iaload, 1) := by decide +kernel
theorem dX1_readShown_40 : decode cX1_readShown 40 = .ok (.aload_n 0, 1) := by decide +kernel
theorem dX1_readShown_41 : decode cX1_readShown 41 = .ok (.getfield 53, 3) := by decide +kernel
theorem dX1_readShown_44 : decode cX1_readShown 44 = .ok (.iconst (-1), 1) := by decide +kernel
theorem dX1_readShown_45 : decode cX1_readShown 45 = .ok (.ixor, 1) := by decide +kernel
theorem dX1_readShown_46 : decode cX1_readShown 46 = .ok (.iand, 1) := by decide +kernel
theorem dX1_readShown_47 : decode cX1_readShown 47 = .ok (.ifCond .ne 5, 3) := by decide +kernel
theorem dX1_readShown_50 : decode cX1_readShown 50 = .ok (.iconst 0, 1) := by decide +kernel
theorem dX1_readShown_51 : decode cX1_readShown 51 = .ok (.ireturn, 1) := by decide +kernel
theorem dX1_readShown_52 : decode cX1_readShown 52 = .ok (.aload_n 0, 1) := by decide +kernel
theorem dX1_readShown_53 : decode cX1_readShown 53 = .ok (.dup, 1) := by decide +kernel
theorem dX1_readShown_54 : decode cX1_readShown 54 = .ok (.getfield 50, 3) := by decide +kernel
theorem dX1_readShown_57 : decode cX1_readShown 57 = .ok (.iload_n 2, 1) := by decide +kernel
theorem dX1_readShown_58 : decode cX1_readShown 58 = .ok (.isub, 1) := by decide +kernel
theorem dX1_readShown_59 : decode cX1_readShown 59 = .ok (.putfield 50, 3) := by decide +kernel
theorem dX1_readShown_62 : decode cX1_readShown 62 = .ok (.aload_n 0, 1) := by decide +kernel
theorem dX1_readShown_63 : decode cX1_readShown 63 = .ok (.dup, 1) := by decide +kernel
theorem dX1_readShown_64 : decode cX1_readShown 64 = .ok (.getfield 53, 3) := by decide +kernel
theorem dX1_readShown_67 : decode cX1_readShown 67 = .ok (.aload_n 0, 1) := by decide +kernel
theorem dX1_readShown_68 : decode cX1_readShown 68 = .ok (.getfield 15, 3) := by decide +kernel
theorem dX1_readShown_71 : decode cX1_readShown 71 = .ok (.iload_n 1, 1) := by decide +kernel
theorem dX1_readShown_72 : decode cX1_readShown 72 = .ok (.iconst 3, 1) := by decide +kernel
theorem dX1_readShown_73 : decode cX1_readShown 73 = .ok (.iadd, 1) := by decide +kernel
theorem dX1_readShown_74 : decode cX1_readShown 74 = .ok (.iaload, 1) := by decide +kernel
theorem dX1_readShown_75 : decode cX1_readShown 75 = .ok (.ior, 1) := by decide +kernel
theorem dX1_readShown_76 : decode cX1_readShown 76 = .ok (.putfield 53, 3) := by decide +kernel
theorem dX1_readShown_79 : decode cX1_readShown 79 = .ok (.aload_n 0, 1) := by decide +kernel
theorem dX1_readShown_80 : decode cX1_readShown 80 = .ok (.getfield 15, 3) := by decide +kernel
theorem dX1_readShown_83 : decode cX1_readShown 83 = .ok (.iload_n 1, 1) := by decide +kernel
theorem dX1_readShown_84 : decode cX1_readShown 84 = .ok (.bipush 6, 2) := by decide +kernel
theorem dX1_readShown_86 : decode cX1_readShown 86 = .ok (.iadd, 1) := by decide +kernel
theorem dX1_readShown_87 : decode cX1_readShown 87 = .ok (.dup2, 1) := by decide +kernel
theorem dX1_readShown_88 : decode cX1_readShown 88 = .ok (.iaload, 1) := by decide +kernel
theorem dX1_readShown_89 : decode cX1_readShown 89 = .ok (.iconst 1, 1) := by decide +kernel
theorem dX1_readShown_90 : decode cX1_readShown 90 = .ok (.iadd, 1) := by decide +kernel
theorem dX1_readShown_91 : decode cX1_readShown 91 = .ok (.iastore, 1) := by decide +kernel
theorem dX1_readShown_92 : decode cX1_readShown 92 = .ok (.aload_n 0, 1) := by decide +kernel
theorem dX1_readShown_93 : decode cX1_readShown 93 = .ok (.dup, 1) := by decide +kernel
theorem dX1_readShown_94 : decode cX1_readShown 94 = .ok (.getfield 34, 3) := by decide +kernel
theorem dX1_readShown_97 : decode cX1_readShown 97 = .ok (.iconst 1, 1) := by decide +kernel
theorem dX1_readShown_98 : decode cX1_readShown 98 = .ok (.iadd, 1) := by decide +kernel
theorem dX1_readShown_99 : decode cX1_readShown 99 = .ok (.putfield 34, 3) := by decide +kernel
theorem dX1_readShown_102 : decode cX1_readShown 102 = .ok (.iconst 1, 1) := by decide +kernel
theorem dX1_readShown_103 : decode cX1_readShown 103 = .ok (.ireturn, 1) := by decide +kernel
set_option maxRecDepth 20000 in
theorem ggX1_turnRing_J9_floorMod_7cf53 : GoodIn wsX1_turnRing wsJ9_floorMod_7cf53 := goodIn_r _ [11] (by decide +kernel) (by decide +kernel)
set_option maxRecDepth 20000 in
theorem gX1_turnRing_J9_floorMod_7cf53 : GoodIn wsX1_turnRing (va_wsS RX1 98 yJ9_floorMod_7cf53 wsJ9_floorMod_7cf53) := goodIn_app (goodIn_of _ (by decide +kernel)) ggX1_turnRing_J9_floorMod_7cf53
theorem dX1_turnRing_0 : decode cX1_turnRing 0 = .ok (.aload_n 0, 1) := by decide +kernel
theorem dX1_turnRing_1 : decode cX1_turnRing 1 = .ok (.iload_n 1, 1) := by decide +kernel
theorem dX1_turnRing_2 : decode cX1_turnRing 2 = .ok (.ifCond .eq 12, 3) := by decide +kernel
theorem dX1_turnRing_5 : decode cX1_turnRing 5 = .ok (.aload_n 0, 1) := by decide +kernel
theorem dX1_turnRing_6 : decode cX1_turnRing 6 = .ok (.getfield 28, 3) := by decide +kernel
theorem dX1_turnRing_9 : decode cX1_turnRing 9 = .ok (.iconst 1, 1) := by decide +kernel
theorem dX1_turnRing_10 : decode cX1_turnRing 10 = .ok (.iadd, 1) := by decide +kernel
theorem dX1_turnRing_11 : decode cX1_turnRing 11 = .ok (.goto 9, 3) := by decide +kernel
theorem dX1_turnRing_14 : decode cX1_turnRing 14 = .ok (.aload_n 0, 1) := by decide +kernel
theorem dX1_turnRing_15 : decode cX1_turnRing 15 = .ok (.getfield 28, 3) := by decide +kernel
theorem dX1_turnRing_18 : decode cX1_turnRing 18 = .ok (.iconst 1, 1) := by decide +kernel
theorem dX1_turnRing_19 : decode cX1_turnRing 19 = .ok (.isub, 1) := by decide +kernel
theorem dX1_turnRing_20 : decode cX1_turnRing 20 = .ok (.bipush 8, 2) := by decide +kernel
theorem dX1_turnRing_22 : decode cX1_turnRing 22 = .ok (.invokestatic 98, 3) := by decide +kernel
theorem dX1_turnRing_25 : decode cX1_turnRing 25 = .ok (.putfield 28, 3) := by decide +kernel
theorem dX1_turnRing_28 : decode cX1_turnRing 28 = .ok (.aload_n 0, 1) := by decide +kernel
theorem dX1_turnRing_29 : decode cX1_turnRing 29 = .ok (.aload_n 0, 1) := by decide +kernel
theorem dX1_turnRing_30 : decode cX1_turnRing 30 = .ok (.getfield 50, 3) := by decide +kernel
theorem dX1_turnRing_33 : decode cX1_turnRing 33 = .ok (.aload_n 0, 1) := by decide +kernel
theorem dX1_turnRing_34 : decode cX1_turnRing 34 = .ok (.getfield 18, 3) := by decide +kernel
theorem dX1_turnRing_37 : decode cX1_turnRing 37 = .ok (.isub, 1) := by decide +kernel
theorem dX1_turnRing_38 : decode cX1_turnRing 38 = .ok (.iconst 0, 1) := by decide +kernel
theorem dX1_turnRing_39 : decode cX1_turnRing 39 = .ok (.invokestatic 103, 3) := by decide +kernel
theorem dX1_turnRing_42 : decode cX1_turnRing 42 = .ok (.putfield 50, 3) := by decide +kernel
theorem dX1_turnRing_45 : decode cX1_turnRing 45 = .ok (.aload_n 0, 1) := by decide +kernel
theorem dX1_turnRing_46 : decode cX1_turnRing 46 = .ok (.getfield 28, 3) := by decide +kernel
theorem dX1_turnRing_49 : decode cX1_turnRing 49 = .ok (.ireturn, 1) := by decide +kernel
theorem dX1_changeTurning_0 : decode cX1_changeTurning 0 = .ok (.iload_n 1, 1) := by decide +kernel
theorem dX1_changeTurning_1 : decode cX1_changeTurning 1 = .ok (.ifCond .lt 9, 3) := by decide +kernel
theorem dX1_changeTurning_4 : decode cX1_changeTurning 4 = .ok (.iload_n 1, 1) := by decide +kernel
theorem dX1_changeTurning_5 : decode cX1_changeTurning 5 = .ok (.bipush 60, 2) := by decide +kernel
theorem dX1_changeTurning_7 : decode cX1_changeTurning 7 = .ok (.if_icmp .le 6, 3) := by decide +kernel
theorem dX1_changeTurning_10 : decode cX1_changeTurning 10 = .ok (.bipush (-2), 2) := by decide +kernel
theorem dX1_changeTurning_12 : decode cX1_changeTurning 12 = .ok (.ireturn, 1) := by decide +kernel
theorem dX1_changeTurning_13 : decode cX1_changeTurning 13 = .ok (.iload_n 1, 1) := by decide +kernel
theorem dX1_changeTurning_14 : decode cX1_changeTurning 14 = .ok (.aload_n 0, 1) := by decide +kernel
theorem dX1_changeTurning_15 : decode cX1_changeTurning 15 = .ok (.getfield 18, 3) := by decide +kernel
theorem dX1_changeTurning_18 : decode cX1_changeTurning 18 = .ok (.if_icmp .ne 6, 3) := by decide +kernel
theorem dX1_changeTurning_21 : decode cX1_changeTurning 21 = .ok (.bipush (-5), 2) := by decide +kernel
theorem dX1_changeTurning_23 : decode cX1_changeTurning 23 = .ok (.ireturn, 1) := by decide +kernel
theorem dX1_changeTurning_24 : decode cX1_changeTurning 24 = .ok (.aload_n 0, 1) := by decide +kernel
theorem dX1_changeTurning_25 : decode cX1_changeTurning 25 = .ok (.getfield 18, 3) := by decide +kernel
theorem dX1_changeTurning_28 : decode cX1_changeTurning 28 = .ok (.istore_n 2, 1) := by decide +kernel
theorem dX1_changeTurning_29 : decode cX1_changeTurning 29 = .ok (.aload_n 0, 1) := by decide +kernel
theorem dX1_changeTurning_30 : decode cX1_changeTurning 30 = .ok (.iload_n 1, 1) := by decide +kernel
theorem dX1_changeTurning_31 : decode cX1_changeTurning 31 = .ok (.putfield 18, 3) := by decide +kernel
theorem dX1_changeTurning_34 : decode cX1_changeTurning 34 = .ok (.iload_n 2, 1) := by decide +kernel
theorem dX1_changeTurning_35 : decode cX1_changeTurning 35 = .ok (.ireturn, 1) := by decide +kernel
set_option maxRecDepth 20000 in
theorem ggX1_shownRow_X1_textFor : GoodIn wsX1_shownRow wsX1_textFor := goodIn_r _ [8, 9, 10, 11, 12, 13, 14, 15, 7, 16, 17, 22, 23, 24, 25, 26, 27, 28, 29, 30, 31, 32, 33] (by decide +kernel) (by decide +kernel)
set_option maxRecDepth 20000 in
theorem gX1_shownRow_X1_textFor : GoodIn wsX1_shownRow (wsV RX1 76 RX1 yX1_textFor wsX1_textFor) := goodIn_app (goodIn_of _ (by decide +kernel)) ggX1_shownRow_X1_textFor
set_option maxRecDepth 20000 in
theorem ggX1_shownRow_X1_rowOf : GoodIn wsX1_shownRow wsX1_rowOf := goodIn_r _ [21, 9, 10, 11, 12, 22, 23, 24, 25, 26, 27, 28, 29, 30, 31, 32, 33] (by decide +kernel) (by decide +kernel)
set_option maxRecDepth 20000 in
theorem gX1_shownRow_X1_rowOf : GoodIn wsX1_shownRow (wsV RX1 65 RX1 yX1_rowOf wsX1_rowOf) := goodIn_app (goodIn_of _ (by decide +kernel)) ggX1_shownRow_X1_rowOf
theorem dX1_shownRow_0 : decode cX1_shownRow 0 = .ok (.aload_n 0, 1) := by decide +kernel
theorem dX1_shownRow_1 : decode cX1_shownRow 1 = .ok (.getfield 40, 3) := by decide +kernel
theorem dX1_shownRow_4 : decode cX1_shownRow 4 = .ok (.ifCond .ne 6, 3) := by decide +kernel
theorem dX1_shownRow_7 : decode cX1_shownRow 7 = .ok (.bipush (-5), 2) := by decide +kernel
theorem dX1_shownRow_9 : decode cX1_shownRow 9 = .ok (.ireturn, 1) := by decide +kernel
theorem dX1_shownRow_10 : decode cX1_shownRow 10 = .ok (.aload_n 0, 1) := by decide +kernel
theorem dX1_shownRow_11 : decode cX1_shownRow 11 = .ok (.aload_n 0, 1) := by decide +kernel
theorem dX1_shownRow_12 : decode cX1_shownRow 12 = .ok (.getfield 28, 3) := by decide +kernel
theorem dX1_shownRow_15 : decode cX1_shownRow 15 = .ok (.aload_n 0, 1) := by decide +kernel
theorem dX1_shownRow_16 : decode cX1_shownRow 16 = .ok (.getfield 44, 3) := by decide +kernel
theorem dX1_shownRow_19 : decode cX1_shownRow 19 = .ok (.invokevirtual 76, 3) := by decide +kernel
theorem dX1_shownRow_22 : decode cX1_shownRow 22 = .ok (.istore_n 1, 1) := by decide +kernel
theorem dX1_shownRow_23 : decode cX1_shownRow 23 = .ok (.iload_n 1, 1) := by decide +kernel
theorem dX1_shownRow_24 : decode cX1_shownRow 24 = .ok (.bipush (-5), 2) := by decide +kernel
theorem dX1_shownRow_26 : decode cX1_shownRow 26 = .ok (.if_icmp .ne 8, 3) := by decide +kernel
theorem dX1_shownRow_29 : decode cX1_shownRow 29 = .ok (.bipush (-5), 2) := by decide +kernel
theorem dX1_shownRow_31 : decode cX1_shownRow 31 = .ok (.goto 12, 3) := by decide +kernel
theorem dX1_shownRow_34 : decode cX1_shownRow 34 = .ok (.aload_n 0, 1) := by decide +kernel
theorem dX1_shownRow_35 : decode cX1_shownRow 35 = .ok (.aload_n 0, 1) := by decide +kernel
theorem dX1_shownRow_36 : decode cX1_shownRow 36 = .ok (.getfield 28, 3) := by decide +kernel
theorem dX1_shownRow_39 : decode cX1_shownRow 39 = .ok (.iload_n 1, 1) := by decide +kernel
theorem dX1_shownRow_40 : decode cX1_shownRow 40 = .ok (.invokevirtual 65, 3) := by decide +kernel
theorem dX1_shownRow_43 : decode cX1_shownRow 43 = .ok (.ireturn, 1) := by decide +kernel
theorem dX1_timeFor_0 : decode cX1_timeFor 0 = .ok (.aload_n 0, 1) := by decide +kernel
theorem dX1_timeFor_1 : decode cX1_timeFor 1 = .ok (.getfield 47, 3) := by decide +kernel
theorem dX1_timeFor_4 : decode cX1_timeFor 4 = .ok (.bipush 30, 2) := by decide +kernel
theorem dX1_timeFor_6 : decode cX1_timeFor 6 = .ok (.invokestatic 103, 3) := by decide +kernel
theorem dX1_timeFor_9 : decode cX1_timeFor 9 = .ok (.istore_n 2, 1) := by decide +kernel
theorem dX1_timeFor_10 : decode cX1_timeFor 10 = .ok (.bipush 60, 2) := by decide +kernel
theorem dX1_timeFor_12 : decode cX1_timeFor 12 = .ok (.iload_n 1, 1) := by decide +kernel
theorem dX1_timeFor_13 : decode cX1_timeFor 13 = .ok (.imul, 1) := by decide +kernel
theorem dX1_timeFor_14 : decode cX1_timeFor 14 = .ok (.iload_n 2, 1) := by decide +kernel
theorem dX1_timeFor_15 : decode cX1_timeFor 15 = .ok (.iadd, 1) := by decide +kernel
theorem dX1_timeFor_16 : decode cX1_timeFor 16 = .ok (.iconst 1, 1) := by decide +kernel
theorem dX1_timeFor_17 : decode cX1_timeFor 17 = .ok (.isub, 1) := by decide +kernel
theorem dX1_timeFor_18 : decode cX1_timeFor 18 = .ok (.iload_n 2, 1) := by decide +kernel
theorem dX1_timeFor_19 : decode cX1_timeFor 19 = .ok (.idiv, 1) := by decide +kernel
theorem dX1_timeFor_20 : decode cX1_timeFor 20 = .ok (.ireturn, 1) := by decide +kernel
set_option maxRecDepth 20000 in
theorem ggX1_textFor_X2_isExhibit : GoodIn wsX1_textFor wsX2_isExhibit := goodIn_r _ [4] (by decide +kernel) (by decide +kernel)
set_option maxRecDepth 20000 in
theorem gX1_textFor_X2_isExhibit_n56 : GoodIn wsX1_textFor (wsX2_isExhibit) := ggX1_textFor_X2_isExhibit
set_option maxRecDepth 20000 in
theorem ggX1_textFor_X1_fitsBetter : GoodIn wsX1_textFor wsX1_fitsBetter := goodIn_r _ [9, 10, 11, 12, 13, 14, 15, 16, 17, 18, 19, 20, 21, 22] (by decide +kernel) (by decide +kernel)
set_option maxRecDepth 20000 in
theorem gX1_textFor_X1_fitsBetter : GoodIn wsX1_textFor (wsV RX1 106 RX1 yX1_fitsBetter wsX1_fitsBetter) := goodIn_app (goodIn_of _ (by decide +kernel)) ggX1_textFor_X1_fitsBetter
theorem dX1_textFor_0 : decode cX1_textFor 0 = .ok (.iload_n 1, 1) := by decide +kernel
theorem dX1_textFor_1 : decode cX1_textFor 1 = .ok (.invokestatic 56, 3) := by decide +kernel
theorem dX1_textFor_4 : decode cX1_textFor 4 = .ok (.ifCond .eq 12, 3) := by decide +kernel
theorem dX1_textFor_7 : decode cX1_textFor 7 = .ok (.aload_n 0, 1) := by decide +kernel
theorem dX1_textFor_8 : decode cX1_textFor 8 = .ok (.getfield 9, 3) := by decide +kernel
theorem dX1_textFor_11 : decode cX1_textFor 11 = .ok (.iload_n 1, 1) := by decide +kernel
theorem dX1_textFor_12 : decode cX1_textFor 12 = .ok (.iaload, 1) := by decide +kernel
theorem dX1_textFor_13 : decode cX1_textFor 13 = .ok (.ifCond .ne 6, 3) := by decide +kernel
theorem dX1_textFor_16 : decode cX1_textFor 16 = .ok (.bipush (-5), 2) := by decide +kernel
theorem dX1_textFor_18 : decode cX1_textFor 18 = .ok (.ireturn, 1) := by decide +kernel
theorem dX1_textFor_19 : decode cX1_textFor 19 = .ok (.iload_n 1, 1) := by decide +kernel
theorem dX1_textFor_20 : decode cX1_textFor 20 = .ok (.iconst 5, 1) := by decide +kernel
theorem dX1_textFor_21 : decode cX1_textFor 21 = .ok (.imul, 1) := by decide +kernel
theorem dX1_textFor_22 : decode cX1_textFor 22 = .ok (.bipush 16, 2) := by decide +kernel
theorem dX1_textFor_24 : decode cX1_textFor 24 = .ok (.imul, 1) := by decide +kernel
theorem dX1_textFor_25 : decode cX1_textFor 25 = .ok (.istore_n 3, 1) := by decide +kernel
theorem dX1_textFor_26 : decode cX1_textFor 26 = .ok (.iconst 0, 1) := by decide +kernel
theorem dX1_textFor_27 : decode cX1_textFor 27 = .ok (.istore 4, 2) := by decide +kernel
theorem dX1_textFor_29 : decode cX1_textFor 29 = .ok (.iconst 1, 1) := by decide +kernel
theorem dX1_textFor_30 : decode cX1_textFor 30 = .ok (.istore 5, 2) := by decide +kernel
theorem dX1_textFor_32 : decode cX1_textFor 32 = .ok (.iload 5, 2) := by decide +kernel
theorem dX1_textFor_34 : decode cX1_textFor 34 = .ok (.aload_n 0, 1) := by decide +kernel
theorem dX1_textFor_35 : decode cX1_textFor 35 = .ok (.getfield 9, 3) := by decide +kernel
theorem dX1_textFor_38 : decode cX1_textFor 38 = .ok (.iload_n 1, 1) := by decide +kernel
theorem dX1_textFor_39 : decode cX1_textFor 39 = .ok (.iaload, 1) := by decide +kernel
theorem dX1_textFor_40 : decode cX1_textFor 40 = .ok (.if_icmp .ge 35, 3) := by decide +kernel
theorem dX1_textFor_43 : decode cX1_textFor 43 = .ok (.aload_n 0, 1) := by decide +kernel
theorem dX1_textFor_44 : decode cX1_textFor 44 = .ok (.iload_n 3, 1) := by decide +kernel
theorem dX1_textFor_45 : decode cX1_textFor 45 = .ok (.iload 5, 2) := by decide +kernel
theorem dX1_textFor_47 : decode cX1_textFor 47 = .ok (.bipush 16, 2) := by decide +kernel
theorem dX1_textFor_49 : decode cX1_textFor 49 = .ok (.imul, 1) := by decide +kernel
theorem dX1_textFor_50 : decode cX1_textFor 50 = .ok (.iadd, 1) := by decide +kernel
theorem dX1_textFor_51 : decode cX1_textFor 51 = .ok (.iload_n 3, 1) := by decide +kernel
theorem dX1_textFor_52 : decode cX1_textFor 52 = .ok (.iload 4, 2) := by decide +kernel
theorem dX1_textFor_54 : decode cX1_textFor 54 = .ok (.bipush 16, 2) := by decide +kernel
theorem dX1_textFor_56 : decode cX1_textFor 56 = .ok (.imul, 1) := by decide +kernel
theorem dX1_textFor_57 : decode cX1_textFor 57 = .ok (.iadd, 1) := by decide +kernel
theorem dX1_textFor_58 : decode cX1_textFor 58 = .ok (.iload_n 2, 1) := by decide +kernel
theorem dX1_textFor_59 : decode cX1_textFor 59 = .ok (.invokevirtual 106, 3) := by decide +kernel
theorem dX1_textFor_62 : decode cX1_textFor 62 = .ok (.ifCond .eq 7, 3) := by decide +kernel
theorem dX1_textFor_65 : decode cX1_textFor 65 = .ok (.iload 5, 2) := by decide +kernel
theorem dX1_textFor_67 : decode cX1_textFor 67 = .ok (.istore 4, 2) := by decide +kernel
theorem dX1_textFor_69 : decode cX1_textFor 69 = .ok (.iinc 5 1, 3) := by decide +kernel
theorem dX1_textFor_72 : decode cX1_textFor 72 = .ok (.goto (-40), 3) := by decide +kernel
theorem dX1_textFor_75 : decode cX1_textFor 75 = .ok (.iload 4, 2) := by decide +kernel
theorem dX1_textFor_77 : decode cX1_textFor 77 = .ok (.ireturn, 1) := by decide +kernel
theorem dX1_fitsBetter_0 : decode cX1_fitsBetter 0 = .ok (.aload_n 0, 1) := by decide +kernel
theorem dX1_fitsBetter_1 : decode cX1_fitsBetter 1 = .ok (.getfield 15, 3) := by decide +kernel
theorem dX1_fitsBetter_4 : decode cX1_fitsBetter 4 = .ok (.iload_n 1, 1) := by decide +kernel
theorem dX1_fitsBetter_5 : decode cX1_fitsBetter 5 = .ok (.iconst 4, 1) := by decide +kernel
theorem dX1_fitsBetter_6 : decode cX1_fitsBetter 6 = .ok (.iadd, 1) := by decide +kernel
theorem dX1_fitsBetter_7 : decode cX1_fitsBetter 7 = .ok (.iaload, 1) := by decide +kernel
theorem dX1_fitsBetter_8 : decode cX1_fitsBetter 8 = .ok (.istore 4, 2) := by decide +kernel
theorem dX1_fitsBetter_10 : decode cX1_fitsBetter 10 = .ok (.aload_n 0, 1) := by decide +kernel
theorem dX1_fitsBetter_11 : decode cX1_fitsBetter 11 = .ok (.getfield 15, 3) := by decide +kernel
theorem dX1_fitsBetter_14 : decode cX1_fitsBetter 14 = .ok (.iload_n 2, 1) := by decide +kernel
theorem dX1_fitsBetter_15 : decode cX1_fitsBetter 15 = .ok (.iconst 4, 1) := by decide +kernel
theorem dX1_fitsBetter_16 : decode cX1_fitsBetter 16 = .ok (.iadd, 1) := by decide +kernel
theorem dX1_fitsBetter_17 : decode cX1_fitsBetter 17 = .ok (.iaload, 1) := by decide +kernel
theorem dX1_fitsBetter_18 : decode cX1_fitsBetter 18 = .ok (.istore 5, 2) := by decide +kernel
theorem dX1_fitsBetter_20 : decode cX1_fitsBetter 20 = .ok (.iload 4, 2) := by decide +kernel
theorem dX1_fitsBetter_22 : decode cX1_fitsBetter 22 = .ok (.iload_n 3, 1) := by decide +kernel
theorem dX1_fitsBetter_23 : decode cX1_fitsBetter 23 = .ok (.if_icmp .gt 9, 3) := by decide +kernel
theorem dX1_fitsBetter_26 : decode cX1_fitsBetter 26 = .ok (.iload 5, 2) := by decide +kernel
theorem dX1_fitsBetter_28 : decode cX1_fitsBetter 28 = .ok (.iload_n 3, 1) := by decide +kernel
theorem dX1_fitsBetter_29 : decode cX1_fitsBetter 29 = .ok (.if_icmp .le 16, 3) := by decide +kernel
theorem dX1_fitsBetter_32 : decode cX1_fitsBetter 32 = .ok (.iload 4, 2) := by decide +kernel
theorem dX1_fitsBetter_34 : decode cX1_fitsBetter 34 = .ok (.iload 5, 2) := by decide +kernel
theorem dX1_fitsBetter_36 : decode cX1_fitsBetter 36 = .ok (.if_icmp .ge 7, 3) := by decide +kernel
theorem dX1_fitsBetter_39 : decode cX1_fitsBetter 39 = .ok (.iconst 1, 1) := by decide +kernel
theorem dX1_fitsBetter_40 : decode cX1_fitsBetter 40 = .ok (.goto 4, 3) := by decide +kernel
theorem dX1_fitsBetter_43 : decode cX1_fitsBetter 43 = .ok (.iconst 0, 1) := by decide +kernel
theorem dX1_fitsBetter_44 : decode cX1_fitsBetter 44 = .ok (.ireturn, 1) := by decide +kernel
theorem dX1_fitsBetter_45 : decode cX1_fitsBetter 45 = .ok (.iload 4, 2) := by decide +kernel
theorem dX1_fitsBetter_47 : decode cX1_fitsBetter 47 = .ok (.iload 5, 2) := by decide +kernel
theorem dX1_fitsBetter_49 : decode cX1_fitsBetter 49 = .ok (.if_icmp .eq 16, 3) := by decide +kernel
theorem dX1_fitsBetter_52 : decode cX1_fitsBetter 52 = .ok (.iload 4, 2) := by decide +kernel
theorem dX1_fitsBetter_54 : decode cX1_fitsBetter 54 = .ok (.iload 5, 2) := by decide +kernel
theorem dX1_fitsBetter_56 : decode cX1_fitsBetter 56 = .ok (.if_icmp .le 7, 3) := by decide +kernel
theorem dX1_fitsBetter_59 : decode cX1_fitsBetter 59 = .ok (.iconst 1, 1) := by decide +kernel
theorem dX1_fitsBetter_60 : decode cX1_fitsBetter 60 = .ok (.goto 4, 3) := by decide +kernel
theorem dX1_fitsBetter_63 : decode cX1_fitsBetter 63 = .ok (.iconst 0, 1) := by decide +kernel
theorem dX1_fitsBetter_64 : decode cX1_fitsBetter 64 = .ok (.ireturn, 1) := by decide +kernel
theorem dX1_fitsBetter_65 : decode cX1_fitsBetter 65 = .ok (.aload_n 0, 1) := by decide +kernel
theorem dX1_fitsBetter_66 : decode cX1_fitsBetter 66 = .ok (.getfield 15, 3) := by decide +kernel
theorem dX1_fitsBetter_69 : decode cX1_fitsBetter 69 = .ok (.iload_n 1, 1) := by decide +kernel
theorem dX1_fitsBetter_70 : decode cX1_fitsBetter 70 = .ok (.iconst 0, 1) := by decide +kernel
theorem dX1_fitsBetter_71 : decode cX1_fitsBetter 71 = .ok (.iadd, 1) := by decide +kernel
theorem dX1_fitsBetter_72 : decode cX1_fitsBetter 72 = .ok (.iaload, 1) := by decide +kernel
theorem dX1_fitsBetter_73 : decode cX1_fitsBetter 73 = .ok (.aload_n 0, 1) := by decide +kernel
theorem dX1_fitsBetter_74 : decode cX1_fitsBetter 74 = .ok (.getfield 15, 3) := by decide +kernel
theorem dX1_fitsBetter_77 : decode cX1_fitsBetter 77 = .ok (.iload_n 2, 1) := by decide +kernel
theorem dX1_fitsBetter_78 : decode cX1_fitsBetter 78 = .ok (.iconst 0, 1) := by decide +kernel
theorem dX1_fitsBetter_79 : decode cX1_fitsBetter 79 = .ok (.iadd, 1) := by decide +kernel
theorem dX1_fitsBetter_80 : decode cX1_fitsBetter 80 = .ok (.iaload, 1) := by decide +kernel
theorem dX1_fitsBetter_81 : decode cX1_fitsBetter 81 = .ok (.if_icmp .ge 7, 3) := by decide +kernel
theorem dX1_fitsBetter_84 : decode cX1_fitsBetter 84 = .ok (.iconst 1, 1) := by decide +kernel
theorem dX1_fitsBetter_85 : decode cX1_fitsBetter 85 = .ok (.goto 4, 3) := by decide +kernel
theorem dX1_fitsBetter_88 : decode cX1_fitsBetter 88 = .ok (.iconst 0, 1) := by decide +kernel
theorem dX1_fitsBetter_89 : decode cX1_fitsBetter 89 = .ok (.ireturn, 1) := by decide +kernel
set_option maxRecDepth 20000 in
theorem ggX1_factsFor_X1_textFor : GoodIn wsX1_factsFor wsX1_textFor := goodIn_r _ [6, 7, 8, 9, 10, 11, 12, 13, 5, 14, 1, 19, 20, 21, 22, 23, 24, 25, 26, 27, 28, 29, 30] (by decide +kernel) (by decide +kernel)
set_option maxRecDepth 20000 in
theorem gX1_factsFor_X1_textFor : GoodIn wsX1_factsFor (wsV RX1 76 RX1 yX1_textFor wsX1_textFor) := goodIn_app (goodIn_of _ (by decide +kernel)) ggX1_factsFor_X1_textFor
set_option maxRecDepth 20000 in
theorem ggX1_factsFor_X1_rowOf : GoodIn wsX1_factsFor wsX1_rowOf := goodIn_r _ [18, 7, 8, 9, 10, 19, 20, 21, 22, 23, 24, 25, 26, 27, 28, 29, 30] (by decide +kernel) (by decide +kernel)
set_option maxRecDepth 20000 in
theorem gX1_factsFor_X1_rowOf : GoodIn wsX1_factsFor (wsV RX1 65 RX1 yX1_rowOf wsX1_rowOf) := goodIn_app (goodIn_of _ (by decide +kernel)) ggX1_factsFor_X1_rowOf
theorem dX1_factsFor_0 : decode cX1_factsFor 0 = .ok (.iconst 0, 1) := by decide +kernel
theorem dX1_factsFor_1 : decode cX1_factsFor 1 = .ok (.istore_n 2, 1) := by decide +kernel
theorem dX1_factsFor_2 : decode cX1_factsFor 2 = .ok (.iconst 0, 1) := by decide +kernel
theorem dX1_factsFor_3 : decode cX1_factsFor 3 = .ok (.istore_n 3, 1) := by decide +kernel
theorem dX1_factsFor_4 : decode cX1_factsFor 4 = .ok (.iload_n 3, 1) := by decide +kernel
theorem dX1_factsFor_5 : decode cX1_factsFor 5 = .ok (.bipush 8, 2) := by decide +kernel
theorem dX1_factsFor_7 : decode cX1_factsFor 7 = .ok (.if_icmp .ge 39, 3) := by decide +kernel
theorem dX1_factsFor_10 : decode cX1_factsFor 10 = .ok (.aload_n 0, 1) := by decide +kernel
theorem dX1_factsFor_11 : decode cX1_factsFor 11 = .ok (.iload_n 3, 1) := by decide +kernel
theorem dX1_factsFor_12 : decode cX1_factsFor 12 = .ok (.aload_n 0, 1) := by decide +kernel
theorem dX1_factsFor_13 : decode cX1_factsFor 13 = .ok (.iload_n 3, 1) := by decide +kernel
theorem dX1_factsFor_14 : decode cX1_factsFor 14 = .ok (.iload_n 1, 1) := by decide +kernel
theorem dX1_factsFor_15 : decode cX1_factsFor 15 = .ok (.invokevirtual 76, 3) := by decide +kernel
theorem dX1_factsFor_18 : decode cX1_factsFor 18 = .ok (.invokevirtual 65, 3) := by decide +kernel
theorem dX1_factsFor_21 : decode cX1_factsFor 21 = .ok (.istore 4, 2) := by decide +kernel
theorem dX1_factsFor_23 : decode cX1_factsFor 23 = .ok (.iload 4, 2) := by decide +kernel
theorem dX1_factsFor_25 : decode cX1_factsFor 25 = .ok (.ifCond .lt 15, 3) := by decide +kernel
theorem dX1_factsFor_28 : decode cX1_factsFor 28 = .ok (.iload_n 2, 1) := by decide +kernel
theorem dX1_factsFor_29 : decode cX1_factsFor 29 = .ok (.aload_n 0, 1) := by decide +kernel
theorem dX1_factsFor_30 : decode cX1_factsFor 30 = .ok (.getfield 15, 3) := by decide +kernel
theorem dX1_factsFor_33 : decode cX1_factsFor 33 = .ok (.iload 4, 2) := by decide +kernel
theorem dX1_factsFor_35 : decode cX1_factsFor 35 = .ok (.iconst 3, 1) := by decide +kernel
theorem dX1_factsFor_36 : decode cX1_factsFor 36 = .ok (.iadd, 1) := by decide +kernel
theorem dX1_factsFor_37 : decode cX1_factsFor 37 = .ok (.iaload, 1) := by decide +kernel
theorem dX1_factsFor_38 : decode cX1_factsFor 38 = .ok (.ior, 1) := by decide +kernel
theorem dX1_factsFor_39 : decode cX1_factsFor 39 = .ok (.istore_n 2, 1) := by decide +kernel
theorem dX1_factsFor_40 : decode cX1_factsFor 40 = .ok (.iinc 3 1, 3) := by decide +kernel
theorem dX1_factsFor_43 : decode cX1_factsFor 43 = .ok (.goto (-39), 3) := by decide +kernel
theorem dX1_factsFor_46 : decode cX1_factsFor 46 = .ok (.iload_n 2, 1) := by decide +kernel
theorem dX1_factsFor_47 : decode cX1_factsFor 47 = .ok (.ireturn, 1) := by decide +kernel
theorem dX1_allFacts_0 : decode cX1_allFacts 0 = .ok (.iconst 0, 1) := by decide +kernel
theorem dX1_allFacts_1 : decode cX1_allFacts 1 = .ok (.istore_n 1, 1) := by decide +kernel
theorem dX1_allFacts_2 : decode cX1_allFacts 2 = .ok (.iconst 0, 1) := by decide +kernel
theorem dX1_allFacts_3 : decode cX1_allFacts 3 = .ok (.istore_n 2, 1) := by decide +kernel
theorem dX1_allFacts_4 : decode cX1_allFacts 4 = .ok (.iload_n 2, 1) := by decide +kernel
theorem dX1_allFacts_5 : decode cX1_allFacts 5 = .ok (.bipush 8, 2) := by decide +kernel
theorem dX1_allFacts_7 : decode cX1_allFacts 7 = .ok (.if_icmp .ge 45, 3) := by decide +kernel
theorem dX1_allFacts_10 : decode cX1_allFacts 10 = .ok (.iconst 0, 1) := by decide +kernel
theorem dX1_allFacts_11 : decode cX1_allFacts 11 = .ok (.istore_n 3, 1) := by decide +kernel
theorem dX1_allFacts_12 : decode cX1_allFacts 12 = .ok (.iload_n 3, 1) := by decide +kernel
theorem dX1_allFacts_13 : decode cX1_allFacts 13 = .ok (.aload_n 0, 1) := by decide +kernel
theorem dX1_allFacts_14 : decode cX1_allFacts 14 = .ok (.getfield 9, 3) := by decide +kernel
theorem dX1_allFacts_17 : decode cX1_allFacts 17 = .ok (.iload_n 2, 1) := by decide +kernel
theorem dX1_allFacts_18 : decode cX1_allFacts 18 = .ok (.iaload, 1) := by decide +kernel
theorem dX1_allFacts_19 : decode cX1_allFacts 19 = .ok (.if_icmp .ge 27, 3) := by decide +kernel
theorem dX1_allFacts_22 : decode cX1_allFacts 22 = .ok (.iload_n 1, 1) := by decide +kernel
theorem dX1_allFacts_23 : decode cX1_allFacts 23 = .ok (.aload_n 0, 1) := by decide +kernel
theorem dX1_allFacts_24 : decode cX1_allFacts 24 = .ok (.getfield 15, 3) := by decide +kernel
theorem dX1_allFacts_27 : decode cX1_allFacts 27 = .ok (.iload_n 2, 1) := by decide +kernel
theorem dX1_allFacts_28 : decode cX1_allFacts 28 = .ok (.iconst 5, 1) := by decide +kernel
theorem dX1_allFacts_29 : decode cX1_allFacts 29 = .ok (.imul, 1) := by decide +kernel
theorem dX1_allFacts_30 : decode cX1_allFacts 30 = .ok (.iload_n 3, 1) := by decide +kernel
theorem dX1_allFacts_31 : decode cX1_allFacts 31 = .ok (.iadd, 1) := by decide +kernel
theorem dX1_allFacts_32 : decode cX1_allFacts 32 = .ok (.bipush 16, 2) := by decide +kernel
theorem dX1_allFacts_34 : decode cX1_allFacts 34 = .ok (.imul, 1) := by decide +kernel
theorem dX1_allFacts_35 : decode cX1_allFacts 35 = .ok (.iconst 3, 1) := by decide +kernel
theorem dX1_allFacts_36 : decode cX1_allFacts 36 = .ok (.iadd, 1) := by decide +kernel
theorem dX1_allFacts_37 : decode cX1_allFacts 37 = .ok (.iaload, 1) := by decide +kernel
theorem dX1_allFacts_38 : decode cX1_allFacts 38 = .ok (.ior, 1) := by decide +kernel
theorem dX1_allFacts_39 : decode cX1_allFacts 39 = .ok (.istore_n 1, 1) := by decide +kernel
theorem dX1_allFacts_40 : decode cX1_allFacts 40 = .ok (.iinc 3 1, 3) := by decide +kernel
theorem dX1_allFacts_43 : decode cX1_allFacts 43 = .ok (.goto (-31), 3) := by decide +kernel
theorem dX1_allFacts_46 : decode cX1_allFacts 46 = .ok (.iinc 2 1, 3) := by decide +kernel
theorem dX1_allFacts_49 : decode cX1_allFacts 49 = .ok (.goto (-45), 3) := by decide +kernel
theorem dX1_allFacts_52 : decode cX1_allFacts 52 = .ok (.iload_n 1, 1) := by decide +kernel
theorem dX1_allFacts_53 : decode cX1_allFacts 53 = .ok (.ireturn, 1) := by decide +kernel
theorem dX1_countTexts_0 : decode cX1_countTexts 0 = .ok (.iconst 0, 1) := by decide +kernel
theorem dX1_countTexts_1 : decode cX1_countTexts 1 = .ok (.istore_n 1, 1) := by decide +kernel
theorem dX1_countTexts_2 : decode cX1_countTexts 2 = .ok (.iconst 0, 1) := by decide +kernel
theorem dX1_countTexts_3 : decode cX1_countTexts 3 = .ok (.istore_n 2, 1) := by decide +kernel
theorem dX1_countTexts_4 : decode cX1_countTexts 4 = .ok (.iload_n 2, 1) := by decide +kernel
theorem dX1_countTexts_5 : decode cX1_countTexts 5 = .ok (.bipush 8, 2) := by decide +kernel
theorem dX1_countTexts_7 : decode cX1_countTexts 7 = .ok (.if_icmp .ge 18, 3) := by decide +kernel
theorem dX1_countTexts_10 : decode cX1_countTexts 10 = .ok (.iload_n 1, 1) := by decide +kernel
theorem dX1_countTexts_11 : decode cX1_countTexts 11 = .ok (.aload_n 0, 1) := by decide +kernel
theorem dX1_countTexts_12 : decode cX1_countTexts 12 = .ok (.getfield 9, 3) := by decide +kernel
theorem dX1_countTexts_15 : decode cX1_countTexts 15 = .ok (.iload_n 2, 1) := by decide +kernel
theorem dX1_countTexts_16 : decode cX1_countTexts 16 = .ok (.iaload, 1) := by decide +kernel
theorem dX1_countTexts_17 : decode cX1_countTexts 17 = .ok (.iadd, 1) := by decide +kernel
theorem dX1_countTexts_18 : decode cX1_countTexts 18 = .ok (.istore_n 1, 1) := by decide +kernel
theorem dX1_countTexts_19 : decode cX1_countTexts 19 = .ok (.iinc 2 1, 3) := by decide +kernel
theorem dX1_countTexts_22 : decode cX1_countTexts 22 = .ok (.goto (-18), 3) := by decide +kernel
theorem dX1_countTexts_25 : decode cX1_countTexts 25 = .ok (.iload_n 1, 1) := by decide +kernel
theorem dX1_countTexts_26 : decode cX1_countTexts 26 = .ok (.ireturn, 1) := by decide +kernel
theorem dX1_countCaptions_0 : decode cX1_countCaptions 0 = .ok (.iconst 0, 1) := by decide +kernel
theorem dX1_countCaptions_1 : decode cX1_countCaptions 1 = .ok (.istore_n 1, 1) := by decide +kernel
theorem dX1_countCaptions_2 : decode cX1_countCaptions 2 = .ok (.iconst 0, 1) := by decide +kernel
theorem dX1_countCaptions_3 : decode cX1_countCaptions 3 = .ok (.istore_n 2, 1) := by decide +kernel
theorem dX1_countCaptions_4 : decode cX1_countCaptions 4 = .ok (.iload_n 2, 1) := by decide +kernel
theorem dX1_countCaptions_5 : decode cX1_countCaptions 5 = .ok (.bipush 8, 2) := by decide +kernel
theorem dX1_countCaptions_7 : decode cX1_countCaptions 7 = .ok (.if_icmp .ge 45, 3) := by decide +kernel
theorem dX1_countCaptions_10 : decode cX1_countCaptions 10 = .ok (.iconst 0, 1) := by decide +kernel
theorem dX1_countCaptions_11 : decode cX1_countCaptions 11 = .ok (.istore_n 3, 1) := by decide +kernel
theorem dX1_countCaptions_12 : decode cX1_countCaptions 12 = .ok (.iload_n 3, 1) := by decide +kernel
theorem dX1_countCaptions_13 : decode cX1_countCaptions 13 = .ok (.aload_n 0, 1) := by decide +kernel
theorem dX1_countCaptions_14 : decode cX1_countCaptions 14 = .ok (.getfield 9, 3) := by decide +kernel
theorem dX1_countCaptions_17 : decode cX1_countCaptions 17 = .ok (.iload_n 2, 1) := by decide +kernel
theorem dX1_countCaptions_18 : decode cX1_countCaptions 18 = .ok (.iaload, 1) := by decide +kernel
theorem dX1_countCaptions_19 : decode cX1_countCaptions 19 = .ok (.if_icmp .ge 27, 3) := by decide +kernel
theorem dX1_countCaptions_22 : decode cX1_countCaptions 22 = .ok (.iload_n 1, 1) := by decide +kernel
theorem dX1_countCaptions_23 : decode cX1_countCaptions 23 = .ok (.aload_n 0, 1) := by decide +kernel
theorem dX1_countCaptions_24 : decode cX1_countCaptions 24 = .ok (.getfield 15, 3) := by decide +kernel
theorem dX1_countCaptions_27 : decode cX1_countCaptions 27 = .ok (.iload_n 2, 1) := by decide +kernel
theorem dX1_countCaptions_28 : decode cX1_countCaptions 28 = .ok (.iconst 5, 1) := by decide +kernel
theorem dX1_countCaptions_29 : decode cX1_countCaptions 29 = .ok (.imul, 1) := by decide +kernel
theorem dX1_countCaptions_30 : decode cX1_countCaptions 30 = .ok (.iload_n 3, 1) := by decide +kernel
theorem dX1_countCaptions_31 : decode cX1_countCaptions 31 = .ok (.iadd, 1) := by decide +kernel
theorem dX1_countCaptions_32 : decode cX1_countCaptions 32 = .ok (.bipush 16, 2) := by decide +kernel
theorem dX1_countCaptions_34 : decode cX1_countCaptions 34 = .ok (.imul, 1) := by decide +kernel
theorem dX1_countCaptions_35 : decode cX1_countCaptions 35 = .ok (.iconst 5, 1) := by decide +kernel
theorem dX1_countCaptions_36 : decode cX1_countCaptions 36 = .ok (.iadd, 1) := by decide +kernel
theorem dX1_countCaptions_37 : decode cX1_countCaptions 37 = .ok (.iaload, 1) := by decide +kernel
theorem dX1_countCaptions_38 : decode cX1_countCaptions 38 = .ok (.iadd, 1) := by decide +kernel
theorem dX1_countCaptions_39 : decode cX1_countCaptions 39 = .ok (.istore_n 1, 1) := by decide +kernel
theorem dX1_countCaptions_40 : decode cX1_countCaptions 40 = .ok (.iinc 3 1, 3) := by decide +kernel
theorem dX1_countCaptions_43 : decode cX1_countCaptions 43 = .ok (.goto (-31), 3) := by decide +kernel
theorem dX1_countCaptions_46 : decode cX1_countCaptions 46 = .ok (.iinc 2 1, 3) := by decide +kernel
theorem dX1_countCaptions_49 : decode cX1_countCaptions 49 = .ok (.goto (-45), 3) := by decide +kernel
theorem dX1_countCaptions_52 : decode cX1_countCaptions 52 = .ok (.iload_n 1, 1) := by decide +kernel
theorem dX1_countCaptions_53 : decode cX1_countCaptions 53 = .ok (.ireturn, 1) := by decide +kernel
theorem dX1_countNeverRead_0 : decode cX1_countNeverRead 0 = .ok (.iconst 0, 1) := by decide +kernel
theorem dX1_countNeverRead_1 : decode cX1_countNeverRead 1 = .ok (.istore_n 1, 1) := by decide +kernel
theorem dX1_countNeverRead_2 : decode cX1_countNeverRead 2 = .ok (.iconst 0, 1) := by decide +kernel
theorem dX1_countNeverRead_3 : decode cX1_countNeverRead 3 = .ok (.istore_n 2, 1) := by decide +kernel
theorem dX1_countNeverRead_4 : decode cX1_countNeverRead 4 = .ok (.iload_n 2, 1) := by decide +kernel
theorem dX1_countNeverRead_5 : decode cX1_countNeverRead 5 = .ok (.bipush 8, 2) := by decide +kernel
theorem dX1_countNeverRead_7 : decode cX1_countNeverRead 7 = .ok (.if_icmp .ge 49, 3) := by decide +kernel
theorem dX1_countNeverRead_10 : decode cX1_countNeverRead 10 = .ok (.iconst 0, 1) := by decide +kernel
theorem dX1_countNeverRead_11 : decode cX1_countNeverRead 11 = .ok (.istore_n 3, 1) := by decide +kernel
theorem dX1_countNeverRead_12 : decode cX1_countNeverRead 12 = .ok (.iload_n 3, 1) := by decide +kernel
theorem dX1_countNeverRead_13 : decode cX1_countNeverRead 13 = .ok (.aload_n 0, 1) := by decide +kernel
theorem dX1_countNeverRead_14 : decode cX1_countNeverRead 14 = .ok (.getfield 9, 3) := by decide +kernel
theorem dX1_countNeverRead_17 : decode cX1_countNeverRead 17 = .ok (.iload_n 2, 1) := by decide +kernel
theorem dX1_countNeverRead_18 : decode cX1_countNeverRead 18 = .ok (.iaload, 1) := by decide +kernel
theorem dX1_countNeverRead_19 : decode cX1_countNeverRead 19 = .ok (.if_icmp .ge 31, 3) := by decide +kernel
theorem dX1_countNeverRead_22 : decode cX1_countNeverRead 22 = .ok (.aload_n 0, 1) := by decide +kernel
theorem dX1_countNeverRead_23 : decode cX1_countNeverRead 23 = .ok (.getfield 15, 3) := by decide +kernel
theorem dX1_countNeverRead_26 : decode cX1_countNeverRead 26 = .ok (.iload_n 2, 1) := by decide +kernel
theorem dX1_countNeverRead_27 : decode cX1_countNeverRead 27 = .ok (.iconst 5, 1) := by decide +kernel
theorem dX1_countNeverRead_28 : decode cX1_countNeverRead 28 = .ok (.imul, 1) := by decide +kernel
theorem dX1_countNeverRead_29 : decode cX1_countNeverRead 29 = .ok (.iload_n 3, 1) := by decide +kernel
theorem dX1_countNeverRead_30 : decode cX1_countNeverRead 30 = .ok (.iadd, 1) := by decide +kernel
theorem dX1_countNeverRead_31 : decode cX1_countNeverRead 31 = .ok (.bipush 16, 2) := by decide +kernel
theorem dX1_countNeverRead_33 : decode cX1_countNeverRead 33 = .ok (.imul, 1) := by decide +kernel
theorem dX1_countNeverRead_34 : decode cX1_countNeverRead 34 = .ok (.bipush 6, 2) := by decide +kernel
theorem dX1_countNeverRead_36 : decode cX1_countNeverRead 36 = .ok (.iadd, 1) := by decide +kernel
theorem dX1_countNeverRead_37 : decode cX1_countNeverRead 37 = .ok (.iaload, 1) := by decide +kernel
theorem dX1_countNeverRead_38 : decode cX1_countNeverRead 38 = .ok (.ifCond .ne 6, 3) := by decide +kernel
theorem dX1_countNeverRead_41 : decode cX1_countNeverRead 41 = .ok (.iinc 1 1, 3) := by decide +kernel
theorem dX1_countNeverRead_44 : decode cX1_countNeverRead 44 = .ok (.iinc 3 1, 3) := by decide +kernel
theorem dX1_countNeverRead_47 : decode cX1_countNeverRead 47 = .ok (.goto (-35), 3) := by decide +kernel
theorem dX1_countNeverRead_50 : decode cX1_countNeverRead 50 = .ok (.iinc 2 1, 3) := by decide +kernel
theorem dX1_countNeverRead_53 : decode cX1_countNeverRead 53 = .ok (.goto (-49), 3) := by decide +kernel
theorem dX1_countNeverRead_56 : decode cX1_countNeverRead 56 = .ok (.iload_n 1, 1) := by decide +kernel
theorem dX1_countNeverRead_57 : decode cX1_countNeverRead 57 = .ok (.ireturn, 1) := by decide +kernel
set_option maxRecDepth 20000 in
theorem ggX2_init_X1_init : GoodIn wsX2_init wsX1_init := goodIn_r _ [16, 17, 2, 3, 18, 19, 20, 21, 27, 28, 29, 30, 31, 32, 33, 34, 35, 36, 37, 38] (by decide +kernel) (by decide +kernel)
set_option maxRecDepth 20000 in
theorem gX2_init_X1_init_n11 : GoodIn wsX2_init (wsX1_init) := ggX2_init_X1_init
set_option maxRecDepth 20000 in
theorem ggX2_init_X0_init : GoodIn wsX2_init wsX0_init := goodIn_r _ [23, 24, 2, 3, 25, 26, 49, 50, 51, 52, 53, 54, 55, 56, 57, 58] (by decide +kernel) (by decide +kernel)
set_option maxRecDepth 20000 in
theorem gX2_init_X0_init_n28 : GoodIn wsX2_init (wsX0_init) := ggX2_init_X0_init
theorem dX2_init_0 : decode cX2_init 0 = .ok (.aload_n 0, 1) := by decide +kernel
theorem dX2_init_1 : decode cX2_init 1 = .ok (.invokespecial 3, 3) := by decide +kernel
theorem dX2_init_4 : decode cX2_init 4 = .ok (.aload_n 0, 1) := by decide +kernel
theorem dX2_init_5 : decode cX2_init 5 = .ok (.new 9, 3) := by decide +kernel
theorem dX2_init_8 : decode cX2_init 8 = .ok (.dup, 1) := by decide +kernel
theorem dX2_init_9 : decode cX2_init 9 = .ok (.invokespecial 11, 3) := by decide +kernel
theorem dX2_init_12 : decode cX2_init 12 = .ok (.putfield 12, 3) := by decide +kernel
theorem dX2_init_15 : decode cX2_init 15 = .ok (.aload_n 0, 1) := by decide +kernel
theorem dX2_init_16 : decode cX2_init 16 = .ok (.new 9, 3) := by decide +kernel
theorem dX2_init_19 : decode cX2_init 19 = .ok (.dup, 1) := by decide +kernel
theorem dX2_init_20 : decode cX2_init 20 = .ok (.invokespecial 11, 3) := by decide +kernel
theorem dX2_init_23 : decode cX2_init 23 = .ok (.putfield 16, 3) := by decide +kernel
theorem dX2_init_26 : decode cX2_init 26 = .ok (.aload_n 0, 1) := by decide +kernel
theorem dX2_init_27 : decode cX2_init 27 = .ok (.new 9, 3) := by decide +kernel
theorem dX2_init_30 : decode cX2_init 30 = .ok (.dup, 1) := by decide +kernel
theorem dX2_init_31 : decode cX2_init 31 = .ok (.invokespecial 11, 3) := by decide +kernel
theorem dX2_init_34 : decode cX2_init 34 = .ok (.putfield 19, 3) := by decide +kernel
theorem dX2_init_37 : decode cX2_init 37 = .ok (.aload_n 0, 1) := by decide +kernel
theorem dX2_init_38 : decode cX2_init 38 = .ok (.iconst 4, 1) := by decide +kernel
theorem dX2_init_39 : decode cX2_init 39 = .ok (.anewarray 9, 3) := by decide +kernel
theorem dX2_init_42 : decode cX2_init 42 = .ok (.putfield 22, 3) := by decide +kernel
theorem dX2_init_45 : decode cX2_init 45 = .ok (.aload_n 0, 1) := by decide +kernel
theorem dX2_init_46 : decode cX2_init 46 = .ok (.new 26, 3) := by decide +kernel
theorem dX2_init_49 : decode cX2_init 49 = .ok (.dup, 1) := by decide +kernel
theorem dX2_init_50 : decode cX2_init 50 = .ok (.invokespecial 28, 3) := by decide +kernel
theorem dX2_init_53 : decode cX2_init 53 = .ok (.putfield 29, 3) := by decide +kernel
theorem dX2_init_56 : decode cX2_init 56 = .ok (.iconst 0, 1) := by decide +kernel
theorem dX2_init_57 : decode cX2_init 57 = .ok (.istore_n 1, 1) := by decide +kernel
theorem dX2_init_58 : decode cX2_init 58 = .ok (.iload_n 1, 1) := by decide +kernel
theorem dX2_init_59 : decode cX2_init 59 = .ok (.iconst 4, 1) := by decide +kernel
theorem dX2_init_60 : decode cX2_init 60 = .ok (.if_icmp .ge 22, 3) := by decide +kernel
theorem dX2_init_63 : decode cX2_init 63 = .ok (.aload_n 0, 1) := by decide +kernel
theorem dX2_init_64 : decode cX2_init 64 = .ok (.getfield 22, 3) := by decide +kernel
theorem dX2_init_67 : decode cX2_init 67 = .ok (.iload_n 1, 1) := by decide +kernel
theorem dX2_init_68 : decode cX2_init 68 = .ok (.new 9, 3) := by decide +kernel
theorem dX2_init_71 : decode cX2_init 71 = .ok (.dup, 1) := by decide +kernel
theorem dX2_init_72 : decode cX2_init 72 = .ok (.invokespecial 11, 3) := by decide +kernel
theorem dX2_init_75 : decode cX2_init 75 = .ok (.aastore, 1) := by decide +kernel
theorem dX2_init_76 : decode cX2_init 76 = .ok (.iinc 1 1, 3) := by decide +kernel
theorem dX2_init_79 : decode cX2_init 79 = .ok (.goto (-21), 3) := by decide +kernel
theorem dX2_init_82 : decode cX2_init 82 = .ok (.return_, 1) := by decide +kernel
set_option maxRecDepth 20000 in
theorem ggX2_addText_X2_attempt : GoodIn wsX2_addText wsX2_attempt := goodIn_r _ [5, 6, 7, 8, 9, 10, 11, 12, 13, 14, 15, 16, 17, 18, 19, 20, 21, 22, 23, 24, 25, 26, 27, 28, 49, 50, 51, 52, 53, 54, 55, 56, 57, 58, 59, 60, 61, 62, 63, 64, 65, 66, 67, 68, 69, 70] (by decide +kernel) (by decide +kernel)
set_option maxRecDepth 20000 in
theorem gX2_addText_X2_attempt : GoodIn wsX2_addText (wsV RX2 33 RX2 yX2_attempt wsX2_attempt) := goodIn_app (goodIn_of _ (by decide +kernel)) ggX2_addText_X2_attempt
set_option maxRecDepth 20000 in
theorem ggX2_addText_X1_putText : GoodIn wsX2_addText wsX1_putText := goodIn_r _ [32, 33, 13, 18, 34, 4, 35, 36, 37, 59, 60, 61, 62, 63, 64, 65, 66, 67, 68, 69, 70] (by decide +kernel) (by decide +kernel)
set_option maxRecDepth 20000 in
theorem gX2_addText_X1_putText : GoodIn wsX2_addText (wsV RX2 37 RX1 yX1_putText wsX1_putText) := goodIn_app (goodIn_of _ (by decide +kernel)) ggX2_addText_X1_putText
set_option maxRecDepth 20000 in
theorem ggX2_addText_X2_settle : GoodIn wsX2_addText wsX2_settle := goodIn_r _ [41, 42, 43, 7, 6, 44, 45, 46, 47, 48, 49, 50, 51, 52, 53, 54, 55, 56, 57, 58] (by decide +kernel) (by decide +kernel)
set_option maxRecDepth 20000 in
theorem gX2_addText_X2_settle : GoodIn wsX2_addText (wsV RX2 41 RX2 yX2_settle wsX2_settle) := goodIn_app (goodIn_of _ (by decide +kernel)) ggX2_addText_X2_settle
theorem dX2_addText_0 : decode cX2_addText 0 = .ok (.aload_n 0, 1) := by decide +kernel
theorem dX2_addText_1 : decode cX2_addText 1 = .ok (.aload_n 0, 1) := by decide +kernel
theorem dX2_addText_2 : decode cX2_addText 2 = .ok (.invokevirtual 33, 3) := by decide +kernel
theorem dX2_addText_5 : decode cX2_addText 5 = .ok (.iload_n 1, 1) := by decide +kernel
theorem dX2_addText_6 : decode cX2_addText 6 = .ok (.iload_n 2, 1) := by decide +kernel
theorem dX2_addText_7 : decode cX2_addText 7 = .ok (.iload_n 3, 1) := by decide +kernel
theorem dX2_addText_8 : decode cX2_addText 8 = .ok (.iload 4, 2) := by decide +kernel
theorem dX2_addText_10 : decode cX2_addText 10 = .ok (.iload 5, 2) := by decide +kernel
theorem dX2_addText_12 : decode cX2_addText 12 = .ok (.invokevirtual 37, 3) := by decide +kernel
theorem dX2_addText_15 : decode cX2_addText 15 = .ok (.invokevirtual 41, 3) := by decide +kernel
theorem dX2_addText_18 : decode cX2_addText 18 = .ok (.ireturn, 1) := by decide +kernel
set_option maxRecDepth 20000 in
theorem ggX2_removeText_X2_attempt : GoodIn wsX2_removeText wsX2_attempt := goodIn_r _ [5, 6, 7, 8, 9, 10, 11, 12, 13, 14, 15, 16, 17, 18, 19, 20, 21, 22, 23, 24, 25, 26, 27, 28, 50, 51, 52, 53, 54, 55, 56, 57, 58, 59, 60, 61, 62, 63, 64, 65, 66, 67, 68, 69, 70, 71] (by decide +kernel) (by decide +kernel)
set_option maxRecDepth 20000 in
theorem gX2_removeText_X2_attempt : GoodIn wsX2_removeText (wsV RX2 33 RX2 yX2_attempt wsX2_attempt) := goodIn_app (goodIn_of _ (by decide +kernel)) ggX2_removeText_X2_attempt
set_option maxRecDepth 20000 in
theorem ggX2_removeText_X1_dropText : GoodIn wsX2_removeText wsX1_dropText := goodIn_r _ [32, 13, 18, 14, 15, 16, 17, 33, 34, 35, 11, 36, 37, 4, 38, 60, 61, 62, 63, 64, 65, 66, 67, 68, 69, 70, 71] (by decide +kernel) (by decide +kernel)
set_option maxRecDepth 20000 in
theorem gX2_removeText_X1_dropText : GoodIn wsX2_removeText (wsV RX2 45 RX1 yX1_dropText wsX1_dropText) := goodIn_app (goodIn_of _ (by decide +kernel)) ggX2_removeText_X1_dropText
set_option maxRecDepth 20000 in
theorem ggX2_removeText_X2_settle : GoodIn wsX2_removeText wsX2_settle := goodIn_r _ [42, 43, 44, 7, 6, 45, 46, 47, 48, 49, 50, 51, 52, 53, 54, 55, 56, 57, 58, 59] (by decide +kernel) (by decide +kernel)
set_option maxRecDepth 20000 in
theorem gX2_removeText_X2_settle : GoodIn wsX2_removeText (wsV RX2 41 RX2 yX2_settle wsX2_settle) := goodIn_app (goodIn_of _ (by decide +kernel)) ggX2_removeText_X2_settle
theorem dX2_removeText_0 : decode cX2_removeText 0 = .ok (.aload_n 0, 1) := by decide +kernel
theorem dX2_removeText_1 : decode cX2_removeText 1 = .ok (.aload_n 0, 1) := by decide +kernel
theorem dX2_removeText_2 : decode cX2_removeText 2 = .ok (.invokevirtual 33, 3) := by decide +kernel
theorem dX2_removeText_5 : decode cX2_removeText 5 = .ok (.iload_n 1, 1) := by decide +kernel
theorem dX2_removeText_6 : decode cX2_removeText 6 = .ok (.iload_n 2, 1) := by decide +kernel
theorem dX2_removeText_7 : decode cX2_removeText 7 = .ok (.invokevirtual 45, 3) := by decide +kernel
theorem dX2_removeText_10 : decode cX2_removeText 10 = .ok (.invokevirtual 41, 3) := by decide +kernel
theorem dX2_removeText_13 : decode cX2_removeText 13 = .ok (.ireturn, 1) := by decide +kernel
set_option maxRecDepth 20000 in
theorem ggX2_setFacts_X2_attempt : GoodIn wsX2_setFacts wsX2_attempt := goodIn_r _ [5, 6, 7, 8, 9, 10, 11, 12, 13, 14, 15, 16, 17, 18, 19, 20, 21, 22, 23, 24, 25, 26, 27, 28, 55, 56, 57, 58, 59, 60, 61, 62, 63, 64, 65, 66, 67, 68, 69, 70, 71, 72, 73, 74, 75, 76] (by decide +kernel) (by decide +kernel)
set_option maxRecDepth 20000 in
theorem gX2_setFacts_X2_attempt : GoodIn wsX2_setFacts (wsV RX2 33 RX2 yX2_attempt wsX2_attempt) := goodIn_app (goodIn_of _ (by decide +kernel)) ggX2_setFacts_X2_attempt
set_option maxRecDepth 20000 in
theorem ggX2_setFacts_X1_changeFacts : GoodIn wsX2_setFacts wsX1_changeFacts := goodIn_r _ [32, 33, 18, 34, 35, 36, 11, 37, 13, 38, 4, 39, 40, 41, 42, 43, 65, 66, 67, 68, 69, 70, 71, 72, 73, 74, 75, 76] (by decide +kernel) (by decide +kernel)
set_option maxRecDepth 20000 in
theorem gX2_setFacts_X1_changeFacts : GoodIn wsX2_setFacts (wsV RX2 49 RX1 yX1_changeFacts wsX1_changeFacts) := goodIn_app (goodIn_of _ (by decide +kernel)) ggX2_setFacts_X1_changeFacts
set_option maxRecDepth 20000 in
theorem ggX2_setFacts_X2_settle : GoodIn wsX2_setFacts wsX2_settle := goodIn_r _ [47, 48, 49, 7, 6, 50, 51, 52, 53, 54, 55, 56, 57, 58, 59, 60, 61, 62, 63, 64] (by decide +kernel) (by decide +kernel)
set_option maxRecDepth 20000 in
theorem gX2_setFacts_X2_settle : GoodIn wsX2_setFacts (wsV RX2 41 RX2 yX2_settle wsX2_settle) := goodIn_app (goodIn_of _ (by decide +kernel)) ggX2_setFacts_X2_settle
theorem dX2_setFacts_0 : decode cX2_setFacts 0 = .ok (.aload_n 0, 1) := by decide +kernel
theorem dX2_setFacts_1 : decode cX2_setFacts 1 = .ok (.aload_n 0, 1) := by decide +kernel
theorem dX2_setFacts_2 : decode cX2_setFacts 2 = .ok (.invokevirtual 33, 3) := by decide +kernel
theorem dX2_setFacts_5 : decode cX2_setFacts 5 = .ok (.iload_n 1, 1) := by decide +kernel
theorem dX2_setFacts_6 : decode cX2_setFacts 6 = .ok (.iload_n 2, 1) := by decide +kernel
theorem dX2_setFacts_7 : decode cX2_setFacts 7 = .ok (.iload_n 3, 1) := by decide +kernel
theorem dX2_setFacts_8 : decode cX2_setFacts 8 = .ok (.invokevirtual 49, 3) := by decide +kernel
theorem dX2_setFacts_11 : decode cX2_setFacts 11 = .ok (.invokevirtual 41, 3) := by decide +kernel
theorem dX2_setFacts_14 : decode cX2_setFacts 14 = .ok (.ireturn, 1) := by decide +kernel
set_option maxRecDepth 20000 in
theorem ggX2_addCaption_X2_attempt : GoodIn wsX2_addCaption wsX2_attempt := goodIn_r _ [5, 6, 7, 8, 9, 10, 11, 12, 13, 14, 15, 16, 17, 18, 19, 20, 21, 22, 23, 24, 25, 26, 27, 28, 51, 52, 53, 54, 55, 56, 57, 58, 59, 60, 61, 62, 63, 64, 65, 66, 67, 68, 69, 70, 71, 72] (by decide +kernel) (by decide +kernel)
set_option maxRecDepth 20000 in
theorem gX2_addCaption_X2_attempt : GoodIn wsX2_addCaption (wsV RX2 33 RX2 yX2_attempt wsX2_attempt) := goodIn_app (goodIn_of _ (by decide +kernel)) ggX2_addCaption_X2_attempt
set_option maxRecDepth 20000 in
theorem ggX2_addCaption_X1_putCaption : GoodIn wsX2_addCaption wsX1_putCaption := goodIn_r _ [32, 33, 18, 34, 35, 36, 11, 37, 13, 38, 4, 39, 61, 62, 63, 64, 65, 66, 67, 68, 69, 70, 71, 72] (by decide +kernel) (by decide +kernel)
set_option maxRecDepth 20000 in
theorem gX2_addCaption_X1_putCaption : GoodIn wsX2_addCaption (wsV RX2 53 RX1 yX1_putCaption wsX1_putCaption) := goodIn_app (goodIn_of _ (by decide +kernel)) ggX2_addCaption_X1_putCaption
set_option maxRecDepth 20000 in
theorem ggX2_addCaption_X2_settle : GoodIn wsX2_addCaption wsX2_settle := goodIn_r _ [43, 44, 45, 7, 6, 46, 47, 48, 49, 50, 51, 52, 53, 54, 55, 56, 57, 58, 59, 60] (by decide +kernel) (by decide +kernel)
set_option maxRecDepth 20000 in
theorem gX2_addCaption_X2_settle : GoodIn wsX2_addCaption (wsV RX2 41 RX2 yX2_settle wsX2_settle) := goodIn_app (goodIn_of _ (by decide +kernel)) ggX2_addCaption_X2_settle
theorem dX2_addCaption_0 : decode cX2_addCaption 0 = .ok (.aload_n 0, 1) := by decide +kernel
theorem dX2_addCaption_1 : decode cX2_addCaption 1 = .ok (.aload_n 0, 1) := by decide +kernel
theorem dX2_addCaption_2 : decode cX2_addCaption 2 = .ok (.invokevirtual 33, 3) := by decide +kernel
theorem dX2_addCaption_5 : decode cX2_addCaption 5 = .ok (.iload_n 1, 1) := by decide +kernel
theorem dX2_addCaption_6 : decode cX2_addCaption 6 = .ok (.iload_n 2, 1) := by decide +kernel
theorem dX2_addCaption_7 : decode cX2_addCaption 7 = .ok (.iload_n 3, 1) := by decide +kernel
theorem dX2_addCaption_8 : decode cX2_addCaption 8 = .ok (.iload 4, 2) := by decide +kernel
theorem dX2_addCaption_10 : decode cX2_addCaption 10 = .ok (.invokevirtual 53, 3) := by decide +kernel
theorem dX2_addCaption_13 : decode cX2_addCaption 13 = .ok (.invokevirtual 41, 3) := by decide +kernel
theorem dX2_addCaption_16 : decode cX2_addCaption 16 = .ok (.ireturn, 1) := by decide +kernel
set_option maxRecDepth 20000 in
theorem ggX2_enter_X2_attempt : GoodIn wsX2_enter wsX2_attempt := goodIn_r _ [5, 6, 7, 8, 9, 10, 11, 12, 13, 14, 15, 16, 17, 18, 19, 20, 21, 22, 23, 24, 25, 26, 27, 28, 56, 57, 58, 59, 60, 61, 62, 63, 64, 65, 66, 67, 68, 69, 70, 71, 72, 73, 74, 75, 76, 77] (by decide +kernel) (by decide +kernel)
set_option maxRecDepth 20000 in
theorem gX2_enter_X2_attempt : GoodIn wsX2_enter (wsV RX2 33 RX2 yX2_attempt wsX2_attempt) := goodIn_app (goodIn_of _ (by decide +kernel)) ggX2_enter_X2_attempt
set_option maxRecDepth 20000 in
theorem ggX2_enter_X1_admit : GoodIn wsX2_enter wsX1_admit := goodIn_r _ [32, 24, 25, 26, 27, 28, 21, 19, 33, 4, 34, 35, 36, 37, 11, 38, 13, 39, 40, 41, 42, 43, 44, 18, 66, 67, 68, 69, 70, 71, 72, 73, 74, 75, 76, 77] (by decide +kernel) (by decide +kernel)
set_option maxRecDepth 20000 in
theorem gX2_enter_X1_admit : GoodIn wsX2_enter (wsV RX2 72 RX1 yX1_admit wsX1_admit) := goodIn_app (goodIn_of _ (by decide +kernel)) ggX2_enter_X1_admit
set_option maxRecDepth 20000 in
theorem ggX2_enter_X2_settle : GoodIn wsX2_enter wsX2_settle := goodIn_r _ [48, 49, 50, 7, 6, 51, 52, 53, 54, 55, 56, 57, 58, 59, 60, 61, 62, 63, 64, 65] (by decide +kernel) (by decide +kernel)
set_option maxRecDepth 20000 in
theorem gX2_enter_X2_settle : GoodIn wsX2_enter (wsV RX2 41 RX2 yX2_settle wsX2_settle) := goodIn_app (goodIn_of _ (by decide +kernel)) ggX2_enter_X2_settle
theorem dX2_enter_0 : decode cX2_enter 0 = .ok (.aload_n 0, 1) := by decide +kernel
theorem dX2_enter_1 : decode cX2_enter 1 = .ok (.aload_n 0, 1) := by decide +kernel
theorem dX2_enter_2 : decode cX2_enter 2 = .ok (.invokevirtual 33, 3) := by decide +kernel
theorem dX2_enter_5 : decode cX2_enter 5 = .ok (.iload_n 1, 1) := by decide +kernel
theorem dX2_enter_6 : decode cX2_enter 6 = .ok (.iload_n 2, 1) := by decide +kernel
theorem dX2_enter_7 : decode cX2_enter 7 = .ok (.iload_n 3, 1) := by decide +kernel
theorem dX2_enter_8 : decode cX2_enter 8 = .ok (.invokevirtual 72, 3) := by decide +kernel
theorem dX2_enter_11 : decode cX2_enter 11 = .ok (.invokevirtual 41, 3) := by decide +kernel
theorem dX2_enter_14 : decode cX2_enter 14 = .ok (.ireturn, 1) := by decide +kernel
set_option maxRecDepth 20000 in
theorem ggX2_touch_X2_attempt : GoodIn wsX2_touch wsX2_attempt := goodIn_r _ [5, 6, 7, 8, 9, 10, 11, 12, 13, 14, 15, 16, 17, 18, 19, 20, 21, 22, 23, 24, 25, 26, 27, 28, 84, 85, 86, 87, 88, 89, 90, 91, 92, 93, 94, 95, 96, 97, 98, 99, 100, 101, 102, 103, 104, 105] (by decide +kernel) (by decide +kernel)
set_option maxRecDepth 20000 in
theorem gX2_touch_X2_attempt : GoodIn wsX2_touch (wsV RX2 33 RX2 yX2_attempt wsX2_attempt) := goodIn_app (goodIn_of _ (by decide +kernel)) ggX2_touch_X2_attempt
set_option maxRecDepth 20000 in
theorem ggX2_touch_X1_touchCaption : GoodIn wsX2_touch wsX1_touchCaption := goodIn_r _ [32, 18, 27, 28, 23, 33, 34, 35, 11, 36, 24, 19, 25, 37, 38, 39, 40, 13, 41, 4, 42, 43, 44, 45, 46, 47, 48, 49, 50, 51, 52, 53, 54, 55, 56, 57, 58, 26, 59, 60, 61, 62, 63, 64, 65, 66, 22, 67, 68, 69, 70, 71, 72, 73, 94, 95, 96, 97, 98, 99, 100, 101, 102, 103, 104, 105] (by decide +kernel) (by decide +kernel)
set_option maxRecDepth 20000 in
theorem gX2_touch_X1_touchCaption : GoodIn wsX2_touch (wsV RX2 75 RX1 yX1_touchCaption wsX1_touchCaption) := goodIn_app (goodIn_of _ (by decide +kernel)) ggX2_touch_X1_touchCaption
set_option maxRecDepth 20000 in
theorem ggX2_touch_X2_settle : GoodIn wsX2_touch wsX2_settle := goodIn_r _ [77, 78, 79, 7, 6, 80, 81, 82, 61, 83, 84, 85, 86, 87, 88, 89, 90, 91, 92, 93] (by decide +kernel) (by decide +kernel)
set_option maxRecDepth 20000 in
theorem gX2_touch_X2_settle : GoodIn wsX2_touch (wsV RX2 41 RX2 yX2_settle wsX2_settle) := goodIn_app (goodIn_of _ (by decide +kernel)) ggX2_touch_X2_settle
theorem dX2_touch_0 : decode cX2_touch 0 = .ok (.aload_n 0, 1) := by decide +kernel
theorem dX2_touch_1 : decode cX2_touch 1 = .ok (.aload_n 0, 1) := by decide +kernel
theorem dX2_touch_2 : decode cX2_touch 2 = .ok (.invokevirtual 33, 3) := by decide +kernel
theorem dX2_touch_5 : decode cX2_touch 5 = .ok (.iload_n 1, 1) := by decide +kernel
theorem dX2_touch_6 : decode cX2_touch 6 = .ok (.invokevirtual 75, 3) := by decide +kernel
theorem dX2_touch_9 : decode cX2_touch 9 = .ok (.invokevirtual 41, 3) := by decide +kernel
theorem dX2_touch_12 : decode cX2_touch 12 = .ok (.ireturn, 1) := by decide +kernel
set_option maxRecDepth 20000 in
theorem ggX2_read_X2_attempt : GoodIn wsX2_read wsX2_attempt := goodIn_r _ [5, 6, 7, 8, 9, 10, 11, 12, 13, 14, 15, 16, 17, 18, 19, 20, 21, 22, 23, 24, 25, 26, 27, 28, 80, 81, 82, 83, 84, 85, 86, 87, 88, 89, 90, 91, 92, 93, 94, 95, 96, 97, 98, 99, 100, 101] (by decide +kernel) (by decide +kernel)
set_option maxRecDepth 20000 in
theorem gX2_read_X2_attempt : GoodIn wsX2_read (wsV RX2 33 RX2 yX2_attempt wsX2_attempt) := goodIn_app (goodIn_of _ (by decide +kernel)) ggX2_read_X2_attempt
set_option maxRecDepth 20000 in
theorem ggX2_read_X1_readUntouched : GoodIn wsX2_read wsX1_readUntouched := goodIn_r _ [32, 18, 28, 33, 34, 35, 11, 36, 24, 19, 25, 37, 38, 39, 40, 13, 41, 4, 42, 43, 44, 45, 46, 47, 48, 49, 50, 51, 52, 53, 54, 27, 22, 55, 56, 57, 58, 26, 59, 60, 61, 62, 63, 64, 65, 66, 67, 68, 69, 90, 91, 92, 93, 94, 95, 96, 97, 98, 99, 100, 101] (by decide +kernel) (by decide +kernel)
set_option maxRecDepth 20000 in
theorem gX2_read_X1_readUntouched : GoodIn wsX2_read (wsV RX2 78 RX1 yX1_readUntouched wsX1_readUntouched) := goodIn_app (goodIn_of _ (by decide +kernel)) ggX2_read_X1_readUntouched
set_option maxRecDepth 20000 in
theorem ggX2_read_X2_settle : GoodIn wsX2_read wsX2_settle := goodIn_r _ [73, 74, 75, 7, 6, 76, 77, 78, 61, 79, 80, 81, 82, 83, 84, 85, 86, 87, 88, 89] (by decide +kernel) (by decide +kernel)
set_option maxRecDepth 20000 in
theorem gX2_read_X2_settle : GoodIn wsX2_read (wsV RX2 41 RX2 yX2_settle wsX2_settle) := goodIn_app (goodIn_of _ (by decide +kernel)) ggX2_read_X2_settle
theorem dX2_read_0 : decode cX2_read 0 = .ok (.aload_n 0, 1) := by decide +kernel
theorem dX2_read_1 : decode cX2_read 1 = .ok (.aload_n 0, 1) := by decide +kernel
theorem dX2_read_2 : decode cX2_read 2 = .ok (.invokevirtual 33, 3) := by decide +kernel
theorem dX2_read_5 : decode cX2_read 5 = .ok (.invokevirtual 78, 3) := by decide +kernel
theorem dX2_read_8 : decode cX2_read 8 = .ok (.invokevirtual 41, 3) := by decide +kernel
theorem dX2_read_11 : decode cX2_read 11 = .ok (.ireturn, 1) := by decide +kernel
set_option maxRecDepth 20000 in
theorem ggX2_turn_X2_attempt : GoodIn wsX2_turn wsX2_attempt := goodIn_r _ [5, 6, 7, 8, 9, 10, 11, 12, 13, 14, 15, 16, 17, 18, 19, 20, 21, 22, 23, 24, 25, 26, 27, 28, 51, 52, 53, 54, 55, 56, 57, 58, 59, 60, 61, 62, 63, 64, 65, 66, 67, 68, 69, 70, 71, 72] (by decide +kernel) (by decide +kernel)
set_option maxRecDepth 20000 in
theorem gX2_turn_X2_attempt : GoodIn wsX2_turn (wsV RX2 33 RX2 yX2_attempt wsX2_attempt) := goodIn_app (goodIn_of _ (by decide +kernel)) ggX2_turn_X2_attempt
set_option maxRecDepth 20000 in
theorem ggX2_turn_X1_turnRing : GoodIn wsX2_turn wsX1_turnRing := goodIn_r _ [32, 19, 27, 20, 33, 34, 35, 36, 37, 38, 39, 40, 61, 62, 63, 64, 65, 66, 67, 68, 69, 70, 71, 72] (by decide +kernel) (by decide +kernel)
set_option maxRecDepth 20000 in
theorem gX2_turn_X1_turnRing : GoodIn wsX2_turn (wsV RX2 81 RX1 yX1_turnRing wsX1_turnRing) := goodIn_app (goodIn_of _ (by decide +kernel)) ggX2_turn_X1_turnRing
set_option maxRecDepth 20000 in
theorem ggX2_turn_X2_settle : GoodIn wsX2_turn wsX2_settle := goodIn_r _ [44, 45, 46, 7, 6, 47, 48, 49, 35, 50, 51, 52, 53, 54, 55, 56, 57, 58, 59, 60] (by decide +kernel) (by decide +kernel)
set_option maxRecDepth 20000 in
theorem gX2_turn_X2_settle : GoodIn wsX2_turn (wsV RX2 41 RX2 yX2_settle wsX2_settle) := goodIn_app (goodIn_of _ (by decide +kernel)) ggX2_turn_X2_settle
theorem dX2_turn_0 : decode cX2_turn 0 = .ok (.aload_n 0, 1) := by decide +kernel
theorem dX2_turn_1 : decode cX2_turn 1 = .ok (.aload_n 0, 1) := by decide +kernel
theorem dX2_turn_2 : decode cX2_turn 2 = .ok (.invokevirtual 33, 3) := by decide +kernel
theorem dX2_turn_5 : decode cX2_turn 5 = .ok (.iload_n 1, 1) := by decide +kernel
theorem dX2_turn_6 : decode cX2_turn 6 = .ok (.invokevirtual 81, 3) := by decide +kernel
theorem dX2_turn_9 : decode cX2_turn 9 = .ok (.invokevirtual 41, 3) := by decide +kernel
theorem dX2_turn_12 : decode cX2_turn 12 = .ok (.ireturn, 1) := by decide +kernel
set_option maxRecDepth 20000 in
theorem ggX2_setTurning_X2_attempt : GoodIn wsX2_setTurning wsX2_attempt := goodIn_r _ [5, 6, 7, 8, 9, 10, 11, 12, 13, 14, 15, 16, 17, 18, 19, 20, 21, 22, 23, 24, 25, 26, 27, 28, 44, 45, 46, 47, 48, 49, 50, 51, 52, 53, 54, 55, 56, 57, 58, 59, 60, 61, 62, 63, 64, 65] (by decide +kernel) (by decide +kernel)
set_option maxRecDepth 20000 in
theorem gX2_setTurning_X2_attempt : GoodIn wsX2_setTurning (wsV RX2 33 RX2 yX2_attempt wsX2_attempt) := goodIn_app (goodIn_of _ (by decide +kernel)) ggX2_setTurning_X2_attempt
set_option maxRecDepth 20000 in
theorem ggX2_setTurning_X1_changeTurning : GoodIn wsX2_setTurning wsX1_changeTurning := goodIn_r _ [32, 20, 54, 55, 56, 57, 58, 59, 60, 61, 62, 63, 64, 65] (by decide +kernel) (by decide +kernel)
set_option maxRecDepth 20000 in
theorem gX2_setTurning_X1_changeTurning : GoodIn wsX2_setTurning (wsV RX2 85 RX1 yX1_changeTurning wsX1_changeTurning) := goodIn_app (goodIn_of _ (by decide +kernel)) ggX2_setTurning_X1_changeTurning
set_option maxRecDepth 20000 in
theorem ggX2_setTurning_X2_settle : GoodIn wsX2_setTurning wsX2_settle := goodIn_r _ [36, 37, 38, 7, 6, 39, 40, 41, 42, 43, 44, 45, 46, 47, 48, 49, 50, 51, 52, 53] (by decide +kernel) (by decide +kernel)
set_option maxRecDepth 20000 in
theorem gX2_setTurning_X2_settle : GoodIn wsX2_setTurning (wsV RX2 41 RX2 yX2_settle wsX2_settle) := goodIn_app (goodIn_of _ (by decide +kernel)) ggX2_setTurning_X2_settle
theorem dX2_setTurning_0 : decode cX2_setTurning 0 = .ok (.aload_n 0, 1) := by decide +kernel
theorem dX2_setTurning_1 : decode cX2_setTurning 1 = .ok (.aload_n 0, 1) := by decide +kernel
theorem dX2_setTurning_2 : decode cX2_setTurning 2 = .ok (.invokevirtual 33, 3) := by decide +kernel
theorem dX2_setTurning_5 : decode cX2_setTurning 5 = .ok (.iload_n 1, 1) := by decide +kernel
theorem dX2_setTurning_6 : decode cX2_setTurning 6 = .ok (.invokevirtual 85, 3) := by decide +kernel
theorem dX2_setTurning_9 : decode cX2_setTurning 9 = .ok (.invokevirtual 41, 3) := by decide +kernel
theorem dX2_setTurning_12 : decode cX2_setTurning 12 = .ok (.ireturn, 1) := by decide +kernel
set_option maxRecDepth 20000 in
theorem ggX2_text_X1_rowOf : GoodIn wsX2_text wsX1_rowOf := goodIn_r _ [7, 8, 9, 10, 11, 22, 23, 24, 25, 26, 27, 28, 29, 30, 31, 32, 33] (by decide +kernel) (by decide +kernel)
set_option maxRecDepth 20000 in
theorem gX2_text_X1_rowOf : GoodIn wsX2_text (wsV RX2 112 RX1 yX1_rowOf wsX1_rowOf) := goodIn_app (goodIn_of _ (by decide +kernel)) ggX2_text_X1_rowOf
theorem dX2_text_0 : decode cX2_text 0 = .ok (.aload_n 0, 1) := by decide +kernel
theorem dX2_text_1 : decode cX2_text 1 = .ok (.getfield 12, 3) := by decide +kernel
theorem dX2_text_4 : decode cX2_text 4 = .ok (.iload_n 1, 1) := by decide +kernel
theorem dX2_text_5 : decode cX2_text 5 = .ok (.iload_n 2, 1) := by decide +kernel
theorem dX2_text_6 : decode cX2_text 6 = .ok (.invokevirtual 112, 3) := by decide +kernel
theorem dX2_text_9 : decode cX2_text 9 = .ok (.istore 4, 2) := by decide +kernel
theorem dX2_text_11 : decode cX2_text 11 = .ok (.iload 4, 2) := by decide +kernel
theorem dX2_text_13 : decode cX2_text 13 = .ok (.ifCond .ge 5, 3) := by decide +kernel
theorem dX2_text_16 : decode cX2_text 16 = .ok (.iconst (-1), 1) := by decide +kernel
theorem dX2_text_17 : decode cX2_text 17 = .ok (.ireturn, 1) := by decide +kernel
theorem dX2_text_18 : decode cX2_text 18 = .ok (.iload_n 3, 1) := by decide +kernel
theorem dX2_text_19 : decode cX2_text 19 = .ok (.ifCond .lt 9, 3) := by decide +kernel
theorem dX2_text_22 : decode cX2_text 22 = .ok (.iload_n 3, 1) := by decide +kernel
theorem dX2_text_23 : decode cX2_text 23 = .ok (.bipush 7, 2) := by decide +kernel
theorem dX2_text_25 : decode cX2_text 25 = .ok (.if_icmp .lt 6, 3) := by decide +kernel
theorem dX2_text_28 : decode cX2_text 28 = .ok (.bipush (-2), 2) := by decide +kernel
theorem dX2_text_30 : decode cX2_text 30 = .ok (.ireturn, 1) := by decide +kernel
theorem dX2_text_31 : decode cX2_text 31 = .ok (.aload_n 0, 1) := by decide +kernel
theorem dX2_text_32 : decode cX2_text 32 = .ok (.getfield 12, 3) := by decide +kernel
theorem dX2_text_35 : decode cX2_text 35 = .ok (.getfield 115, 3) := by decide +kernel
theorem dX2_text_38 : decode cX2_text 38 = .ok (.iload 4, 2) := by decide +kernel
theorem dX2_text_40 : decode cX2_text 40 = .ok (.iload_n 3, 1) := by decide +kernel
theorem dX2_text_41 : decode cX2_text 41 = .ok (.iadd, 1) := by decide +kernel
theorem dX2_text_42 : decode cX2_text 42 = .ok (.iaload, 1) := by decide +kernel
theorem dX2_text_43 : decode cX2_text 43 = .ok (.ireturn, 1) := by decide +kernel
set_option maxRecDepth 20000 in
theorem ggX2_caption_X1_rowOf : GoodIn wsX2_caption wsX1_rowOf := goodIn_r _ [7, 8, 9, 10, 11, 27, 28, 29, 30, 31, 32, 33, 34, 35, 36, 37, 38] (by decide +kernel) (by decide +kernel)
set_option maxRecDepth 20000 in
theorem gX2_caption_X1_rowOf : GoodIn wsX2_caption (wsV RX2 112 RX1 yX1_rowOf wsX1_rowOf) := goodIn_app (goodIn_of _ (by decide +kernel)) ggX2_caption_X1_rowOf
set_option maxRecDepth 20000 in
theorem ggX2_caption_X1_captionOf : GoodIn wsX2_caption wsX1_captionOf := goodIn_r _ [15, 16, 27, 28, 29, 30, 31, 32, 33, 34, 35, 36, 37, 38] (by decide +kernel) (by decide +kernel)
set_option maxRecDepth 20000 in
theorem gX2_caption_X1_captionOf : GoodIn wsX2_caption (wsV RX2 119 RX1 yX1_captionOf wsX1_captionOf) := goodIn_app (goodIn_of _ (by decide +kernel)) ggX2_caption_X1_captionOf
theorem dX2_caption_0 : decode cX2_caption 0 = .ok (.aload_n 0, 1) := by decide +kernel
theorem dX2_caption_1 : decode cX2_caption 1 = .ok (.getfield 12, 3) := by decide +kernel
theorem dX2_caption_4 : decode cX2_caption 4 = .ok (.iload_n 1, 1) := by decide +kernel
theorem dX2_caption_5 : decode cX2_caption 5 = .ok (.iload_n 2, 1) := by decide +kernel
theorem dX2_caption_6 : decode cX2_caption 6 = .ok (.invokevirtual 112, 3) := by decide +kernel
theorem dX2_caption_9 : decode cX2_caption 9 = .ok (.istore 5, 2) := by decide +kernel
theorem dX2_caption_11 : decode cX2_caption 11 = .ok (.iload 5, 2) := by decide +kernel
theorem dX2_caption_13 : decode cX2_caption 13 = .ok (.ifCond .ge 5, 3) := by decide +kernel
theorem dX2_caption_16 : decode cX2_caption 16 = .ok (.iconst (-1), 1) := by decide +kernel
theorem dX2_caption_17 : decode cX2_caption 17 = .ok (.ireturn, 1) := by decide +kernel
theorem dX2_caption_18 : decode cX2_caption 18 = .ok (.aload_n 0, 1) := by decide +kernel
theorem dX2_caption_19 : decode cX2_caption 19 = .ok (.getfield 12, 3) := by decide +kernel
theorem dX2_caption_22 : decode cX2_caption 22 = .ok (.iload 5, 2) := by decide +kernel
theorem dX2_caption_24 : decode cX2_caption 24 = .ok (.iload_n 3, 1) := by decide +kernel
theorem dX2_caption_25 : decode cX2_caption 25 = .ok (.invokevirtual 119, 3) := by decide +kernel
theorem dX2_caption_28 : decode cX2_caption 28 = .ok (.istore 6, 2) := by decide +kernel
theorem dX2_caption_30 : decode cX2_caption 30 = .ok (.iload 6, 2) := by decide +kernel
theorem dX2_caption_32 : decode cX2_caption 32 = .ok (.ifCond .ge 5, 3) := by decide +kernel
theorem dX2_caption_35 : decode cX2_caption 35 = .ok (.iconst (-1), 1) := by decide +kernel
theorem dX2_caption_36 : decode cX2_caption 36 = .ok (.ireturn, 1) := by decide +kernel
theorem dX2_caption_37 : decode cX2_caption 37 = .ok (.iload 4, 2) := by decide +kernel
theorem dX2_caption_39 : decode cX2_caption 39 = .ok (.ifCond .lt 9, 3) := by decide +kernel
theorem dX2_caption_42 : decode cX2_caption 42 = .ok (.iload 4, 2) := by decide +kernel
theorem dX2_caption_44 : decode cX2_caption 44 = .ok (.iconst 3, 1) := by decide +kernel
theorem dX2_caption_45 : decode cX2_caption 45 = .ok (.if_icmp .lt 6, 3) := by decide +kernel
theorem dX2_caption_48 : decode cX2_caption 48 = .ok (.bipush (-2), 2) := by decide +kernel
theorem dX2_caption_50 : decode cX2_caption 50 = .ok (.ireturn, 1) := by decide +kernel
theorem dX2_caption_51 : decode cX2_caption 51 = .ok (.aload_n 0, 1) := by decide +kernel
theorem dX2_caption_52 : decode cX2_caption 52 = .ok (.getfield 12, 3) := by decide +kernel
theorem dX2_caption_55 : decode cX2_caption 55 = .ok (.getfield 115, 3) := by decide +kernel
theorem dX2_caption_58 : decode cX2_caption 58 = .ok (.iload 6, 2) := by decide +kernel
theorem dX2_caption_60 : decode cX2_caption 60 = .ok (.iload 4, 2) := by decide +kernel
theorem dX2_caption_62 : decode cX2_caption 62 = .ok (.iadd, 1) := by decide +kernel
theorem dX2_caption_63 : decode cX2_caption 63 = .ok (.iaload, 1) := by decide +kernel
theorem dX2_caption_64 : decode cX2_caption 64 = .ok (.ireturn, 1) := by decide +kernel
set_option maxRecDepth 20000 in
theorem ggX2_visitor_J6_bitCount_0f7a4 : GoodIn wsX2_visitor wsJ6_bitCount_0f7a4 := goodIn_r _ [11, 12, 13, 14] (by decide +kernel) (by decide +kernel)
set_option maxRecDepth 20000 in
theorem gX2_visitor_J6_bitCount_0f7a4 : GoodIn wsX2_visitor (va_wsS RX2 137 yJ6_bitCount_0f7a4 wsJ6_bitCount_0f7a4) := goodIn_app (goodIn_of _ (by decide +kernel)) ggX2_visitor_J6_bitCount_0f7a4
set_option maxRecDepth 20000 in
theorem ggX2_visitor_X1_textFor : GoodIn wsX2_visitor wsX1_textFor := goodIn_r _ [19, 20, 21, 22, 23, 24, 25, 26, 18, 27, 28, 39, 40, 41, 42, 43, 44, 45, 46, 47, 48, 49, 50] (by decide +kernel) (by decide +kernel)
set_option maxRecDepth 20000 in
theorem gX2_visitor_X1_textFor : GoodIn wsX2_visitor (wsV RX2 145 RX1 yX1_textFor wsX1_textFor) := goodIn_app (goodIn_of _ (by decide +kernel)) ggX2_visitor_X1_textFor
theorem dX2_visitor_0 : decode cX2_visitor 0 = .ok (.iload_n 1, 1) := by decide +kernel
theorem dX2_visitor_1 : decode cX2_visitor 1 = .ok (.ifCond .lt 8, 3) := by decide +kernel
theorem dX2_visitor_4 : decode cX2_visitor 4 = .ok (.iload_n 1, 1) := by decide +kernel
theorem dX2_visitor_5 : decode cX2_visitor 5 = .ok (.iconst 5, 1) := by decide +kernel
theorem dX2_visitor_6 : decode cX2_visitor 6 = .ok (.if_icmp .le 6, 3) := by decide +kernel
theorem dX2_visitor_9 : decode cX2_visitor 9 = .ok (.bipush (-2), 2) := by decide +kernel
theorem dX2_visitor_11 : decode cX2_visitor 11 = .ok (.ireturn, 1) := by decide +kernel
theorem dX2_visitor_12 : decode cX2_visitor 12 = .ok (.aload_n 0, 1) := by decide +kernel
theorem dX2_visitor_13 : decode cX2_visitor 13 = .ok (.getfield 12, 3) := by decide +kernel
theorem dX2_visitor_16 : decode cX2_visitor 16 = .ok (.getfield 122, 3) := by decide +kernel
theorem dX2_visitor_19 : decode cX2_visitor 19 = .ok (.ifCond .ne 6, 3) := by decide +kernel
theorem dX2_visitor_22 : decode cX2_visitor 22 = .ok (.bipush (-5), 2) := by decide +kernel
theorem dX2_visitor_24 : decode cX2_visitor 24 = .ok (.ireturn, 1) := by decide +kernel
theorem dX2_visitor_25 : decode cX2_visitor 25 = .ok (.iload_n 1, 1) := by decide +kernel
theorem dX2_visitor_26 : decode cX2_visitor 26 = .ok (.tableswitch 77 0 4 #[34, 42, 50, 58, 66], 34) := by decide +kernel
theorem dX2_visitor_60 : decode cX2_visitor 60 = .ok (.aload_n 0, 1) := by decide +kernel
theorem dX2_visitor_61 : decode cX2_visitor 61 = .ok (.getfield 12, 3) := by decide +kernel
theorem dX2_visitor_64 : decode cX2_visitor 64 = .ok (.getfield 125, 3) := by decide +kernel
theorem dX2_visitor_67 : decode cX2_visitor 67 = .ok (.ireturn, 1) := by decide +kernel
theorem dX2_visitor_68 : decode cX2_visitor 68 = .ok (.aload_n 0, 1) := by decide +kernel
theorem dX2_visitor_69 : decode cX2_visitor 69 = .ok (.getfield 12, 3) := by decide +kernel
theorem dX2_visitor_72 : decode cX2_visitor 72 = .ok (.getfield 128, 3) := by decide +kernel
theorem dX2_visitor_75 : decode cX2_visitor 75 = .ok (.ireturn, 1) := by decide +kernel
theorem dX2_visitor_76 : decode cX2_visitor 76 = .ok (.aload_n 0, 1) := by decide +kernel
theorem dX2_visitor_77 : decode cX2_visitor 77 = .ok (.getfield 12, 3) := by decide +kernel
theorem dX2_visitor_80 : decode cX2_visitor 80 = .ok (.getfield 131, 3) := by decide +kernel
theorem dX2_visitor_83 : decode cX2_visitor 83 = .ok (.ireturn, 1) := by decide +kernel
theorem dX2_visitor_84 : decode cX2_visitor 84 = .ok (.aload_n 0, 1) := by decide +kernel
theorem dX2_visitor_85 : decode cX2_visitor 85 = .ok (.getfield 12, 3) := by decide +kernel
theorem dX2_visitor_88 : decode cX2_visitor 88 = .ok (.getfield 134, 3) := by decide +kernel
theorem dX2_visitor_91 : decode cX2_visitor 91 = .ok (.ireturn, 1) := by decide +kernel
theorem dX2_visitor_92 : decode cX2_visitor 92 = .ok (.aload_n 0, 1) := by decide +kernel
theorem dX2_visitor_93 : decode cX2_visitor 93 = .ok (.getfield 12, 3) := by decide +kernel
theorem dX2_visitor_96 : decode cX2_visitor 96 = .ok (.getfield 134, 3) := by decide +kernel
theorem dX2_visitor_99 : decode cX2_visitor 99 = .ok (.invokestatic 137, 3) := by decide +kernel
theorem dX2_visitor_102 : decode cX2_visitor 102 = .ok (.ireturn, 1) := by decide +kernel
theorem dX2_visitor_103 : decode cX2_visitor 103 = .ok (.aload_n 0, 1) := by decide +kernel
theorem dX2_visitor_104 : decode cX2_visitor 104 = .ok (.getfield 12, 3) := by decide +kernel
theorem dX2_visitor_107 : decode cX2_visitor 107 = .ok (.aload_n 0, 1) := by decide +kernel
theorem dX2_visitor_108 : decode cX2_visitor 108 = .ok (.getfield 12, 3) := by decide +kernel
theorem dX2_visitor_111 : decode cX2_visitor 111 = .ok (.getfield 142, 3) := by decide +kernel
theorem dX2_visitor_114 : decode cX2_visitor 114 = .ok (.aload_n 0, 1) := by decide +kernel
theorem dX2_visitor_115 : decode cX2_visitor 115 = .ok (.getfield 12, 3) := by decide +kernel
theorem dX2_visitor_118 : decode cX2_visitor 118 = .ok (.getfield 125, 3) := by decide +kernel
theorem dX2_visitor_121 : decode cX2_visitor 121 = .ok (.invokevirtual 145, 3) := by decide +kernel
theorem dX2_visitor_124 : decode cX2_visitor 124 = .ok (.ireturn, 1) := by decide +kernel
set_option maxRecDepth 20000 in
theorem ggX2_shown_X2_isExhibit : GoodIn wsX2_shown wsX2_isExhibit := goodIn_r _ [5] (by decide +kernel) (by decide +kernel)
set_option maxRecDepth 20000 in
theorem gX2_shown_X2_isExhibit : GoodIn wsX2_shown (va_wsS RX2 148 yX2_isExhibit wsX2_isExhibit) := goodIn_app (goodIn_of _ (by decide +kernel)) ggX2_shown_X2_isExhibit
set_option maxRecDepth 20000 in
theorem ggX2_shown_X2_isAge : GoodIn wsX2_shown wsX2_isAge := goodIn_r _ [8] (by decide +kernel) (by decide +kernel)
set_option maxRecDepth 20000 in
theorem gX2_shown_X2_isAge : GoodIn wsX2_shown (va_wsS RX2 152 yX2_isAge wsX2_isAge) := goodIn_app (goodIn_of _ (by decide +kernel)) ggX2_shown_X2_isAge
set_option maxRecDepth 20000 in
theorem ggX2_shown_X1_textFor : GoodIn wsX2_shown wsX1_textFor := goodIn_r _ [13, 14, 3, 4, 5, 15, 16, 17, 12, 18, 19, 30, 31, 32, 33, 34, 35, 36, 37, 38, 39, 40, 41] (by decide +kernel) (by decide +kernel)
set_option maxRecDepth 20000 in
theorem gX2_shown_X1_textFor : GoodIn wsX2_shown (wsV RX2 145 RX1 yX1_textFor wsX1_textFor) := goodIn_app (goodIn_of _ (by decide +kernel)) ggX2_shown_X1_textFor
theorem dX2_shown_0 : decode cX2_shown 0 = .ok (.iload_n 1, 1) := by decide +kernel
theorem dX2_shown_1 : decode cX2_shown 1 = .ok (.invokestatic 148, 3) := by decide +kernel
theorem dX2_shown_4 : decode cX2_shown 4 = .ok (.ifCond .ne 5, 3) := by decide +kernel
theorem dX2_shown_7 : decode cX2_shown 7 = .ok (.iconst (-1), 1) := by decide +kernel
theorem dX2_shown_8 : decode cX2_shown 8 = .ok (.ireturn, 1) := by decide +kernel
theorem dX2_shown_9 : decode cX2_shown 9 = .ok (.iload_n 2, 1) := by decide +kernel
theorem dX2_shown_10 : decode cX2_shown 10 = .ok (.invokestatic 152, 3) := by decide +kernel
theorem dX2_shown_13 : decode cX2_shown 13 = .ok (.ifCond .ne 6, 3) := by decide +kernel
theorem dX2_shown_16 : decode cX2_shown 16 = .ok (.bipush (-2), 2) := by decide +kernel
theorem dX2_shown_18 : decode cX2_shown 18 = .ok (.ireturn, 1) := by decide +kernel
theorem dX2_shown_19 : decode cX2_shown 19 = .ok (.aload_n 0, 1) := by decide +kernel
theorem dX2_shown_20 : decode cX2_shown 20 = .ok (.getfield 12, 3) := by decide +kernel
theorem dX2_shown_23 : decode cX2_shown 23 = .ok (.iload_n 1, 1) := by decide +kernel
theorem dX2_shown_24 : decode cX2_shown 24 = .ok (.iload_n 2, 1) := by decide +kernel
theorem dX2_shown_25 : decode cX2_shown 25 = .ok (.invokevirtual 145, 3) := by decide +kernel
theorem dX2_shown_28 : decode cX2_shown 28 = .ok (.ireturn, 1) := by decide +kernel
set_option maxRecDepth 20000 in
theorem ggX2_unmet_X2_isAge : GoodIn wsX2_unmet wsX2_isAge := goodIn_r _ [5] (by decide +kernel) (by decide +kernel)
set_option maxRecDepth 20000 in
theorem gX2_unmet_X2_isAge : GoodIn wsX2_unmet (va_wsS RX2 152 yX2_isAge wsX2_isAge) := goodIn_app (goodIn_of _ (by decide +kernel)) ggX2_unmet_X2_isAge
set_option maxRecDepth 20000 in
theorem ggX2_unmet_X1_allFacts : GoodIn wsX2_unmet wsX1_allFacts := goodIn_r _ [10, 11, 12, 41, 42, 43, 44, 45, 46, 47, 48, 49, 50, 51, 52] (by decide +kernel) (by decide +kernel)
set_option maxRecDepth 20000 in
theorem gX2_unmet_X1_allFacts : GoodIn wsX2_unmet (wsV RX2 155 RX1 yX1_allFacts wsX1_allFacts) := goodIn_app (goodIn_of _ (by decide +kernel)) ggX2_unmet_X1_allFacts
set_option maxRecDepth 20000 in
theorem ggX2_unmet_X1_factsFor : GoodIn wsX2_unmet wsX1_factsFor := goodIn_r _ [16, 12, 17, 18, 19, 9, 20, 11, 21, 4, 22, 23, 24, 25, 26, 27, 28, 29, 30, 41, 42, 43, 44, 45, 46, 47, 48, 49, 50, 51, 52] (by decide +kernel) (by decide +kernel)
set_option maxRecDepth 20000 in
theorem gX2_unmet_X1_factsFor : GoodIn wsX2_unmet (wsV RX2 158 RX1 yX1_factsFor wsX1_factsFor) := goodIn_app (goodIn_of _ (by decide +kernel)) ggX2_unmet_X1_factsFor
theorem dX2_unmet_0 : decode cX2_unmet 0 = .ok (.iload_n 1, 1) := by decide +kernel
theorem dX2_unmet_1 : decode cX2_unmet 1 = .ok (.invokestatic 152, 3) := by decide +kernel
theorem dX2_unmet_4 : decode cX2_unmet 4 = .ok (.ifCond .ne 6, 3) := by decide +kernel
theorem dX2_unmet_7 : decode cX2_unmet 7 = .ok (.bipush (-2), 2) := by decide +kernel
theorem dX2_unmet_9 : decode cX2_unmet 9 = .ok (.ireturn, 1) := by decide +kernel
theorem dX2_unmet_10 : decode cX2_unmet 10 = .ok (.aload_n 0, 1) := by decide +kernel
theorem dX2_unmet_11 : decode cX2_unmet 11 = .ok (.getfield 12, 3) := by decide +kernel
theorem dX2_unmet_14 : decode cX2_unmet 14 = .ok (.invokevirtual 155, 3) := by decide +kernel
theorem dX2_unmet_17 : decode cX2_unmet 17 = .ok (.aload_n 0, 1) := by decide +kernel
theorem dX2_unmet_18 : decode cX2_unmet 18 = .ok (.getfield 12, 3) := by decide +kernel
theorem dX2_unmet_21 : decode cX2_unmet 21 = .ok (.iload_n 1, 1) := by decide +kernel
theorem dX2_unmet_22 : decode cX2_unmet 22 = .ok (.invokevirtual 158, 3) := by decide +kernel
theorem dX2_unmet_25 : decode cX2_unmet 25 = .ok (.iconst (-1), 1) := by decide +kernel
theorem dX2_unmet_26 : decode cX2_unmet 26 = .ok (.ixor, 1) := by decide +kernel
theorem dX2_unmet_27 : decode cX2_unmet 27 = .ok (.iand, 1) := by decide +kernel
theorem dX2_unmet_28 : decode cX2_unmet 28 = .ok (.ireturn, 1) := by decide +kernel
set_option maxRecDepth 20000 in
theorem ggX2_round_X2_attempt : GoodIn wsX2_round wsX2_attempt := goodIn_r _ [6, 7, 8, 9, 10, 11, 12, 13, 14, 15, 16, 17, 18, 19, 20, 21, 22, 23, 24, 25, 26, 27, 28, 29, 86, 87, 88, 89, 90, 91, 92, 93, 94, 95, 74, 75, 76, 77, 78, 79, 80, 81, 82, 83, 84, 85] (by decide +kernel) (by decide +kernel)
set_option maxRecDepth 20000 in
theorem gX2_round_X2_attempt : GoodIn wsX2_round (wsV RX2 33 RX2 yX2_attempt wsX2_attempt) := goodIn_app (goodIn_of _ (by decide +kernel)) ggX2_round_X2_attempt
set_option maxRecDepth 20000 in
theorem ggX2_round_X1_admit : GoodIn wsX2_round wsX1_admit := goodIn_r _ [33, 25, 26, 27, 28, 29, 22, 20, 34, 5, 35, 36, 37, 38, 12, 39, 14, 40, 41, 42, 43, 44, 45, 19, 74, 75, 76, 77, 78, 79, 80, 81, 82, 83, 84, 85] (by decide +kernel) (by decide +kernel)
set_option maxRecDepth 20000 in
theorem gX2_round_X1_admit : GoodIn wsX2_round (wsV RX2 72 RX1 yX1_admit wsX1_admit) := goodIn_app (goodIn_of _ (by decide +kernel)) ggX2_round_X1_admit
set_option maxRecDepth 20000 in
theorem ggX2_round_X1_readShown : GoodIn wsX2_round wsX1_readShown := goodIn_r _ [49, 19, 28, 29, 23, 50, 51, 52, 12, 53, 25, 20, 26, 36, 37, 38, 39, 14, 40, 5, 41, 42, 43, 44, 45, 54, 55, 56, 57, 58, 59, 60, 61, 27, 62, 63, 64, 65, 74, 75, 76, 77, 78, 79, 80, 81, 82, 83, 84, 85] (by decide +kernel) (by decide +kernel)
set_option maxRecDepth 20000 in
theorem gX2_round_X1_readShown : GoodIn wsX2_round (wsV RX2 161 RX1 yX1_readShown wsX1_readShown) := goodIn_app (goodIn_of _ (by decide +kernel)) ggX2_round_X1_readShown
set_option maxRecDepth 20000 in
theorem ggX2_round_X1_turnRing : GoodIn wsX2_round wsX1_turnRing := goodIn_r _ [69, 20, 28, 21, 62, 63, 64, 65, 70, 71, 72, 73, 74, 75, 76, 77, 78, 79, 80, 81, 82, 83, 84, 85] (by decide +kernel) (by decide +kernel)
set_option maxRecDepth 20000 in
theorem gX2_round_X1_turnRing : GoodIn wsX2_round (wsV RX2 81 RX1 yX1_turnRing wsX1_turnRing) := goodIn_app (goodIn_of _ (by decide +kernel)) ggX2_round_X1_turnRing
theorem dX2_round_0 : decode cX2_round 0 = .ok (.aload_n 0, 1) := by decide +kernel
theorem dX2_round_1 : decode cX2_round 1 = .ok (.invokevirtual 33, 3) := by decide +kernel
theorem dX2_round_4 : decode cX2_round 4 = .ok (.astore 4, 2) := by decide +kernel
theorem dX2_round_6 : decode cX2_round 6 = .ok (.aload 4, 2) := by decide +kernel
theorem dX2_round_8 : decode cX2_round 8 = .ok (.iload_n 1, 1) := by decide +kernel
theorem dX2_round_9 : decode cX2_round 9 = .ok (.iload_n 2, 1) := by decide +kernel
theorem dX2_round_10 : decode cX2_round 10 = .ok (.iload_n 3, 1) := by decide +kernel
theorem dX2_round_11 : decode cX2_round 11 = .ok (.invokevirtual 72, 3) := by decide +kernel
theorem dX2_round_14 : decode cX2_round 14 = .ok (.istore 5, 2) := by decide +kernel
theorem dX2_round_16 : decode cX2_round 16 = .ok (.iload 5, 2) := by decide +kernel
theorem dX2_round_18 : decode cX2_round 18 = .ok (.ifCond .ge 6, 3) := by decide +kernel
theorem dX2_round_21 : decode cX2_round 21 = .ok (.iload 5, 2) := by decide +kernel
theorem dX2_round_23 : decode cX2_round 23 = .ok (.ireturn, 1) := by decide +kernel
theorem dX2_round_24 : decode cX2_round 24 = .ok (.aload 4, 2) := by decide +kernel
theorem dX2_round_26 : decode cX2_round 26 = .ok (.invokevirtual 161, 3) := by decide +kernel
theorem dX2_round_29 : decode cX2_round 29 = .ok (.pop, 1) := by decide +kernel
theorem dX2_round_30 : decode cX2_round 30 = .ok (.iconst 1, 1) := by decide +kernel
theorem dX2_round_31 : decode cX2_round 31 = .ok (.istore 6, 2) := by decide +kernel
theorem dX2_round_33 : decode cX2_round 33 = .ok (.iload 6, 2) := by decide +kernel
theorem dX2_round_35 : decode cX2_round 35 = .ok (.bipush 8, 2) := by decide +kernel
theorem dX2_round_37 : decode cX2_round 37 = .ok (.if_icmp .ge 22, 3) := by decide +kernel
theorem dX2_round_40 : decode cX2_round 40 = .ok (.aload 4, 2) := by decide +kernel
theorem dX2_round_42 : decode cX2_round 42 = .ok (.iconst 1, 1) := by decide +kernel
theorem dX2_round_43 : decode cX2_round 43 = .ok (.invokevirtual 81, 3) := by decide +kernel
theorem dX2_round_46 : decode cX2_round 46 = .ok (.pop, 1) := by decide +kernel
theorem dX2_round_47 : decode cX2_round 47 = .ok (.aload 4, 2) := by decide +kernel
theorem dX2_round_49 : decode cX2_round 49 = .ok (.invokevirtual 161, 3) := by decide +kernel
theorem dX2_round_52 : decode cX2_round 52 = .ok (.pop, 1) := by decide +kernel
theorem dX2_round_53 : decode cX2_round 53 = .ok (.iinc 6 1, 3) := by decide +kernel
theorem dX2_round_56 : decode cX2_round 56 = .ok (.goto (-23), 3) := by decide +kernel
theorem dX2_round_59 : decode cX2_round 59 = .ok (.aload 4, 2) := by decide +kernel
theorem dX2_round_61 : decode cX2_round 61 = .ok (.getfield 134, 3) := by decide +kernel
theorem dX2_round_64 : decode cX2_round 64 = .ok (.ireturn, 1) := by decide +kernel
set_option maxRecDepth 20000 in
theorem ggX2_ages_X1_rowOf : GoodIn wsX2_ages wsX1_rowOf := goodIn_r _ [6, 7, 8, 9, 10, 30, 31, 32, 33, 34, 35, 36, 37, 38, 39, 40, 41] (by decide +kernel) (by decide +kernel)
set_option maxRecDepth 20000 in
theorem gX2_ages_X1_rowOf : GoodIn wsX2_ages (wsV RX2 112 RX1 yX1_rowOf wsX1_rowOf) := goodIn_app (goodIn_of _ (by decide +kernel)) ggX2_ages_X1_rowOf
set_option maxRecDepth 20000 in
theorem ggX2_ages_X1_textFor : GoodIn wsX2_ages wsX1_textFor := goodIn_r _ [14, 7, 8, 9, 10, 15, 16, 17, 5, 18, 19, 30, 31, 32, 33, 34, 35, 36, 37, 38, 39, 40, 41] (by decide +kernel) (by decide +kernel)
set_option maxRecDepth 20000 in
theorem gX2_ages_X1_textFor : GoodIn wsX2_ages (wsV RX2 145 RX1 yX1_textFor wsX1_textFor) := goodIn_app (goodIn_of _ (by decide +kernel)) ggX2_ages_X1_textFor
theorem dX2_ages_0 : decode cX2_ages 0 = .ok (.aload_n 0, 1) := by decide +kernel
theorem dX2_ages_1 : decode cX2_ages 1 = .ok (.getfield 12, 3) := by decide +kernel
theorem dX2_ages_4 : decode cX2_ages 4 = .ok (.iload_n 1, 1) := by decide +kernel
theorem dX2_ages_5 : decode cX2_ages 5 = .ok (.iload_n 2, 1) := by decide +kernel
theorem dX2_ages_6 : decode cX2_ages 6 = .ok (.invokevirtual 112, 3) := by decide +kernel
theorem dX2_ages_9 : decode cX2_ages 9 = .ok (.ifCond .ge 5, 3) := by decide +kernel
theorem dX2_ages_12 : decode cX2_ages 12 = .ok (.iconst (-1), 1) := by decide +kernel
theorem dX2_ages_13 : decode cX2_ages 13 = .ok (.ireturn, 1) := by decide +kernel
theorem dX2_ages_14 : decode cX2_ages 14 = .ok (.iload_n 3, 1) := by decide +kernel
theorem dX2_ages_15 : decode cX2_ages 15 = .ok (.ifCond .lt 8, 3) := by decide +kernel
theorem dX2_ages_18 : decode cX2_ages 18 = .ok (.iload_n 3, 1) := by decide +kernel
theorem dX2_ages_19 : decode cX2_ages 19 = .ok (.iconst 2, 1) := by decide +kernel
theorem dX2_ages_20 : decode cX2_ages 20 = .ok (.if_icmp .le 6, 3) := by decide +kernel
theorem dX2_ages_23 : decode cX2_ages 23 = .ok (.bipush (-2), 2) := by decide +kernel
theorem dX2_ages_25 : decode cX2_ages 25 = .ok (.ireturn, 1) := by decide +kernel
theorem dX2_ages_26 : decode cX2_ages 26 = .ok (.bipush (-5), 2) := by decide +kernel
theorem dX2_ages_28 : decode cX2_ages 28 = .ok (.istore 4, 2) := by decide +kernel
theorem dX2_ages_30 : decode cX2_ages 30 = .ok (.bipush (-5), 2) := by decide +kernel
theorem dX2_ages_32 : decode cX2_ages 32 = .ok (.istore 5, 2) := by decide +kernel
theorem dX2_ages_34 : decode cX2_ages 34 = .ok (.iconst 0, 1) := by decide +kernel
theorem dX2_ages_35 : decode cX2_ages 35 = .ok (.istore 6, 2) := by decide +kernel
theorem dX2_ages_37 : decode cX2_ages 37 = .ok (.iconst 4, 1) := by decide +kernel
theorem dX2_ages_38 : decode cX2_ages 38 = .ok (.istore 7, 2) := by decide +kernel
theorem dX2_ages_40 : decode cX2_ages 40 = .ok (.iload 7, 2) := by decide +kernel
theorem dX2_ages_42 : decode cX2_ages 42 = .ok (.bipush 99, 2) := by decide +kernel
theorem dX2_ages_44 : decode cX2_ages 44 = .ok (.if_icmp .gt 44, 3) := by decide +kernel
theorem dX2_ages_47 : decode cX2_ages 47 = .ok (.aload_n 0, 1) := by decide +kernel
theorem dX2_ages_48 : decode cX2_ages 48 = .ok (.getfield 12, 3) := by decide +kernel
theorem dX2_ages_51 : decode cX2_ages 51 = .ok (.iload_n 1, 1) := by decide +kernel
theorem dX2_ages_52 : decode cX2_ages 52 = .ok (.iload 7, 2) := by decide +kernel
theorem dX2_ages_54 : decode cX2_ages 54 = .ok (.invokevirtual 145, 3) := by decide +kernel
theorem dX2_ages_57 : decode cX2_ages 57 = .ok (.iload_n 2, 1) := by decide +kernel
theorem dX2_ages_58 : decode cX2_ages 58 = .ok (.if_icmp .ne 24, 3) := by decide +kernel
theorem dX2_ages_61 : decode cX2_ages 61 = .ok (.iload 6, 2) := by decide +kernel
theorem dX2_ages_63 : decode cX2_ages 63 = .ok (.ifCond .ne 8, 3) := by decide +kernel
theorem dX2_ages_66 : decode cX2_ages 66 = .ok (.iload 7, 2) := by decide +kernel
theorem dX2_ages_68 : decode cX2_ages 68 = .ok (.goto 5, 3) := by decide +kernel
theorem dX2_ages_71 : decode cX2_ages 71 = .ok (.iload 4, 2) := by decide +kernel
theorem dX2_ages_73 : decode cX2_ages 73 = .ok (.istore 4, 2) := by decide +kernel
theorem dX2_ages_75 : decode cX2_ages 75 = .ok (.iload 7, 2) := by decide +kernel
theorem dX2_ages_77 : decode cX2_ages 77 = .ok (.istore 5, 2) := by decide +kernel
theorem dX2_ages_79 : decode cX2_ages 79 = .ok (.iinc 6 1, 3) := by decide +kernel
theorem dX2_ages_82 : decode cX2_ages 82 = .ok (.iinc 7 1, 3) := by decide +kernel
theorem dX2_ages_85 : decode cX2_ages 85 = .ok (.goto (-45), 3) := by decide +kernel
theorem dX2_ages_88 : decode cX2_ages 88 = .ok (.iload_n 3, 1) := by decide +kernel
theorem dX2_ages_89 : decode cX2_ages 89 = .ok (.iconst 2, 1) := by decide +kernel
theorem dX2_ages_90 : decode cX2_ages 90 = .ok (.if_icmp .ne 6, 3) := by decide +kernel
theorem dX2_ages_93 : decode cX2_ages 93 = .ok (.iload 6, 2) := by decide +kernel
theorem dX2_ages_95 : decode cX2_ages 95 = .ok (.ireturn, 1) := by decide +kernel
theorem dX2_ages_96 : decode cX2_ages 96 = .ok (.iload_n 3, 1) := by decide +kernel
theorem dX2_ages_97 : decode cX2_ages 97 = .ok (.ifCond .ne 8, 3) := by decide +kernel
theorem dX2_ages_100 : decode cX2_ages 100 = .ok (.iload 4, 2) := by decide +kernel
theorem dX2_ages_102 : decode cX2_ages 102 = .ok (.goto 5, 3) := by decide +kernel
theorem dX2_ages_105 : decode cX2_ages 105 = .ok (.iload 5, 2) := by decide +kernel
theorem dX2_ages_107 : decode cX2_ages 107 = .ok (.ireturn, 1) := by decide +kernel
set_option maxRecDepth 20000 in
theorem ggX2_count_X1_countTexts : GoodIn wsX2_count wsX1_countTexts := goodIn_r _ [14, 15, 46, 47, 48, 49, 50, 51, 52, 53, 54, 55, 56, 57] (by decide +kernel) (by decide +kernel)
set_option maxRecDepth 20000 in
theorem gX2_count_X1_countTexts : GoodIn wsX2_count (wsV RX2 109 RX1 yX1_countTexts wsX1_countTexts) := goodIn_app (goodIn_of _ (by decide +kernel)) ggX2_count_X1_countTexts
set_option maxRecDepth 20000 in
theorem ggX2_count_X1_countCaptions : GoodIn wsX2_count wsX1_countCaptions := goodIn_r _ [19, 15, 20, 46, 47, 48, 49, 50, 51, 52, 53, 54, 55, 56, 57] (by decide +kernel) (by decide +kernel)
set_option maxRecDepth 20000 in
theorem gX2_count_X1_countCaptions : GoodIn wsX2_count (wsV RX2 165 RX1 yX1_countCaptions wsX1_countCaptions) := goodIn_app (goodIn_of _ (by decide +kernel)) ggX2_count_X1_countCaptions
set_option maxRecDepth 20000 in
theorem ggX2_count_X1_countNeverRead : GoodIn wsX2_count wsX1_countNeverRead := goodIn_r _ [24, 15, 20, 46, 47, 48, 49, 50, 51, 52, 53, 54, 55, 56, 57] (by decide +kernel) (by decide +kernel)
set_option maxRecDepth 20000 in
theorem gX2_count_X1_countNeverRead : GoodIn wsX2_count (wsV RX2 180 RX1 yX1_countNeverRead wsX1_countNeverRead) := goodIn_app (goodIn_of _ (by decide +kernel)) ggX2_count_X1_countNeverRead
set_option maxRecDepth 20000 in
theorem ggX2_count_X1_allFacts : GoodIn wsX2_count wsX1_allFacts := goodIn_r _ [28, 15, 20, 46, 47, 48, 49, 50, 51, 52, 53, 54, 55, 56, 57] (by decide +kernel) (by decide +kernel)
set_option maxRecDepth 20000 in
theorem gX2_count_X1_allFacts : GoodIn wsX2_count (wsV RX2 155 RX1 yX1_allFacts wsX1_allFacts) := goodIn_app (goodIn_of _ (by decide +kernel)) ggX2_count_X1_allFacts
set_option maxRecDepth 20000 in
theorem ggX2_count_J6_bitCount_0f7a4 : GoodIn wsX2_count wsJ6_bitCount_0f7a4 := goodIn_r _ [32, 33, 34, 35] (by decide +kernel) (by decide +kernel)
set_option maxRecDepth 20000 in
theorem gX2_count_J6_bitCount_0f7a4 : GoodIn wsX2_count (va_wsS RX2 137 yJ6_bitCount_0f7a4 wsJ6_bitCount_0f7a4) := goodIn_app (goodIn_of _ (by decide +kernel)) ggX2_count_J6_bitCount_0f7a4
theorem dX2_count_0 : decode cX2_count 0 = .ok (.iload_n 1, 1) := by decide +kernel
theorem dX2_count_1 : decode cX2_count 1 = .ok (.tableswitch 147 0 10 #[59, 67, 75, 83, 91, 99, 107, 115, 123, 134, 139], 59) := by decide +kernel
theorem dX2_count_60 : decode cX2_count 60 = .ok (.aload_n 0, 1) := by decide +kernel
theorem dX2_count_61 : decode cX2_count 61 = .ok (.getfield 12, 3) := by decide +kernel
theorem dX2_count_64 : decode cX2_count 64 = .ok (.invokevirtual 109, 3) := by decide +kernel
theorem dX2_count_67 : decode cX2_count 67 = .ok (.ireturn, 1) := by decide +kernel
theorem dX2_count_68 : decode cX2_count 68 = .ok (.aload_n 0, 1) := by decide +kernel
theorem dX2_count_69 : decode cX2_count 69 = .ok (.getfield 12, 3) := by decide +kernel
theorem dX2_count_72 : decode cX2_count 72 = .ok (.invokevirtual 165, 3) := by decide +kernel
theorem dX2_count_75 : decode cX2_count 75 = .ok (.ireturn, 1) := by decide +kernel
theorem dX2_count_76 : decode cX2_count 76 = .ok (.aload_n 0, 1) := by decide +kernel
theorem dX2_count_77 : decode cX2_count 77 = .ok (.getfield 12, 3) := by decide +kernel
theorem dX2_count_80 : decode cX2_count 80 = .ok (.getfield 142, 3) := by decide +kernel
theorem dX2_count_83 : decode cX2_count 83 = .ok (.ireturn, 1) := by decide +kernel
theorem dX2_count_84 : decode cX2_count 84 = .ok (.aload_n 0, 1) := by decide +kernel
theorem dX2_count_85 : decode cX2_count 85 = .ok (.getfield 12, 3) := by decide +kernel
theorem dX2_count_88 : decode cX2_count 88 = .ok (.getfield 168, 3) := by decide +kernel
theorem dX2_count_91 : decode cX2_count 91 = .ok (.ireturn, 1) := by decide +kernel
theorem dX2_count_92 : decode cX2_count 92 = .ok (.aload_n 0, 1) := by decide +kernel
theorem dX2_count_93 : decode cX2_count 93 = .ok (.getfield 12, 3) := by decide +kernel
theorem dX2_count_96 : decode cX2_count 96 = .ok (.getfield 171, 3) := by decide +kernel
theorem dX2_count_99 : decode cX2_count 99 = .ok (.ireturn, 1) := by decide +kernel
theorem dX2_count_100 : decode cX2_count 100 = .ok (.aload_n 0, 1) := by decide +kernel
theorem dX2_count_101 : decode cX2_count 101 = .ok (.getfield 12, 3) := by decide +kernel
theorem dX2_count_104 : decode cX2_count 104 = .ok (.getfield 174, 3) := by decide +kernel
theorem dX2_count_107 : decode cX2_count 107 = .ok (.ireturn, 1) := by decide +kernel
theorem dX2_count_108 : decode cX2_count 108 = .ok (.aload_n 0, 1) := by decide +kernel
theorem dX2_count_109 : decode cX2_count 109 = .ok (.getfield 12, 3) := by decide +kernel
theorem dX2_count_112 : decode cX2_count 112 = .ok (.getfield 177, 3) := by decide +kernel
theorem dX2_count_115 : decode cX2_count 115 = .ok (.ireturn, 1) := by decide +kernel
theorem dX2_count_116 : decode cX2_count 116 = .ok (.aload_n 0, 1) := by decide +kernel
theorem dX2_count_117 : decode cX2_count 117 = .ok (.getfield 12, 3) := by decide +kernel
theorem dX2_count_120 : decode cX2_count 120 = .ok (.invokevirtual 180, 3) := by decide +kernel
theorem dX2_count_123 : decode cX2_count 123 = .ok (.ireturn, 1) := by decide +kernel
theorem dX2_count_124 : decode cX2_count 124 = .ok (.aload_n 0, 1) := by decide +kernel
theorem dX2_count_125 : decode cX2_count 125 = .ok (.getfield 12, 3) := by decide +kernel
theorem dX2_count_128 : decode cX2_count 128 = .ok (.invokevirtual 155, 3) := by decide +kernel
theorem dX2_count_131 : decode cX2_count 131 = .ok (.invokestatic 137, 3) := by decide +kernel
theorem dX2_count_134 : decode cX2_count 134 = .ok (.ireturn, 1) := by decide +kernel
theorem dX2_count_135 : decode cX2_count 135 = .ok (.aload_n 0, 1) := by decide +kernel
theorem dX2_count_136 : decode cX2_count 136 = .ok (.getfield 95, 3) := by decide +kernel
theorem dX2_count_139 : decode cX2_count 139 = .ok (.ireturn, 1) := by decide +kernel
theorem dX2_count_140 : decode cX2_count 140 = .ok (.aload_n 0, 1) := by decide +kernel
theorem dX2_count_141 : decode cX2_count 141 = .ok (.getfield 29, 3) := by decide +kernel
theorem dX2_count_144 : decode cX2_count 144 = .ok (.getfield 92, 3) := by decide +kernel
theorem dX2_count_147 : decode cX2_count 147 = .ok (.ireturn, 1) := by decide +kernel
theorem dX2_count_148 : decode cX2_count 148 = .ok (.bipush (-2), 2) := by decide +kernel
theorem dX2_count_150 : decode cX2_count 150 = .ok (.ireturn, 1) := by decide +kernel
set_option maxRecDepth 20000 in
theorem ggX2_attempt_X1_copyFrom : GoodIn wsX2_attempt wsX1_copyFrom := goodIn_r _ [7, 8, 9, 10, 11, 12, 13, 14, 15, 16, 17, 18, 19, 20, 21, 22, 23, 34, 35, 36, 37, 38, 39, 40, 41, 42, 43, 44, 45] (by decide +kernel) (by decide +kernel)
set_option maxRecDepth 20000 in
theorem gX2_attempt_X1_copyFrom : GoodIn wsX2_attempt (wsV RX2 101 RX1 yX1_copyFrom wsX1_copyFrom) := goodIn_app (goodIn_of _ (by decide +kernel)) ggX2_attempt_X1_copyFrom
theorem dX2_attempt_0 : decode cX2_attempt 0 = .ok (.aload_n 0, 1) := by decide +kernel
theorem dX2_attempt_1 : decode cX2_attempt 1 = .ok (.getfield 16, 3) := by decide +kernel
theorem dX2_attempt_4 : decode cX2_attempt 4 = .ok (.aload_n 0, 1) := by decide +kernel
theorem dX2_attempt_5 : decode cX2_attempt 5 = .ok (.getfield 12, 3) := by decide +kernel
theorem dX2_attempt_8 : decode cX2_attempt 8 = .ok (.invokevirtual 101, 3) := by decide +kernel
theorem dX2_attempt_11 : decode cX2_attempt 11 = .ok (.aload_n 0, 1) := by decide +kernel
theorem dX2_attempt_12 : decode cX2_attempt 12 = .ok (.getfield 16, 3) := by decide +kernel
theorem dX2_attempt_15 : decode cX2_attempt 15 = .ok (.areturn, 1) := by decide +kernel
theorem dX2_settle_0 : decode cX2_settle 0 = .ok (.iload_n 1, 1) := by decide +kernel
theorem dX2_settle_1 : decode cX2_settle 1 = .ok (.ifCond .ge 5, 3) := by decide +kernel
theorem dX2_settle_4 : decode cX2_settle 4 = .ok (.iload_n 1, 1) := by decide +kernel
theorem dX2_settle_5 : decode cX2_settle 5 = .ok (.ireturn, 1) := by decide +kernel
theorem dX2_settle_6 : decode cX2_settle 6 = .ok (.aload_n 0, 1) := by decide +kernel
theorem dX2_settle_7 : decode cX2_settle 7 = .ok (.getfield 98, 3) := by decide +kernel
theorem dX2_settle_10 : decode cX2_settle 10 = .ok (.iconst 3, 1) := by decide +kernel
theorem dX2_settle_11 : decode cX2_settle 11 = .ok (.iand, 1) := by decide +kernel
theorem dX2_settle_12 : decode cX2_settle 12 = .ok (.istore_n 2, 1) := by decide +kernel
theorem dX2_settle_13 : decode cX2_settle 13 = .ok (.aload_n 0, 1) := by decide +kernel
theorem dX2_settle_14 : decode cX2_settle 14 = .ok (.getfield 22, 3) := by decide +kernel
theorem dX2_settle_17 : decode cX2_settle 17 = .ok (.iload_n 2, 1) := by decide +kernel
theorem dX2_settle_18 : decode cX2_settle 18 = .ok (.aaload, 1) := by decide +kernel
theorem dX2_settle_19 : decode cX2_settle 19 = .ok (.astore_n 3, 1) := by decide +kernel
theorem dX2_settle_20 : decode cX2_settle 20 = .ok (.aload_n 0, 1) := by decide +kernel
theorem dX2_settle_21 : decode cX2_settle 21 = .ok (.getfield 22, 3) := by decide +kernel
theorem dX2_settle_24 : decode cX2_settle 24 = .ok (.iload_n 2, 1) := by decide +kernel
theorem dX2_settle_25 : decode cX2_settle 25 = .ok (.aload_n 0, 1) := by decide +kernel
theorem dX2_settle_26 : decode cX2_settle 26 = .ok (.getfield 12, 3) := by decide +kernel
theorem dX2_settle_29 : decode cX2_settle 29 = .ok (.aastore, 1) := by decide +kernel
theorem dX2_settle_30 : decode cX2_settle 30 = .ok (.aload_n 0, 1) := by decide +kernel
theorem dX2_settle_31 : decode cX2_settle 31 = .ok (.aload_n 0, 1) := by decide +kernel
theorem dX2_settle_32 : decode cX2_settle 32 = .ok (.getfield 16, 3) := by decide +kernel
theorem dX2_settle_35 : decode cX2_settle 35 = .ok (.putfield 12, 3) := by decide +kernel
theorem dX2_settle_38 : decode cX2_settle 38 = .ok (.aload_n 0, 1) := by decide +kernel
theorem dX2_settle_39 : decode cX2_settle 39 = .ok (.aload_n 3, 1) := by decide +kernel
theorem dX2_settle_40 : decode cX2_settle 40 = .ok (.putfield 16, 3) := by decide +kernel
theorem dX2_settle_43 : decode cX2_settle 43 = .ok (.aload_n 0, 1) := by decide +kernel
theorem dX2_settle_44 : decode cX2_settle 44 = .ok (.dup, 1) := by decide +kernel
theorem dX2_settle_45 : decode cX2_settle 45 = .ok (.getfield 98, 3) := by decide +kernel
theorem dX2_settle_48 : decode cX2_settle 48 = .ok (.iconst 1, 1) := by decide +kernel
theorem dX2_settle_49 : decode cX2_settle 49 = .ok (.iadd, 1) := by decide +kernel
theorem dX2_settle_50 : decode cX2_settle 50 = .ok (.putfield 98, 3) := by decide +kernel
theorem dX2_settle_53 : decode cX2_settle 53 = .ok (.aload_n 0, 1) := by decide +kernel
theorem dX2_settle_54 : decode cX2_settle 54 = .ok (.aload_n 0, 1) := by decide +kernel
theorem dX2_settle_55 : decode cX2_settle 55 = .ok (.getfield 95, 3) := by decide +kernel
theorem dX2_settle_58 : decode cX2_settle 58 = .ok (.iconst 1, 1) := by decide +kernel
theorem dX2_settle_59 : decode cX2_settle 59 = .ok (.iadd, 1) := by decide +kernel
theorem dX2_settle_60 : decode cX2_settle 60 = .ok (.iconst 4, 1) := by decide +kernel
theorem dX2_settle_61 : decode cX2_settle 61 = .ok (.invokestatic 183, 3) := by decide +kernel
theorem dX2_settle_64 : decode cX2_settle 64 = .ok (.putfield 95, 3) := by decide +kernel
theorem dX2_settle_67 : decode cX2_settle 67 = .ok (.iload_n 1, 1) := by decide +kernel
theorem dX2_settle_68 : decode cX2_settle 68 = .ok (.ireturn, 1) := by decide +kernel
theorem dX2_isExhibit_0 : decode cX2_isExhibit 0 = .ok (.iload_n 0, 1) := by decide +kernel
theorem dX2_isExhibit_1 : decode cX2_isExhibit 1 = .ok (.ifCond .lt 13, 3) := by decide +kernel
theorem dX2_isExhibit_4 : decode cX2_isExhibit 4 = .ok (.iload_n 0, 1) := by decide +kernel
theorem dX2_isExhibit_5 : decode cX2_isExhibit 5 = .ok (.bipush 8, 2) := by decide +kernel
theorem dX2_isExhibit_7 : decode cX2_isExhibit 7 = .ok (.if_icmp .ge 7, 3) := by decide +kernel
theorem dX2_isExhibit_10 : decode cX2_isExhibit 10 = .ok (.iconst 1, 1) := by decide +kernel
theorem dX2_isExhibit_11 : decode cX2_isExhibit 11 = .ok (.goto 4, 3) := by decide +kernel
theorem dX2_isExhibit_14 : decode cX2_isExhibit 14 = .ok (.iconst 0, 1) := by decide +kernel
theorem dX2_isExhibit_15 : decode cX2_isExhibit 15 = .ok (.ireturn, 1) := by decide +kernel
theorem dX2_isAge_0 : decode cX2_isAge 0 = .ok (.iload_n 0, 1) := by decide +kernel
theorem dX2_isAge_1 : decode cX2_isAge 1 = .ok (.iconst 4, 1) := by decide +kernel
theorem dX2_isAge_2 : decode cX2_isAge 2 = .ok (.if_icmp .lt 13, 3) := by decide +kernel
theorem dX2_isAge_5 : decode cX2_isAge 5 = .ok (.iload_n 0, 1) := by decide +kernel
theorem dX2_isAge_6 : decode cX2_isAge 6 = .ok (.bipush 99, 2) := by decide +kernel
theorem dX2_isAge_8 : decode cX2_isAge 8 = .ok (.if_icmp .gt 7, 3) := by decide +kernel
theorem dX2_isAge_11 : decode cX2_isAge 11 = .ok (.iconst 1, 1) := by decide +kernel
theorem dX2_isAge_12 : decode cX2_isAge 12 = .ok (.goto 4, 3) := by decide +kernel
theorem dX2_isAge_15 : decode cX2_isAge 15 = .ok (.iconst 0, 1) := by decide +kernel
theorem dX2_isAge_16 : decode cX2_isAge 16 = .ok (.ireturn, 1) := by decide +kernel
theorem dX2_isText_0 : decode cX2_isText 0 = .ok (.iload_n 0, 1) := by decide +kernel
theorem dX2_isText_1 : decode cX2_isText 1 = .ok (.iconst 1, 1) := by decide +kernel
theorem dX2_isText_2 : decode cX2_isText 2 = .ok (.if_icmp .lt 39, 3) := by decide +kernel
theorem dX2_isText_5 : decode cX2_isText 5 = .ok (.iload_n 0, 1) := by decide +kernel
theorem dX2_isText_6 : decode cX2_isText 6 = .ok (.sipush 300, 3) := by decide +kernel
theorem dX2_isText_9 : decode cX2_isText 9 = .ok (.if_icmp .gt 32, 3) := by decide +kernel
theorem dX2_isText_12 : decode cX2_isText 12 = .ok (.iload_n 1, 1) := by decide +kernel
theorem dX2_isText_13 : decode cX2_isText 13 = .ok (.iconst 1, 1) := by decide +kernel
theorem dX2_isText_14 : decode cX2_isText 14 = .ok (.if_icmp .lt 27, 3) := by decide +kernel
theorem dX2_isText_17 : decode cX2_isText 17 = .ok (.iload_n 1, 1) := by decide +kernel
theorem dX2_isText_18 : decode cX2_isText 18 = .ok (.bipush 50, 2) := by decide +kernel
theorem dX2_isText_20 : decode cX2_isText 20 = .ok (.if_icmp .gt 21, 3) := by decide +kernel
theorem dX2_isText_23 : decode cX2_isText 23 = .ok (.iload_n 1, 1) := by decide +kernel
theorem dX2_isText_24 : decode cX2_isText 24 = .ok (.iload_n 0, 1) := by decide +kernel
theorem dX2_isText_25 : decode cX2_isText 25 = .ok (.if_icmp .gt 16, 3) := by decide +kernel
theorem dX2_isText_28 : decode cX2_isText 28 = .ok (.iload_n 2, 1) := by decide +kernel
theorem dX2_isText_29 : decode cX2_isText 29 = .ok (.ifCond .lt 12, 3) := by decide +kernel
theorem dX2_isText_32 : decode cX2_isText 32 = .ok (.iload_n 2, 1) := by decide +kernel
theorem dX2_isText_33 : decode cX2_isText 33 = .ok (.iload_n 0, 1) := by decide +kernel
theorem dX2_isText_34 : decode cX2_isText 34 = .ok (.if_icmp .gt 7, 3) := by decide +kernel
theorem dX2_isText_37 : decode cX2_isText 37 = .ok (.iconst 1, 1) := by decide +kernel
theorem dX2_isText_38 : decode cX2_isText 38 = .ok (.goto 4, 3) := by decide +kernel
theorem dX2_isText_41 : decode cX2_isText 41 = .ok (.iconst 0, 1) := by decide +kernel
theorem dX2_isText_42 : decode cX2_isText 42 = .ok (.ireturn, 1) := by decide +kernel
theorem dJ6_bitCount_0f7a4_0 : decode cJ6_bitCount_0f7a4 0 = .ok (.iload_n 0, 1) := by decide +kernel
theorem dJ6_bitCount_0f7a4_1 : decode cJ6_bitCount_0f7a4 1 = .ok (.iload_n 0, 1) := by decide +kernel
theorem dJ6_bitCount_0f7a4_2 : decode cJ6_bitCount_0f7a4 2 = .ok (.iconst 1, 1) := by decide +kernel
theorem dJ6_bitCount_0f7a4_3 : decode cJ6_bitCount_0f7a4 3 = .ok (.iushr, 1) := by decide +kernel
theorem dJ6_bitCount_0f7a4_4 : decode cJ6_bitCount_0f7a4 4 = .ok (.ldc_w 265, 3) := by decide +kernel
theorem dJ6_bitCount_0f7a4_7 : decode cJ6_bitCount_0f7a4 7 = .ok (.iand, 1) := by decide +kernel
theorem dJ6_bitCount_0f7a4_8 : decode cJ6_bitCount_0f7a4 8 = .ok (.isub, 1) := by decide +kernel
theorem dJ6_bitCount_0f7a4_9 : decode cJ6_bitCount_0f7a4 9 = .ok (.istore_n 0, 1) := by decide +kernel
theorem dJ6_bitCount_0f7a4_10 : decode cJ6_bitCount_0f7a4 10 = .ok (.iload_n 0, 1) := by decide +kernel
theorem dJ6_bitCount_0f7a4_11 : decode cJ6_bitCount_0f7a4 11 = .ok (.ldc_w 266, 3) := by decide +kernel
theorem dJ6_bitCount_0f7a4_14 : decode cJ6_bitCount_0f7a4 14 = .ok (.iand, 1) := by decide +kernel
theorem dJ6_bitCount_0f7a4_15 : decode cJ6_bitCount_0f7a4 15 = .ok (.iload_n 0, 1) := by decide +kernel
theorem dJ6_bitCount_0f7a4_16 : decode cJ6_bitCount_0f7a4 16 = .ok (.iconst 2, 1) := by decide +kernel
theorem dJ6_bitCount_0f7a4_17 : decode cJ6_bitCount_0f7a4 17 = .ok (.iushr, 1) := by decide +kernel
theorem dJ6_bitCount_0f7a4_18 : decode cJ6_bitCount_0f7a4 18 = .ok (.ldc_w 266, 3) := by decide +kernel
theorem dJ6_bitCount_0f7a4_21 : decode cJ6_bitCount_0f7a4 21 = .ok (.iand, 1) := by decide +kernel
theorem dJ6_bitCount_0f7a4_22 : decode cJ6_bitCount_0f7a4 22 = .ok (.iadd, 1) := by decide +kernel
theorem dJ6_bitCount_0f7a4_23 : decode cJ6_bitCount_0f7a4 23 = .ok (.istore_n 0, 1) := by decide +kernel
theorem dJ6_bitCount_0f7a4_24 : decode cJ6_bitCount_0f7a4 24 = .ok (.iload_n 0, 1) := by decide +kernel
theorem dJ6_bitCount_0f7a4_25 : decode cJ6_bitCount_0f7a4 25 = .ok (.iload_n 0, 1) := by decide +kernel
theorem dJ6_bitCount_0f7a4_26 : decode cJ6_bitCount_0f7a4 26 = .ok (.iconst 4, 1) := by decide +kernel
theorem dJ6_bitCount_0f7a4_27 : decode cJ6_bitCount_0f7a4 27 = .ok (.iushr, 1) := by decide +kernel
theorem dJ6_bitCount_0f7a4_28 : decode cJ6_bitCount_0f7a4 28 = .ok (.iadd, 1) := by decide +kernel
theorem dJ6_bitCount_0f7a4_29 : decode cJ6_bitCount_0f7a4 29 = .ok (.ldc_w 267, 3) := by decide +kernel
theorem dJ6_bitCount_0f7a4_32 : decode cJ6_bitCount_0f7a4 32 = .ok (.iand, 1) := by decide +kernel
theorem dJ6_bitCount_0f7a4_33 : decode cJ6_bitCount_0f7a4 33 = .ok (.istore_n 0, 1) := by decide +kernel
theorem dJ6_bitCount_0f7a4_34 : decode cJ6_bitCount_0f7a4 34 = .ok (.iload_n 0, 1) := by decide +kernel
theorem dJ6_bitCount_0f7a4_35 : decode cJ6_bitCount_0f7a4 35 = .ok (.iload_n 0, 1) := by decide +kernel
theorem dJ6_bitCount_0f7a4_36 : decode cJ6_bitCount_0f7a4 36 = .ok (.bipush 8, 2) := by decide +kernel
theorem dJ6_bitCount_0f7a4_38 : decode cJ6_bitCount_0f7a4 38 = .ok (.iushr, 1) := by decide +kernel
theorem dJ6_bitCount_0f7a4_39 : decode cJ6_bitCount_0f7a4 39 = .ok (.iadd, 1) := by decide +kernel
theorem dJ6_bitCount_0f7a4_40 : decode cJ6_bitCount_0f7a4 40 = .ok (.istore_n 0, 1) := by decide +kernel
theorem dJ6_bitCount_0f7a4_41 : decode cJ6_bitCount_0f7a4 41 = .ok (.iload_n 0, 1) := by decide +kernel
theorem dJ6_bitCount_0f7a4_42 : decode cJ6_bitCount_0f7a4 42 = .ok (.iload_n 0, 1) := by decide +kernel
theorem dJ6_bitCount_0f7a4_43 : decode cJ6_bitCount_0f7a4 43 = .ok (.bipush 16, 2) := by decide +kernel
theorem dJ6_bitCount_0f7a4_45 : decode cJ6_bitCount_0f7a4 45 = .ok (.iushr, 1) := by decide +kernel
theorem dJ6_bitCount_0f7a4_46 : decode cJ6_bitCount_0f7a4 46 = .ok (.iadd, 1) := by decide +kernel
theorem dJ6_bitCount_0f7a4_47 : decode cJ6_bitCount_0f7a4 47 = .ok (.istore_n 0, 1) := by decide +kernel
theorem dJ6_bitCount_0f7a4_48 : decode cJ6_bitCount_0f7a4 48 = .ok (.iload_n 0, 1) := by decide +kernel
theorem dJ6_bitCount_0f7a4_49 : decode cJ6_bitCount_0f7a4 49 = .ok (.bipush 63, 2) := by decide +kernel
theorem dJ6_bitCount_0f7a4_51 : decode cJ6_bitCount_0f7a4 51 = .ok (.iand, 1) := by decide +kernel
theorem dJ6_bitCount_0f7a4_52 : decode cJ6_bitCount_0f7a4 52 = .ok (.ireturn, 1) := by decide +kernel
theorem dJ9_floorMod_7cf53_0 : decode cJ9_floorMod_7cf53 0 = .ok (.iload_n 0, 1) := by decide +kernel
theorem dJ9_floorMod_7cf53_1 : decode cJ9_floorMod_7cf53 1 = .ok (.iload_n 1, 1) := by decide +kernel
theorem dJ9_floorMod_7cf53_2 : decode cJ9_floorMod_7cf53 2 = .ok (.irem, 1) := by decide +kernel
theorem dJ9_floorMod_7cf53_3 : decode cJ9_floorMod_7cf53 3 = .ok (.istore_n 2, 1) := by decide +kernel
theorem dJ9_floorMod_7cf53_4 : decode cJ9_floorMod_7cf53 4 = .ok (.iload_n 0, 1) := by decide +kernel
theorem dJ9_floorMod_7cf53_5 : decode cJ9_floorMod_7cf53 5 = .ok (.iload_n 1, 1) := by decide +kernel
theorem dJ9_floorMod_7cf53_6 : decode cJ9_floorMod_7cf53 6 = .ok (.ixor, 1) := by decide +kernel
theorem dJ9_floorMod_7cf53_7 : decode cJ9_floorMod_7cf53 7 = .ok (.ifCond .ge 11, 3) := by decide +kernel
theorem dJ9_floorMod_7cf53_10 : decode cJ9_floorMod_7cf53 10 = .ok (.iload_n 2, 1) := by decide +kernel
theorem dJ9_floorMod_7cf53_11 : decode cJ9_floorMod_7cf53 11 = .ok (.ifCond .eq 7, 3) := by decide +kernel
theorem dJ9_floorMod_7cf53_14 : decode cJ9_floorMod_7cf53 14 = .ok (.iload_n 2, 1) := by decide +kernel
theorem dJ9_floorMod_7cf53_15 : decode cJ9_floorMod_7cf53 15 = .ok (.iload_n 1, 1) := by decide +kernel
theorem dJ9_floorMod_7cf53_16 : decode cJ9_floorMod_7cf53 16 = .ok (.iadd, 1) := by decide +kernel
theorem dJ9_floorMod_7cf53_17 : decode cJ9_floorMod_7cf53 17 = .ok (.ireturn, 1) := by decide +kernel
theorem dJ9_floorMod_7cf53_18 : decode cJ9_floorMod_7cf53 18 = .ok (.iload_n 2, 1) := by decide +kernel
theorem dJ9_floorMod_7cf53_19 : decode cJ9_floorMod_7cf53 19 = .ok (.ireturn, 1) := by decide +kernel
theorem dJ9_max_7cf53_0 : decode cJ9_max_7cf53 0 = .ok (.iload_n 0, 1) := by decide +kernel
theorem dJ9_max_7cf53_1 : decode cJ9_max_7cf53 1 = .ok (.iload_n 1, 1) := by decide +kernel
theorem dJ9_max_7cf53_2 : decode cJ9_max_7cf53 2 = .ok (.if_icmp .lt 7, 3) := by decide +kernel
theorem dJ9_max_7cf53_5 : decode cJ9_max_7cf53 5 = .ok (.iload_n 0, 1) := by decide +kernel
theorem dJ9_max_7cf53_6 : decode cJ9_max_7cf53 6 = .ok (.goto 4, 3) := by decide +kernel
theorem dJ9_max_7cf53_9 : decode cJ9_max_7cf53 9 = .ok (.iload_n 1, 1) := by decide +kernel
theorem dJ9_max_7cf53_10 : decode cJ9_max_7cf53 10 = .ok (.ireturn, 1) := by decide +kernel
theorem dJ9_min_7cf53_0 : decode cJ9_min_7cf53 0 = .ok (.iload_n 0, 1) := by decide +kernel
theorem dJ9_min_7cf53_1 : decode cJ9_min_7cf53 1 = .ok (.iload_n 1, 1) := by decide +kernel
theorem dJ9_min_7cf53_2 : decode cJ9_min_7cf53 2 = .ok (.if_icmp .gt 7, 3) := by decide +kernel
theorem dJ9_min_7cf53_5 : decode cJ9_min_7cf53 5 = .ok (.iload_n 0, 1) := by decide +kernel
theorem dJ9_min_7cf53_6 : decode cJ9_min_7cf53 6 = .ok (.goto 4, 3) := by decide +kernel
theorem dJ9_min_7cf53_9 : decode cJ9_min_7cf53 9 = .ok (.iload_n 1, 1) := by decide +kernel
theorem dJ9_min_7cf53_10 : decode cJ9_min_7cf53 10 = .ok (.ireturn, 1) := by decide +kernel
abbrev vwCl : List vw_C := [(RX0, TX0, 10), (RX1, TX1, 12), (RX2, TX2, 10)]
/-! ===== END printed: names ===== -/
