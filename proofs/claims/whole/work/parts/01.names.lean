/-! ===== BEGIN words of one list among another's, by their places ===== -/
theorem goodIn_r {big : List Cond} (ws : List Cond) (ps : List Nat) (hp : ws = ps.filterMap (fun i => big[i]?)) (h : ws.all goodWord = true) : GoodIn big ws := by
  intro w hw
  have h1 := List.all_eq_true.mp h w hw
  rw [hp] at hw
  obtain ⟨i, -, hi⟩ := List.mem_filterMap.mp hw
  have hm : w ∈ big := by first | exact List.mem_of_getElem? hi | exact List.getElem?_mem hi
  exact ⟨hm, good_of_word h1⟩
theorem goodIn_app {big a b : List Cond} (ha : GoodIn big a) (hb : GoodIn big b) : GoodIn big (a ++ b) := fun w h => (List.mem_append.mp h).elim (ha w) (hb w)
theorem goodIn_ca {big a b : List Cond} {c : Cond} (ha : GoodIn big (c :: a)) (hb : GoodIn big b) : GoodIn big (c :: (a ++ b)) := fun w h => (List.mem_cons.mp h).elim (fun e => ha w (List.mem_cons.mpr (Or.inl e))) (fun h => (List.mem_append.mp h).elim (fun h => ha w (List.mem_cons.mpr (Or.inr h))) (hb w))
theorem goodIn_sub {big ws : List Cond} (hm : ∀ w ∈ ws, w ∈ big) (h : ws.all goodWord = true) : GoodIn big ws := fun w hw => ⟨hm w hw, good_of_word (List.all_eq_true.mp h w hw)⟩
/-! ===== END ===== -/

/-! ===== BEGIN printed: names, fields, word lists, decode rows ===== -/
def RX0 : String := "ExhibitTexts$Pad"
def TX0 : u_T := fun k => match k with
  | 0 => ("ExhibitTexts$Pad", "characters", "[C", true)
  | 1 => ("ExhibitTexts$Pad", "length", "I", false)
  | 2 => ("ExhibitTexts$Pad", "place", "I", false)
  | 3 => ("ExhibitTexts$Pad", "isCaption", "Z", false)
  | 4 => ("ExhibitTexts$Pad", "exhibit", "I", false)
  | 5 => ("ExhibitTexts$Pad", "text", "I", false)
  | 6 => ("ExhibitTexts$Pad", "words", "I", false)
  | 7 => ("ExhibitTexts$Pad", "sentences", "I", false)
  | 8 => ("ExhibitTexts$Pad", "longs", "I", false)
  | _ => ("ExhibitTexts$Pad", "facts", "I", false)
def tyX0 : Nat → FieldType := fun k => match k with
  | 0 => .array .char
  | 1 => .int
  | 2 => .int
  | 3 => .boolean
  | 4 => .int
  | 5 => .int
  | 6 => .int
  | 7 => .int
  | 8 => .int
  | _ => .int
abbrev wsX00 : List Cond := u_ws RX0 TX0 10
theorem nmX0 : ∀ a, a < 10 → ∀ b, b < 10 → a ≠ b → (TX0 a).2.1 ≠ (TX0 b).2.1 := by decide +kernel
theorem tyX0_ok : ∀ k, k < 10 → parseFieldDescriptor (TX0 k).2.2.1 = some (tyX0 k) := by decide +kernel
abbrev cX0_init : ByteArray := prog_2_method_1_code
def yX0_init : MethodName := ⟨RX0, "<init>", "()V"⟩
abbrev cX0_append : ByteArray := prog_2_method_2_code
def yX0_append : MethodName := ⟨RX0, "append", "(C)I"⟩
abbrev cX0_findFault : ByteArray := prog_2_method_3_code
def yX0_findFault : MethodName := ⟨RX0, "findFault", "()I"⟩
abbrev cX0_takeEntry : ByteArray := prog_2_method_4_code
def yX0_takeEntry : MethodName := ⟨RX0, "takeEntry", "()Z"⟩
abbrev cX0_takeText : ByteArray := prog_2_method_5_code
def yX0_takeText : MethodName := ⟨RX0, "takeText", "()Z"⟩
abbrev cX0_takeCaption : ByteArray := prog_2_method_6_code
def yX0_takeCaption : MethodName := ⟨RX0, "takeCaption", "()Z"⟩
abbrev cX0_takeSign : ByteArray := prog_2_method_7_code
def yX0_takeSign : MethodName := ⟨RX0, "takeSign", "(C)Z"⟩
abbrev cX0_takeNumber : ByteArray := prog_2_method_8_code
def yX0_takeNumber : MethodName := ⟨RX0, "takeNumber", "(II)I"⟩
abbrev cX0_takeFacts : ByteArray := prog_2_method_9_code
def yX0_takeFacts : MethodName := ⟨RX0, "takeFacts", "()I"⟩
abbrev cX0_nextDigit : ByteArray := prog_2_method_10_code
def yX0_nextDigit : MethodName := ⟨RX0, "nextDigit", "()I"⟩
abbrev cX0_nextSign : ByteArray := prog_2_method_11_code
def yX0_nextSign : MethodName := ⟨RX0, "nextSign", "()I"⟩
def RX1 : String := "ExhibitTexts$State"
def TX1 : u_T := fun k => match k with
  | 0 => ("ExhibitTexts$State", "sizes", "[I", true)
  | 1 => ("ExhibitTexts$State", "cells", "[I", true)
  | 2 => ("ExhibitTexts$State", "standsAt", "I", false)
  | 3 => ("ExhibitTexts$State", "turning", "I", false)
  | 4 => ("ExhibitTexts$State", "visitors", "I", false)
  | 5 => ("ExhibitTexts$State", "textsRead", "I", false)
  | 6 => ("ExhibitTexts$State", "captionsRead", "I", false)
  | 7 => ("ExhibitTexts$State", "hasVisitor", "Z", false)
  | 8 => ("ExhibitTexts$State", "age", "I", false)
  | 9 => ("ExhibitTexts$State", "pace", "I", false)
  | 10 => ("ExhibitTexts$State", "seconds", "I", false)
  | _ => ("ExhibitTexts$State", "learned", "I", false)
def tyX1 : Nat → FieldType := fun k => match k with
  | 0 => .array .int
  | 1 => .array .int
  | 2 => .int
  | 3 => .int
  | 4 => .int
  | 5 => .int
  | 6 => .int
  | 7 => .boolean
  | 8 => .int
  | 9 => .int
  | 10 => .int
  | _ => .int
abbrev wsX10 : List Cond := u_ws RX1 TX1 12
theorem nmX1 : ∀ a, a < 12 → ∀ b, b < 12 → a ≠ b → (TX1 a).2.1 ≠ (TX1 b).2.1 := by decide +kernel
theorem tyX1_ok : ∀ k, k < 12 → parseFieldDescriptor (TX1 k).2.2.1 = some (tyX1 k) := by decide +kernel
abbrev cX1_init : ByteArray := prog_3_method_1_code
def yX1_init : MethodName := ⟨RX1, "<init>", "()V"⟩
abbrev cX1_copyFrom : ByteArray := prog_3_method_2_code
def yX1_copyFrom : MethodName := ⟨RX1, "copyFrom", "(LExhibitTexts$State;)V"⟩
abbrev cX1_rowOf : ByteArray := prog_3_method_3_code
def yX1_rowOf : MethodName := ⟨RX1, "rowOf", "(II)I"⟩
abbrev cX1_captionOf : ByteArray := prog_3_method_4_code
def yX1_captionOf : MethodName := ⟨RX1, "captionOf", "(II)I"⟩
abbrev cX1_putText : ByteArray := prog_3_method_5_code
def yX1_putText : MethodName := ⟨RX1, "putText", "(IIIII)I"⟩
abbrev cX1_dropText : ByteArray := prog_3_method_6_code
def yX1_dropText : MethodName := ⟨RX1, "dropText", "(II)I"⟩
abbrev cX1_changeFacts : ByteArray := prog_3_method_7_code
def yX1_changeFacts : MethodName := ⟨RX1, "changeFacts", "(III)I"⟩
abbrev cX1_captionFacts : ByteArray := prog_3_method_8_code
def yX1_captionFacts : MethodName := ⟨RX1, "captionFacts", "(I)I"⟩
abbrev cX1_putCaption : ByteArray := prog_3_method_9_code
def yX1_putCaption : MethodName := ⟨RX1, "putCaption", "(IIII)I"⟩
abbrev cX1_admit : ByteArray := prog_3_method_10_code
def yX1_admit_n : String := match tables_1[274]? with
  | some (Cond.instanceMethod y) => y.name
  | _ => ""
def yX1_admit : MethodName := ⟨RX1, yX1_admit_n, "(III)I"⟩
abbrev cX1_touchCaption : ByteArray := prog_3_method_11_code
def yX1_touchCaption : MethodName := ⟨RX1, "touchCaption", "(I)I"⟩
abbrev cX1_readUntouched : ByteArray := prog_3_method_12_code
def yX1_readUntouched : MethodName := ⟨RX1, "readUntouched", "()I"⟩
abbrev cX1_readShown : ByteArray := prog_3_method_13_code
def yX1_readShown : MethodName := ⟨RX1, "readShown", "()Z"⟩
abbrev cX1_turnRing : ByteArray := prog_3_method_14_code
def yX1_turnRing : MethodName := ⟨RX1, "turnRing", "(Z)I"⟩
abbrev cX1_changeTurning : ByteArray := prog_3_method_15_code
def yX1_changeTurning : MethodName := ⟨RX1, "changeTurning", "(I)I"⟩
abbrev cX1_shownRow : ByteArray := prog_3_method_16_code
def yX1_shownRow : MethodName := ⟨RX1, "shownRow", "()I"⟩
abbrev cX1_timeFor : ByteArray := prog_3_method_17_code
def yX1_timeFor : MethodName := ⟨RX1, "timeFor", "(I)I"⟩
abbrev cX1_textFor : ByteArray := prog_3_method_18_code
def yX1_textFor : MethodName := ⟨RX1, "textFor", "(II)I"⟩
abbrev cX1_fitsBetter : ByteArray := prog_3_method_19_code
def yX1_fitsBetter : MethodName := ⟨RX1, "fitsBetter", "(III)Z"⟩
abbrev cX1_factsFor : ByteArray := prog_3_method_20_code
def yX1_factsFor : MethodName := ⟨RX1, "factsFor", "(I)I"⟩
abbrev cX1_allFacts : ByteArray := prog_3_method_21_code
def yX1_allFacts : MethodName := ⟨RX1, "allFacts", "()I"⟩
abbrev cX1_countTexts : ByteArray := prog_3_method_22_code
def yX1_countTexts : MethodName := ⟨RX1, "countTexts", "()I"⟩
abbrev cX1_countCaptions : ByteArray := prog_3_method_23_code
def yX1_countCaptions : MethodName := ⟨RX1, "countCaptions", "()I"⟩
abbrev cX1_countNeverRead : ByteArray := prog_3_method_24_code
def yX1_countNeverRead : MethodName := ⟨RX1, "countNeverRead", "()I"⟩
def RX2 : String := "ExhibitTexts"
def TX2 : u_T := fun k => match k with
  | 0 => ("ExhibitTexts", "now", "LExhibitTexts$State;", false)
  | 1 => ("ExhibitTexts", "trial", "LExhibitTexts$State;", false)
  | 2 => ("ExhibitTexts", "snapshot", "LExhibitTexts$State;", true)
  | 3 => ("ExhibitTexts", "kept", "Z", false)
  | 4 => ("ExhibitTexts", "history", "[LExhibitTexts$State;", true)
  | 5 => ("ExhibitTexts", "nextInHistory", "I", false)
  | 6 => ("ExhibitTexts", "statesInHistory", "I", false)
  | 7 => ("ExhibitTexts", "pad", "LExhibitTexts$Pad;", true)
  | 8 => ("ExhibitTexts", "refusedEntry", "I", false)
  | _ => ("ExhibitTexts", "refusedError", "I", false)
def tyX2 : Nat → FieldType := fun k => match k with
  | 0 => .object "ExhibitTexts$State"
  | 1 => .object "ExhibitTexts$State"
  | 2 => .object "ExhibitTexts$State"
  | 3 => .boolean
  | 4 => .array (.object "ExhibitTexts$State")
  | 5 => .int
  | 6 => .int
  | 7 => .object "ExhibitTexts$Pad"
  | 8 => .int
  | _ => .int
abbrev wsX20 : List Cond := u_ws RX2 TX2 10
theorem nmX2 : ∀ a, a < 10 → ∀ b, b < 10 → a ≠ b → (TX2 a).2.1 ≠ (TX2 b).2.1 := by decide +kernel
theorem tyX2_ok : ∀ k, k < 10 → parseFieldDescriptor (TX2 k).2.2.1 = some (tyX2 k) := by decide +kernel
abbrev cX2_init : ByteArray := prog_1_method_1_code
def yX2_init : MethodName := ⟨RX2, "<init>", "()V"⟩
abbrev cX2_addText : ByteArray := prog_1_method_2_code
def yX2_addText : MethodName := ⟨RX2, "addText", "(IIIII)I"⟩
abbrev cX2_removeText : ByteArray := prog_1_method_3_code
def yX2_removeText : MethodName := ⟨RX2, "removeText", "(II)I"⟩
abbrev cX2_setFacts : ByteArray := prog_1_method_4_code
def yX2_setFacts : MethodName := ⟨RX2, "setFacts", "(III)I"⟩
abbrev cX2_addCaption : ByteArray := prog_1_method_5_code
def yX2_addCaption : MethodName := ⟨RX2, "addCaption", "(IIII)I"⟩
abbrev cX2_readEntries : ByteArray := prog_1_method_6_code
def yX2_readEntries : MethodName := ⟨RX2, "readEntries", "()I"⟩
abbrev cX2_refusal : ByteArray := prog_1_method_7_code
def yX2_refusal : MethodName := ⟨RX2, "refusal", "(I)I"⟩
abbrev cX2_enter : ByteArray := prog_1_method_8_code
def yX2_enter : MethodName := ⟨RX2, "enter", "(III)I"⟩
abbrev cX2_touch : ByteArray := prog_1_method_9_code
def yX2_touch : MethodName := ⟨RX2, "touch", "(I)I"⟩
abbrev cX2_read : ByteArray := prog_1_method_10_code
def yX2_read : MethodName := ⟨RX2, "read", "()I"⟩
abbrev cX2_turn : ByteArray := prog_1_method_11_code
def yX2_turn : MethodName := ⟨RX2, "turn", "(Z)I"⟩
abbrev cX2_setTurning : ByteArray := prog_1_method_12_code
def yX2_setTurning : MethodName := ⟨RX2, "setTurning", "(I)I"⟩
abbrev cX2_type : ByteArray := prog_1_method_13_code
def yX2_type : MethodName := ⟨RX2, "type", "(C)I"⟩
abbrev cX2_clearPad : ByteArray := prog_1_method_14_code
def yX2_clearPad : MethodName := ⟨RX2, "clearPad", "()I"⟩
abbrev cX2_undo : ByteArray := prog_1_method_15_code
def yX2_undo : MethodName := ⟨RX2, "undo", "()I"⟩
abbrev cX2_keep : ByteArray := prog_1_method_16_code
def yX2_keep : MethodName := ⟨RX2, "keep", "()I"⟩
abbrev cX2_restore : ByteArray := prog_1_method_17_code
def yX2_restore : MethodName := ⟨RX2, "restore", "()I"⟩
abbrev cX2_text : ByteArray := prog_1_method_18_code
def yX2_text : MethodName := ⟨RX2, "text", "(III)I"⟩
abbrev cX2_caption : ByteArray := prog_1_method_19_code
def yX2_caption : MethodName := ⟨RX2, "caption", "(IIII)I"⟩
abbrev cX2_visitor : ByteArray := prog_1_method_20_code
def yX2_visitor : MethodName := ⟨RX2, "visitor", "(I)I"⟩
abbrev cX2_shown : ByteArray := prog_1_method_21_code
def yX2_shown : MethodName := ⟨RX2, "shown", "(II)I"⟩
abbrev cX2_unmet : ByteArray := prog_1_method_22_code
def yX2_unmet : MethodName := ⟨RX2, "unmet", "(I)I"⟩
abbrev cX2_round : ByteArray := prog_1_method_23_code
def yX2_round : MethodName := ⟨RX2, "round", "(III)I"⟩
abbrev cX2_ages : ByteArray := prog_1_method_24_code
def yX2_ages : MethodName := ⟨RX2, "ages", "(III)I"⟩
abbrev cX2_count : ByteArray := prog_1_method_25_code
def yX2_count : MethodName := ⟨RX2, "count", "(I)I"⟩
abbrev cX2_attempt : ByteArray := prog_1_method_26_code
def yX2_attempt : MethodName := ⟨RX2, "attempt", "()LExhibitTexts$State;"⟩
abbrev cX2_settle : ByteArray := prog_1_method_27_code
def yX2_settle : MethodName := ⟨RX2, "settle", "(I)I"⟩
abbrev cX2_doEntries : ByteArray := prog_1_method_28_code
def yX2_doEntries : MethodName := ⟨RX2, "doEntries", "(LExhibitTexts$State;)I"⟩
abbrev cX2_doEntry : ByteArray := prog_1_method_29_code
def yX2_doEntry : MethodName := ⟨RX2, "doEntry", "(LExhibitTexts$State;)I"⟩
abbrev cX2_isExhibit : ByteArray := prog_1_method_30_code
def yX2_isExhibit : MethodName := ⟨RX2, "isExhibit", "(I)Z"⟩
abbrev cX2_isAge : ByteArray := prog_1_method_31_code
def yX2_isAge : MethodName := ⟨RX2, "isAge", "(I)Z"⟩
abbrev cX2_isText : ByteArray := prog_1_method_32_code
def yX2_isText : MethodName := ⟨RX2, "isText", "(III)Z"⟩
def RX3 : String := "ExhibitTextsModel"
def TX3 : u_T := fun k => match k with
  | 0 => ("ExhibitTextsModel", "s", "[I", true)
  | 1 => ("ExhibitTextsModel", "aside", "[I", true)
  | 2 => ("ExhibitTextsModel", "before", "[I", true)
  | 3 => ("ExhibitTextsModel", "known", "I", false)
  | 4 => ("ExhibitTextsModel", "kept", "[I", true)
  | 5 => ("ExhibitTextsModel", "isKept", "Z", false)
  | 6 => ("ExhibitTextsModel", "pad", "[I", true)
  | 7 => ("ExhibitTextsModel", "typed", "I", false)
  | 8 => ("ExhibitTextsModel", "refusedAt", "I", false)
  | 9 => ("ExhibitTextsModel", "refusedBy", "I", false)
  | 10 => ("ExhibitTextsModel", "reading", "I", false)
  | 11 => ("ExhibitTextsModel", "isWrong", "Z", false)
  | 12 => ("ExhibitTextsModel", "told", "[I", true)
  | _ => ("ExhibitTextsModel", "fault", "I", false)
def tyX3 : Nat → FieldType := fun k => match k with
  | 0 => .array .int
  | 1 => .array .int
  | 2 => .array .int
  | 3 => .int
  | 4 => .array .int
  | 5 => .boolean
  | 6 => .array .int
  | 7 => .int
  | 8 => .int
  | 9 => .int
  | 10 => .int
  | 11 => .boolean
  | 12 => .array .int
  | _ => .int
abbrev wsX30 : List Cond := u_ws RX3 TX3 14
theorem nmX3 : ∀ a, a < 14 → ∀ b, b < 14 → a ≠ b → (TX3 a).2.1 ≠ (TX3 b).2.1 := by decide +kernel
theorem tyX3_ok : ∀ k, k < 14 → parseFieldDescriptor (TX3 k).2.2.1 = some (tyX3 k) := by decide +kernel
abbrev cX3_init : ByteArray := prog_5_method_1_code
def yX3_init : MethodName := ⟨RX3, "<init>", "()V"⟩
abbrev cX3_in : ByteArray := prog_5_method_3_code
def yX3_in : MethodName := ⟨RX3, "in", "(III)Z"⟩
abbrev cX3_manyAt : ByteArray := prog_5_method_4_code
def yX3_manyAt : MethodName := ⟨RX3, "manyAt", "(I)I"⟩
abbrev cX3_of : ByteArray := prog_5_method_5_code
def yX3_of : MethodName := ⟨RX3, "of", "(III)I"⟩
abbrev cX3_ofCaption : ByteArray := prog_5_method_6_code
def yX3_ofCaption : MethodName := ⟨RX3, "ofCaption", "(IIII)I"⟩
abbrev cX3_isExhibit : ByteArray := prog_5_method_7_code
def yX3_isExhibit : MethodName := ⟨RX3, "isExhibit", "(I)Z"⟩
abbrev cX3_isText : ByteArray := prog_5_method_8_code
def yX3_isText : MethodName := ⟨RX3, "isText", "(II)Z"⟩
abbrev cX3_isCaption : ByteArray := prog_5_method_9_code
def yX3_isCaption : MethodName := ⟨RX3, "isCaption", "(III)Z"⟩
abbrev cX3_know : ByteArray := prog_5_method_10_code
def yX3_know : MethodName := ⟨RX3, "know", "()V"⟩
abbrev cX3_bitsOf : ByteArray := prog_5_method_11_code
def yX3_bitsOf : MethodName := ⟨RX3, "bitsOf", "(I)I"⟩
abbrev cX3_readingAge : ByteArray := prog_5_method_12_code
def yX3_readingAge : MethodName := ⟨RX3, "readingAge", "(II)I"⟩
abbrev cX3_shownTo : ByteArray := prog_5_method_13_code
def yX3_shownTo : MethodName := ⟨RX3, "shownTo", "(II)I"⟩
abbrev cX3_textFault : ByteArray := prog_5_method_14_code
def yX3_textFault : MethodName := ⟨RX3, "textFault", "(IIIII)I"⟩
abbrev cX3_addsText : ByteArray := prog_5_method_15_code
def yX3_addsText : MethodName := ⟨RX3, "addsText", "(IIIII)I"⟩
abbrev cX3_captionFault : ByteArray := prog_5_method_16_code
def yX3_captionFault : MethodName := ⟨RX3, "captionFault", "(IIII)I"⟩
abbrev cX3_addsCaption : ByteArray := prog_5_method_17_code
def yX3_addsCaption : MethodName := ⟨RX3, "addsCaption", "(IIII)I"⟩
abbrev cX3_addText : ByteArray := prog_5_method_18_code
def yX3_addText : MethodName := ⟨RX3, "addText", "(IIIII)I"⟩
abbrev cX3_removeText : ByteArray := prog_5_method_19_code
def yX3_removeText : MethodName := ⟨RX3, "removeText", "(II)I"⟩
abbrev cX3_setFacts : ByteArray := prog_5_method_20_code
def yX3_setFacts : MethodName := ⟨RX3, "setFacts", "(III)I"⟩
abbrev cX3_addCaption : ByteArray := prog_5_method_21_code
def yX3_addCaption : MethodName := ⟨RX3, "addCaption", "(IIII)I"⟩
abbrev cX3_sign : ByteArray := prog_5_method_22_code
def yX3_sign : MethodName := ⟨RX3, "sign", "(II)I"⟩
abbrev cX3_isNext : ByteArray := prog_5_method_23_code
def yX3_isNext : MethodName := ⟨RX3, "isNext", "(II)Z"⟩
abbrev cX3_number : ByteArray := prog_5_method_24_code
def yX3_number : MethodName := ⟨RX3, "number", "(II)I"⟩
abbrev cX3_letters : ByteArray := prog_5_method_25_code
def yX3_letters : MethodName := ⟨RX3, "letters", "()I"⟩
abbrev cX3_entry : ByteArray := prog_5_method_26_code
def yX3_entry : MethodName := ⟨RX3, "entry", "()Z"⟩
abbrev cX3_go : ByteArray := prog_5_method_27_code
def yX3_go : MethodName := ⟨RX3, "go", "(Z)I"⟩
abbrev cX3_putBack : ByteArray := prog_5_method_28_code
def yX3_putBack : MethodName := ⟨RX3, "putBack", "()V"⟩
abbrev cX3_readEntries : ByteArray := prog_5_method_29_code
def yX3_readEntries : MethodName := ⟨RX3, "readEntries", "()I"⟩
abbrev cX3_refusal : ByteArray := prog_5_method_30_code
def yX3_refusal : MethodName := ⟨RX3, "refusal", "(I)I"⟩
abbrev cX3_type : ByteArray := prog_5_method_31_code
def yX3_type : MethodName := ⟨RX3, "type", "(C)I"⟩
abbrev cX3_clearPad : ByteArray := prog_5_method_32_code
def yX3_clearPad : MethodName := ⟨RX3, "clearPad", "()I"⟩
abbrev cX3_seconds : ByteArray := prog_5_method_33_code
def yX3_seconds : MethodName := ⟨RX3, "seconds", "(II)I"⟩
abbrev cX3_shownNow : ByteArray := prog_5_method_34_code
def yX3_shownNow : MethodName := ⟨RX3, "shownNow", "()I"⟩
abbrev cX3_enter : ByteArray := prog_5_method_35_code
def yX3_enter : MethodName := ⟨RX3, "enter", "(III)I"⟩
abbrev cX3_canRead : ByteArray := prog_5_method_36_code
def yX3_canRead : MethodName := ⟨RX3, "canRead", "(I)Z"⟩
abbrev cX3_reads : ByteArray := prog_5_method_37_code
def yX3_reads : MethodName := ⟨RX3, "reads", "(I)V"⟩
abbrev cX3_touch : ByteArray := prog_5_method_38_code
def yX3_touch : MethodName := ⟨RX3, "touch", "(I)I"⟩
abbrev cX3_read : ByteArray := prog_5_method_39_code
def yX3_read : MethodName := ⟨RX3, "read", "()I"⟩
abbrev cX3_turn : ByteArray := prog_5_method_40_code
def yX3_turn : MethodName := ⟨RX3, "turn", "(Z)I"⟩
abbrev cX3_setTurning : ByteArray := prog_5_method_41_code
def yX3_setTurning : MethodName := ⟨RX3, "setTurning", "(I)I"⟩
abbrev cX3_texts : ByteArray := prog_5_method_42_code
def yX3_texts : MethodName := ⟨RX3, "texts", "()I"⟩
abbrev cX3_undo : ByteArray := prog_5_method_43_code
def yX3_undo : MethodName := ⟨RX3, "undo", "()I"⟩
abbrev cX3_keep : ByteArray := prog_5_method_44_code
def yX3_keep : MethodName := ⟨RX3, "keep", "()I"⟩
abbrev cX3_restore : ByteArray := prog_5_method_45_code
def yX3_restore : MethodName := ⟨RX3, "restore", "()I"⟩
abbrev cX3_text : ByteArray := prog_5_method_46_code
def yX3_text : MethodName := ⟨RX3, "text", "(III)I"⟩
abbrev cX3_caption : ByteArray := prog_5_method_47_code
def yX3_caption : MethodName := ⟨RX3, "caption", "(IIII)I"⟩
abbrev cX3_visitor : ByteArray := prog_5_method_48_code
def yX3_visitor : MethodName := ⟨RX3, "visitor", "(I)I"⟩
abbrev cX3_shown : ByteArray := prog_5_method_49_code
def yX3_shown : MethodName := ⟨RX3, "shown", "(II)I"⟩
abbrev cX3_allFacts : ByteArray := prog_5_method_50_code
def yX3_allFacts : MethodName := ⟨RX3, "allFacts", "()I"⟩
abbrev cX3_unmet : ByteArray := prog_5_method_51_code
def yX3_unmet : MethodName := ⟨RX3, "unmet", "(I)I"⟩
abbrev cX3_round : ByteArray := prog_5_method_52_code
def yX3_round : MethodName := ⟨RX3, "round", "(III)I"⟩
abbrev cX3_ages : ByteArray := prog_5_method_53_code
def yX3_ages : MethodName := ⟨RX3, "ages", "(III)I"⟩
abbrev cX3_sum : ByteArray := prog_5_method_54_code
def yX3_sum : MethodName := ⟨RX3, "sum", "(I)I"⟩
abbrev cX3_count : ByteArray := prog_5_method_55_code
def yX3_count : MethodName := ⟨RX3, "count", "(I)I"⟩
def RJ6 : String := "java/lang/Integer"
def TJ6 : u_T := fun k => match k with
  | _ => ("", "", "", false)
def tyJ6 : Nat → FieldType := fun k => match k with
  | _ => .int
abbrev wsJ60 : List Cond := u_ws RJ6 TJ6 0
theorem nmJ6 : ∀ a, a < 0 → ∀ b, b < 0 → a ≠ b → (TJ6 a).2.1 ≠ (TJ6 b).2.1 := by decide +kernel
theorem tyJ6_ok : ∀ k, k < 0 → parseFieldDescriptor (TJ6 k).2.2.1 = some (tyJ6 k) := by decide +kernel
abbrev cJ6_bitCount_0f7a4 : ByteArray := prog_6_method_49_code
def yJ6_bitCount_0f7a4 : MethodName := ⟨RJ6, "bitCount", "(I)I"⟩
def RJ9 : String := "java/lang/Math"
def TJ9 : u_T := fun k => match k with
  | _ => ("", "", "", false)
def tyJ9 : Nat → FieldType := fun k => match k with
  | _ => .int
abbrev wsJ90 : List Cond := u_ws RJ9 TJ9 0
theorem nmJ9 : ∀ a, a < 0 → ∀ b, b < 0 → a ≠ b → (TJ9 a).2.1 ≠ (TJ9 b).2.1 := by decide +kernel
theorem tyJ9_ok : ∀ k, k < 0 → parseFieldDescriptor (TJ9 k).2.2.1 = some (tyJ9 k) := by decide +kernel
abbrev cJ9_floorMod_7cf53 : ByteArray := prog_7_method_50_code
def yJ9_floorMod_7cf53 : MethodName := ⟨RJ9, "floorMod", "(II)I"⟩
abbrev cJ9_max_7cf53 : ByteArray := prog_7_method_65_code
def yJ9_max_7cf53 : MethodName := ⟨RJ9, "max", "(II)I"⟩
abbrev cJ9_min_7cf53 : ByteArray := prog_7_method_69_code
def yJ9_min_7cf53 : MethodName := ⟨RJ9, "min", "(II)I"⟩
def RJ10 : String := "java/lang/System"
def TJ10 : u_T := fun k => match k with
  | _ => ("", "", "", false)
def tyJ10 : Nat → FieldType := fun k => match k with
  | _ => .int
abbrev wsJ100 : List Cond := u_ws RJ10 TJ10 0
theorem nmJ10 : ∀ a, a < 0 → ∀ b, b < 0 → a ≠ b → (TJ10 a).2.1 ≠ (TJ10 b).2.1 := by decide +kernel
theorem tyJ10_ok : ∀ k, k < 0 → parseFieldDescriptor (TJ10 k).2.2.1 = some (tyJ10 k) := by decide +kernel
def RL : String := "ExhibitTextsLaw"
abbrev cL_law : ByteArray := code
def yL_law : MethodName := ⟨RL, "law", "([I)Z"⟩
def wsX0_init : List Cond := .code yX0_init cX0_init 1 none :: ([.methodLink RX0 3 objectInit, .instanceMethod objectInit, .code objectInit ⟨#[0xb1]⟩ 1 none, .arrayClass .char, .fieldLink RX0 9 "ExhibitTexts$Pad" "characters" "[C"] ++ wsX00)
def wsX0_append : List Cond := .code yX0_append cX0_append 2 (some .int) :: ([.fieldLink RX0 15 "ExhibitTexts$Pad" "length" "I", .fieldLink RX0 9 "ExhibitTexts$Pad" "characters" "[C"] ++ wsX00)
def wsX0_nextSign : List Cond := .code yX0_nextSign cX0_nextSign 1 (some .int) :: ([.fieldLink RX0 19 "ExhibitTexts$Pad" "place" "I", .fieldLink RX0 15 "ExhibitTexts$Pad" "length" "I", .fieldLink RX0 9 "ExhibitTexts$Pad" "characters" "[C"] ++ wsX00)
def wsX0_nextDigit : List Cond := .code yX0_nextDigit cX0_nextDigit 2 (some .int) :: ([.methodLink RX0 66 yX0_nextSign, .instanceMethod yX0_nextSign, .selects RX0 yX0_nextSign yX0_nextSign, .initialized RX0, .code yX0_nextSign cX0_nextSign 1 (some .int), .fieldLink RX0 19 "ExhibitTexts$Pad" "place" "I", .fieldLink RX0 15 "ExhibitTexts$Pad" "length" "I", .fieldLink RX0 9 "ExhibitTexts$Pad" "characters" "[C"] ++ wsX00)
def wsX0_takeNumber : List Cond := .code yX0_takeNumber cX0_takeNumber 6 (some .int) :: ([.fieldLink RX0 19 "ExhibitTexts$Pad" "place" "I", .methodLink RX0 69 yX0_nextDigit, .instanceMethod yX0_nextDigit, .selects RX0 yX0_nextDigit yX0_nextDigit, .initialized RX0, .code yX0_nextDigit cX0_nextDigit 2 (some .int), .methodLink RX0 66 yX0_nextSign, .instanceMethod yX0_nextSign, .selects RX0 yX0_nextSign yX0_nextSign, .code yX0_nextSign cX0_nextSign 1 (some .int), .fieldLink RX0 15 "ExhibitTexts$Pad" "length" "I", .fieldLink RX0 9 "ExhibitTexts$Pad" "characters" "[C"] ++ wsX00)
def wsX0_takeSign : List Cond := .code yX0_takeSign cX0_takeSign 2 (some .boolean) :: ([.fieldLink RX0 19 "ExhibitTexts$Pad" "place" "I", .methodLink RX0 66 yX0_nextSign, .instanceMethod yX0_nextSign, .selects RX0 yX0_nextSign yX0_nextSign, .initialized RX0, .code yX0_nextSign cX0_nextSign 1 (some .int), .fieldLink RX0 15 "ExhibitTexts$Pad" "length" "I", .fieldLink RX0 9 "ExhibitTexts$Pad" "characters" "[C"] ++ wsX00)
def wsX0_takeFacts : List Cond := .code yX0_takeFacts cX0_takeFacts 3 (some .int) :: ([.fieldLink RX0 19 "ExhibitTexts$Pad" "place" "I", .methodLink RX0 66 yX0_nextSign, .instanceMethod yX0_nextSign, .selects RX0 yX0_nextSign yX0_nextSign, .initialized RX0, .code yX0_nextSign cX0_nextSign 1 (some .int), .fieldLink RX0 15 "ExhibitTexts$Pad" "length" "I", .fieldLink RX0 9 "ExhibitTexts$Pad" "characters" "[C"] ++ wsX00)
def wsX0_takeCaption_r1 : List Cond := [Cond.fieldLink RX0 63 "ExhibitTexts$Pad" "text" "I", Cond.fieldLink RX0 47 "ExhibitTexts$Pad" "words" "I", Cond.fieldLink RX0 60 "ExhibitTexts$Pad" "facts" "I", Cond.methodLink RX0 30 yX0_takeNumber, Cond.instanceMethod yX0_takeNumber, Cond.selects RX0 yX0_takeNumber yX0_takeNumber, Cond.initialized RX0, Cond.code yX0_takeNumber cX0_takeNumber 6 (some .int), Cond.fieldLink RX0 19 "ExhibitTexts$Pad" "place" "I", Cond.methodLink RX0 69 yX0_nextDigit, Cond.instanceMethod yX0_nextDigit, Cond.selects RX0 yX0_nextDigit yX0_nextDigit, Cond.code yX0_nextDigit cX0_nextDigit 2 (some .int), Cond.methodLink RX0 66 yX0_nextSign, Cond.instanceMethod yX0_nextSign, Cond.selects RX0 yX0_nextSign yX0_nextSign, Cond.code yX0_nextSign cX0_nextSign 1 (some .int), Cond.fieldLink RX0 15 "ExhibitTexts$Pad" "length" "I", Cond.fieldLink RX0 9 "ExhibitTexts$Pad" "characters" "[C", Cond.methodLink RX0 26 yX0_takeSign, Cond.instanceMethod yX0_takeSign, Cond.selects RX0 yX0_takeSign yX0_takeSign, Cond.code yX0_takeSign cX0_takeSign 2 (some .boolean), Cond.methodLink RX0 56 yX0_takeFacts]
def wsX0_takeCaption_r2 : List Cond := [Cond.instanceMethod yX0_takeFacts, Cond.selects RX0 yX0_takeFacts yX0_takeFacts, Cond.code yX0_takeFacts cX0_takeFacts 3 (some .int)]
def wsX0_takeCaption : List Cond := .code yX0_takeCaption cX0_takeCaption 1 (some .boolean) :: ((wsX0_takeCaption_r1 ++ wsX0_takeCaption_r2) ++ wsX00)
def wsX0_takeText_r1 : List Cond := [Cond.fieldLink RX0 47 "ExhibitTexts$Pad" "words" "I", Cond.fieldLink RX0 50 "ExhibitTexts$Pad" "sentences" "I", Cond.fieldLink RX0 53 "ExhibitTexts$Pad" "longs" "I", Cond.fieldLink RX0 60 "ExhibitTexts$Pad" "facts" "I", Cond.methodLink RX0 30 yX0_takeNumber, Cond.instanceMethod yX0_takeNumber, Cond.selects RX0 yX0_takeNumber yX0_takeNumber, Cond.initialized RX0, Cond.code yX0_takeNumber cX0_takeNumber 6 (some .int), Cond.fieldLink RX0 19 "ExhibitTexts$Pad" "place" "I", Cond.methodLink RX0 69 yX0_nextDigit, Cond.instanceMethod yX0_nextDigit, Cond.selects RX0 yX0_nextDigit yX0_nextDigit, Cond.code yX0_nextDigit cX0_nextDigit 2 (some .int), Cond.methodLink RX0 66 yX0_nextSign, Cond.instanceMethod yX0_nextSign, Cond.selects RX0 yX0_nextSign yX0_nextSign, Cond.code yX0_nextSign cX0_nextSign 1 (some .int), Cond.fieldLink RX0 15 "ExhibitTexts$Pad" "length" "I", Cond.fieldLink RX0 9 "ExhibitTexts$Pad" "characters" "[C", Cond.methodLink RX0 26 yX0_takeSign, Cond.instanceMethod yX0_takeSign, Cond.selects RX0 yX0_takeSign yX0_takeSign, Cond.code yX0_takeSign cX0_takeSign 2 (some .boolean)]
def wsX0_takeText_r2 : List Cond := [Cond.methodLink RX0 56 yX0_takeFacts, Cond.instanceMethod yX0_takeFacts, Cond.selects RX0 yX0_takeFacts yX0_takeFacts, Cond.code yX0_takeFacts cX0_takeFacts 3 (some .int)]
def wsX0_takeText : List Cond := .code yX0_takeText cX0_takeText 1 (some .boolean) :: ((wsX0_takeText_r1 ++ wsX0_takeText_r2) ++ wsX00)
def wsX0_takeEntry_r1 : List Cond := [Cond.fieldLink RX0 34 "ExhibitTexts$Pad" "exhibit" "I", Cond.fieldLink RX0 37 "ExhibitTexts$Pad" "isCaption" "Z", Cond.methodLink RX0 30 yX0_takeNumber, Cond.instanceMethod yX0_takeNumber, Cond.selects RX0 yX0_takeNumber yX0_takeNumber, Cond.initialized RX0, Cond.code yX0_takeNumber cX0_takeNumber 6 (some .int), Cond.fieldLink RX0 19 "ExhibitTexts$Pad" "place" "I", Cond.methodLink RX0 69 yX0_nextDigit, Cond.instanceMethod yX0_nextDigit, Cond.selects RX0 yX0_nextDigit yX0_nextDigit, Cond.code yX0_nextDigit cX0_nextDigit 2 (some .int), Cond.methodLink RX0 66 yX0_nextSign, Cond.instanceMethod yX0_nextSign, Cond.selects RX0 yX0_nextSign yX0_nextSign, Cond.code yX0_nextSign cX0_nextSign 1 (some .int), Cond.fieldLink RX0 15 "ExhibitTexts$Pad" "length" "I", Cond.fieldLink RX0 9 "ExhibitTexts$Pad" "characters" "[C", Cond.methodLink RX0 26 yX0_takeSign, Cond.instanceMethod yX0_takeSign, Cond.selects RX0 yX0_takeSign yX0_takeSign, Cond.code yX0_takeSign cX0_takeSign 2 (some .boolean), Cond.methodLink RX0 41 yX0_takeCaption, Cond.instanceMethod yX0_takeCaption]
def wsX0_takeEntry_r2 : List Cond := [Cond.selects RX0 yX0_takeCaption yX0_takeCaption, Cond.code yX0_takeCaption cX0_takeCaption 1 (some .boolean), Cond.fieldLink RX0 63 "ExhibitTexts$Pad" "text" "I", Cond.fieldLink RX0 47 "ExhibitTexts$Pad" "words" "I", Cond.fieldLink RX0 60 "ExhibitTexts$Pad" "facts" "I", Cond.methodLink RX0 56 yX0_takeFacts, Cond.instanceMethod yX0_takeFacts, Cond.selects RX0 yX0_takeFacts yX0_takeFacts, Cond.code yX0_takeFacts cX0_takeFacts 3 (some .int), Cond.methodLink RX0 44 yX0_takeText, Cond.instanceMethod yX0_takeText, Cond.selects RX0 yX0_takeText yX0_takeText, Cond.code yX0_takeText cX0_takeText 1 (some .boolean), Cond.fieldLink RX0 50 "ExhibitTexts$Pad" "sentences" "I", Cond.fieldLink RX0 53 "ExhibitTexts$Pad" "longs" "I"]
def wsX0_takeEntry : List Cond := .code yX0_takeEntry cX0_takeEntry 1 (some .boolean) :: ((wsX0_takeEntry_r1 ++ wsX0_takeEntry_r2) ++ wsX00)
def wsX0_findFault_r1 : List Cond := [Cond.fieldLink RX0 19 "ExhibitTexts$Pad" "place" "I", Cond.fieldLink RX0 15 "ExhibitTexts$Pad" "length" "I", Cond.methodLink RX0 22 yX0_takeEntry, Cond.instanceMethod yX0_takeEntry, Cond.selects RX0 yX0_takeEntry yX0_takeEntry, Cond.initialized RX0, Cond.code yX0_takeEntry cX0_takeEntry 1 (some .boolean), Cond.fieldLink RX0 34 "ExhibitTexts$Pad" "exhibit" "I", Cond.fieldLink RX0 37 "ExhibitTexts$Pad" "isCaption" "Z", Cond.methodLink RX0 30 yX0_takeNumber, Cond.instanceMethod yX0_takeNumber, Cond.selects RX0 yX0_takeNumber yX0_takeNumber, Cond.code yX0_takeNumber cX0_takeNumber 6 (some .int), Cond.methodLink RX0 69 yX0_nextDigit, Cond.instanceMethod yX0_nextDigit, Cond.selects RX0 yX0_nextDigit yX0_nextDigit, Cond.code yX0_nextDigit cX0_nextDigit 2 (some .int), Cond.methodLink RX0 66 yX0_nextSign, Cond.instanceMethod yX0_nextSign, Cond.selects RX0 yX0_nextSign yX0_nextSign, Cond.code yX0_nextSign cX0_nextSign 1 (some .int), Cond.fieldLink RX0 9 "ExhibitTexts$Pad" "characters" "[C", Cond.methodLink RX0 26 yX0_takeSign, Cond.instanceMethod yX0_takeSign]
def wsX0_findFault_r2 : List Cond := [Cond.selects RX0 yX0_takeSign yX0_takeSign, Cond.code yX0_takeSign cX0_takeSign 2 (some .boolean), Cond.methodLink RX0 41 yX0_takeCaption, Cond.instanceMethod yX0_takeCaption, Cond.selects RX0 yX0_takeCaption yX0_takeCaption, Cond.code yX0_takeCaption cX0_takeCaption 1 (some .boolean), Cond.fieldLink RX0 63 "ExhibitTexts$Pad" "text" "I", Cond.fieldLink RX0 47 "ExhibitTexts$Pad" "words" "I", Cond.fieldLink RX0 60 "ExhibitTexts$Pad" "facts" "I", Cond.methodLink RX0 56 yX0_takeFacts, Cond.instanceMethod yX0_takeFacts, Cond.selects RX0 yX0_takeFacts yX0_takeFacts, Cond.code yX0_takeFacts cX0_takeFacts 3 (some .int), Cond.methodLink RX0 44 yX0_takeText, Cond.instanceMethod yX0_takeText, Cond.selects RX0 yX0_takeText yX0_takeText, Cond.code yX0_takeText cX0_takeText 1 (some .boolean), Cond.fieldLink RX0 50 "ExhibitTexts$Pad" "sentences" "I", Cond.fieldLink RX0 53 "ExhibitTexts$Pad" "longs" "I"]
def wsX0_findFault : List Cond := .code yX0_findFault cX0_findFault 2 (some .int) :: ((wsX0_findFault_r1 ++ wsX0_findFault_r2) ++ wsX00)
def wsX1_init : List Cond := .code yX1_init cX1_init 1 none :: ([.methodLink RX1 3 objectInit, .instanceMethod objectInit, .code objectInit ⟨#[0xb1]⟩ 1 none, .arrayClass .int, .fieldLink RX1 9 "ExhibitTexts$State" "sizes" "[I", .fieldLink RX1 15 "ExhibitTexts$State" "cells" "[I", .fieldLink RX1 18 "ExhibitTexts$State" "turning" "I"] ++ wsX10)
def wsX1_copyFrom : List Cond := .code yX1_copyFrom cX1_copyFrom 2 none :: ([.fieldLink RX1 9 "ExhibitTexts$State" "sizes" "[I", .methodLink RX1 22 arraycopyName, .native arraycopyName, .static arraycopyName, .initialized "java/lang/System", .fieldLink RX1 15 "ExhibitTexts$State" "cells" "[I", .fieldLink RX1 28 "ExhibitTexts$State" "standsAt" "I", .fieldLink RX1 18 "ExhibitTexts$State" "turning" "I", .fieldLink RX1 31 "ExhibitTexts$State" "visitors" "I", .fieldLink RX1 34 "ExhibitTexts$State" "textsRead" "I", .fieldLink RX1 37 "ExhibitTexts$State" "captionsRead" "I", .fieldLink RX1 40 "ExhibitTexts$State" "hasVisitor" "Z", .fieldLink RX1 44 "ExhibitTexts$State" "age" "I", .fieldLink RX1 47 "ExhibitTexts$State" "pace" "I", .fieldLink RX1 50 "ExhibitTexts$State" "seconds" "I", .fieldLink RX1 53 "ExhibitTexts$State" "learned" "I"] ++ wsX10)
def wsX2_isExhibit : List Cond := .code yX2_isExhibit cX2_isExhibit 1 (some .boolean) :: ([])
def wsX1_rowOf : List Cond := .code yX1_rowOf cX1_rowOf 3 (some .int) :: ([.fieldLink RX1 9 "ExhibitTexts$State" "sizes" "[I", .static yX2_isExhibit, .initialized RX2, .code yX2_isExhibit cX2_isExhibit 1 (some .boolean)] ++ wsX10)
def wsX1_captionOf : List Cond := .code yX1_captionOf cX1_captionOf 3 (some .int) :: ([.fieldLink RX1 15 "ExhibitTexts$State" "cells" "[I"] ++ wsX10)
def wsX2_isText : List Cond := .code yX2_isText cX2_isText 3 (some .boolean) :: ([])
def wsX1_putText : List Cond := .code yX1_putText cX1_putText 8 (some .int) :: ([.constant RX1 64 (65535), .fieldLink RX1 9 "ExhibitTexts$State" "sizes" "[I", .fieldLink RX1 15 "ExhibitTexts$State" "cells" "[I", .static yX2_isExhibit, .initialized RX2, .code yX2_isExhibit cX2_isExhibit 1 (some .boolean), .static yX2_isText, .code yX2_isText cX2_isText 3 (some .boolean)] ++ wsX10)
def wsX1_dropText : List Cond := .code yX1_dropText cX1_dropText 5 (some .int) :: ([.fieldLink RX1 9 "ExhibitTexts$State" "sizes" "[I", .fieldLink RX1 15 "ExhibitTexts$State" "cells" "[I", .methodLink RX1 22 arraycopyName, .native arraycopyName, .static arraycopyName, .initialized "java/lang/System", .methodLink RX1 65 yX1_rowOf, .instanceMethod yX1_rowOf, .selects RX1 yX1_rowOf yX1_rowOf, .initialized RX1, .code yX1_rowOf cX1_rowOf 3 (some .int), .static yX2_isExhibit, .initialized RX2, .code yX2_isExhibit cX2_isExhibit 1 (some .boolean)] ++ wsX10)
def wsX1_captionFacts : List Cond := .code yX1_captionFacts cX1_captionFacts 4 (some .int) :: ([.fieldLink RX1 15 "ExhibitTexts$State" "cells" "[I"] ++ wsX10)
def wsX1_changeFacts : List Cond := .code yX1_changeFacts cX1_changeFacts 6 (some .int) :: ([.constant RX1 64 (65535), .fieldLink RX1 15 "ExhibitTexts$State" "cells" "[I", .methodLink RX1 65 yX1_rowOf, .instanceMethod yX1_rowOf, .selects RX1 yX1_rowOf yX1_rowOf, .initialized RX1, .code yX1_rowOf cX1_rowOf 3 (some .int), .fieldLink RX1 9 "ExhibitTexts$State" "sizes" "[I", .static yX2_isExhibit, .initialized RX2, .code yX2_isExhibit cX2_isExhibit 1 (some .boolean), .methodLink RX1 69 yX1_captionFacts, .instanceMethod yX1_captionFacts, .selects RX1 yX1_captionFacts yX1_captionFacts, .code yX1_captionFacts cX1_captionFacts 4 (some .int)] ++ wsX10)
def wsX1_putCaption : List Cond := .code yX1_putCaption cX1_putCaption 8 (some .int) :: ([.constant RX1 64 (65535), .fieldLink RX1 15 "ExhibitTexts$State" "cells" "[I", .methodLink RX1 65 yX1_rowOf, .instanceMethod yX1_rowOf, .selects RX1 yX1_rowOf yX1_rowOf, .initialized RX1, .code yX1_rowOf cX1_rowOf 3 (some .int), .fieldLink RX1 9 "ExhibitTexts$State" "sizes" "[I", .static yX2_isExhibit, .initialized RX2, .code yX2_isExhibit cX2_isExhibit 1 (some .boolean)] ++ wsX10)
def wsX2_isAge : List Cond := .code yX2_isAge cX2_isAge 1 (some .boolean) :: ([])
def wsX1_fitsBetter : List Cond := .code yX1_fitsBetter cX1_fitsBetter 6 (some .boolean) :: ([.fieldLink RX1 15 "ExhibitTexts$State" "cells" "[I"] ++ wsX10)
def wsX1_textFor : List Cond := .code yX1_textFor cX1_textFor 6 (some .int) :: ([.fieldLink RX1 9 "ExhibitTexts$State" "sizes" "[I", .static yX2_isExhibit, .initialized RX2, .code yX2_isExhibit cX2_isExhibit 1 (some .boolean), .methodLink RX1 106 yX1_fitsBetter, .instanceMethod yX1_fitsBetter, .selects RX1 yX1_fitsBetter yX1_fitsBetter, .initialized RX1, .code yX1_fitsBetter cX1_fitsBetter 6 (some .boolean), .fieldLink RX1 15 "ExhibitTexts$State" "cells" "[I"] ++ wsX10)
def wsX1_admit : List Cond := .code yX1_admit cX1_admit 5 (some .int) :: ([.fieldLink RX1 40 "ExhibitTexts$State" "hasVisitor" "Z", .fieldLink RX1 44 "ExhibitTexts$State" "age" "I", .fieldLink RX1 47 "ExhibitTexts$State" "pace" "I", .fieldLink RX1 50 "ExhibitTexts$State" "seconds" "I", .fieldLink RX1 53 "ExhibitTexts$State" "learned" "I", .fieldLink RX1 31 "ExhibitTexts$State" "visitors" "I", .fieldLink RX1 28 "ExhibitTexts$State" "standsAt" "I", .static yX2_isAge, .initialized RX2, .code yX2_isAge cX2_isAge 1 (some .boolean), .methodLink RX1 76 yX1_textFor, .instanceMethod yX1_textFor, .selects RX1 yX1_textFor yX1_textFor, .initialized RX1, .code yX1_textFor cX1_textFor 6 (some .int), .fieldLink RX1 9 "ExhibitTexts$State" "sizes" "[I", .static yX2_isExhibit, .code yX2_isExhibit cX2_isExhibit 1 (some .boolean), .methodLink RX1 106 yX1_fitsBetter, .instanceMethod yX1_fitsBetter, .selects RX1 yX1_fitsBetter yX1_fitsBetter, .code yX1_fitsBetter cX1_fitsBetter 6 (some .boolean), .fieldLink RX1 15 "ExhibitTexts$State" "cells" "[I"] ++ wsX10)
def wsX1_shownRow : List Cond := .code yX1_shownRow cX1_shownRow 2 (some .int) :: ([.fieldLink RX1 40 "ExhibitTexts$State" "hasVisitor" "Z", .fieldLink RX1 28 "ExhibitTexts$State" "standsAt" "I", .fieldLink RX1 44 "ExhibitTexts$State" "age" "I", .methodLink RX1 76 yX1_textFor, .instanceMethod yX1_textFor, .selects RX1 yX1_textFor yX1_textFor, .initialized RX1, .code yX1_textFor cX1_textFor 6 (some .int), .fieldLink RX1 9 "ExhibitTexts$State" "sizes" "[I", .static yX2_isExhibit, .initialized RX2, .code yX2_isExhibit cX2_isExhibit 1 (some .boolean), .methodLink RX1 106 yX1_fitsBetter, .instanceMethod yX1_fitsBetter, .selects RX1 yX1_fitsBetter yX1_fitsBetter, .code yX1_fitsBetter cX1_fitsBetter 6 (some .boolean), .fieldLink RX1 15 "ExhibitTexts$State" "cells" "[I", .methodLink RX1 65 yX1_rowOf, .instanceMethod yX1_rowOf, .selects RX1 yX1_rowOf yX1_rowOf, .code yX1_rowOf cX1_rowOf 3 (some .int)] ++ wsX10)
def wsX1_timeFor : List Cond := .code yX1_timeFor cX1_timeFor 3 (some .int) :: ([.fieldLink RX1 47 "ExhibitTexts$State" "pace" "I", .methodLink RX1 103 Lib.Math.max.name, .static Lib.Math.max.name, .initialized "java/lang/Math", .code Lib.Math.max.name Lib.Math.max.code 2 (some .int)] ++ wsX10)
def wsX1_readShown_r1 : List Cond := [Cond.fieldLink RX1 15 "ExhibitTexts$State" "cells" "[I", Cond.fieldLink RX1 50 "ExhibitTexts$State" "seconds" "I", Cond.fieldLink RX1 53 "ExhibitTexts$State" "learned" "I", Cond.fieldLink RX1 34 "ExhibitTexts$State" "textsRead" "I", Cond.methodLink RX1 79 yX1_shownRow, Cond.instanceMethod yX1_shownRow, Cond.selects RX1 yX1_shownRow yX1_shownRow, Cond.initialized RX1, Cond.code yX1_shownRow cX1_shownRow 2 (some .int), Cond.fieldLink RX1 40 "ExhibitTexts$State" "hasVisitor" "Z", Cond.fieldLink RX1 28 "ExhibitTexts$State" "standsAt" "I", Cond.fieldLink RX1 44 "ExhibitTexts$State" "age" "I", Cond.methodLink RX1 76 yX1_textFor, Cond.instanceMethod yX1_textFor, Cond.selects RX1 yX1_textFor yX1_textFor, Cond.code yX1_textFor cX1_textFor 6 (some .int), Cond.fieldLink RX1 9 "ExhibitTexts$State" "sizes" "[I", Cond.static yX2_isExhibit, Cond.initialized RX2, Cond.code yX2_isExhibit cX2_isExhibit 1 (some .boolean), Cond.methodLink RX1 106 yX1_fitsBetter, Cond.instanceMethod yX1_fitsBetter, Cond.selects RX1 yX1_fitsBetter yX1_fitsBetter, Cond.code yX1_fitsBetter cX1_fitsBetter 6 (some .boolean)]
def wsX1_readShown_r2 : List Cond := [Cond.methodLink RX1 65 yX1_rowOf, Cond.instanceMethod yX1_rowOf, Cond.selects RX1 yX1_rowOf yX1_rowOf, Cond.code yX1_rowOf cX1_rowOf 3 (some .int), Cond.methodLink RX1 86 yX1_timeFor, Cond.instanceMethod yX1_timeFor, Cond.selects RX1 yX1_timeFor yX1_timeFor, Cond.code yX1_timeFor cX1_timeFor 3 (some .int), Cond.fieldLink RX1 47 "ExhibitTexts$State" "pace" "I", Cond.methodLink RX1 103 Lib.Math.max.name, Cond.static Lib.Math.max.name, Cond.initialized "java/lang/Math", Cond.code Lib.Math.max.name Lib.Math.max.code 2 (some .int)]
def wsX1_readShown : List Cond := .code yX1_readShown cX1_readShown 3 (some .boolean) :: ((wsX1_readShown_r1 ++ wsX1_readShown_r2) ++ wsX10)
def wsJ6_bitCount_0f7a4 : List Cond := .code yJ6_bitCount_0f7a4 cJ6_bitCount_0f7a4 1 (some .int) :: ([.constant RJ6 265 (1431655765), .constant RJ6 266 (858993459), .constant RJ6 267 (252645135)])
def wsX1_touchCaption_r1 : List Cond := [Cond.fieldLink RX1 15 "ExhibitTexts$State" "cells" "[I", Cond.fieldLink RX1 50 "ExhibitTexts$State" "seconds" "I", Cond.fieldLink RX1 53 "ExhibitTexts$State" "learned" "I", Cond.fieldLink RX1 37 "ExhibitTexts$State" "captionsRead" "I", Cond.methodLink RX1 79 yX1_shownRow, Cond.instanceMethod yX1_shownRow, Cond.selects RX1 yX1_shownRow yX1_shownRow, Cond.initialized RX1, Cond.code yX1_shownRow cX1_shownRow 2 (some .int), Cond.fieldLink RX1 40 "ExhibitTexts$State" "hasVisitor" "Z", Cond.fieldLink RX1 28 "ExhibitTexts$State" "standsAt" "I", Cond.fieldLink RX1 44 "ExhibitTexts$State" "age" "I", Cond.methodLink RX1 76 yX1_textFor, Cond.instanceMethod yX1_textFor, Cond.selects RX1 yX1_textFor yX1_textFor, Cond.code yX1_textFor cX1_textFor 6 (some .int), Cond.fieldLink RX1 9 "ExhibitTexts$State" "sizes" "[I", Cond.static yX2_isExhibit, Cond.initialized RX2, Cond.code yX2_isExhibit cX2_isExhibit 1 (some .boolean), Cond.methodLink RX1 106 yX1_fitsBetter, Cond.instanceMethod yX1_fitsBetter, Cond.selects RX1 yX1_fitsBetter yX1_fitsBetter, Cond.code yX1_fitsBetter cX1_fitsBetter 6 (some .boolean)]
def wsX1_touchCaption_r2 : List Cond := [Cond.methodLink RX1 65 yX1_rowOf, Cond.instanceMethod yX1_rowOf, Cond.selects RX1 yX1_rowOf yX1_rowOf, Cond.code yX1_rowOf cX1_rowOf 3 (some .int), Cond.methodLink RX1 83 yX1_captionOf, Cond.instanceMethod yX1_captionOf, Cond.selects RX1 yX1_captionOf yX1_captionOf, Cond.code yX1_captionOf cX1_captionOf 3 (some .int), Cond.methodLink RX1 86 yX1_timeFor, Cond.instanceMethod yX1_timeFor, Cond.selects RX1 yX1_timeFor yX1_timeFor, Cond.code yX1_timeFor cX1_timeFor 3 (some .int), Cond.fieldLink RX1 47 "ExhibitTexts$State" "pace" "I", Cond.methodLink RX1 103 Lib.Math.max.name, Cond.static Lib.Math.max.name, Cond.initialized "java/lang/Math", Cond.code Lib.Math.max.name Lib.Math.max.code 2 (some .int), Cond.methodLink RX1 89 yX1_readShown, Cond.instanceMethod yX1_readShown, Cond.selects RX1 yX1_readShown yX1_readShown, Cond.code yX1_readShown cX1_readShown 3 (some .boolean), Cond.fieldLink RX1 34 "ExhibitTexts$State" "textsRead" "I", Cond.methodLink RX1 93 yJ6_bitCount_0f7a4, Cond.static yJ6_bitCount_0f7a4]
def wsX1_touchCaption_r3 : List Cond := [Cond.initialized RJ6, Cond.code yJ6_bitCount_0f7a4 cJ6_bitCount_0f7a4 1 (some .int), Cond.constant RJ6 265 (1431655765), Cond.constant RJ6 266 (858993459), Cond.constant RJ6 267 (252645135)]
def wsX1_touchCaption : List Cond := .code yX1_touchCaption cX1_touchCaption 6 (some .int) :: ((wsX1_touchCaption_r1 ++ (wsX1_touchCaption_r2 ++ wsX1_touchCaption_r3)) ++ wsX10)
def wsX1_readUntouched_r1 : List Cond := [Cond.fieldLink RX1 15 "ExhibitTexts$State" "cells" "[I", Cond.fieldLink RX1 53 "ExhibitTexts$State" "learned" "I", Cond.methodLink RX1 79 yX1_shownRow, Cond.instanceMethod yX1_shownRow, Cond.selects RX1 yX1_shownRow yX1_shownRow, Cond.initialized RX1, Cond.code yX1_shownRow cX1_shownRow 2 (some .int), Cond.fieldLink RX1 40 "ExhibitTexts$State" "hasVisitor" "Z", Cond.fieldLink RX1 28 "ExhibitTexts$State" "standsAt" "I", Cond.fieldLink RX1 44 "ExhibitTexts$State" "age" "I", Cond.methodLink RX1 76 yX1_textFor, Cond.instanceMethod yX1_textFor, Cond.selects RX1 yX1_textFor yX1_textFor, Cond.code yX1_textFor cX1_textFor 6 (some .int), Cond.fieldLink RX1 9 "ExhibitTexts$State" "sizes" "[I", Cond.static yX2_isExhibit, Cond.initialized RX2, Cond.code yX2_isExhibit cX2_isExhibit 1 (some .boolean), Cond.methodLink RX1 106 yX1_fitsBetter, Cond.instanceMethod yX1_fitsBetter, Cond.selects RX1 yX1_fitsBetter yX1_fitsBetter, Cond.code yX1_fitsBetter cX1_fitsBetter 6 (some .boolean), Cond.methodLink RX1 65 yX1_rowOf, Cond.instanceMethod yX1_rowOf]
def wsX1_readUntouched_r2 : List Cond := [Cond.selects RX1 yX1_rowOf yX1_rowOf, Cond.code yX1_rowOf cX1_rowOf 3 (some .int), Cond.methodLink RX1 89 yX1_readShown, Cond.instanceMethod yX1_readShown, Cond.selects RX1 yX1_readShown yX1_readShown, Cond.code yX1_readShown cX1_readShown 3 (some .boolean), Cond.fieldLink RX1 50 "ExhibitTexts$State" "seconds" "I", Cond.fieldLink RX1 34 "ExhibitTexts$State" "textsRead" "I", Cond.methodLink RX1 86 yX1_timeFor, Cond.instanceMethod yX1_timeFor, Cond.selects RX1 yX1_timeFor yX1_timeFor, Cond.code yX1_timeFor cX1_timeFor 3 (some .int), Cond.fieldLink RX1 47 "ExhibitTexts$State" "pace" "I", Cond.methodLink RX1 103 Lib.Math.max.name, Cond.static Lib.Math.max.name, Cond.initialized "java/lang/Math", Cond.code Lib.Math.max.name Lib.Math.max.code 2 (some .int), Cond.methodLink RX1 93 yJ6_bitCount_0f7a4, Cond.static yJ6_bitCount_0f7a4, Cond.initialized RJ6, Cond.code yJ6_bitCount_0f7a4 cJ6_bitCount_0f7a4 1 (some .int), Cond.constant RJ6 265 (1431655765), Cond.constant RJ6 266 (858993459), Cond.constant RJ6 267 (252645135)]
def wsX1_readUntouched : List Cond := .code yX1_readUntouched cX1_readUntouched 3 (some .int) :: ((wsX1_readUntouched_r1 ++ wsX1_readUntouched_r2) ++ wsX10)
def wsJ9_floorMod_7cf53 : List Cond := .code yJ9_floorMod_7cf53 cJ9_floorMod_7cf53 3 (some .int) :: ([])
def wsX1_turnRing : List Cond := .code yX1_turnRing cX1_turnRing 2 (some .int) :: ([.fieldLink RX1 28 "ExhibitTexts$State" "standsAt" "I", .fieldLink RX1 50 "ExhibitTexts$State" "seconds" "I", .fieldLink RX1 18 "ExhibitTexts$State" "turning" "I", .methodLink RX1 103 Lib.Math.max.name, .static Lib.Math.max.name, .initialized "java/lang/Math", .code Lib.Math.max.name Lib.Math.max.code 2 (some .int), .methodLink RX1 98 yJ9_floorMod_7cf53, .static yJ9_floorMod_7cf53, .initialized RJ9, .code yJ9_floorMod_7cf53 cJ9_floorMod_7cf53 3 (some .int)] ++ wsX10)
def wsX1_changeTurning : List Cond := .code yX1_changeTurning cX1_changeTurning 3 (some .int) :: ([.fieldLink RX1 18 "ExhibitTexts$State" "turning" "I"] ++ wsX10)
def wsX1_factsFor : List Cond := .code yX1_factsFor cX1_factsFor 5 (some .int) :: ([.fieldLink RX1 15 "ExhibitTexts$State" "cells" "[I", .methodLink RX1 76 yX1_textFor, .instanceMethod yX1_textFor, .selects RX1 yX1_textFor yX1_textFor, .initialized RX1, .code yX1_textFor cX1_textFor 6 (some .int), .fieldLink RX1 9 "ExhibitTexts$State" "sizes" "[I", .static yX2_isExhibit, .initialized RX2, .code yX2_isExhibit cX2_isExhibit 1 (some .boolean), .methodLink RX1 106 yX1_fitsBetter, .instanceMethod yX1_fitsBetter, .selects RX1 yX1_fitsBetter yX1_fitsBetter, .code yX1_fitsBetter cX1_fitsBetter 6 (some .boolean), .methodLink RX1 65 yX1_rowOf, .instanceMethod yX1_rowOf, .selects RX1 yX1_rowOf yX1_rowOf, .code yX1_rowOf cX1_rowOf 3 (some .int)] ++ wsX10)
def wsX1_allFacts : List Cond := .code yX1_allFacts cX1_allFacts 4 (some .int) :: ([.fieldLink RX1 9 "ExhibitTexts$State" "sizes" "[I", .fieldLink RX1 15 "ExhibitTexts$State" "cells" "[I"] ++ wsX10)
def wsX1_countTexts : List Cond := .code yX1_countTexts cX1_countTexts 3 (some .int) :: ([.fieldLink RX1 9 "ExhibitTexts$State" "sizes" "[I"] ++ wsX10)
def wsX1_countCaptions : List Cond := .code yX1_countCaptions cX1_countCaptions 4 (some .int) :: ([.fieldLink RX1 9 "ExhibitTexts$State" "sizes" "[I", .fieldLink RX1 15 "ExhibitTexts$State" "cells" "[I"] ++ wsX10)
def wsX1_countNeverRead : List Cond := .code yX1_countNeverRead cX1_countNeverRead 4 (some .int) :: ([.fieldLink RX1 9 "ExhibitTexts$State" "sizes" "[I", .fieldLink RX1 15 "ExhibitTexts$State" "cells" "[I"] ++ wsX10)
def wsX2_init_r1 : List Cond := [Cond.methodLink RX2 3 objectInit, Cond.instanceMethod objectInit, Cond.code objectInit ⟨#[0xb1]⟩ 1 none, Cond.classLink RX2 9 RX1, Cond.instantiable RX1 12, Cond.initialized RX1, Cond.fieldLink RX2 12 "ExhibitTexts" "now" "LExhibitTexts$State;", Cond.fieldLink RX2 16 "ExhibitTexts" "trial" "LExhibitTexts$State;", Cond.fieldLink RX2 19 "ExhibitTexts" "snapshot" "LExhibitTexts$State;", Cond.fieldLink RX2 22 "ExhibitTexts" "history" "[LExhibitTexts$State;", Cond.classLink RX2 26 RX0, Cond.instantiable RX0 10, Cond.initialized RX0, Cond.fieldLink RX2 29 "ExhibitTexts" "pad" "LExhibitTexts$Pad;", Cond.instanceMethod yX1_init, Cond.code yX1_init cX1_init 1 none, Cond.methodLink RX1 3 objectInit, Cond.arrayClass .int, Cond.fieldLink RX1 9 "ExhibitTexts$State" "sizes" "[I", Cond.fieldLink RX1 15 "ExhibitTexts$State" "cells" "[I", Cond.fieldLink RX1 18 "ExhibitTexts$State" "turning" "I", Cond.instanceMethod yX0_init, Cond.code yX0_init cX0_init 1 none, Cond.methodLink RX0 3 objectInit]
def wsX2_init_r2 : List Cond := [Cond.arrayClass .char, Cond.fieldLink RX0 9 "ExhibitTexts$Pad" "characters" "[C"]
def wsX2_init : List Cond := .code yX2_init cX2_init 2 none :: ((wsX2_init_r1 ++ wsX2_init_r2) ++ wsX10 ++ wsX20 ++ wsX00)
def wsX2_attempt : List Cond := .code yX2_attempt cX2_attempt 1 (some (.object "ExhibitTexts$State")) :: ([.fieldLink RX2 16 "ExhibitTexts" "trial" "LExhibitTexts$State;", .fieldLink RX2 12 "ExhibitTexts" "now" "LExhibitTexts$State;", .methodLink RX2 101 yX1_copyFrom, .instanceMethod yX1_copyFrom, .selects RX1 yX1_copyFrom yX1_copyFrom, .initialized RX1, .code yX1_copyFrom cX1_copyFrom 2 none, .fieldLink RX1 9 "ExhibitTexts$State" "sizes" "[I", .methodLink RX1 22 arraycopyName, .native arraycopyName, .static arraycopyName, .initialized "java/lang/System", .fieldLink RX1 15 "ExhibitTexts$State" "cells" "[I", .fieldLink RX1 28 "ExhibitTexts$State" "standsAt" "I", .fieldLink RX1 18 "ExhibitTexts$State" "turning" "I", .fieldLink RX1 31 "ExhibitTexts$State" "visitors" "I", .fieldLink RX1 34 "ExhibitTexts$State" "textsRead" "I", .fieldLink RX1 37 "ExhibitTexts$State" "captionsRead" "I", .fieldLink RX1 40 "ExhibitTexts$State" "hasVisitor" "Z", .fieldLink RX1 44 "ExhibitTexts$State" "age" "I", .fieldLink RX1 47 "ExhibitTexts$State" "pace" "I", .fieldLink RX1 50 "ExhibitTexts$State" "seconds" "I", .fieldLink RX1 53 "ExhibitTexts$State" "learned" "I"] ++ wsX20 ++ wsX10)
def wsX2_settle : List Cond := .code yX2_settle cX2_settle 4 (some .int) :: ([.fieldLink RX2 98 "ExhibitTexts" "nextInHistory" "I", .fieldLink RX2 22 "ExhibitTexts" "history" "[LExhibitTexts$State;", .fieldLink RX2 12 "ExhibitTexts" "now" "LExhibitTexts$State;", .fieldLink RX2 16 "ExhibitTexts" "trial" "LExhibitTexts$State;", .fieldLink RX2 95 "ExhibitTexts" "statesInHistory" "I", .methodLink RX2 183 Lib.Math.min.name, .static Lib.Math.min.name, .initialized "java/lang/Math", .code Lib.Math.min.name Lib.Math.min.code 2 (some .int)] ++ wsX20)
def wsX2_addText_r1 : List Cond := [Cond.methodLink RX2 33 yX2_attempt, Cond.instanceMethod yX2_attempt, Cond.selects RX2 yX2_attempt yX2_attempt, Cond.initialized RX2, Cond.code yX2_attempt cX2_attempt 1 (some (.object "ExhibitTexts$State")), Cond.fieldLink RX2 16 "ExhibitTexts" "trial" "LExhibitTexts$State;", Cond.fieldLink RX2 12 "ExhibitTexts" "now" "LExhibitTexts$State;", Cond.methodLink RX2 101 yX1_copyFrom, Cond.instanceMethod yX1_copyFrom, Cond.selects RX1 yX1_copyFrom yX1_copyFrom, Cond.initialized RX1, Cond.code yX1_copyFrom cX1_copyFrom 2 none, Cond.fieldLink RX1 9 "ExhibitTexts$State" "sizes" "[I", Cond.methodLink RX1 22 arraycopyName, Cond.native arraycopyName, Cond.static arraycopyName, Cond.initialized "java/lang/System", Cond.fieldLink RX1 15 "ExhibitTexts$State" "cells" "[I", Cond.fieldLink RX1 28 "ExhibitTexts$State" "standsAt" "I", Cond.fieldLink RX1 18 "ExhibitTexts$State" "turning" "I", Cond.fieldLink RX1 31 "ExhibitTexts$State" "visitors" "I", Cond.fieldLink RX1 34 "ExhibitTexts$State" "textsRead" "I", Cond.fieldLink RX1 37 "ExhibitTexts$State" "captionsRead" "I", Cond.fieldLink RX1 40 "ExhibitTexts$State" "hasVisitor" "Z"]
def wsX2_addText_r2 : List Cond := [Cond.fieldLink RX1 44 "ExhibitTexts$State" "age" "I", Cond.fieldLink RX1 47 "ExhibitTexts$State" "pace" "I", Cond.fieldLink RX1 50 "ExhibitTexts$State" "seconds" "I", Cond.fieldLink RX1 53 "ExhibitTexts$State" "learned" "I", Cond.methodLink RX2 37 yX1_putText, Cond.instanceMethod yX1_putText, Cond.selects RX1 yX1_putText yX1_putText, Cond.code yX1_putText cX1_putText 8 (some .int), Cond.constant RX1 64 (65535), Cond.static yX2_isExhibit, Cond.code yX2_isExhibit cX2_isExhibit 1 (some .boolean), Cond.static yX2_isText, Cond.code yX2_isText cX2_isText 3 (some .boolean), Cond.methodLink RX2 41 yX2_settle, Cond.instanceMethod yX2_settle, Cond.selects RX2 yX2_settle yX2_settle, Cond.code yX2_settle cX2_settle 4 (some .int), Cond.fieldLink RX2 98 "ExhibitTexts" "nextInHistory" "I", Cond.fieldLink RX2 22 "ExhibitTexts" "history" "[LExhibitTexts$State;", Cond.fieldLink RX2 95 "ExhibitTexts" "statesInHistory" "I", Cond.methodLink RX2 183 Lib.Math.min.name, Cond.static Lib.Math.min.name, Cond.initialized "java/lang/Math", Cond.code Lib.Math.min.name Lib.Math.min.code 2 (some .int)]
def wsX2_addText : List Cond := .code yX2_addText cX2_addText 6 (some .int) :: ((wsX2_addText_r1 ++ wsX2_addText_r2) ++ wsX20 ++ wsX10)
def wsX2_removeText_r1 : List Cond := [Cond.methodLink RX2 33 yX2_attempt, Cond.instanceMethod yX2_attempt, Cond.selects RX2 yX2_attempt yX2_attempt, Cond.initialized RX2, Cond.code yX2_attempt cX2_attempt 1 (some (.object "ExhibitTexts$State")), Cond.fieldLink RX2 16 "ExhibitTexts" "trial" "LExhibitTexts$State;", Cond.fieldLink RX2 12 "ExhibitTexts" "now" "LExhibitTexts$State;", Cond.methodLink RX2 101 yX1_copyFrom, Cond.instanceMethod yX1_copyFrom, Cond.selects RX1 yX1_copyFrom yX1_copyFrom, Cond.initialized RX1, Cond.code yX1_copyFrom cX1_copyFrom 2 none, Cond.fieldLink RX1 9 "ExhibitTexts$State" "sizes" "[I", Cond.methodLink RX1 22 arraycopyName, Cond.native arraycopyName, Cond.static arraycopyName, Cond.initialized "java/lang/System", Cond.fieldLink RX1 15 "ExhibitTexts$State" "cells" "[I", Cond.fieldLink RX1 28 "ExhibitTexts$State" "standsAt" "I", Cond.fieldLink RX1 18 "ExhibitTexts$State" "turning" "I", Cond.fieldLink RX1 31 "ExhibitTexts$State" "visitors" "I", Cond.fieldLink RX1 34 "ExhibitTexts$State" "textsRead" "I", Cond.fieldLink RX1 37 "ExhibitTexts$State" "captionsRead" "I", Cond.fieldLink RX1 40 "ExhibitTexts$State" "hasVisitor" "Z"]
def wsX2_removeText_r2 : List Cond := [Cond.fieldLink RX1 44 "ExhibitTexts$State" "age" "I", Cond.fieldLink RX1 47 "ExhibitTexts$State" "pace" "I", Cond.fieldLink RX1 50 "ExhibitTexts$State" "seconds" "I", Cond.fieldLink RX1 53 "ExhibitTexts$State" "learned" "I", Cond.methodLink RX2 45 yX1_dropText, Cond.instanceMethod yX1_dropText, Cond.selects RX1 yX1_dropText yX1_dropText, Cond.code yX1_dropText cX1_dropText 5 (some .int), Cond.methodLink RX1 65 yX1_rowOf, Cond.instanceMethod yX1_rowOf, Cond.selects RX1 yX1_rowOf yX1_rowOf, Cond.code yX1_rowOf cX1_rowOf 3 (some .int), Cond.static yX2_isExhibit, Cond.code yX2_isExhibit cX2_isExhibit 1 (some .boolean), Cond.methodLink RX2 41 yX2_settle, Cond.instanceMethod yX2_settle, Cond.selects RX2 yX2_settle yX2_settle, Cond.code yX2_settle cX2_settle 4 (some .int), Cond.fieldLink RX2 98 "ExhibitTexts" "nextInHistory" "I", Cond.fieldLink RX2 22 "ExhibitTexts" "history" "[LExhibitTexts$State;", Cond.fieldLink RX2 95 "ExhibitTexts" "statesInHistory" "I", Cond.methodLink RX2 183 Lib.Math.min.name, Cond.static Lib.Math.min.name, Cond.initialized "java/lang/Math"]
def wsX2_removeText_r3 : List Cond := [Cond.code Lib.Math.min.name Lib.Math.min.code 2 (some .int)]
def wsX2_removeText : List Cond := .code yX2_removeText cX2_removeText 3 (some .int) :: ((wsX2_removeText_r1 ++ (wsX2_removeText_r2 ++ wsX2_removeText_r3)) ++ wsX20 ++ wsX10)
def wsX2_setFacts_r1 : List Cond := [Cond.methodLink RX2 33 yX2_attempt, Cond.instanceMethod yX2_attempt, Cond.selects RX2 yX2_attempt yX2_attempt, Cond.initialized RX2, Cond.code yX2_attempt cX2_attempt 1 (some (.object "ExhibitTexts$State")), Cond.fieldLink RX2 16 "ExhibitTexts" "trial" "LExhibitTexts$State;", Cond.fieldLink RX2 12 "ExhibitTexts" "now" "LExhibitTexts$State;", Cond.methodLink RX2 101 yX1_copyFrom, Cond.instanceMethod yX1_copyFrom, Cond.selects RX1 yX1_copyFrom yX1_copyFrom, Cond.initialized RX1, Cond.code yX1_copyFrom cX1_copyFrom 2 none, Cond.fieldLink RX1 9 "ExhibitTexts$State" "sizes" "[I", Cond.methodLink RX1 22 arraycopyName, Cond.native arraycopyName, Cond.static arraycopyName, Cond.initialized "java/lang/System", Cond.fieldLink RX1 15 "ExhibitTexts$State" "cells" "[I", Cond.fieldLink RX1 28 "ExhibitTexts$State" "standsAt" "I", Cond.fieldLink RX1 18 "ExhibitTexts$State" "turning" "I", Cond.fieldLink RX1 31 "ExhibitTexts$State" "visitors" "I", Cond.fieldLink RX1 34 "ExhibitTexts$State" "textsRead" "I", Cond.fieldLink RX1 37 "ExhibitTexts$State" "captionsRead" "I", Cond.fieldLink RX1 40 "ExhibitTexts$State" "hasVisitor" "Z"]
def wsX2_setFacts_r2 : List Cond := [Cond.fieldLink RX1 44 "ExhibitTexts$State" "age" "I", Cond.fieldLink RX1 47 "ExhibitTexts$State" "pace" "I", Cond.fieldLink RX1 50 "ExhibitTexts$State" "seconds" "I", Cond.fieldLink RX1 53 "ExhibitTexts$State" "learned" "I", Cond.methodLink RX2 49 yX1_changeFacts, Cond.instanceMethod yX1_changeFacts, Cond.selects RX1 yX1_changeFacts yX1_changeFacts, Cond.code yX1_changeFacts cX1_changeFacts 6 (some .int), Cond.constant RX1 64 (65535), Cond.methodLink RX1 65 yX1_rowOf, Cond.instanceMethod yX1_rowOf, Cond.selects RX1 yX1_rowOf yX1_rowOf, Cond.code yX1_rowOf cX1_rowOf 3 (some .int), Cond.static yX2_isExhibit, Cond.code yX2_isExhibit cX2_isExhibit 1 (some .boolean), Cond.methodLink RX1 69 yX1_captionFacts, Cond.instanceMethod yX1_captionFacts, Cond.selects RX1 yX1_captionFacts yX1_captionFacts, Cond.code yX1_captionFacts cX1_captionFacts 4 (some .int), Cond.methodLink RX2 41 yX2_settle, Cond.instanceMethod yX2_settle, Cond.selects RX2 yX2_settle yX2_settle, Cond.code yX2_settle cX2_settle 4 (some .int), Cond.fieldLink RX2 98 "ExhibitTexts" "nextInHistory" "I"]
def wsX2_setFacts_r3 : List Cond := [Cond.fieldLink RX2 22 "ExhibitTexts" "history" "[LExhibitTexts$State;", Cond.fieldLink RX2 95 "ExhibitTexts" "statesInHistory" "I", Cond.methodLink RX2 183 Lib.Math.min.name, Cond.static Lib.Math.min.name, Cond.initialized "java/lang/Math", Cond.code Lib.Math.min.name Lib.Math.min.code 2 (some .int)]
def wsX2_setFacts : List Cond := .code yX2_setFacts cX2_setFacts 4 (some .int) :: ((wsX2_setFacts_r1 ++ (wsX2_setFacts_r2 ++ wsX2_setFacts_r3)) ++ wsX20 ++ wsX10)
def wsX2_addCaption_r1 : List Cond := [Cond.methodLink RX2 33 yX2_attempt, Cond.instanceMethod yX2_attempt, Cond.selects RX2 yX2_attempt yX2_attempt, Cond.initialized RX2, Cond.code yX2_attempt cX2_attempt 1 (some (.object "ExhibitTexts$State")), Cond.fieldLink RX2 16 "ExhibitTexts" "trial" "LExhibitTexts$State;", Cond.fieldLink RX2 12 "ExhibitTexts" "now" "LExhibitTexts$State;", Cond.methodLink RX2 101 yX1_copyFrom, Cond.instanceMethod yX1_copyFrom, Cond.selects RX1 yX1_copyFrom yX1_copyFrom, Cond.initialized RX1, Cond.code yX1_copyFrom cX1_copyFrom 2 none, Cond.fieldLink RX1 9 "ExhibitTexts$State" "sizes" "[I", Cond.methodLink RX1 22 arraycopyName, Cond.native arraycopyName, Cond.static arraycopyName, Cond.initialized "java/lang/System", Cond.fieldLink RX1 15 "ExhibitTexts$State" "cells" "[I", Cond.fieldLink RX1 28 "ExhibitTexts$State" "standsAt" "I", Cond.fieldLink RX1 18 "ExhibitTexts$State" "turning" "I", Cond.fieldLink RX1 31 "ExhibitTexts$State" "visitors" "I", Cond.fieldLink RX1 34 "ExhibitTexts$State" "textsRead" "I", Cond.fieldLink RX1 37 "ExhibitTexts$State" "captionsRead" "I", Cond.fieldLink RX1 40 "ExhibitTexts$State" "hasVisitor" "Z"]
def wsX2_addCaption_r2 : List Cond := [Cond.fieldLink RX1 44 "ExhibitTexts$State" "age" "I", Cond.fieldLink RX1 47 "ExhibitTexts$State" "pace" "I", Cond.fieldLink RX1 50 "ExhibitTexts$State" "seconds" "I", Cond.fieldLink RX1 53 "ExhibitTexts$State" "learned" "I", Cond.methodLink RX2 53 yX1_putCaption, Cond.instanceMethod yX1_putCaption, Cond.selects RX1 yX1_putCaption yX1_putCaption, Cond.code yX1_putCaption cX1_putCaption 8 (some .int), Cond.constant RX1 64 (65535), Cond.methodLink RX1 65 yX1_rowOf, Cond.instanceMethod yX1_rowOf, Cond.selects RX1 yX1_rowOf yX1_rowOf, Cond.code yX1_rowOf cX1_rowOf 3 (some .int), Cond.static yX2_isExhibit, Cond.code yX2_isExhibit cX2_isExhibit 1 (some .boolean), Cond.methodLink RX2 41 yX2_settle, Cond.instanceMethod yX2_settle, Cond.selects RX2 yX2_settle yX2_settle, Cond.code yX2_settle cX2_settle 4 (some .int), Cond.fieldLink RX2 98 "ExhibitTexts" "nextInHistory" "I", Cond.fieldLink RX2 22 "ExhibitTexts" "history" "[LExhibitTexts$State;", Cond.fieldLink RX2 95 "ExhibitTexts" "statesInHistory" "I", Cond.methodLink RX2 183 Lib.Math.min.name, Cond.static Lib.Math.min.name]
def wsX2_addCaption_r3 : List Cond := [Cond.initialized "java/lang/Math", Cond.code Lib.Math.min.name Lib.Math.min.code 2 (some .int)]
def wsX2_addCaption : List Cond := .code yX2_addCaption cX2_addCaption 5 (some .int) :: ((wsX2_addCaption_r1 ++ (wsX2_addCaption_r2 ++ wsX2_addCaption_r3)) ++ wsX20 ++ wsX10)
def wsX2_doEntry_r1 : List Cond := [Cond.fieldLink RX2 29 "ExhibitTexts" "pad" "LExhibitTexts$Pad;", Cond.fieldLink RX2 201 "ExhibitTexts$Pad" "isCaption" "Z", Cond.fieldLink RX2 204 "ExhibitTexts$Pad" "exhibit" "I", Cond.fieldLink RX2 207 "ExhibitTexts$Pad" "text" "I", Cond.fieldLink RX2 210 "ExhibitTexts$Pad" "words" "I", Cond.fieldLink RX2 213 "ExhibitTexts$Pad" "facts" "I", Cond.fieldLink RX2 216 "ExhibitTexts$Pad" "sentences" "I", Cond.fieldLink RX2 219 "ExhibitTexts$Pad" "longs" "I", Cond.methodLink RX2 53 yX1_putCaption, Cond.instanceMethod yX1_putCaption, Cond.selects RX1 yX1_putCaption yX1_putCaption, Cond.initialized RX1, Cond.code yX1_putCaption cX1_putCaption 8 (some .int), Cond.constant RX1 64 (65535), Cond.fieldLink RX1 15 "ExhibitTexts$State" "cells" "[I", Cond.methodLink RX1 65 yX1_rowOf, Cond.instanceMethod yX1_rowOf, Cond.selects RX1 yX1_rowOf yX1_rowOf, Cond.code yX1_rowOf cX1_rowOf 3 (some .int), Cond.fieldLink RX1 9 "ExhibitTexts$State" "sizes" "[I", Cond.static yX2_isExhibit, Cond.initialized RX2, Cond.code yX2_isExhibit cX2_isExhibit 1 (some .boolean), Cond.methodLink RX2 37 yX1_putText]
def wsX2_doEntry_r2 : List Cond := [Cond.instanceMethod yX1_putText, Cond.selects RX1 yX1_putText yX1_putText, Cond.code yX1_putText cX1_putText 8 (some .int), Cond.static yX2_isText, Cond.code yX2_isText cX2_isText 3 (some .boolean)]
def wsX2_doEntry : List Cond := .code yX2_doEntry cX2_doEntry 2 (some .int) :: ((wsX2_doEntry_r1 ++ wsX2_doEntry_r2) ++ wsX20 ++ wsX00 ++ wsX10)
def wsX2_doEntries_r1 : List Cond := [Cond.fieldLink RX2 29 "ExhibitTexts" "pad" "LExhibitTexts$Pad;", Cond.fieldLink RX2 188 "ExhibitTexts$Pad" "place" "I", Cond.fieldLink RX2 69 "ExhibitTexts" "refusedEntry" "I", Cond.fieldLink RX2 65 "ExhibitTexts" "refusedError" "I", Cond.methodLink RX2 191 yX0_takeEntry, Cond.instanceMethod yX0_takeEntry, Cond.selects RX0 yX0_takeEntry yX0_takeEntry, Cond.initialized RX0, Cond.code yX0_takeEntry cX0_takeEntry 1 (some .boolean), Cond.fieldLink RX0 34 "ExhibitTexts$Pad" "exhibit" "I", Cond.fieldLink RX0 37 "ExhibitTexts$Pad" "isCaption" "Z", Cond.methodLink RX0 30 yX0_takeNumber, Cond.instanceMethod yX0_takeNumber, Cond.selects RX0 yX0_takeNumber yX0_takeNumber, Cond.code yX0_takeNumber cX0_takeNumber 6 (some .int), Cond.fieldLink RX0 19 "ExhibitTexts$Pad" "place" "I", Cond.methodLink RX0 69 yX0_nextDigit, Cond.instanceMethod yX0_nextDigit, Cond.selects RX0 yX0_nextDigit yX0_nextDigit, Cond.code yX0_nextDigit cX0_nextDigit 2 (some .int), Cond.methodLink RX0 66 yX0_nextSign, Cond.instanceMethod yX0_nextSign, Cond.selects RX0 yX0_nextSign yX0_nextSign, Cond.code yX0_nextSign cX0_nextSign 1 (some .int)]
def wsX2_doEntries_r2 : List Cond := [Cond.fieldLink RX0 15 "ExhibitTexts$Pad" "length" "I", Cond.fieldLink RX0 9 "ExhibitTexts$Pad" "characters" "[C", Cond.methodLink RX0 26 yX0_takeSign, Cond.instanceMethod yX0_takeSign, Cond.selects RX0 yX0_takeSign yX0_takeSign, Cond.code yX0_takeSign cX0_takeSign 2 (some .boolean), Cond.methodLink RX0 41 yX0_takeCaption, Cond.instanceMethod yX0_takeCaption, Cond.selects RX0 yX0_takeCaption yX0_takeCaption, Cond.code yX0_takeCaption cX0_takeCaption 1 (some .boolean), Cond.fieldLink RX0 63 "ExhibitTexts$Pad" "text" "I", Cond.fieldLink RX0 47 "ExhibitTexts$Pad" "words" "I", Cond.fieldLink RX0 60 "ExhibitTexts$Pad" "facts" "I", Cond.methodLink RX0 56 yX0_takeFacts, Cond.instanceMethod yX0_takeFacts, Cond.selects RX0 yX0_takeFacts yX0_takeFacts, Cond.code yX0_takeFacts cX0_takeFacts 3 (some .int), Cond.methodLink RX0 44 yX0_takeText, Cond.instanceMethod yX0_takeText, Cond.selects RX0 yX0_takeText yX0_takeText, Cond.code yX0_takeText cX0_takeText 1 (some .boolean), Cond.fieldLink RX0 50 "ExhibitTexts$Pad" "sentences" "I", Cond.fieldLink RX0 53 "ExhibitTexts$Pad" "longs" "I", Cond.methodLink RX2 194 yX2_doEntry]
def wsX2_doEntries_r3 : List Cond := [Cond.instanceMethod yX2_doEntry, Cond.selects RX2 yX2_doEntry yX2_doEntry, Cond.initialized RX2, Cond.code yX2_doEntry cX2_doEntry 2 (some .int), Cond.fieldLink RX2 201 "ExhibitTexts$Pad" "isCaption" "Z", Cond.fieldLink RX2 204 "ExhibitTexts$Pad" "exhibit" "I", Cond.fieldLink RX2 207 "ExhibitTexts$Pad" "text" "I", Cond.fieldLink RX2 210 "ExhibitTexts$Pad" "words" "I", Cond.fieldLink RX2 213 "ExhibitTexts$Pad" "facts" "I", Cond.fieldLink RX2 216 "ExhibitTexts$Pad" "sentences" "I", Cond.fieldLink RX2 219 "ExhibitTexts$Pad" "longs" "I", Cond.methodLink RX2 53 yX1_putCaption, Cond.instanceMethod yX1_putCaption, Cond.selects RX1 yX1_putCaption yX1_putCaption, Cond.initialized RX1, Cond.code yX1_putCaption cX1_putCaption 8 (some .int), Cond.constant RX1 64 (65535), Cond.fieldLink RX1 15 "ExhibitTexts$State" "cells" "[I", Cond.methodLink RX1 65 yX1_rowOf, Cond.instanceMethod yX1_rowOf, Cond.selects RX1 yX1_rowOf yX1_rowOf, Cond.code yX1_rowOf cX1_rowOf 3 (some .int), Cond.fieldLink RX1 9 "ExhibitTexts$State" "sizes" "[I", Cond.static yX2_isExhibit]
def wsX2_doEntries_r4 : List Cond := [Cond.code yX2_isExhibit cX2_isExhibit 1 (some .boolean), Cond.methodLink RX2 37 yX1_putText, Cond.instanceMethod yX1_putText, Cond.selects RX1 yX1_putText yX1_putText, Cond.code yX1_putText cX1_putText 8 (some .int), Cond.static yX2_isText, Cond.code yX2_isText cX2_isText 3 (some .boolean), Cond.methodLink RX2 197 yX0_takeSign]
def wsX2_doEntries : List Cond := .code yX2_doEntries cX2_doEntries 4 (some .int) :: ((wsX2_doEntries_r1 ++ (wsX2_doEntries_r2 ++ (wsX2_doEntries_r3 ++ wsX2_doEntries_r4))) ++ wsX20 ++ wsX00 ++ wsX10)
def wsX2_readEntries_r1 : List Cond := [Cond.fieldLink RX2 29 "ExhibitTexts" "pad" "LExhibitTexts$Pad;", Cond.methodLink RX2 57 yX0_findFault, Cond.instanceMethod yX0_findFault, Cond.selects RX0 yX0_findFault yX0_findFault, Cond.initialized RX0, Cond.code yX0_findFault cX0_findFault 2 (some .int), Cond.fieldLink RX0 19 "ExhibitTexts$Pad" "place" "I", Cond.fieldLink RX0 15 "ExhibitTexts$Pad" "length" "I", Cond.methodLink RX0 22 yX0_takeEntry, Cond.instanceMethod yX0_takeEntry, Cond.selects RX0 yX0_takeEntry yX0_takeEntry, Cond.code yX0_takeEntry cX0_takeEntry 1 (some .boolean), Cond.fieldLink RX0 34 "ExhibitTexts$Pad" "exhibit" "I", Cond.fieldLink RX0 37 "ExhibitTexts$Pad" "isCaption" "Z", Cond.methodLink RX0 30 yX0_takeNumber, Cond.instanceMethod yX0_takeNumber, Cond.selects RX0 yX0_takeNumber yX0_takeNumber, Cond.code yX0_takeNumber cX0_takeNumber 6 (some .int), Cond.methodLink RX0 69 yX0_nextDigit, Cond.instanceMethod yX0_nextDigit, Cond.selects RX0 yX0_nextDigit yX0_nextDigit, Cond.code yX0_nextDigit cX0_nextDigit 2 (some .int), Cond.methodLink RX0 66 yX0_nextSign, Cond.instanceMethod yX0_nextSign]
def wsX2_readEntries_r2 : List Cond := [Cond.selects RX0 yX0_nextSign yX0_nextSign, Cond.code yX0_nextSign cX0_nextSign 1 (some .int), Cond.fieldLink RX0 9 "ExhibitTexts$Pad" "characters" "[C", Cond.methodLink RX0 26 yX0_takeSign, Cond.instanceMethod yX0_takeSign, Cond.selects RX0 yX0_takeSign yX0_takeSign, Cond.code yX0_takeSign cX0_takeSign 2 (some .boolean), Cond.methodLink RX0 41 yX0_takeCaption, Cond.instanceMethod yX0_takeCaption, Cond.selects RX0 yX0_takeCaption yX0_takeCaption, Cond.code yX0_takeCaption cX0_takeCaption 1 (some .boolean), Cond.fieldLink RX0 63 "ExhibitTexts$Pad" "text" "I", Cond.fieldLink RX0 47 "ExhibitTexts$Pad" "words" "I", Cond.fieldLink RX0 60 "ExhibitTexts$Pad" "facts" "I", Cond.methodLink RX0 56 yX0_takeFacts, Cond.instanceMethod yX0_takeFacts, Cond.selects RX0 yX0_takeFacts yX0_takeFacts, Cond.code yX0_takeFacts cX0_takeFacts 3 (some .int), Cond.methodLink RX0 44 yX0_takeText, Cond.instanceMethod yX0_takeText, Cond.selects RX0 yX0_takeText yX0_takeText, Cond.code yX0_takeText cX0_takeText 1 (some .boolean), Cond.fieldLink RX0 50 "ExhibitTexts$Pad" "sentences" "I", Cond.fieldLink RX0 53 "ExhibitTexts$Pad" "longs" "I"]
def wsX2_readEntries_r3 : List Cond := [Cond.methodLink RX2 33 yX2_attempt, Cond.instanceMethod yX2_attempt, Cond.selects RX2 yX2_attempt yX2_attempt, Cond.initialized RX2, Cond.code yX2_attempt cX2_attempt 1 (some (.object "ExhibitTexts$State")), Cond.fieldLink RX2 16 "ExhibitTexts" "trial" "LExhibitTexts$State;", Cond.fieldLink RX2 12 "ExhibitTexts" "now" "LExhibitTexts$State;", Cond.methodLink RX2 101 yX1_copyFrom, Cond.instanceMethod yX1_copyFrom, Cond.selects RX1 yX1_copyFrom yX1_copyFrom, Cond.initialized RX1, Cond.code yX1_copyFrom cX1_copyFrom 2 none, Cond.fieldLink RX1 9 "ExhibitTexts$State" "sizes" "[I", Cond.methodLink RX1 22 arraycopyName, Cond.native arraycopyName, Cond.static arraycopyName, Cond.initialized "java/lang/System", Cond.fieldLink RX1 15 "ExhibitTexts$State" "cells" "[I", Cond.fieldLink RX1 28 "ExhibitTexts$State" "standsAt" "I", Cond.fieldLink RX1 18 "ExhibitTexts$State" "turning" "I", Cond.fieldLink RX1 31 "ExhibitTexts$State" "visitors" "I", Cond.fieldLink RX1 34 "ExhibitTexts$State" "textsRead" "I", Cond.fieldLink RX1 37 "ExhibitTexts$State" "captionsRead" "I", Cond.fieldLink RX1 40 "ExhibitTexts$State" "hasVisitor" "Z"]
def wsX2_readEntries_r4 : List Cond := [Cond.fieldLink RX1 44 "ExhibitTexts$State" "age" "I", Cond.fieldLink RX1 47 "ExhibitTexts$State" "pace" "I", Cond.fieldLink RX1 50 "ExhibitTexts$State" "seconds" "I", Cond.fieldLink RX1 53 "ExhibitTexts$State" "learned" "I", Cond.methodLink RX2 61 yX2_doEntries, Cond.instanceMethod yX2_doEntries, Cond.selects RX2 yX2_doEntries yX2_doEntries, Cond.code yX2_doEntries cX2_doEntries 4 (some .int), Cond.fieldLink RX2 188 "ExhibitTexts$Pad" "place" "I", Cond.fieldLink RX2 69 "ExhibitTexts" "refusedEntry" "I", Cond.fieldLink RX2 65 "ExhibitTexts" "refusedError" "I", Cond.methodLink RX2 191 yX0_takeEntry, Cond.methodLink RX2 194 yX2_doEntry, Cond.instanceMethod yX2_doEntry, Cond.selects RX2 yX2_doEntry yX2_doEntry, Cond.code yX2_doEntry cX2_doEntry 2 (some .int), Cond.fieldLink RX2 201 "ExhibitTexts$Pad" "isCaption" "Z", Cond.fieldLink RX2 204 "ExhibitTexts$Pad" "exhibit" "I", Cond.fieldLink RX2 207 "ExhibitTexts$Pad" "text" "I", Cond.fieldLink RX2 210 "ExhibitTexts$Pad" "words" "I", Cond.fieldLink RX2 213 "ExhibitTexts$Pad" "facts" "I", Cond.fieldLink RX2 216 "ExhibitTexts$Pad" "sentences" "I", Cond.fieldLink RX2 219 "ExhibitTexts$Pad" "longs" "I", Cond.methodLink RX2 53 yX1_putCaption]
def wsX2_readEntries_r5 : List Cond := [Cond.instanceMethod yX1_putCaption, Cond.selects RX1 yX1_putCaption yX1_putCaption, Cond.code yX1_putCaption cX1_putCaption 8 (some .int), Cond.constant RX1 64 (65535), Cond.methodLink RX1 65 yX1_rowOf, Cond.instanceMethod yX1_rowOf, Cond.selects RX1 yX1_rowOf yX1_rowOf, Cond.code yX1_rowOf cX1_rowOf 3 (some .int), Cond.static yX2_isExhibit, Cond.code yX2_isExhibit cX2_isExhibit 1 (some .boolean), Cond.methodLink RX2 37 yX1_putText, Cond.instanceMethod yX1_putText, Cond.selects RX1 yX1_putText yX1_putText, Cond.code yX1_putText cX1_putText 8 (some .int), Cond.static yX2_isText, Cond.code yX2_isText cX2_isText 3 (some .boolean), Cond.methodLink RX2 197 yX0_takeSign, Cond.methodLink RX2 41 yX2_settle, Cond.instanceMethod yX2_settle, Cond.selects RX2 yX2_settle yX2_settle, Cond.code yX2_settle cX2_settle 4 (some .int), Cond.fieldLink RX2 98 "ExhibitTexts" "nextInHistory" "I", Cond.fieldLink RX2 22 "ExhibitTexts" "history" "[LExhibitTexts$State;", Cond.fieldLink RX2 95 "ExhibitTexts" "statesInHistory" "I"]
def wsX2_readEntries_r6 : List Cond := [Cond.methodLink RX2 183 Lib.Math.min.name, Cond.static Lib.Math.min.name, Cond.initialized "java/lang/Math", Cond.code Lib.Math.min.name Lib.Math.min.code 2 (some .int)]
def wsX2_readEntries : List Cond := .code yX2_readEntries cX2_readEntries 2 (some .int) :: ((wsX2_readEntries_r1 ++ (wsX2_readEntries_r2 ++ (wsX2_readEntries_r3 ++ (wsX2_readEntries_r4 ++ (wsX2_readEntries_r5 ++ wsX2_readEntries_r6))))) ++ wsX20 ++ wsX00 ++ wsX10)
def wsX2_refusal : List Cond := .code yX2_refusal cX2_refusal 2 (some .int) :: ([.fieldLink RX2 65 "ExhibitTexts" "refusedError" "I", .fieldLink RX2 69 "ExhibitTexts" "refusedEntry" "I"] ++ wsX20)
def wsX2_enter_r1 : List Cond := [Cond.methodLink RX2 33 yX2_attempt, Cond.instanceMethod yX2_attempt, Cond.selects RX2 yX2_attempt yX2_attempt, Cond.initialized RX2, Cond.code yX2_attempt cX2_attempt 1 (some (.object "ExhibitTexts$State")), Cond.fieldLink RX2 16 "ExhibitTexts" "trial" "LExhibitTexts$State;", Cond.fieldLink RX2 12 "ExhibitTexts" "now" "LExhibitTexts$State;", Cond.methodLink RX2 101 yX1_copyFrom, Cond.instanceMethod yX1_copyFrom, Cond.selects RX1 yX1_copyFrom yX1_copyFrom, Cond.initialized RX1, Cond.code yX1_copyFrom cX1_copyFrom 2 none, Cond.fieldLink RX1 9 "ExhibitTexts$State" "sizes" "[I", Cond.methodLink RX1 22 arraycopyName, Cond.native arraycopyName, Cond.static arraycopyName, Cond.initialized "java/lang/System", Cond.fieldLink RX1 15 "ExhibitTexts$State" "cells" "[I", Cond.fieldLink RX1 28 "ExhibitTexts$State" "standsAt" "I", Cond.fieldLink RX1 18 "ExhibitTexts$State" "turning" "I", Cond.fieldLink RX1 31 "ExhibitTexts$State" "visitors" "I", Cond.fieldLink RX1 34 "ExhibitTexts$State" "textsRead" "I", Cond.fieldLink RX1 37 "ExhibitTexts$State" "captionsRead" "I", Cond.fieldLink RX1 40 "ExhibitTexts$State" "hasVisitor" "Z"]
def wsX2_enter_r2 : List Cond := [Cond.fieldLink RX1 44 "ExhibitTexts$State" "age" "I", Cond.fieldLink RX1 47 "ExhibitTexts$State" "pace" "I", Cond.fieldLink RX1 50 "ExhibitTexts$State" "seconds" "I", Cond.fieldLink RX1 53 "ExhibitTexts$State" "learned" "I", Cond.methodLink RX2 72 yX1_admit, Cond.instanceMethod yX1_admit, Cond.selects RX1 yX1_admit yX1_admit, Cond.code yX1_admit cX1_admit 5 (some .int), Cond.static yX2_isAge, Cond.code yX2_isAge cX2_isAge 1 (some .boolean), Cond.methodLink RX1 76 yX1_textFor, Cond.instanceMethod yX1_textFor, Cond.selects RX1 yX1_textFor yX1_textFor, Cond.code yX1_textFor cX1_textFor 6 (some .int), Cond.static yX2_isExhibit, Cond.code yX2_isExhibit cX2_isExhibit 1 (some .boolean), Cond.methodLink RX1 106 yX1_fitsBetter, Cond.instanceMethod yX1_fitsBetter, Cond.selects RX1 yX1_fitsBetter yX1_fitsBetter, Cond.code yX1_fitsBetter cX1_fitsBetter 6 (some .boolean), Cond.methodLink RX2 41 yX2_settle, Cond.instanceMethod yX2_settle, Cond.selects RX2 yX2_settle yX2_settle, Cond.code yX2_settle cX2_settle 4 (some .int)]
def wsX2_enter_r3 : List Cond := [Cond.fieldLink RX2 98 "ExhibitTexts" "nextInHistory" "I", Cond.fieldLink RX2 22 "ExhibitTexts" "history" "[LExhibitTexts$State;", Cond.fieldLink RX2 95 "ExhibitTexts" "statesInHistory" "I", Cond.methodLink RX2 183 Lib.Math.min.name, Cond.static Lib.Math.min.name, Cond.initialized "java/lang/Math", Cond.code Lib.Math.min.name Lib.Math.min.code 2 (some .int)]
def wsX2_enter : List Cond := .code yX2_enter cX2_enter 4 (some .int) :: ((wsX2_enter_r1 ++ (wsX2_enter_r2 ++ wsX2_enter_r3)) ++ wsX20 ++ wsX10)
def wsX2_touch_r1 : List Cond := [Cond.methodLink RX2 33 yX2_attempt, Cond.instanceMethod yX2_attempt, Cond.selects RX2 yX2_attempt yX2_attempt, Cond.initialized RX2, Cond.code yX2_attempt cX2_attempt 1 (some (.object "ExhibitTexts$State")), Cond.fieldLink RX2 16 "ExhibitTexts" "trial" "LExhibitTexts$State;", Cond.fieldLink RX2 12 "ExhibitTexts" "now" "LExhibitTexts$State;", Cond.methodLink RX2 101 yX1_copyFrom, Cond.instanceMethod yX1_copyFrom, Cond.selects RX1 yX1_copyFrom yX1_copyFrom, Cond.initialized RX1, Cond.code yX1_copyFrom cX1_copyFrom 2 none, Cond.fieldLink RX1 9 "ExhibitTexts$State" "sizes" "[I", Cond.methodLink RX1 22 arraycopyName, Cond.native arraycopyName, Cond.static arraycopyName, Cond.initialized "java/lang/System", Cond.fieldLink RX1 15 "ExhibitTexts$State" "cells" "[I", Cond.fieldLink RX1 28 "ExhibitTexts$State" "standsAt" "I", Cond.fieldLink RX1 18 "ExhibitTexts$State" "turning" "I", Cond.fieldLink RX1 31 "ExhibitTexts$State" "visitors" "I", Cond.fieldLink RX1 34 "ExhibitTexts$State" "textsRead" "I", Cond.fieldLink RX1 37 "ExhibitTexts$State" "captionsRead" "I", Cond.fieldLink RX1 40 "ExhibitTexts$State" "hasVisitor" "Z"]
def wsX2_touch_r2 : List Cond := [Cond.fieldLink RX1 44 "ExhibitTexts$State" "age" "I", Cond.fieldLink RX1 47 "ExhibitTexts$State" "pace" "I", Cond.fieldLink RX1 50 "ExhibitTexts$State" "seconds" "I", Cond.fieldLink RX1 53 "ExhibitTexts$State" "learned" "I", Cond.methodLink RX2 75 yX1_touchCaption, Cond.instanceMethod yX1_touchCaption, Cond.selects RX1 yX1_touchCaption yX1_touchCaption, Cond.code yX1_touchCaption cX1_touchCaption 6 (some .int), Cond.methodLink RX1 79 yX1_shownRow, Cond.instanceMethod yX1_shownRow, Cond.selects RX1 yX1_shownRow yX1_shownRow, Cond.code yX1_shownRow cX1_shownRow 2 (some .int), Cond.methodLink RX1 76 yX1_textFor, Cond.instanceMethod yX1_textFor, Cond.selects RX1 yX1_textFor yX1_textFor, Cond.code yX1_textFor cX1_textFor 6 (some .int), Cond.static yX2_isExhibit, Cond.code yX2_isExhibit cX2_isExhibit 1 (some .boolean), Cond.methodLink RX1 106 yX1_fitsBetter, Cond.instanceMethod yX1_fitsBetter, Cond.selects RX1 yX1_fitsBetter yX1_fitsBetter, Cond.code yX1_fitsBetter cX1_fitsBetter 6 (some .boolean), Cond.methodLink RX1 65 yX1_rowOf, Cond.instanceMethod yX1_rowOf]
def wsX2_touch_r3 : List Cond := [Cond.selects RX1 yX1_rowOf yX1_rowOf, Cond.code yX1_rowOf cX1_rowOf 3 (some .int), Cond.methodLink RX1 83 yX1_captionOf, Cond.instanceMethod yX1_captionOf, Cond.selects RX1 yX1_captionOf yX1_captionOf, Cond.code yX1_captionOf cX1_captionOf 3 (some .int), Cond.methodLink RX1 86 yX1_timeFor, Cond.instanceMethod yX1_timeFor, Cond.selects RX1 yX1_timeFor yX1_timeFor, Cond.code yX1_timeFor cX1_timeFor 3 (some .int), Cond.methodLink RX1 103 Lib.Math.max.name, Cond.static Lib.Math.max.name, Cond.initialized "java/lang/Math", Cond.code Lib.Math.max.name Lib.Math.max.code 2 (some .int), Cond.methodLink RX1 89 yX1_readShown, Cond.instanceMethod yX1_readShown, Cond.selects RX1 yX1_readShown yX1_readShown, Cond.code yX1_readShown cX1_readShown 3 (some .boolean), Cond.methodLink RX1 93 yJ6_bitCount_0f7a4, Cond.static yJ6_bitCount_0f7a4, Cond.initialized RJ6, Cond.code yJ6_bitCount_0f7a4 cJ6_bitCount_0f7a4 1 (some .int), Cond.constant RJ6 265 (1431655765), Cond.constant RJ6 266 (858993459)]
def wsX2_touch_r4 : List Cond := [Cond.constant RJ6 267 (252645135), Cond.methodLink RX2 41 yX2_settle, Cond.instanceMethod yX2_settle, Cond.selects RX2 yX2_settle yX2_settle, Cond.code yX2_settle cX2_settle 4 (some .int), Cond.fieldLink RX2 98 "ExhibitTexts" "nextInHistory" "I", Cond.fieldLink RX2 22 "ExhibitTexts" "history" "[LExhibitTexts$State;", Cond.fieldLink RX2 95 "ExhibitTexts" "statesInHistory" "I", Cond.methodLink RX2 183 Lib.Math.min.name, Cond.static Lib.Math.min.name, Cond.code Lib.Math.min.name Lib.Math.min.code 2 (some .int)]
def wsX2_touch : List Cond := .code yX2_touch cX2_touch 2 (some .int) :: ((wsX2_touch_r1 ++ (wsX2_touch_r2 ++ (wsX2_touch_r3 ++ wsX2_touch_r4))) ++ wsX20 ++ wsX10)
def wsX2_read_r1 : List Cond := [Cond.methodLink RX2 33 yX2_attempt, Cond.instanceMethod yX2_attempt, Cond.selects RX2 yX2_attempt yX2_attempt, Cond.initialized RX2, Cond.code yX2_attempt cX2_attempt 1 (some (.object "ExhibitTexts$State")), Cond.fieldLink RX2 16 "ExhibitTexts" "trial" "LExhibitTexts$State;", Cond.fieldLink RX2 12 "ExhibitTexts" "now" "LExhibitTexts$State;", Cond.methodLink RX2 101 yX1_copyFrom, Cond.instanceMethod yX1_copyFrom, Cond.selects RX1 yX1_copyFrom yX1_copyFrom, Cond.initialized RX1, Cond.code yX1_copyFrom cX1_copyFrom 2 none, Cond.fieldLink RX1 9 "ExhibitTexts$State" "sizes" "[I", Cond.methodLink RX1 22 arraycopyName, Cond.native arraycopyName, Cond.static arraycopyName, Cond.initialized "java/lang/System", Cond.fieldLink RX1 15 "ExhibitTexts$State" "cells" "[I", Cond.fieldLink RX1 28 "ExhibitTexts$State" "standsAt" "I", Cond.fieldLink RX1 18 "ExhibitTexts$State" "turning" "I", Cond.fieldLink RX1 31 "ExhibitTexts$State" "visitors" "I", Cond.fieldLink RX1 34 "ExhibitTexts$State" "textsRead" "I", Cond.fieldLink RX1 37 "ExhibitTexts$State" "captionsRead" "I", Cond.fieldLink RX1 40 "ExhibitTexts$State" "hasVisitor" "Z"]
def wsX2_read_r2 : List Cond := [Cond.fieldLink RX1 44 "ExhibitTexts$State" "age" "I", Cond.fieldLink RX1 47 "ExhibitTexts$State" "pace" "I", Cond.fieldLink RX1 50 "ExhibitTexts$State" "seconds" "I", Cond.fieldLink RX1 53 "ExhibitTexts$State" "learned" "I", Cond.methodLink RX2 78 yX1_readUntouched, Cond.instanceMethod yX1_readUntouched, Cond.selects RX1 yX1_readUntouched yX1_readUntouched, Cond.code yX1_readUntouched cX1_readUntouched 3 (some .int), Cond.methodLink RX1 79 yX1_shownRow, Cond.instanceMethod yX1_shownRow, Cond.selects RX1 yX1_shownRow yX1_shownRow, Cond.code yX1_shownRow cX1_shownRow 2 (some .int), Cond.methodLink RX1 76 yX1_textFor, Cond.instanceMethod yX1_textFor, Cond.selects RX1 yX1_textFor yX1_textFor, Cond.code yX1_textFor cX1_textFor 6 (some .int), Cond.static yX2_isExhibit, Cond.code yX2_isExhibit cX2_isExhibit 1 (some .boolean), Cond.methodLink RX1 106 yX1_fitsBetter, Cond.instanceMethod yX1_fitsBetter, Cond.selects RX1 yX1_fitsBetter yX1_fitsBetter, Cond.code yX1_fitsBetter cX1_fitsBetter 6 (some .boolean), Cond.methodLink RX1 65 yX1_rowOf, Cond.instanceMethod yX1_rowOf]
def wsX2_read_r3 : List Cond := [Cond.selects RX1 yX1_rowOf yX1_rowOf, Cond.code yX1_rowOf cX1_rowOf 3 (some .int), Cond.methodLink RX1 89 yX1_readShown, Cond.instanceMethod yX1_readShown, Cond.selects RX1 yX1_readShown yX1_readShown, Cond.code yX1_readShown cX1_readShown 3 (some .boolean), Cond.methodLink RX1 86 yX1_timeFor, Cond.instanceMethod yX1_timeFor, Cond.selects RX1 yX1_timeFor yX1_timeFor, Cond.code yX1_timeFor cX1_timeFor 3 (some .int), Cond.methodLink RX1 103 Lib.Math.max.name, Cond.static Lib.Math.max.name, Cond.initialized "java/lang/Math", Cond.code Lib.Math.max.name Lib.Math.max.code 2 (some .int), Cond.methodLink RX1 93 yJ6_bitCount_0f7a4, Cond.static yJ6_bitCount_0f7a4, Cond.initialized RJ6, Cond.code yJ6_bitCount_0f7a4 cJ6_bitCount_0f7a4 1 (some .int), Cond.constant RJ6 265 (1431655765), Cond.constant RJ6 266 (858993459), Cond.constant RJ6 267 (252645135), Cond.methodLink RX2 41 yX2_settle, Cond.instanceMethod yX2_settle, Cond.selects RX2 yX2_settle yX2_settle]
def wsX2_read_r4 : List Cond := [Cond.code yX2_settle cX2_settle 4 (some .int), Cond.fieldLink RX2 98 "ExhibitTexts" "nextInHistory" "I", Cond.fieldLink RX2 22 "ExhibitTexts" "history" "[LExhibitTexts$State;", Cond.fieldLink RX2 95 "ExhibitTexts" "statesInHistory" "I", Cond.methodLink RX2 183 Lib.Math.min.name, Cond.static Lib.Math.min.name, Cond.code Lib.Math.min.name Lib.Math.min.code 2 (some .int)]
def wsX2_read : List Cond := .code yX2_read cX2_read 1 (some .int) :: ((wsX2_read_r1 ++ (wsX2_read_r2 ++ (wsX2_read_r3 ++ wsX2_read_r4))) ++ wsX20 ++ wsX10)
def wsX2_turn_r1 : List Cond := [Cond.methodLink RX2 33 yX2_attempt, Cond.instanceMethod yX2_attempt, Cond.selects RX2 yX2_attempt yX2_attempt, Cond.initialized RX2, Cond.code yX2_attempt cX2_attempt 1 (some (.object "ExhibitTexts$State")), Cond.fieldLink RX2 16 "ExhibitTexts" "trial" "LExhibitTexts$State;", Cond.fieldLink RX2 12 "ExhibitTexts" "now" "LExhibitTexts$State;", Cond.methodLink RX2 101 yX1_copyFrom, Cond.instanceMethod yX1_copyFrom, Cond.selects RX1 yX1_copyFrom yX1_copyFrom, Cond.initialized RX1, Cond.code yX1_copyFrom cX1_copyFrom 2 none, Cond.fieldLink RX1 9 "ExhibitTexts$State" "sizes" "[I", Cond.methodLink RX1 22 arraycopyName, Cond.native arraycopyName, Cond.static arraycopyName, Cond.initialized "java/lang/System", Cond.fieldLink RX1 15 "ExhibitTexts$State" "cells" "[I", Cond.fieldLink RX1 28 "ExhibitTexts$State" "standsAt" "I", Cond.fieldLink RX1 18 "ExhibitTexts$State" "turning" "I", Cond.fieldLink RX1 31 "ExhibitTexts$State" "visitors" "I", Cond.fieldLink RX1 34 "ExhibitTexts$State" "textsRead" "I", Cond.fieldLink RX1 37 "ExhibitTexts$State" "captionsRead" "I", Cond.fieldLink RX1 40 "ExhibitTexts$State" "hasVisitor" "Z"]
def wsX2_turn_r2 : List Cond := [Cond.fieldLink RX1 44 "ExhibitTexts$State" "age" "I", Cond.fieldLink RX1 47 "ExhibitTexts$State" "pace" "I", Cond.fieldLink RX1 50 "ExhibitTexts$State" "seconds" "I", Cond.fieldLink RX1 53 "ExhibitTexts$State" "learned" "I", Cond.methodLink RX2 81 yX1_turnRing, Cond.instanceMethod yX1_turnRing, Cond.selects RX1 yX1_turnRing yX1_turnRing, Cond.code yX1_turnRing cX1_turnRing 2 (some .int), Cond.methodLink RX1 103 Lib.Math.max.name, Cond.static Lib.Math.max.name, Cond.initialized "java/lang/Math", Cond.code Lib.Math.max.name Lib.Math.max.code 2 (some .int), Cond.methodLink RX1 98 yJ9_floorMod_7cf53, Cond.static yJ9_floorMod_7cf53, Cond.initialized RJ9, Cond.code yJ9_floorMod_7cf53 cJ9_floorMod_7cf53 3 (some .int), Cond.methodLink RX2 41 yX2_settle, Cond.instanceMethod yX2_settle, Cond.selects RX2 yX2_settle yX2_settle, Cond.code yX2_settle cX2_settle 4 (some .int), Cond.fieldLink RX2 98 "ExhibitTexts" "nextInHistory" "I", Cond.fieldLink RX2 22 "ExhibitTexts" "history" "[LExhibitTexts$State;", Cond.fieldLink RX2 95 "ExhibitTexts" "statesInHistory" "I", Cond.methodLink RX2 183 Lib.Math.min.name]
def wsX2_turn_r3 : List Cond := [Cond.static Lib.Math.min.name, Cond.code Lib.Math.min.name Lib.Math.min.code 2 (some .int)]
def wsX2_turn : List Cond := .code yX2_turn cX2_turn 2 (some .int) :: ((wsX2_turn_r1 ++ (wsX2_turn_r2 ++ wsX2_turn_r3)) ++ wsX20 ++ wsX10)
def wsX2_setTurning_r1 : List Cond := [Cond.methodLink RX2 33 yX2_attempt, Cond.instanceMethod yX2_attempt, Cond.selects RX2 yX2_attempt yX2_attempt, Cond.initialized RX2, Cond.code yX2_attempt cX2_attempt 1 (some (.object "ExhibitTexts$State")), Cond.fieldLink RX2 16 "ExhibitTexts" "trial" "LExhibitTexts$State;", Cond.fieldLink RX2 12 "ExhibitTexts" "now" "LExhibitTexts$State;", Cond.methodLink RX2 101 yX1_copyFrom, Cond.instanceMethod yX1_copyFrom, Cond.selects RX1 yX1_copyFrom yX1_copyFrom, Cond.initialized RX1, Cond.code yX1_copyFrom cX1_copyFrom 2 none, Cond.fieldLink RX1 9 "ExhibitTexts$State" "sizes" "[I", Cond.methodLink RX1 22 arraycopyName, Cond.native arraycopyName, Cond.static arraycopyName, Cond.initialized "java/lang/System", Cond.fieldLink RX1 15 "ExhibitTexts$State" "cells" "[I", Cond.fieldLink RX1 28 "ExhibitTexts$State" "standsAt" "I", Cond.fieldLink RX1 18 "ExhibitTexts$State" "turning" "I", Cond.fieldLink RX1 31 "ExhibitTexts$State" "visitors" "I", Cond.fieldLink RX1 34 "ExhibitTexts$State" "textsRead" "I", Cond.fieldLink RX1 37 "ExhibitTexts$State" "captionsRead" "I", Cond.fieldLink RX1 40 "ExhibitTexts$State" "hasVisitor" "Z"]
def wsX2_setTurning_r2 : List Cond := [Cond.fieldLink RX1 44 "ExhibitTexts$State" "age" "I", Cond.fieldLink RX1 47 "ExhibitTexts$State" "pace" "I", Cond.fieldLink RX1 50 "ExhibitTexts$State" "seconds" "I", Cond.fieldLink RX1 53 "ExhibitTexts$State" "learned" "I", Cond.methodLink RX2 85 yX1_changeTurning, Cond.instanceMethod yX1_changeTurning, Cond.selects RX1 yX1_changeTurning yX1_changeTurning, Cond.code yX1_changeTurning cX1_changeTurning 3 (some .int), Cond.methodLink RX2 41 yX2_settle, Cond.instanceMethod yX2_settle, Cond.selects RX2 yX2_settle yX2_settle, Cond.code yX2_settle cX2_settle 4 (some .int), Cond.fieldLink RX2 98 "ExhibitTexts" "nextInHistory" "I", Cond.fieldLink RX2 22 "ExhibitTexts" "history" "[LExhibitTexts$State;", Cond.fieldLink RX2 95 "ExhibitTexts" "statesInHistory" "I", Cond.methodLink RX2 183 Lib.Math.min.name, Cond.static Lib.Math.min.name, Cond.initialized "java/lang/Math", Cond.code Lib.Math.min.name Lib.Math.min.code 2 (some .int)]
def wsX2_setTurning : List Cond := .code yX2_setTurning cX2_setTurning 2 (some .int) :: ((wsX2_setTurning_r1 ++ wsX2_setTurning_r2) ++ wsX20 ++ wsX10)
def wsX2_type : List Cond := .code yX2_type cX2_type 2 (some .int) :: ([.fieldLink RX2 29 "ExhibitTexts" "pad" "LExhibitTexts$Pad;", .methodLink RX2 88 yX0_append, .instanceMethod yX0_append, .selects RX0 yX0_append yX0_append, .initialized RX0, .code yX0_append cX0_append 2 (some .int), .fieldLink RX0 15 "ExhibitTexts$Pad" "length" "I", .fieldLink RX0 9 "ExhibitTexts$Pad" "characters" "[C"] ++ wsX20 ++ wsX00)
def wsX2_clearPad : List Cond := .code yX2_clearPad cX2_clearPad 2 (some .int) :: ([.fieldLink RX2 29 "ExhibitTexts" "pad" "LExhibitTexts$Pad;", .fieldLink RX2 92 "ExhibitTexts$Pad" "length" "I"] ++ wsX20 ++ wsX00)
def wsX2_undo : List Cond := .code yX2_undo cX2_undo 3 (some .int) :: ([.fieldLink RX2 95 "ExhibitTexts" "statesInHistory" "I", .fieldLink RX2 98 "ExhibitTexts" "nextInHistory" "I", .fieldLink RX2 12 "ExhibitTexts" "now" "LExhibitTexts$State;", .fieldLink RX2 22 "ExhibitTexts" "history" "[LExhibitTexts$State;"] ++ wsX20)
def wsX2_keep_r1 : List Cond := [Cond.fieldLink RX2 19 "ExhibitTexts" "snapshot" "LExhibitTexts$State;", Cond.fieldLink RX2 12 "ExhibitTexts" "now" "LExhibitTexts$State;", Cond.fieldLink RX2 105 "ExhibitTexts" "kept" "Z", Cond.methodLink RX2 101 yX1_copyFrom, Cond.instanceMethod yX1_copyFrom, Cond.selects RX1 yX1_copyFrom yX1_copyFrom, Cond.initialized RX1, Cond.code yX1_copyFrom cX1_copyFrom 2 none, Cond.fieldLink RX1 9 "ExhibitTexts$State" "sizes" "[I", Cond.methodLink RX1 22 arraycopyName, Cond.native arraycopyName, Cond.static arraycopyName, Cond.initialized "java/lang/System", Cond.fieldLink RX1 15 "ExhibitTexts$State" "cells" "[I", Cond.fieldLink RX1 28 "ExhibitTexts$State" "standsAt" "I", Cond.fieldLink RX1 18 "ExhibitTexts$State" "turning" "I", Cond.fieldLink RX1 31 "ExhibitTexts$State" "visitors" "I", Cond.fieldLink RX1 34 "ExhibitTexts$State" "textsRead" "I", Cond.fieldLink RX1 37 "ExhibitTexts$State" "captionsRead" "I", Cond.fieldLink RX1 40 "ExhibitTexts$State" "hasVisitor" "Z", Cond.fieldLink RX1 44 "ExhibitTexts$State" "age" "I", Cond.fieldLink RX1 47 "ExhibitTexts$State" "pace" "I", Cond.fieldLink RX1 50 "ExhibitTexts$State" "seconds" "I", Cond.fieldLink RX1 53 "ExhibitTexts$State" "learned" "I"]
def wsX2_keep_r2 : List Cond := [Cond.methodLink RX2 109 yX1_countTexts, Cond.instanceMethod yX1_countTexts, Cond.selects RX1 yX1_countTexts yX1_countTexts, Cond.code yX1_countTexts cX1_countTexts 3 (some .int)]
def wsX2_keep : List Cond := .code yX2_keep cX2_keep 1 (some .int) :: ((wsX2_keep_r1 ++ wsX2_keep_r2) ++ wsX20 ++ wsX10)
def wsX2_restore_r1 : List Cond := [Cond.fieldLink RX2 105 "ExhibitTexts" "kept" "Z", Cond.fieldLink RX2 16 "ExhibitTexts" "trial" "LExhibitTexts$State;", Cond.fieldLink RX2 19 "ExhibitTexts" "snapshot" "LExhibitTexts$State;", Cond.methodLink RX2 101 yX1_copyFrom, Cond.instanceMethod yX1_copyFrom, Cond.selects RX1 yX1_copyFrom yX1_copyFrom, Cond.initialized RX1, Cond.code yX1_copyFrom cX1_copyFrom 2 none, Cond.fieldLink RX1 9 "ExhibitTexts$State" "sizes" "[I", Cond.methodLink RX1 22 arraycopyName, Cond.native arraycopyName, Cond.static arraycopyName, Cond.initialized "java/lang/System", Cond.fieldLink RX1 15 "ExhibitTexts$State" "cells" "[I", Cond.fieldLink RX1 28 "ExhibitTexts$State" "standsAt" "I", Cond.fieldLink RX1 18 "ExhibitTexts$State" "turning" "I", Cond.fieldLink RX1 31 "ExhibitTexts$State" "visitors" "I", Cond.fieldLink RX1 34 "ExhibitTexts$State" "textsRead" "I", Cond.fieldLink RX1 37 "ExhibitTexts$State" "captionsRead" "I", Cond.fieldLink RX1 40 "ExhibitTexts$State" "hasVisitor" "Z", Cond.fieldLink RX1 44 "ExhibitTexts$State" "age" "I", Cond.fieldLink RX1 47 "ExhibitTexts$State" "pace" "I", Cond.fieldLink RX1 50 "ExhibitTexts$State" "seconds" "I", Cond.fieldLink RX1 53 "ExhibitTexts$State" "learned" "I"]
def wsX2_restore_r2 : List Cond := [Cond.methodLink RX2 109 yX1_countTexts, Cond.instanceMethod yX1_countTexts, Cond.selects RX1 yX1_countTexts yX1_countTexts, Cond.code yX1_countTexts cX1_countTexts 3 (some .int), Cond.methodLink RX2 41 yX2_settle, Cond.instanceMethod yX2_settle, Cond.selects RX2 yX2_settle yX2_settle, Cond.initialized RX2, Cond.code yX2_settle cX2_settle 4 (some .int), Cond.fieldLink RX2 98 "ExhibitTexts" "nextInHistory" "I", Cond.fieldLink RX2 22 "ExhibitTexts" "history" "[LExhibitTexts$State;", Cond.fieldLink RX2 12 "ExhibitTexts" "now" "LExhibitTexts$State;", Cond.fieldLink RX2 95 "ExhibitTexts" "statesInHistory" "I", Cond.methodLink RX2 183 Lib.Math.min.name, Cond.static Lib.Math.min.name, Cond.initialized "java/lang/Math", Cond.code Lib.Math.min.name Lib.Math.min.code 2 (some .int)]
def wsX2_restore : List Cond := .code yX2_restore cX2_restore 1 (some .int) :: ((wsX2_restore_r1 ++ wsX2_restore_r2) ++ wsX20 ++ wsX10)
def wsX2_text : List Cond := .code yX2_text cX2_text 5 (some .int) :: ([.fieldLink RX2 12 "ExhibitTexts" "now" "LExhibitTexts$State;", .fieldLink RX2 115 "ExhibitTexts$State" "cells" "[I", .methodLink RX2 112 yX1_rowOf, .instanceMethod yX1_rowOf, .selects RX1 yX1_rowOf yX1_rowOf, .initialized RX1, .code yX1_rowOf cX1_rowOf 3 (some .int), .fieldLink RX1 9 "ExhibitTexts$State" "sizes" "[I", .static yX2_isExhibit, .initialized RX2, .code yX2_isExhibit cX2_isExhibit 1 (some .boolean)] ++ wsX20 ++ wsX10)
def wsX2_caption : List Cond := .code yX2_caption cX2_caption 7 (some .int) :: ([.fieldLink RX2 12 "ExhibitTexts" "now" "LExhibitTexts$State;", .fieldLink RX2 115 "ExhibitTexts$State" "cells" "[I", .methodLink RX2 112 yX1_rowOf, .instanceMethod yX1_rowOf, .selects RX1 yX1_rowOf yX1_rowOf, .initialized RX1, .code yX1_rowOf cX1_rowOf 3 (some .int), .fieldLink RX1 9 "ExhibitTexts$State" "sizes" "[I", .static yX2_isExhibit, .initialized RX2, .code yX2_isExhibit cX2_isExhibit 1 (some .boolean), .methodLink RX2 119 yX1_captionOf, .instanceMethod yX1_captionOf, .selects RX1 yX1_captionOf yX1_captionOf, .code yX1_captionOf cX1_captionOf 3 (some .int), .fieldLink RX1 15 "ExhibitTexts$State" "cells" "[I"] ++ wsX20 ++ wsX10)
def wsX2_visitor_r1 : List Cond := [Cond.fieldLink RX2 12 "ExhibitTexts" "now" "LExhibitTexts$State;", Cond.fieldLink RX2 122 "ExhibitTexts$State" "hasVisitor" "Z", Cond.fieldLink RX2 125 "ExhibitTexts$State" "age" "I", Cond.fieldLink RX2 128 "ExhibitTexts$State" "pace" "I", Cond.fieldLink RX2 131 "ExhibitTexts$State" "seconds" "I", Cond.fieldLink RX2 134 "ExhibitTexts$State" "learned" "I", Cond.fieldLink RX2 142 "ExhibitTexts$State" "standsAt" "I", Cond.methodLink RX2 137 yJ6_bitCount_0f7a4, Cond.static yJ6_bitCount_0f7a4, Cond.initialized RJ6, Cond.code yJ6_bitCount_0f7a4 cJ6_bitCount_0f7a4 1 (some .int), Cond.constant RJ6 265 (1431655765), Cond.constant RJ6 266 (858993459), Cond.constant RJ6 267 (252645135), Cond.methodLink RX2 145 yX1_textFor, Cond.instanceMethod yX1_textFor, Cond.selects RX1 yX1_textFor yX1_textFor, Cond.initialized RX1, Cond.code yX1_textFor cX1_textFor 6 (some .int), Cond.fieldLink RX1 9 "ExhibitTexts$State" "sizes" "[I", Cond.static yX2_isExhibit, Cond.initialized RX2, Cond.code yX2_isExhibit cX2_isExhibit 1 (some .boolean), Cond.methodLink RX1 106 yX1_fitsBetter]
def wsX2_visitor_r2 : List Cond := [Cond.instanceMethod yX1_fitsBetter, Cond.selects RX1 yX1_fitsBetter yX1_fitsBetter, Cond.code yX1_fitsBetter cX1_fitsBetter 6 (some .boolean), Cond.fieldLink RX1 15 "ExhibitTexts$State" "cells" "[I"]
def wsX2_visitor : List Cond := .code yX2_visitor cX2_visitor 2 (some .int) :: ((wsX2_visitor_r1 ++ wsX2_visitor_r2) ++ wsX20 ++ wsX10)
def wsX2_shown : List Cond := .code yX2_shown cX2_shown 3 (some .int) :: ([.fieldLink RX2 12 "ExhibitTexts" "now" "LExhibitTexts$State;", .methodLink RX2 148 yX2_isExhibit, .static yX2_isExhibit, .initialized RX2, .code yX2_isExhibit cX2_isExhibit 1 (some .boolean), .methodLink RX2 152 yX2_isAge, .static yX2_isAge, .code yX2_isAge cX2_isAge 1 (some .boolean), .methodLink RX2 145 yX1_textFor, .instanceMethod yX1_textFor, .selects RX1 yX1_textFor yX1_textFor, .initialized RX1, .code yX1_textFor cX1_textFor 6 (some .int), .fieldLink RX1 9 "ExhibitTexts$State" "sizes" "[I", .methodLink RX1 106 yX1_fitsBetter, .instanceMethod yX1_fitsBetter, .selects RX1 yX1_fitsBetter yX1_fitsBetter, .code yX1_fitsBetter cX1_fitsBetter 6 (some .boolean), .fieldLink RX1 15 "ExhibitTexts$State" "cells" "[I"] ++ wsX20 ++ wsX10)
def wsX2_unmet_r1 : List Cond := [Cond.fieldLink RX2 12 "ExhibitTexts" "now" "LExhibitTexts$State;", Cond.methodLink RX2 152 yX2_isAge, Cond.static yX2_isAge, Cond.initialized RX2, Cond.code yX2_isAge cX2_isAge 1 (some .boolean), Cond.methodLink RX2 155 yX1_allFacts, Cond.instanceMethod yX1_allFacts, Cond.selects RX1 yX1_allFacts yX1_allFacts, Cond.initialized RX1, Cond.code yX1_allFacts cX1_allFacts 4 (some .int), Cond.fieldLink RX1 9 "ExhibitTexts$State" "sizes" "[I", Cond.fieldLink RX1 15 "ExhibitTexts$State" "cells" "[I", Cond.methodLink RX2 158 yX1_factsFor, Cond.instanceMethod yX1_factsFor, Cond.selects RX1 yX1_factsFor yX1_factsFor, Cond.code yX1_factsFor cX1_factsFor 5 (some .int), Cond.methodLink RX1 76 yX1_textFor, Cond.instanceMethod yX1_textFor, Cond.selects RX1 yX1_textFor yX1_textFor, Cond.code yX1_textFor cX1_textFor 6 (some .int), Cond.static yX2_isExhibit, Cond.code yX2_isExhibit cX2_isExhibit 1 (some .boolean), Cond.methodLink RX1 106 yX1_fitsBetter, Cond.instanceMethod yX1_fitsBetter]
def wsX2_unmet_r2 : List Cond := [Cond.selects RX1 yX1_fitsBetter yX1_fitsBetter, Cond.code yX1_fitsBetter cX1_fitsBetter 6 (some .boolean), Cond.methodLink RX1 65 yX1_rowOf, Cond.instanceMethod yX1_rowOf, Cond.selects RX1 yX1_rowOf yX1_rowOf, Cond.code yX1_rowOf cX1_rowOf 3 (some .int)]
def wsX2_unmet : List Cond := .code yX2_unmet cX2_unmet 2 (some .int) :: ((wsX2_unmet_r1 ++ wsX2_unmet_r2) ++ wsX20 ++ wsX10)
def wsX2_round_r1 : List Cond := [Cond.fieldLink RX2 134 "ExhibitTexts$State" "learned" "I", Cond.methodLink RX2 33 yX2_attempt, Cond.instanceMethod yX2_attempt, Cond.selects RX2 yX2_attempt yX2_attempt, Cond.initialized RX2, Cond.code yX2_attempt cX2_attempt 1 (some (.object "ExhibitTexts$State")), Cond.fieldLink RX2 16 "ExhibitTexts" "trial" "LExhibitTexts$State;", Cond.fieldLink RX2 12 "ExhibitTexts" "now" "LExhibitTexts$State;", Cond.methodLink RX2 101 yX1_copyFrom, Cond.instanceMethod yX1_copyFrom, Cond.selects RX1 yX1_copyFrom yX1_copyFrom, Cond.initialized RX1, Cond.code yX1_copyFrom cX1_copyFrom 2 none, Cond.fieldLink RX1 9 "ExhibitTexts$State" "sizes" "[I", Cond.methodLink RX1 22 arraycopyName, Cond.native arraycopyName, Cond.static arraycopyName, Cond.initialized "java/lang/System", Cond.fieldLink RX1 15 "ExhibitTexts$State" "cells" "[I", Cond.fieldLink RX1 28 "ExhibitTexts$State" "standsAt" "I", Cond.fieldLink RX1 18 "ExhibitTexts$State" "turning" "I", Cond.fieldLink RX1 31 "ExhibitTexts$State" "visitors" "I", Cond.fieldLink RX1 34 "ExhibitTexts$State" "textsRead" "I", Cond.fieldLink RX1 37 "ExhibitTexts$State" "captionsRead" "I"]
def wsX2_round_r2 : List Cond := [Cond.fieldLink RX1 40 "ExhibitTexts$State" "hasVisitor" "Z", Cond.fieldLink RX1 44 "ExhibitTexts$State" "age" "I", Cond.fieldLink RX1 47 "ExhibitTexts$State" "pace" "I", Cond.fieldLink RX1 50 "ExhibitTexts$State" "seconds" "I", Cond.fieldLink RX1 53 "ExhibitTexts$State" "learned" "I", Cond.methodLink RX2 72 yX1_admit, Cond.instanceMethod yX1_admit, Cond.selects RX1 yX1_admit yX1_admit, Cond.code yX1_admit cX1_admit 5 (some .int), Cond.static yX2_isAge, Cond.code yX2_isAge cX2_isAge 1 (some .boolean), Cond.methodLink RX1 76 yX1_textFor, Cond.instanceMethod yX1_textFor, Cond.selects RX1 yX1_textFor yX1_textFor, Cond.code yX1_textFor cX1_textFor 6 (some .int), Cond.static yX2_isExhibit, Cond.code yX2_isExhibit cX2_isExhibit 1 (some .boolean), Cond.methodLink RX1 106 yX1_fitsBetter, Cond.instanceMethod yX1_fitsBetter, Cond.selects RX1 yX1_fitsBetter yX1_fitsBetter, Cond.code yX1_fitsBetter cX1_fitsBetter 6 (some .boolean), Cond.methodLink RX2 161 yX1_readShown, Cond.instanceMethod yX1_readShown, Cond.selects RX1 yX1_readShown yX1_readShown]
def wsX2_round_r3 : List Cond := [Cond.code yX1_readShown cX1_readShown 3 (some .boolean), Cond.methodLink RX1 79 yX1_shownRow, Cond.instanceMethod yX1_shownRow, Cond.selects RX1 yX1_shownRow yX1_shownRow, Cond.code yX1_shownRow cX1_shownRow 2 (some .int), Cond.methodLink RX1 65 yX1_rowOf, Cond.instanceMethod yX1_rowOf, Cond.selects RX1 yX1_rowOf yX1_rowOf, Cond.code yX1_rowOf cX1_rowOf 3 (some .int), Cond.methodLink RX1 86 yX1_timeFor, Cond.instanceMethod yX1_timeFor, Cond.selects RX1 yX1_timeFor yX1_timeFor, Cond.code yX1_timeFor cX1_timeFor 3 (some .int), Cond.methodLink RX1 103 Lib.Math.max.name, Cond.static Lib.Math.max.name, Cond.initialized "java/lang/Math", Cond.code Lib.Math.max.name Lib.Math.max.code 2 (some .int), Cond.methodLink RX2 81 yX1_turnRing, Cond.instanceMethod yX1_turnRing, Cond.selects RX1 yX1_turnRing yX1_turnRing, Cond.code yX1_turnRing cX1_turnRing 2 (some .int), Cond.methodLink RX1 98 yJ9_floorMod_7cf53, Cond.static yJ9_floorMod_7cf53, Cond.initialized RJ9]
def wsX2_round_r4 : List Cond := [Cond.code yJ9_floorMod_7cf53 cJ9_floorMod_7cf53 3 (some .int)]
def wsX2_round : List Cond := .code yX2_round cX2_round 7 (some .int) :: ((wsX2_round_r1 ++ (wsX2_round_r2 ++ (wsX2_round_r3 ++ wsX2_round_r4))) ++ wsX10 ++ wsX20)
def wsX2_ages : List Cond := .code yX2_ages cX2_ages 8 (some .int) :: ([.fieldLink RX2 12 "ExhibitTexts" "now" "LExhibitTexts$State;", .methodLink RX2 112 yX1_rowOf, .instanceMethod yX1_rowOf, .selects RX1 yX1_rowOf yX1_rowOf, .initialized RX1, .code yX1_rowOf cX1_rowOf 3 (some .int), .fieldLink RX1 9 "ExhibitTexts$State" "sizes" "[I", .static yX2_isExhibit, .initialized RX2, .code yX2_isExhibit cX2_isExhibit 1 (some .boolean), .methodLink RX2 145 yX1_textFor, .instanceMethod yX1_textFor, .selects RX1 yX1_textFor yX1_textFor, .code yX1_textFor cX1_textFor 6 (some .int), .methodLink RX1 106 yX1_fitsBetter, .instanceMethod yX1_fitsBetter, .selects RX1 yX1_fitsBetter yX1_fitsBetter, .code yX1_fitsBetter cX1_fitsBetter 6 (some .boolean), .fieldLink RX1 15 "ExhibitTexts$State" "cells" "[I"] ++ wsX20 ++ wsX10)
def wsX2_count_r1 : List Cond := [Cond.fieldLink RX2 12 "ExhibitTexts" "now" "LExhibitTexts$State;", Cond.fieldLink RX2 142 "ExhibitTexts$State" "standsAt" "I", Cond.fieldLink RX2 168 "ExhibitTexts$State" "turning" "I", Cond.fieldLink RX2 171 "ExhibitTexts$State" "visitors" "I", Cond.fieldLink RX2 174 "ExhibitTexts$State" "textsRead" "I", Cond.fieldLink RX2 177 "ExhibitTexts$State" "captionsRead" "I", Cond.fieldLink RX2 95 "ExhibitTexts" "statesInHistory" "I", Cond.fieldLink RX2 29 "ExhibitTexts" "pad" "LExhibitTexts$Pad;", Cond.fieldLink RX2 92 "ExhibitTexts$Pad" "length" "I", Cond.methodLink RX2 109 yX1_countTexts, Cond.instanceMethod yX1_countTexts, Cond.selects RX1 yX1_countTexts yX1_countTexts, Cond.initialized RX1, Cond.code yX1_countTexts cX1_countTexts 3 (some .int), Cond.fieldLink RX1 9 "ExhibitTexts$State" "sizes" "[I", Cond.methodLink RX2 165 yX1_countCaptions, Cond.instanceMethod yX1_countCaptions, Cond.selects RX1 yX1_countCaptions yX1_countCaptions, Cond.code yX1_countCaptions cX1_countCaptions 4 (some .int), Cond.fieldLink RX1 15 "ExhibitTexts$State" "cells" "[I", Cond.methodLink RX2 180 yX1_countNeverRead, Cond.instanceMethod yX1_countNeverRead, Cond.selects RX1 yX1_countNeverRead yX1_countNeverRead, Cond.code yX1_countNeverRead cX1_countNeverRead 4 (some .int)]
def wsX2_count_r2 : List Cond := [Cond.methodLink RX2 155 yX1_allFacts, Cond.instanceMethod yX1_allFacts, Cond.selects RX1 yX1_allFacts yX1_allFacts, Cond.code yX1_allFacts cX1_allFacts 4 (some .int), Cond.methodLink RX2 137 yJ6_bitCount_0f7a4, Cond.static yJ6_bitCount_0f7a4, Cond.initialized RJ6, Cond.code yJ6_bitCount_0f7a4 cJ6_bitCount_0f7a4 1 (some .int), Cond.constant RJ6 265 (1431655765), Cond.constant RJ6 266 (858993459), Cond.constant RJ6 267 (252645135)]
def wsX2_count : List Cond := .code yX2_count cX2_count 2 (some .int) :: ((wsX2_count_r1 ++ wsX2_count_r2) ++ wsX20 ++ wsX10 ++ wsX00)
def wsX3_init : List Cond := .code yX3_init cX3_init 1 none :: ([.methodLink RX3 1 objectInit, .instanceMethod objectInit, .code objectInit ⟨#[0xb1]⟩ 1 none, .arrayClass .int, .fieldLink RX3 7 "ExhibitTextsModel" "s" "[I", .fieldLink RX3 13 "ExhibitTextsModel" "aside" "[I", .fieldLink RX3 16 "ExhibitTextsModel" "before" "[I", .fieldLink RX3 19 "ExhibitTextsModel" "kept" "[I", .fieldLink RX3 22 "ExhibitTextsModel" "pad" "[I", .fieldLink RX3 25 "ExhibitTextsModel" "refusedAt" "I", .fieldLink RX3 29 "ExhibitTextsModel" "refusedBy" "I", .fieldLink RX3 32 "ExhibitTextsModel" "told" "[I"] ++ wsX30)
def wsX3_in : List Cond := .code yX3_in cX3_in 3 (some .boolean) :: ([])
def wsX3_manyAt : List Cond := .code yX3_manyAt cX3_manyAt 1 (some .int) :: ([])
def wsX3_of : List Cond := .code yX3_of cX3_of 3 (some .int) :: ([.methodLink RX3 35 yX3_manyAt, .static yX3_manyAt, .initialized RX3, .code yX3_manyAt cX3_manyAt 1 (some .int)])
def wsX3_ofCaption : List Cond := .code yX3_ofCaption cX3_ofCaption 4 (some .int) :: ([.methodLink RX3 39 yX3_of, .static yX3_of, .initialized RX3, .code yX3_of cX3_of 3 (some .int), .methodLink RX3 35 yX3_manyAt, .static yX3_manyAt, .code yX3_manyAt cX3_manyAt 1 (some .int)])
def wsX3_isExhibit : List Cond := .code yX3_isExhibit cX3_isExhibit 1 (some .boolean) :: ([.methodLink RX3 43 yX3_in, .static yX3_in, .initialized RX3, .code yX3_in cX3_in 3 (some .boolean)])
def wsX3_isText : List Cond := .code yX3_isText cX3_isText 3 (some .boolean) :: ([.fieldLink RX3 7 "ExhibitTextsModel" "s" "[I", .methodLink RX3 47 yX3_isExhibit, .static yX3_isExhibit, .initialized RX3, .code yX3_isExhibit cX3_isExhibit 1 (some .boolean), .methodLink RX3 43 yX3_in, .static yX3_in, .code yX3_in cX3_in 3 (some .boolean), .methodLink RX3 35 yX3_manyAt, .static yX3_manyAt, .code yX3_manyAt cX3_manyAt 1 (some .int)] ++ wsX30)
def wsX3_isCaption : List Cond := .code yX3_isCaption cX3_isCaption 4 (some .boolean) :: ([.fieldLink RX3 7 "ExhibitTextsModel" "s" "[I", .methodLink RX3 51 yX3_isText, .instanceMethod yX3_isText, .selects RX3 yX3_isText yX3_isText, .initialized RX3, .code yX3_isText cX3_isText 3 (some .boolean), .methodLink RX3 47 yX3_isExhibit, .static yX3_isExhibit, .code yX3_isExhibit cX3_isExhibit 1 (some .boolean), .methodLink RX3 43 yX3_in, .static yX3_in, .code yX3_in cX3_in 3 (some .boolean), .methodLink RX3 35 yX3_manyAt, .static yX3_manyAt, .code yX3_manyAt cX3_manyAt 1 (some .int), .methodLink RX3 39 yX3_of, .static yX3_of, .code yX3_of cX3_of 3 (some .int)] ++ wsX30)
def wsX3_know : List Cond := .code yX3_know cX3_know 2 none :: ([.fieldLink RX3 55 "ExhibitTextsModel" "known" "I", .fieldLink RX3 16 "ExhibitTextsModel" "before" "[I", .fieldLink RX3 7 "ExhibitTextsModel" "s" "[I"] ++ wsX30)
def wsX3_bitsOf : List Cond := .code yX3_bitsOf cX3_bitsOf 3 (some .int) :: ([])
def wsX3_readingAge : List Cond := .code yX3_readingAge cX3_readingAge 4 (some .int) :: ([.fieldLink RX3 7 "ExhibitTextsModel" "s" "[I", .methodLink RX3 39 yX3_of, .static yX3_of, .initialized RX3, .code yX3_of cX3_of 3 (some .int), .methodLink RX3 35 yX3_manyAt, .static yX3_manyAt, .code yX3_manyAt cX3_manyAt 1 (some .int)] ++ wsX30)
def wsX3_shownTo : List Cond := .code yX3_shownTo cX3_shownTo 9 (some .int) :: ([.fieldLink RX3 7 "ExhibitTextsModel" "s" "[I", .methodLink RX3 35 yX3_manyAt, .static yX3_manyAt, .initialized RX3, .code yX3_manyAt cX3_manyAt 1 (some .int), .methodLink RX3 58 yX3_readingAge, .instanceMethod yX3_readingAge, .selects RX3 yX3_readingAge yX3_readingAge, .code yX3_readingAge cX3_readingAge 4 (some .int), .methodLink RX3 39 yX3_of, .static yX3_of, .code yX3_of cX3_of 3 (some .int)] ++ wsX30)
def wsX3_textFault : List Cond := .code yX3_textFault cX3_textFault 6 (some .int) :: ([.constant RX3 62 (65535), .fieldLink RX3 7 "ExhibitTextsModel" "s" "[I", .methodLink RX3 47 yX3_isExhibit, .static yX3_isExhibit, .initialized RX3, .code yX3_isExhibit cX3_isExhibit 1 (some .boolean), .methodLink RX3 43 yX3_in, .static yX3_in, .code yX3_in cX3_in 3 (some .boolean), .methodLink RX3 35 yX3_manyAt, .static yX3_manyAt, .code yX3_manyAt cX3_manyAt 1 (some .int)] ++ wsX30)
def wsX3_addsText : List Cond := .code yX3_addsText cX3_addsText 8 (some .int) :: ([.fieldLink RX3 7 "ExhibitTextsModel" "s" "[I", .methodLink RX3 35 yX3_manyAt, .static yX3_manyAt, .initialized RX3, .code yX3_manyAt cX3_manyAt 1 (some .int), .methodLink RX3 39 yX3_of, .static yX3_of, .code yX3_of cX3_of 3 (some .int)] ++ wsX30)
def wsX3_captionFault : List Cond := .code yX3_captionFault cX3_captionFault 5 (some .int) :: ([.constant RX3 62 (65535), .fieldLink RX3 7 "ExhibitTextsModel" "s" "[I", .methodLink RX3 51 yX3_isText, .instanceMethod yX3_isText, .selects RX3 yX3_isText yX3_isText, .initialized RX3, .code yX3_isText cX3_isText 3 (some .boolean), .methodLink RX3 47 yX3_isExhibit, .static yX3_isExhibit, .code yX3_isExhibit cX3_isExhibit 1 (some .boolean), .methodLink RX3 43 yX3_in, .static yX3_in, .code yX3_in cX3_in 3 (some .boolean), .methodLink RX3 35 yX3_manyAt, .static yX3_manyAt, .code yX3_manyAt cX3_manyAt 1 (some .int), .methodLink RX3 39 yX3_of, .static yX3_of, .code yX3_of cX3_of 3 (some .int)] ++ wsX30)
def wsX3_addsCaption : List Cond := .code yX3_addsCaption cX3_addsCaption 6 (some .int) :: ([.fieldLink RX3 7 "ExhibitTextsModel" "s" "[I", .methodLink RX3 39 yX3_of, .static yX3_of, .initialized RX3, .code yX3_of cX3_of 3 (some .int), .methodLink RX3 35 yX3_manyAt, .static yX3_manyAt, .code yX3_manyAt cX3_manyAt 1 (some .int), .methodLink RX3 63 yX3_ofCaption, .static yX3_ofCaption, .code yX3_ofCaption cX3_ofCaption 4 (some .int)] ++ wsX30)
def wsX3_addText_r1 : List Cond := [Cond.methodLink RX3 67 yX3_textFault, Cond.instanceMethod yX3_textFault, Cond.selects RX3 yX3_textFault yX3_textFault, Cond.initialized RX3, Cond.code yX3_textFault cX3_textFault 6 (some .int), Cond.constant RX3 62 (65535), Cond.fieldLink RX3 7 "ExhibitTextsModel" "s" "[I", Cond.methodLink RX3 47 yX3_isExhibit, Cond.static yX3_isExhibit, Cond.code yX3_isExhibit cX3_isExhibit 1 (some .boolean), Cond.methodLink RX3 43 yX3_in, Cond.static yX3_in, Cond.code yX3_in cX3_in 3 (some .boolean), Cond.methodLink RX3 35 yX3_manyAt, Cond.static yX3_manyAt, Cond.code yX3_manyAt cX3_manyAt 1 (some .int), Cond.methodLink RX3 71 yX3_know, Cond.instanceMethod yX3_know, Cond.selects RX3 yX3_know yX3_know, Cond.code yX3_know cX3_know 2 none, Cond.fieldLink RX3 55 "ExhibitTextsModel" "known" "I", Cond.fieldLink RX3 16 "ExhibitTextsModel" "before" "[I", Cond.methodLink RX3 74 yX3_addsText, Cond.instanceMethod yX3_addsText]
def wsX3_addText_r2 : List Cond := [Cond.selects RX3 yX3_addsText yX3_addsText, Cond.code yX3_addsText cX3_addsText 8 (some .int), Cond.methodLink RX3 39 yX3_of, Cond.static yX3_of, Cond.code yX3_of cX3_of 3 (some .int)]
def wsX3_addText : List Cond := .code yX3_addText cX3_addText 7 (some .int) :: ((wsX3_addText_r1 ++ wsX3_addText_r2) ++ wsX30)
def wsX3_removeText : List Cond := .code yX3_removeText cX3_removeText 4 (some .int) :: ([.fieldLink RX3 7 "ExhibitTextsModel" "s" "[I", .methodLink RX3 51 yX3_isText, .instanceMethod yX3_isText, .selects RX3 yX3_isText yX3_isText, .initialized RX3, .code yX3_isText cX3_isText 3 (some .boolean), .methodLink RX3 47 yX3_isExhibit, .static yX3_isExhibit, .code yX3_isExhibit cX3_isExhibit 1 (some .boolean), .methodLink RX3 43 yX3_in, .static yX3_in, .code yX3_in cX3_in 3 (some .boolean), .methodLink RX3 35 yX3_manyAt, .static yX3_manyAt, .code yX3_manyAt cX3_manyAt 1 (some .int), .methodLink RX3 71 yX3_know, .instanceMethod yX3_know, .selects RX3 yX3_know yX3_know, .code yX3_know cX3_know 2 none, .fieldLink RX3 55 "ExhibitTextsModel" "known" "I", .fieldLink RX3 16 "ExhibitTextsModel" "before" "[I", .methodLink RX3 39 yX3_of, .static yX3_of, .code yX3_of cX3_of 3 (some .int)] ++ wsX30)
def wsX3_setFacts_r1 : List Cond := [Cond.constant RX3 62 (65535), Cond.fieldLink RX3 7 "ExhibitTextsModel" "s" "[I", Cond.methodLink RX3 51 yX3_isText, Cond.instanceMethod yX3_isText, Cond.selects RX3 yX3_isText yX3_isText, Cond.initialized RX3, Cond.code yX3_isText cX3_isText 3 (some .boolean), Cond.methodLink RX3 47 yX3_isExhibit, Cond.static yX3_isExhibit, Cond.code yX3_isExhibit cX3_isExhibit 1 (some .boolean), Cond.methodLink RX3 43 yX3_in, Cond.static yX3_in, Cond.code yX3_in cX3_in 3 (some .boolean), Cond.methodLink RX3 35 yX3_manyAt, Cond.static yX3_manyAt, Cond.code yX3_manyAt cX3_manyAt 1 (some .int), Cond.methodLink RX3 39 yX3_of, Cond.static yX3_of, Cond.code yX3_of cX3_of 3 (some .int), Cond.methodLink RX3 63 yX3_ofCaption, Cond.static yX3_ofCaption, Cond.code yX3_ofCaption cX3_ofCaption 4 (some .int), Cond.methodLink RX3 71 yX3_know, Cond.instanceMethod yX3_know]
def wsX3_setFacts_r2 : List Cond := [Cond.selects RX3 yX3_know yX3_know, Cond.code yX3_know cX3_know 2 none, Cond.fieldLink RX3 55 "ExhibitTextsModel" "known" "I", Cond.fieldLink RX3 16 "ExhibitTextsModel" "before" "[I"]
def wsX3_setFacts : List Cond := .code yX3_setFacts cX3_setFacts 5 (some .int) :: ((wsX3_setFacts_r1 ++ wsX3_setFacts_r2) ++ wsX30)
def wsX3_addCaption_r1 : List Cond := [Cond.methodLink RX3 77 yX3_captionFault, Cond.instanceMethod yX3_captionFault, Cond.selects RX3 yX3_captionFault yX3_captionFault, Cond.initialized RX3, Cond.code yX3_captionFault cX3_captionFault 5 (some .int), Cond.constant RX3 62 (65535), Cond.fieldLink RX3 7 "ExhibitTextsModel" "s" "[I", Cond.methodLink RX3 51 yX3_isText, Cond.instanceMethod yX3_isText, Cond.selects RX3 yX3_isText yX3_isText, Cond.code yX3_isText cX3_isText 3 (some .boolean), Cond.methodLink RX3 47 yX3_isExhibit, Cond.static yX3_isExhibit, Cond.code yX3_isExhibit cX3_isExhibit 1 (some .boolean), Cond.methodLink RX3 43 yX3_in, Cond.static yX3_in, Cond.code yX3_in cX3_in 3 (some .boolean), Cond.methodLink RX3 35 yX3_manyAt, Cond.static yX3_manyAt, Cond.code yX3_manyAt cX3_manyAt 1 (some .int), Cond.methodLink RX3 39 yX3_of, Cond.static yX3_of, Cond.code yX3_of cX3_of 3 (some .int), Cond.methodLink RX3 71 yX3_know]
def wsX3_addCaption_r2 : List Cond := [Cond.instanceMethod yX3_know, Cond.selects RX3 yX3_know yX3_know, Cond.code yX3_know cX3_know 2 none, Cond.fieldLink RX3 55 "ExhibitTextsModel" "known" "I", Cond.fieldLink RX3 16 "ExhibitTextsModel" "before" "[I", Cond.methodLink RX3 80 yX3_addsCaption, Cond.instanceMethod yX3_addsCaption, Cond.selects RX3 yX3_addsCaption yX3_addsCaption, Cond.code yX3_addsCaption cX3_addsCaption 6 (some .int), Cond.methodLink RX3 63 yX3_ofCaption, Cond.static yX3_ofCaption, Cond.code yX3_ofCaption cX3_ofCaption 4 (some .int)]
def wsX3_addCaption : List Cond := .code yX3_addCaption cX3_addCaption 6 (some .int) :: ((wsX3_addCaption_r1 ++ wsX3_addCaption_r2) ++ wsX30)
def wsX3_sign : List Cond := .code yX3_sign cX3_sign 4 (some .int) :: ([.fieldLink RX3 83 "ExhibitTextsModel" "reading" "I", .fieldLink RX3 86 "ExhibitTextsModel" "typed" "I", .fieldLink RX3 22 "ExhibitTextsModel" "pad" "[I", .fieldLink RX3 89 "ExhibitTextsModel" "isWrong" "Z", .methodLink RX3 43 yX3_in, .static yX3_in, .initialized RX3, .code yX3_in cX3_in 3 (some .boolean)] ++ wsX30)
def wsX3_isNext : List Cond := .code yX3_isNext cX3_isNext 3 (some .boolean) :: ([.fieldLink RX3 89 "ExhibitTextsModel" "isWrong" "Z", .fieldLink RX3 83 "ExhibitTextsModel" "reading" "I", .fieldLink RX3 86 "ExhibitTextsModel" "typed" "I", .fieldLink RX3 22 "ExhibitTextsModel" "pad" "[I", .methodLink RX3 43 yX3_in, .static yX3_in, .initialized RX3, .code yX3_in cX3_in 3 (some .boolean)] ++ wsX30)
def wsX3_number : List Cond := .code yX3_number cX3_number 4 (some .int) :: ([.fieldLink RX3 22 "ExhibitTextsModel" "pad" "[I", .fieldLink RX3 83 "ExhibitTextsModel" "reading" "I", .methodLink RX3 93 yX3_sign, .instanceMethod yX3_sign, .selects RX3 yX3_sign yX3_sign, .initialized RX3, .code yX3_sign cX3_sign 4 (some .int), .fieldLink RX3 86 "ExhibitTextsModel" "typed" "I", .fieldLink RX3 89 "ExhibitTextsModel" "isWrong" "Z", .methodLink RX3 43 yX3_in, .static yX3_in, .code yX3_in cX3_in 3 (some .boolean), .methodLink RX3 96 yX3_isNext, .instanceMethod yX3_isNext, .selects RX3 yX3_isNext yX3_isNext, .code yX3_isNext cX3_isNext 3 (some .boolean)] ++ wsX30)
def wsX3_letters : List Cond := .code yX3_letters cX3_letters 4 (some .int) :: ([.methodLink RX3 96 yX3_isNext, .instanceMethod yX3_isNext, .selects RX3 yX3_isNext yX3_isNext, .initialized RX3, .code yX3_isNext cX3_isNext 3 (some .boolean), .fieldLink RX3 89 "ExhibitTextsModel" "isWrong" "Z", .fieldLink RX3 83 "ExhibitTextsModel" "reading" "I", .fieldLink RX3 86 "ExhibitTextsModel" "typed" "I", .fieldLink RX3 22 "ExhibitTextsModel" "pad" "[I", .methodLink RX3 43 yX3_in, .static yX3_in, .code yX3_in cX3_in 3 (some .boolean), .methodLink RX3 93 yX3_sign, .instanceMethod yX3_sign, .selects RX3 yX3_sign yX3_sign, .code yX3_sign cX3_sign 4 (some .int)] ++ wsX30)
def wsX3_entry_r1 : List Cond := [Cond.fieldLink RX3 32 "ExhibitTextsModel" "told" "[I", Cond.methodLink RX3 93 yX3_sign, Cond.instanceMethod yX3_sign, Cond.selects RX3 yX3_sign yX3_sign, Cond.initialized RX3, Cond.code yX3_sign cX3_sign 4 (some .int), Cond.fieldLink RX3 83 "ExhibitTextsModel" "reading" "I", Cond.fieldLink RX3 86 "ExhibitTextsModel" "typed" "I", Cond.fieldLink RX3 22 "ExhibitTextsModel" "pad" "[I", Cond.fieldLink RX3 89 "ExhibitTextsModel" "isWrong" "Z", Cond.methodLink RX3 43 yX3_in, Cond.static yX3_in, Cond.code yX3_in cX3_in 3 (some .boolean), Cond.methodLink RX3 96 yX3_isNext, Cond.instanceMethod yX3_isNext, Cond.selects RX3 yX3_isNext yX3_isNext, Cond.code yX3_isNext cX3_isNext 3 (some .boolean), Cond.methodLink RX3 99 yX3_number, Cond.instanceMethod yX3_number, Cond.selects RX3 yX3_number yX3_number, Cond.code yX3_number cX3_number 4 (some .int), Cond.methodLink RX3 102 yX3_letters, Cond.instanceMethod yX3_letters, Cond.selects RX3 yX3_letters yX3_letters]
def wsX3_entry_r2 : List Cond := [Cond.code yX3_letters cX3_letters 4 (some .int)]
def wsX3_entry : List Cond := .code yX3_entry cX3_entry 3 (some .boolean) :: ((wsX3_entry_r1 ++ wsX3_entry_r2) ++ wsX30)
def wsX3_go_r1 : List Cond := [Cond.fieldLink RX3 83 "ExhibitTextsModel" "reading" "I", Cond.fieldLink RX3 89 "ExhibitTextsModel" "isWrong" "Z", Cond.fieldLink RX3 106 "ExhibitTextsModel" "fault" "I", Cond.fieldLink RX3 32 "ExhibitTextsModel" "told" "[I", Cond.fieldLink RX3 86 "ExhibitTextsModel" "typed" "I", Cond.methodLink RX3 109 yX3_entry, Cond.instanceMethod yX3_entry, Cond.selects RX3 yX3_entry yX3_entry, Cond.initialized RX3, Cond.code yX3_entry cX3_entry 3 (some .boolean), Cond.methodLink RX3 93 yX3_sign, Cond.instanceMethod yX3_sign, Cond.selects RX3 yX3_sign yX3_sign, Cond.code yX3_sign cX3_sign 4 (some .int), Cond.fieldLink RX3 22 "ExhibitTextsModel" "pad" "[I", Cond.methodLink RX3 43 yX3_in, Cond.static yX3_in, Cond.code yX3_in cX3_in 3 (some .boolean), Cond.methodLink RX3 96 yX3_isNext, Cond.instanceMethod yX3_isNext, Cond.selects RX3 yX3_isNext yX3_isNext, Cond.code yX3_isNext cX3_isNext 3 (some .boolean), Cond.methodLink RX3 99 yX3_number, Cond.instanceMethod yX3_number]
def wsX3_go_r2 : List Cond := [Cond.selects RX3 yX3_number yX3_number, Cond.code yX3_number cX3_number 4 (some .int), Cond.methodLink RX3 102 yX3_letters, Cond.instanceMethod yX3_letters, Cond.selects RX3 yX3_letters yX3_letters, Cond.code yX3_letters cX3_letters 4 (some .int), Cond.methodLink RX3 77 yX3_captionFault, Cond.instanceMethod yX3_captionFault, Cond.selects RX3 yX3_captionFault yX3_captionFault, Cond.code yX3_captionFault cX3_captionFault 5 (some .int), Cond.constant RX3 62 (65535), Cond.fieldLink RX3 7 "ExhibitTextsModel" "s" "[I", Cond.methodLink RX3 51 yX3_isText, Cond.instanceMethod yX3_isText, Cond.selects RX3 yX3_isText yX3_isText, Cond.code yX3_isText cX3_isText 3 (some .boolean), Cond.methodLink RX3 47 yX3_isExhibit, Cond.static yX3_isExhibit, Cond.code yX3_isExhibit cX3_isExhibit 1 (some .boolean), Cond.methodLink RX3 35 yX3_manyAt, Cond.static yX3_manyAt, Cond.code yX3_manyAt cX3_manyAt 1 (some .int), Cond.methodLink RX3 39 yX3_of, Cond.static yX3_of]
def wsX3_go_r3 : List Cond := [Cond.code yX3_of cX3_of 3 (some .int), Cond.methodLink RX3 67 yX3_textFault, Cond.instanceMethod yX3_textFault, Cond.selects RX3 yX3_textFault yX3_textFault, Cond.code yX3_textFault cX3_textFault 6 (some .int), Cond.methodLink RX3 80 yX3_addsCaption, Cond.instanceMethod yX3_addsCaption, Cond.selects RX3 yX3_addsCaption yX3_addsCaption, Cond.code yX3_addsCaption cX3_addsCaption 6 (some .int), Cond.methodLink RX3 63 yX3_ofCaption, Cond.static yX3_ofCaption, Cond.code yX3_ofCaption cX3_ofCaption 4 (some .int), Cond.methodLink RX3 74 yX3_addsText, Cond.instanceMethod yX3_addsText, Cond.selects RX3 yX3_addsText yX3_addsText, Cond.code yX3_addsText cX3_addsText 8 (some .int)]
def wsX3_go : List Cond := .code yX3_go cX3_go 6 (some .int) :: ((wsX3_go_r1 ++ (wsX3_go_r2 ++ wsX3_go_r3)) ++ wsX30)
def wsX3_putBack : List Cond := .code yX3_putBack cX3_putBack 2 none :: ([.fieldLink RX3 7 "ExhibitTextsModel" "s" "[I", .fieldLink RX3 13 "ExhibitTextsModel" "aside" "[I"] ++ wsX30)
def wsX3_readEntries_r1 : List Cond := [Cond.fieldLink RX3 89 "ExhibitTextsModel" "isWrong" "Z", Cond.fieldLink RX3 83 "ExhibitTextsModel" "reading" "I", Cond.fieldLink RX3 13 "ExhibitTextsModel" "aside" "[I", Cond.fieldLink RX3 7 "ExhibitTextsModel" "s" "[I", Cond.fieldLink RX3 106 "ExhibitTextsModel" "fault" "I", Cond.fieldLink RX3 25 "ExhibitTextsModel" "refusedAt" "I", Cond.fieldLink RX3 29 "ExhibitTextsModel" "refusedBy" "I", Cond.methodLink RX3 113 yX3_go, Cond.instanceMethod yX3_go, Cond.selects RX3 yX3_go yX3_go, Cond.initialized RX3, Cond.code yX3_go cX3_go 6 (some .int), Cond.fieldLink RX3 32 "ExhibitTextsModel" "told" "[I", Cond.fieldLink RX3 86 "ExhibitTextsModel" "typed" "I", Cond.methodLink RX3 109 yX3_entry, Cond.instanceMethod yX3_entry, Cond.selects RX3 yX3_entry yX3_entry, Cond.code yX3_entry cX3_entry 3 (some .boolean), Cond.methodLink RX3 93 yX3_sign, Cond.instanceMethod yX3_sign, Cond.selects RX3 yX3_sign yX3_sign, Cond.code yX3_sign cX3_sign 4 (some .int), Cond.fieldLink RX3 22 "ExhibitTextsModel" "pad" "[I", Cond.methodLink RX3 43 yX3_in]
def wsX3_readEntries_r2 : List Cond := [Cond.static yX3_in, Cond.code yX3_in cX3_in 3 (some .boolean), Cond.methodLink RX3 96 yX3_isNext, Cond.instanceMethod yX3_isNext, Cond.selects RX3 yX3_isNext yX3_isNext, Cond.code yX3_isNext cX3_isNext 3 (some .boolean), Cond.methodLink RX3 99 yX3_number, Cond.instanceMethod yX3_number, Cond.selects RX3 yX3_number yX3_number, Cond.code yX3_number cX3_number 4 (some .int), Cond.methodLink RX3 102 yX3_letters, Cond.instanceMethod yX3_letters, Cond.selects RX3 yX3_letters yX3_letters, Cond.code yX3_letters cX3_letters 4 (some .int), Cond.methodLink RX3 77 yX3_captionFault, Cond.instanceMethod yX3_captionFault, Cond.selects RX3 yX3_captionFault yX3_captionFault, Cond.code yX3_captionFault cX3_captionFault 5 (some .int), Cond.constant RX3 62 (65535), Cond.methodLink RX3 51 yX3_isText, Cond.instanceMethod yX3_isText, Cond.selects RX3 yX3_isText yX3_isText, Cond.code yX3_isText cX3_isText 3 (some .boolean), Cond.methodLink RX3 47 yX3_isExhibit]
def wsX3_readEntries_r3 : List Cond := [Cond.static yX3_isExhibit, Cond.code yX3_isExhibit cX3_isExhibit 1 (some .boolean), Cond.methodLink RX3 35 yX3_manyAt, Cond.static yX3_manyAt, Cond.code yX3_manyAt cX3_manyAt 1 (some .int), Cond.methodLink RX3 39 yX3_of, Cond.static yX3_of, Cond.code yX3_of cX3_of 3 (some .int), Cond.methodLink RX3 67 yX3_textFault, Cond.instanceMethod yX3_textFault, Cond.selects RX3 yX3_textFault yX3_textFault, Cond.code yX3_textFault cX3_textFault 6 (some .int), Cond.methodLink RX3 80 yX3_addsCaption, Cond.instanceMethod yX3_addsCaption, Cond.selects RX3 yX3_addsCaption yX3_addsCaption, Cond.code yX3_addsCaption cX3_addsCaption 6 (some .int), Cond.methodLink RX3 63 yX3_ofCaption, Cond.static yX3_ofCaption, Cond.code yX3_ofCaption cX3_ofCaption 4 (some .int), Cond.methodLink RX3 74 yX3_addsText, Cond.instanceMethod yX3_addsText, Cond.selects RX3 yX3_addsText yX3_addsText, Cond.code yX3_addsText cX3_addsText 8 (some .int), Cond.methodLink RX3 117 yX3_putBack]
def wsX3_readEntries_r4 : List Cond := [Cond.instanceMethod yX3_putBack, Cond.selects RX3 yX3_putBack yX3_putBack, Cond.code yX3_putBack cX3_putBack 2 none, Cond.methodLink RX3 71 yX3_know, Cond.instanceMethod yX3_know, Cond.selects RX3 yX3_know yX3_know, Cond.code yX3_know cX3_know 2 none, Cond.fieldLink RX3 55 "ExhibitTextsModel" "known" "I", Cond.fieldLink RX3 16 "ExhibitTextsModel" "before" "[I"]
def wsX3_readEntries : List Cond := .code yX3_readEntries cX3_readEntries 3 (some .int) :: ((wsX3_readEntries_r1 ++ (wsX3_readEntries_r2 ++ (wsX3_readEntries_r3 ++ wsX3_readEntries_r4))) ++ wsX30)
def wsX3_refusal : List Cond := .code yX3_refusal cX3_refusal 2 (some .int) :: ([.fieldLink RX3 25 "ExhibitTextsModel" "refusedAt" "I", .fieldLink RX3 29 "ExhibitTextsModel" "refusedBy" "I", .methodLink RX3 43 yX3_in, .static yX3_in, .initialized RX3, .code yX3_in cX3_in 3 (some .boolean)] ++ wsX30)
def wsX3_type : List Cond := .code yX3_type cX3_type 2 (some .int) :: ([.fieldLink RX3 86 "ExhibitTextsModel" "typed" "I", .fieldLink RX3 22 "ExhibitTextsModel" "pad" "[I"] ++ wsX30)
def wsX3_clearPad : List Cond := .code yX3_clearPad cX3_clearPad 2 (some .int) :: ([.fieldLink RX3 86 "ExhibitTextsModel" "typed" "I"] ++ wsX30)
def wsX3_seconds : List Cond := .code yX3_seconds cX3_seconds 2 (some .int) :: ([])
def wsX3_shownNow : List Cond := .code yX3_shownNow cX3_shownNow 1 (some .int) :: ([.fieldLink RX3 7 "ExhibitTextsModel" "s" "[I", .methodLink RX3 120 yX3_shownTo, .instanceMethod yX3_shownTo, .selects RX3 yX3_shownTo yX3_shownTo, .initialized RX3, .code yX3_shownTo cX3_shownTo 9 (some .int), .methodLink RX3 35 yX3_manyAt, .static yX3_manyAt, .code yX3_manyAt cX3_manyAt 1 (some .int), .methodLink RX3 58 yX3_readingAge, .instanceMethod yX3_readingAge, .selects RX3 yX3_readingAge yX3_readingAge, .code yX3_readingAge cX3_readingAge 4 (some .int), .methodLink RX3 39 yX3_of, .static yX3_of, .code yX3_of cX3_of 3 (some .int)] ++ wsX30)
def wsX3_enter_r1 : List Cond := [Cond.fieldLink RX3 7 "ExhibitTextsModel" "s" "[I", Cond.methodLink RX3 43 yX3_in, Cond.static yX3_in, Cond.initialized RX3, Cond.code yX3_in cX3_in 3 (some .boolean), Cond.methodLink RX3 71 yX3_know, Cond.instanceMethod yX3_know, Cond.selects RX3 yX3_know yX3_know, Cond.code yX3_know cX3_know 2 none, Cond.fieldLink RX3 55 "ExhibitTextsModel" "known" "I", Cond.fieldLink RX3 16 "ExhibitTextsModel" "before" "[I", Cond.methodLink RX3 123 yX3_shownNow, Cond.instanceMethod yX3_shownNow, Cond.selects RX3 yX3_shownNow yX3_shownNow, Cond.code yX3_shownNow cX3_shownNow 1 (some .int), Cond.methodLink RX3 120 yX3_shownTo, Cond.instanceMethod yX3_shownTo, Cond.selects RX3 yX3_shownTo yX3_shownTo, Cond.code yX3_shownTo cX3_shownTo 9 (some .int), Cond.methodLink RX3 35 yX3_manyAt, Cond.static yX3_manyAt, Cond.code yX3_manyAt cX3_manyAt 1 (some .int), Cond.methodLink RX3 58 yX3_readingAge, Cond.instanceMethod yX3_readingAge]
def wsX3_enter_r2 : List Cond := [Cond.selects RX3 yX3_readingAge yX3_readingAge, Cond.code yX3_readingAge cX3_readingAge 4 (some .int), Cond.methodLink RX3 39 yX3_of, Cond.static yX3_of, Cond.code yX3_of cX3_of 3 (some .int)]
def wsX3_enter : List Cond := .code yX3_enter cX3_enter 4 (some .int) :: ((wsX3_enter_r1 ++ wsX3_enter_r2) ++ wsX30)
def wsX3_canRead : List Cond := .code yX3_canRead cX3_canRead 3 (some .boolean) :: ([.fieldLink RX3 7 "ExhibitTextsModel" "s" "[I", .methodLink RX3 39 yX3_of, .static yX3_of, .initialized RX3, .code yX3_of cX3_of 3 (some .int), .methodLink RX3 35 yX3_manyAt, .static yX3_manyAt, .code yX3_manyAt cX3_manyAt 1 (some .int), .methodLink RX3 126 yX3_seconds, .static yX3_seconds, .code yX3_seconds cX3_seconds 2 (some .int)] ++ wsX30)
def wsX3_reads : List Cond := .code yX3_reads cX3_reads 2 none :: ([.fieldLink RX3 7 "ExhibitTextsModel" "s" "[I", .methodLink RX3 39 yX3_of, .static yX3_of, .initialized RX3, .code yX3_of cX3_of 3 (some .int), .methodLink RX3 35 yX3_manyAt, .static yX3_manyAt, .code yX3_manyAt cX3_manyAt 1 (some .int), .methodLink RX3 126 yX3_seconds, .static yX3_seconds, .code yX3_seconds cX3_seconds 2 (some .int)] ++ wsX30)
def wsX3_touch_r1 : List Cond := [Cond.fieldLink RX3 7 "ExhibitTextsModel" "s" "[I", Cond.methodLink RX3 123 yX3_shownNow, Cond.instanceMethod yX3_shownNow, Cond.selects RX3 yX3_shownNow yX3_shownNow, Cond.initialized RX3, Cond.code yX3_shownNow cX3_shownNow 1 (some .int), Cond.methodLink RX3 120 yX3_shownTo, Cond.instanceMethod yX3_shownTo, Cond.selects RX3 yX3_shownTo yX3_shownTo, Cond.code yX3_shownTo cX3_shownTo 9 (some .int), Cond.methodLink RX3 35 yX3_manyAt, Cond.static yX3_manyAt, Cond.code yX3_manyAt cX3_manyAt 1 (some .int), Cond.methodLink RX3 58 yX3_readingAge, Cond.instanceMethod yX3_readingAge, Cond.selects RX3 yX3_readingAge yX3_readingAge, Cond.code yX3_readingAge cX3_readingAge 4 (some .int), Cond.methodLink RX3 39 yX3_of, Cond.static yX3_of, Cond.code yX3_of cX3_of 3 (some .int), Cond.methodLink RX3 129 yX3_isCaption, Cond.instanceMethod yX3_isCaption, Cond.selects RX3 yX3_isCaption yX3_isCaption, Cond.code yX3_isCaption cX3_isCaption 4 (some .boolean)]
def wsX3_touch_r2 : List Cond := [Cond.methodLink RX3 51 yX3_isText, Cond.instanceMethod yX3_isText, Cond.selects RX3 yX3_isText yX3_isText, Cond.code yX3_isText cX3_isText 3 (some .boolean), Cond.methodLink RX3 47 yX3_isExhibit, Cond.static yX3_isExhibit, Cond.code yX3_isExhibit cX3_isExhibit 1 (some .boolean), Cond.methodLink RX3 43 yX3_in, Cond.static yX3_in, Cond.code yX3_in cX3_in 3 (some .boolean), Cond.methodLink RX3 63 yX3_ofCaption, Cond.static yX3_ofCaption, Cond.code yX3_ofCaption cX3_ofCaption 4 (some .int), Cond.methodLink RX3 126 yX3_seconds, Cond.static yX3_seconds, Cond.code yX3_seconds cX3_seconds 2 (some .int), Cond.methodLink RX3 71 yX3_know, Cond.instanceMethod yX3_know, Cond.selects RX3 yX3_know yX3_know, Cond.code yX3_know cX3_know 2 none, Cond.fieldLink RX3 55 "ExhibitTextsModel" "known" "I", Cond.fieldLink RX3 16 "ExhibitTextsModel" "before" "[I", Cond.methodLink RX3 132 yX3_bitsOf, Cond.static yX3_bitsOf]
def wsX3_touch_r3 : List Cond := [Cond.code yX3_bitsOf cX3_bitsOf 3 (some .int), Cond.methodLink RX3 135 yX3_canRead, Cond.instanceMethod yX3_canRead, Cond.selects RX3 yX3_canRead yX3_canRead, Cond.code yX3_canRead cX3_canRead 3 (some .boolean), Cond.methodLink RX3 138 yX3_reads, Cond.instanceMethod yX3_reads, Cond.selects RX3 yX3_reads yX3_reads, Cond.code yX3_reads cX3_reads 2 none]
def wsX3_touch : List Cond := .code yX3_touch cX3_touch 5 (some .int) :: ((wsX3_touch_r1 ++ (wsX3_touch_r2 ++ wsX3_touch_r3)) ++ wsX30)
def wsX3_read_r1 : List Cond := [Cond.fieldLink RX3 7 "ExhibitTextsModel" "s" "[I", Cond.methodLink RX3 123 yX3_shownNow, Cond.instanceMethod yX3_shownNow, Cond.selects RX3 yX3_shownNow yX3_shownNow, Cond.initialized RX3, Cond.code yX3_shownNow cX3_shownNow 1 (some .int), Cond.methodLink RX3 120 yX3_shownTo, Cond.instanceMethod yX3_shownTo, Cond.selects RX3 yX3_shownTo yX3_shownTo, Cond.code yX3_shownTo cX3_shownTo 9 (some .int), Cond.methodLink RX3 35 yX3_manyAt, Cond.static yX3_manyAt, Cond.code yX3_manyAt cX3_manyAt 1 (some .int), Cond.methodLink RX3 58 yX3_readingAge, Cond.instanceMethod yX3_readingAge, Cond.selects RX3 yX3_readingAge yX3_readingAge, Cond.code yX3_readingAge cX3_readingAge 4 (some .int), Cond.methodLink RX3 39 yX3_of, Cond.static yX3_of, Cond.code yX3_of cX3_of 3 (some .int), Cond.methodLink RX3 135 yX3_canRead, Cond.instanceMethod yX3_canRead, Cond.selects RX3 yX3_canRead yX3_canRead, Cond.code yX3_canRead cX3_canRead 3 (some .boolean)]
def wsX3_read_r2 : List Cond := [Cond.methodLink RX3 126 yX3_seconds, Cond.static yX3_seconds, Cond.code yX3_seconds cX3_seconds 2 (some .int), Cond.methodLink RX3 71 yX3_know, Cond.instanceMethod yX3_know, Cond.selects RX3 yX3_know yX3_know, Cond.code yX3_know cX3_know 2 none, Cond.fieldLink RX3 55 "ExhibitTextsModel" "known" "I", Cond.fieldLink RX3 16 "ExhibitTextsModel" "before" "[I", Cond.methodLink RX3 132 yX3_bitsOf, Cond.static yX3_bitsOf, Cond.code yX3_bitsOf cX3_bitsOf 3 (some .int), Cond.methodLink RX3 138 yX3_reads, Cond.instanceMethod yX3_reads, Cond.selects RX3 yX3_reads yX3_reads, Cond.code yX3_reads cX3_reads 2 none]
def wsX3_read : List Cond := .code yX3_read cX3_read 3 (some .int) :: ((wsX3_read_r1 ++ wsX3_read_r2) ++ wsX30)
def wsX3_turn : List Cond := .code yX3_turn cX3_turn 2 (some .int) :: ([.fieldLink RX3 7 "ExhibitTextsModel" "s" "[I", .methodLink RX3 71 yX3_know, .instanceMethod yX3_know, .selects RX3 yX3_know yX3_know, .initialized RX3, .code yX3_know cX3_know 2 none, .fieldLink RX3 55 "ExhibitTextsModel" "known" "I", .fieldLink RX3 16 "ExhibitTextsModel" "before" "[I"] ++ wsX30)
def wsX3_setTurning : List Cond := .code yX3_setTurning cX3_setTurning 3 (some .int) :: ([.fieldLink RX3 7 "ExhibitTextsModel" "s" "[I", .methodLink RX3 43 yX3_in, .static yX3_in, .initialized RX3, .code yX3_in cX3_in 3 (some .boolean), .methodLink RX3 71 yX3_know, .instanceMethod yX3_know, .selects RX3 yX3_know yX3_know, .code yX3_know cX3_know 2 none, .fieldLink RX3 55 "ExhibitTextsModel" "known" "I", .fieldLink RX3 16 "ExhibitTextsModel" "before" "[I"] ++ wsX30)
def wsX3_texts : List Cond := .code yX3_texts cX3_texts 3 (some .int) :: ([.fieldLink RX3 7 "ExhibitTextsModel" "s" "[I", .methodLink RX3 35 yX3_manyAt, .static yX3_manyAt, .initialized RX3, .code yX3_manyAt cX3_manyAt 1 (some .int)] ++ wsX30)
def wsX3_undo : List Cond := .code yX3_undo cX3_undo 2 (some .int) :: ([.fieldLink RX3 55 "ExhibitTextsModel" "known" "I", .fieldLink RX3 7 "ExhibitTextsModel" "s" "[I", .fieldLink RX3 16 "ExhibitTextsModel" "before" "[I"] ++ wsX30)
def wsX3_keep : List Cond := .code yX3_keep cX3_keep 2 (some .int) :: ([.fieldLink RX3 19 "ExhibitTextsModel" "kept" "[I", .fieldLink RX3 7 "ExhibitTextsModel" "s" "[I", .fieldLink RX3 142 "ExhibitTextsModel" "isKept" "Z", .methodLink RX3 145 yX3_texts, .instanceMethod yX3_texts, .selects RX3 yX3_texts yX3_texts, .initialized RX3, .code yX3_texts cX3_texts 3 (some .int), .methodLink RX3 35 yX3_manyAt, .static yX3_manyAt, .code yX3_manyAt cX3_manyAt 1 (some .int)] ++ wsX30)
def wsX3_restore : List Cond := .code yX3_restore cX3_restore 2 (some .int) :: ([.fieldLink RX3 142 "ExhibitTextsModel" "isKept" "Z", .fieldLink RX3 7 "ExhibitTextsModel" "s" "[I", .fieldLink RX3 19 "ExhibitTextsModel" "kept" "[I", .methodLink RX3 71 yX3_know, .instanceMethod yX3_know, .selects RX3 yX3_know yX3_know, .initialized RX3, .code yX3_know cX3_know 2 none, .fieldLink RX3 55 "ExhibitTextsModel" "known" "I", .fieldLink RX3 16 "ExhibitTextsModel" "before" "[I", .methodLink RX3 145 yX3_texts, .instanceMethod yX3_texts, .selects RX3 yX3_texts yX3_texts, .code yX3_texts cX3_texts 3 (some .int), .methodLink RX3 35 yX3_manyAt, .static yX3_manyAt, .code yX3_manyAt cX3_manyAt 1 (some .int)] ++ wsX30)
def wsX3_text : List Cond := .code yX3_text cX3_text 4 (some .int) :: ([.fieldLink RX3 7 "ExhibitTextsModel" "s" "[I", .methodLink RX3 51 yX3_isText, .instanceMethod yX3_isText, .selects RX3 yX3_isText yX3_isText, .initialized RX3, .code yX3_isText cX3_isText 3 (some .boolean), .methodLink RX3 47 yX3_isExhibit, .static yX3_isExhibit, .code yX3_isExhibit cX3_isExhibit 1 (some .boolean), .methodLink RX3 43 yX3_in, .static yX3_in, .code yX3_in cX3_in 3 (some .boolean), .methodLink RX3 35 yX3_manyAt, .static yX3_manyAt, .code yX3_manyAt cX3_manyAt 1 (some .int), .methodLink RX3 39 yX3_of, .static yX3_of, .code yX3_of cX3_of 3 (some .int), .methodLink RX3 58 yX3_readingAge, .instanceMethod yX3_readingAge, .selects RX3 yX3_readingAge yX3_readingAge, .code yX3_readingAge cX3_readingAge 4 (some .int)] ++ wsX30)
def wsX3_caption_r1 : List Cond := [Cond.fieldLink RX3 7 "ExhibitTextsModel" "s" "[I", Cond.methodLink RX3 129 yX3_isCaption, Cond.instanceMethod yX3_isCaption, Cond.selects RX3 yX3_isCaption yX3_isCaption, Cond.initialized RX3, Cond.code yX3_isCaption cX3_isCaption 4 (some .boolean), Cond.methodLink RX3 51 yX3_isText, Cond.instanceMethod yX3_isText, Cond.selects RX3 yX3_isText yX3_isText, Cond.code yX3_isText cX3_isText 3 (some .boolean), Cond.methodLink RX3 47 yX3_isExhibit, Cond.static yX3_isExhibit, Cond.code yX3_isExhibit cX3_isExhibit 1 (some .boolean), Cond.methodLink RX3 43 yX3_in, Cond.static yX3_in, Cond.code yX3_in cX3_in 3 (some .boolean), Cond.methodLink RX3 35 yX3_manyAt, Cond.static yX3_manyAt, Cond.code yX3_manyAt cX3_manyAt 1 (some .int), Cond.methodLink RX3 39 yX3_of, Cond.static yX3_of, Cond.code yX3_of cX3_of 3 (some .int), Cond.methodLink RX3 63 yX3_ofCaption, Cond.static yX3_ofCaption]
def wsX3_caption_r2 : List Cond := [Cond.code yX3_ofCaption cX3_ofCaption 4 (some .int)]
def wsX3_caption : List Cond := .code yX3_caption cX3_caption 5 (some .int) :: ((wsX3_caption_r1 ++ wsX3_caption_r2) ++ wsX30)
def wsX3_visitor_r1 : List Cond := [Cond.fieldLink RX3 7 "ExhibitTextsModel" "s" "[I", Cond.methodLink RX3 43 yX3_in, Cond.static yX3_in, Cond.initialized RX3, Cond.code yX3_in cX3_in 3 (some .boolean), Cond.methodLink RX3 132 yX3_bitsOf, Cond.static yX3_bitsOf, Cond.code yX3_bitsOf cX3_bitsOf 3 (some .int), Cond.methodLink RX3 123 yX3_shownNow, Cond.instanceMethod yX3_shownNow, Cond.selects RX3 yX3_shownNow yX3_shownNow, Cond.code yX3_shownNow cX3_shownNow 1 (some .int), Cond.methodLink RX3 120 yX3_shownTo, Cond.instanceMethod yX3_shownTo, Cond.selects RX3 yX3_shownTo yX3_shownTo, Cond.code yX3_shownTo cX3_shownTo 9 (some .int), Cond.methodLink RX3 35 yX3_manyAt, Cond.static yX3_manyAt, Cond.code yX3_manyAt cX3_manyAt 1 (some .int), Cond.methodLink RX3 58 yX3_readingAge, Cond.instanceMethod yX3_readingAge, Cond.selects RX3 yX3_readingAge yX3_readingAge, Cond.code yX3_readingAge cX3_readingAge 4 (some .int), Cond.methodLink RX3 39 yX3_of]
def wsX3_visitor_r2 : List Cond := [Cond.static yX3_of, Cond.code yX3_of cX3_of 3 (some .int)]
def wsX3_visitor : List Cond := .code yX3_visitor cX3_visitor 2 (some .int) :: ((wsX3_visitor_r1 ++ wsX3_visitor_r2) ++ wsX30)
def wsX3_shown : List Cond := .code yX3_shown cX3_shown 3 (some .int) :: ([.methodLink RX3 47 yX3_isExhibit, .static yX3_isExhibit, .initialized RX3, .code yX3_isExhibit cX3_isExhibit 1 (some .boolean), .methodLink RX3 43 yX3_in, .static yX3_in, .code yX3_in cX3_in 3 (some .boolean), .methodLink RX3 120 yX3_shownTo, .instanceMethod yX3_shownTo, .selects RX3 yX3_shownTo yX3_shownTo, .code yX3_shownTo cX3_shownTo 9 (some .int), .fieldLink RX3 7 "ExhibitTextsModel" "s" "[I", .methodLink RX3 35 yX3_manyAt, .static yX3_manyAt, .code yX3_manyAt cX3_manyAt 1 (some .int), .methodLink RX3 58 yX3_readingAge, .instanceMethod yX3_readingAge, .selects RX3 yX3_readingAge yX3_readingAge, .code yX3_readingAge cX3_readingAge 4 (some .int), .methodLink RX3 39 yX3_of, .static yX3_of, .code yX3_of cX3_of 3 (some .int)] ++ wsX30)
def wsX3_allFacts : List Cond := .code yX3_allFacts cX3_allFacts 4 (some .int) :: ([.fieldLink RX3 7 "ExhibitTextsModel" "s" "[I", .methodLink RX3 35 yX3_manyAt, .static yX3_manyAt, .initialized RX3, .code yX3_manyAt cX3_manyAt 1 (some .int), .methodLink RX3 39 yX3_of, .static yX3_of, .code yX3_of cX3_of 3 (some .int)] ++ wsX30)
def wsX3_unmet : List Cond := .code yX3_unmet cX3_unmet 5 (some .int) :: ([.fieldLink RX3 7 "ExhibitTextsModel" "s" "[I", .methodLink RX3 43 yX3_in, .static yX3_in, .initialized RX3, .code yX3_in cX3_in 3 (some .boolean), .methodLink RX3 120 yX3_shownTo, .instanceMethod yX3_shownTo, .selects RX3 yX3_shownTo yX3_shownTo, .code yX3_shownTo cX3_shownTo 9 (some .int), .methodLink RX3 35 yX3_manyAt, .static yX3_manyAt, .code yX3_manyAt cX3_manyAt 1 (some .int), .methodLink RX3 58 yX3_readingAge, .instanceMethod yX3_readingAge, .selects RX3 yX3_readingAge yX3_readingAge, .code yX3_readingAge cX3_readingAge 4 (some .int), .methodLink RX3 39 yX3_of, .static yX3_of, .code yX3_of cX3_of 3 (some .int), .methodLink RX3 148 yX3_allFacts, .instanceMethod yX3_allFacts, .selects RX3 yX3_allFacts yX3_allFacts, .code yX3_allFacts cX3_allFacts 4 (some .int)] ++ wsX30)
def wsX3_round : List Cond := .code yX3_round cX3_round 11 (some .int) :: ([.fieldLink RX3 7 "ExhibitTextsModel" "s" "[I", .methodLink RX3 43 yX3_in, .static yX3_in, .initialized RX3, .code yX3_in cX3_in 3 (some .boolean), .methodLink RX3 120 yX3_shownTo, .instanceMethod yX3_shownTo, .selects RX3 yX3_shownTo yX3_shownTo, .code yX3_shownTo cX3_shownTo 9 (some .int), .methodLink RX3 35 yX3_manyAt, .static yX3_manyAt, .code yX3_manyAt cX3_manyAt 1 (some .int), .methodLink RX3 58 yX3_readingAge, .instanceMethod yX3_readingAge, .selects RX3 yX3_readingAge yX3_readingAge, .code yX3_readingAge cX3_readingAge 4 (some .int), .methodLink RX3 39 yX3_of, .static yX3_of, .code yX3_of cX3_of 3 (some .int), .methodLink RX3 126 yX3_seconds, .static yX3_seconds, .code yX3_seconds cX3_seconds 2 (some .int)] ++ wsX30)
def wsX3_ages_r1 : List Cond := [Cond.methodLink RX3 51 yX3_isText, Cond.instanceMethod yX3_isText, Cond.selects RX3 yX3_isText yX3_isText, Cond.initialized RX3, Cond.code yX3_isText cX3_isText 3 (some .boolean), Cond.fieldLink RX3 7 "ExhibitTextsModel" "s" "[I", Cond.methodLink RX3 47 yX3_isExhibit, Cond.static yX3_isExhibit, Cond.code yX3_isExhibit cX3_isExhibit 1 (some .boolean), Cond.methodLink RX3 43 yX3_in, Cond.static yX3_in, Cond.code yX3_in cX3_in 3 (some .boolean), Cond.methodLink RX3 35 yX3_manyAt, Cond.static yX3_manyAt, Cond.code yX3_manyAt cX3_manyAt 1 (some .int), Cond.methodLink RX3 120 yX3_shownTo, Cond.instanceMethod yX3_shownTo, Cond.selects RX3 yX3_shownTo yX3_shownTo, Cond.code yX3_shownTo cX3_shownTo 9 (some .int), Cond.methodLink RX3 58 yX3_readingAge, Cond.instanceMethod yX3_readingAge, Cond.selects RX3 yX3_readingAge yX3_readingAge, Cond.code yX3_readingAge cX3_readingAge 4 (some .int), Cond.methodLink RX3 39 yX3_of]
def wsX3_ages_r2 : List Cond := [Cond.static yX3_of, Cond.code yX3_of cX3_of 3 (some .int)]
def wsX3_ages : List Cond := .code yX3_ages cX3_ages 8 (some .int) :: ((wsX3_ages_r1 ++ wsX3_ages_r2) ++ wsX30)
def wsX3_sum : List Cond := .code yX3_sum cX3_sum 5 (some .int) :: ([.fieldLink RX3 7 "ExhibitTextsModel" "s" "[I", .methodLink RX3 35 yX3_manyAt, .static yX3_manyAt, .initialized RX3, .code yX3_manyAt cX3_manyAt 1 (some .int), .methodLink RX3 39 yX3_of, .static yX3_of, .code yX3_of cX3_of 3 (some .int)] ++ wsX30)
def wsX3_count_r1 : List Cond := [Cond.fieldLink RX3 7 "ExhibitTextsModel" "s" "[I", Cond.fieldLink RX3 55 "ExhibitTextsModel" "known" "I", Cond.fieldLink RX3 86 "ExhibitTextsModel" "typed" "I", Cond.methodLink RX3 145 yX3_texts, Cond.instanceMethod yX3_texts, Cond.selects RX3 yX3_texts yX3_texts, Cond.initialized RX3, Cond.code yX3_texts cX3_texts 3 (some .int), Cond.methodLink RX3 35 yX3_manyAt, Cond.static yX3_manyAt, Cond.code yX3_manyAt cX3_manyAt 1 (some .int), Cond.methodLink RX3 151 yX3_sum, Cond.instanceMethod yX3_sum, Cond.selects RX3 yX3_sum yX3_sum, Cond.code yX3_sum cX3_sum 5 (some .int), Cond.methodLink RX3 39 yX3_of, Cond.static yX3_of, Cond.code yX3_of cX3_of 3 (some .int), Cond.methodLink RX3 148 yX3_allFacts, Cond.instanceMethod yX3_allFacts, Cond.selects RX3 yX3_allFacts yX3_allFacts, Cond.code yX3_allFacts cX3_allFacts 4 (some .int), Cond.methodLink RX3 132 yX3_bitsOf, Cond.static yX3_bitsOf]
def wsX3_count_r2 : List Cond := [Cond.code yX3_bitsOf cX3_bitsOf 3 (some .int)]
def wsX3_count : List Cond := .code yX3_count cX3_count 2 (some .int) :: ((wsX3_count_r1 ++ wsX3_count_r2) ++ wsX30)
def wsJ9_max_7cf53 : List Cond := .code yJ9_max_7cf53 cJ9_max_7cf53 2 (some .int) :: ([])
def wsJ9_min_7cf53 : List Cond := .code yJ9_min_7cf53 cJ9_min_7cf53 2 (some .int) :: ([])
theorem inJ6 : ∀ w ∈ wsJ60, w ∈ lw_tbl := by decide +kernel
theorem inJ9 : ∀ w ∈ wsJ90, w ∈ lw_tbl := by decide +kernel
theorem inJ10 : ∀ w ∈ wsJ100, w ∈ lw_tbl := by decide +kernel
theorem dX0_init_0 : decode cX0_init 0 = .ok (.aload_n 0, 1) := by decide +kernel
theorem dX0_init_1 : decode cX0_init 1 = .ok (.invokespecial 3, 3) := by decide +kernel
theorem dX0_init_4 : decode cX0_init 4 = .ok (.aload_n 0, 1) := by decide +kernel
theorem dX0_init_5 : decode cX0_init 5 = .ok (.bipush 60, 2) := by decide +kernel
theorem dX0_init_7 : decode cX0_init 7 = .ok (.newarray .char, 2) := by decide +kernel
theorem dX0_init_9 : decode cX0_init 9 = .ok (.putfield 9, 3) := by decide +kernel
theorem dX0_init_12 : decode cX0_init 12 = .ok (.return_, 1) := by decide +kernel
theorem dX0_append_0 : decode cX0_append 0 = .ok (.aload_n 0, 1) := by decide +kernel
theorem dX0_append_1 : decode cX0_append 1 = .ok (.getfield 15, 3) := by decide +kernel
theorem dX0_append_4 : decode cX0_append 4 = .ok (.bipush 60, 2) := by decide +kernel
theorem dX0_append_6 : decode cX0_append 6 = .ok (.if_icmp .lt 6, 3) := by decide +kernel
theorem dX0_append_9 : decode cX0_append 9 = .ok (.bipush (-3), 2) := by decide +kernel
theorem dX0_append_11 : decode cX0_append 11 = .ok (.ireturn, 1) := by decide +kernel
theorem dX0_append_12 : decode cX0_append 12 = .ok (.aload_n 0, 1) := by decide +kernel
theorem dX0_append_13 : decode cX0_append 13 = .ok (.getfield 9, 3) := by decide +kernel
theorem dX0_append_16 : decode cX0_append 16 = .ok (.aload_n 0, 1) := by decide +kernel
theorem dX0_append_17 : decode cX0_append 17 = .ok (.getfield 15, 3) := by decide +kernel
theorem dX0_append_20 : decode cX0_append 20 = .ok (.iload_n 1, 1) := by decide +kernel
theorem dX0_append_21 : decode cX0_append 21 = .ok (.castore, 1) := by decide +kernel
theorem dX0_append_22 : decode cX0_append 22 = .ok (.aload_n 0, 1) := by decide +kernel
theorem dX0_append_23 : decode cX0_append 23 = .ok (.dup, 1) := by decide +kernel
theorem dX0_append_24 : decode cX0_append 24 = .ok (.getfield 15, 3) := by decide +kernel
theorem dX0_append_27 : decode cX0_append 27 = .ok (.iconst 1, 1) := by decide +kernel
theorem dX0_append_28 : decode cX0_append 28 = .ok (.iadd, 1) := by decide +kernel
theorem dX0_append_29 : decode cX0_append 29 = .ok (.putfield 15, 3) := by decide +kernel
theorem dX0_append_32 : decode cX0_append 32 = .ok (.aload_n 0, 1) := by decide +kernel
theorem dX0_append_33 : decode cX0_append 33 = .ok (.getfield 15, 3) := by decide +kernel
theorem dX0_append_36 : decode cX0_append 36 = .ok (.ireturn, 1) := by decide +kernel
set_option maxRecDepth 20000 in
theorem ggX0_findFault_X0_takeEntry : GoodIn wsX0_findFault wsX0_takeEntry := goodIn_r _ [7, 8, 9, 10, 11, 12, 6, 13, 1, 14, 15, 16, 17, 18, 19, 20, 21, 2, 22, 23, 24, 25, 26, 27, 28, 29, 30, 31, 32, 33, 34, 35, 36, 37, 38, 39, 40, 41, 42, 43, 44, 45, 46, 47, 48, 49, 50, 51, 52, 53] (by decide +kernel) (by decide +kernel)
set_option maxRecDepth 20000 in
theorem gX0_findFault_X0_takeEntry : GoodIn wsX0_findFault (wsV RX0 22 RX0 yX0_takeEntry wsX0_takeEntry) := goodIn_app (goodIn_of _ (by decide +kernel)) ggX0_findFault_X0_takeEntry
set_option maxRecDepth 20000 in
theorem ggX0_findFault_X0_takeSign : GoodIn wsX0_findFault wsX0_takeSign := goodIn_r _ [26, 1, 18, 19, 20, 6, 21, 2, 22, 44, 45, 46, 47, 48, 49, 50, 51, 52, 53] (by decide +kernel) (by decide +kernel)
set_option maxRecDepth 20000 in
theorem gX0_findFault_X0_takeSign : GoodIn wsX0_findFault (wsV RX0 26 RX0 yX0_takeSign wsX0_takeSign) := goodIn_app (goodIn_of _ (by decide +kernel)) ggX0_findFault_X0_takeSign
theorem dX0_findFault_0 : decode cX0_findFault 0 = .ok (.aload_n 0, 1) := by decide +kernel
theorem dX0_findFault_1 : decode cX0_findFault 1 = .ok (.iconst 0, 1) := by decide +kernel
theorem dX0_findFault_2 : decode cX0_findFault 2 = .ok (.putfield 19, 3) := by decide +kernel
theorem dX0_findFault_5 : decode cX0_findFault 5 = .ok (.iconst 0, 1) := by decide +kernel
theorem dX0_findFault_6 : decode cX0_findFault 6 = .ok (.istore_n 1, 1) := by decide +kernel
theorem dX0_findFault_7 : decode cX0_findFault 7 = .ok (.iload_n 1, 1) := by decide +kernel
theorem dX0_findFault_8 : decode cX0_findFault 8 = .ok (.bipush 60, 2) := by decide +kernel
theorem dX0_findFault_10 : decode cX0_findFault 10 = .ok (.if_icmp .ge 48, 3) := by decide +kernel
theorem dX0_findFault_13 : decode cX0_findFault 13 = .ok (.aload_n 0, 1) := by decide +kernel
theorem dX0_findFault_14 : decode cX0_findFault 14 = .ok (.invokevirtual 22, 3) := by decide +kernel
theorem dX0_findFault_17 : decode cX0_findFault 17 = .ok (.ifCond .ne 8, 3) := by decide +kernel
theorem dX0_findFault_20 : decode cX0_findFault 20 = .ok (.aload_n 0, 1) := by decide +kernel
theorem dX0_findFault_21 : decode cX0_findFault 21 = .ok (.getfield 19, 3) := by decide +kernel
theorem dX0_findFault_24 : decode cX0_findFault 24 = .ok (.ireturn, 1) := by decide +kernel
theorem dX0_findFault_25 : decode cX0_findFault 25 = .ok (.aload_n 0, 1) := by decide +kernel
theorem dX0_findFault_26 : decode cX0_findFault 26 = .ok (.getfield 19, 3) := by decide +kernel
theorem dX0_findFault_29 : decode cX0_findFault 29 = .ok (.aload_n 0, 1) := by decide +kernel
theorem dX0_findFault_30 : decode cX0_findFault 30 = .ok (.getfield 15, 3) := by decide +kernel
theorem dX0_findFault_33 : decode cX0_findFault 33 = .ok (.if_icmp .ne 5, 3) := by decide +kernel
theorem dX0_findFault_36 : decode cX0_findFault 36 = .ok (.iconst (-1), 1) := by decide +kernel
theorem dX0_findFault_37 : decode cX0_findFault 37 = .ok (.ireturn, 1) := by decide +kernel
theorem dX0_findFault_38 : decode cX0_findFault 38 = .ok (.aload_n 0, 1) := by decide +kernel
theorem dX0_findFault_39 : decode cX0_findFault 39 = .ok (.bipush 59, 2) := by decide +kernel
theorem dX0_findFault_41 : decode cX0_findFault 41 = .ok (.invokevirtual 26, 3) := by decide +kernel
theorem dX0_findFault_44 : decode cX0_findFault 44 = .ok (.ifCond .ne 8, 3) := by decide +kernel
theorem dX0_findFault_47 : decode cX0_findFault 47 = .ok (.aload_n 0, 1) := by decide +kernel
theorem dX0_findFault_48 : decode cX0_findFault 48 = .ok (.getfield 19, 3) := by decide +kernel
theorem dX0_findFault_51 : decode cX0_findFault 51 = .ok (.ireturn, 1) := by decide +kernel
theorem dX0_findFault_52 : decode cX0_findFault 52 = .ok (.iinc 1 1, 3) := by decide +kernel
theorem dX0_findFault_55 : decode cX0_findFault 55 = .ok (.goto (-48), 3) := by decide +kernel
theorem dX0_findFault_58 : decode cX0_findFault 58 = .ok (.aload_n 0, 1) := by decide +kernel
theorem dX0_findFault_59 : decode cX0_findFault 59 = .ok (.getfield 19, 3) := by decide +kernel
theorem dX0_findFault_62 : decode cX0_findFault 62 = .ok (.ireturn, 1) := by decide +kernel
set_option maxRecDepth 20000 in
theorem ggX0_takeEntry_X0_takeNumber : GoodIn wsX0_takeEntry wsX0_takeNumber := goodIn_r _ [7, 8, 9, 10, 11, 6, 12, 13, 14, 15, 16, 17, 18, 40, 41, 42, 43, 44, 45, 46, 47, 48, 49] (by decide +kernel) (by decide +kernel)
set_option maxRecDepth 20000 in
theorem gX0_takeEntry_X0_takeNumber : GoodIn wsX0_takeEntry (wsV RX0 30 RX0 yX0_takeNumber wsX0_takeNumber) := goodIn_app (goodIn_of _ (by decide +kernel)) ggX0_takeEntry_X0_takeNumber
set_option maxRecDepth 20000 in
theorem ggX0_takeEntry_X0_takeSign : GoodIn wsX0_takeEntry wsX0_takeSign := goodIn_r _ [22, 8, 13, 14, 15, 6, 16, 17, 18, 40, 41, 42, 43, 44, 45, 46, 47, 48, 49] (by decide +kernel) (by decide +kernel)
set_option maxRecDepth 20000 in
theorem gX0_takeEntry_X0_takeSign : GoodIn wsX0_takeEntry (wsV RX0 26 RX0 yX0_takeSign wsX0_takeSign) := goodIn_app (goodIn_of _ (by decide +kernel)) ggX0_takeEntry_X0_takeSign
set_option maxRecDepth 20000 in
theorem ggX0_takeEntry_X0_takeCaption : GoodIn wsX0_takeEntry wsX0_takeCaption := goodIn_r _ [26, 27, 28, 29, 3, 4, 5, 6, 7, 8, 9, 10, 11, 12, 13, 14, 15, 16, 17, 18, 19, 20, 21, 22, 30, 31, 32, 33, 40, 41, 42, 43, 44, 45, 46, 47, 48, 49] (by decide +kernel) (by decide +kernel)
set_option maxRecDepth 20000 in
theorem gX0_takeEntry_X0_takeCaption : GoodIn wsX0_takeEntry (wsV RX0 41 RX0 yX0_takeCaption wsX0_takeCaption) := goodIn_app (goodIn_of _ (by decide +kernel)) ggX0_takeEntry_X0_takeCaption
set_option maxRecDepth 20000 in
theorem ggX0_takeEntry_X0_takeText : GoodIn wsX0_takeEntry wsX0_takeText := goodIn_r _ [37, 28, 38, 39, 29, 3, 4, 5, 6, 7, 8, 9, 10, 11, 12, 13, 14, 15, 16, 17, 18, 19, 20, 21, 22, 30, 31, 32, 33, 40, 41, 42, 43, 44, 45, 46, 47, 48, 49] (by decide +kernel) (by decide +kernel)
set_option maxRecDepth 20000 in
theorem gX0_takeEntry_X0_takeText : GoodIn wsX0_takeEntry (wsV RX0 44 RX0 yX0_takeText wsX0_takeText) := goodIn_app (goodIn_of _ (by decide +kernel)) ggX0_takeEntry_X0_takeText
theorem dX0_takeEntry_0 : decode cX0_takeEntry 0 = .ok (.aload_n 0, 1) := by decide +kernel
theorem dX0_takeEntry_1 : decode cX0_takeEntry 1 = .ok (.aload_n 0, 1) := by decide +kernel
theorem dX0_takeEntry_2 : decode cX0_takeEntry 2 = .ok (.iconst 0, 1) := by decide +kernel
theorem dX0_takeEntry_3 : decode cX0_takeEntry 3 = .ok (.bipush 7, 2) := by decide +kernel
theorem dX0_takeEntry_5 : decode cX0_takeEntry 5 = .ok (.invokevirtual 30, 3) := by decide +kernel
theorem dX0_takeEntry_8 : decode cX0_takeEntry 8 = .ok (.putfield 34, 3) := by decide +kernel
theorem dX0_takeEntry_11 : decode cX0_takeEntry 11 = .ok (.aload_n 0, 1) := by decide +kernel
theorem dX0_takeEntry_12 : decode cX0_takeEntry 12 = .ok (.getfield 34, 3) := by decide +kernel
theorem dX0_takeEntry_15 : decode cX0_takeEntry 15 = .ok (.ifCond .ge 5, 3) := by decide +kernel
theorem dX0_takeEntry_18 : decode cX0_takeEntry 18 = .ok (.iconst 0, 1) := by decide +kernel
theorem dX0_takeEntry_19 : decode cX0_takeEntry 19 = .ok (.ireturn, 1) := by decide +kernel
theorem dX0_takeEntry_20 : decode cX0_takeEntry 20 = .ok (.aload_n 0, 1) := by decide +kernel
theorem dX0_takeEntry_21 : decode cX0_takeEntry 21 = .ok (.aload_n 0, 1) := by decide +kernel
theorem dX0_takeEntry_22 : decode cX0_takeEntry 22 = .ok (.bipush 46, 2) := by decide +kernel
theorem dX0_takeEntry_24 : decode cX0_takeEntry 24 = .ok (.invokevirtual 26, 3) := by decide +kernel
theorem dX0_takeEntry_27 : decode cX0_takeEntry 27 = .ok (.putfield 37, 3) := by decide +kernel
theorem dX0_takeEntry_30 : decode cX0_takeEntry 30 = .ok (.aload_n 0, 1) := by decide +kernel
theorem dX0_takeEntry_31 : decode cX0_takeEntry 31 = .ok (.getfield 37, 3) := by decide +kernel
theorem dX0_takeEntry_34 : decode cX0_takeEntry 34 = .ok (.ifCond .eq 10, 3) := by decide +kernel
theorem dX0_takeEntry_37 : decode cX0_takeEntry 37 = .ok (.aload_n 0, 1) := by decide +kernel
theorem dX0_takeEntry_38 : decode cX0_takeEntry 38 = .ok (.invokevirtual 41, 3) := by decide +kernel
theorem dX0_takeEntry_41 : decode cX0_takeEntry 41 = .ok (.goto 24, 3) := by decide +kernel
theorem dX0_takeEntry_44 : decode cX0_takeEntry 44 = .ok (.aload_n 0, 1) := by decide +kernel
theorem dX0_takeEntry_45 : decode cX0_takeEntry 45 = .ok (.bipush 58, 2) := by decide +kernel
theorem dX0_takeEntry_47 : decode cX0_takeEntry 47 = .ok (.invokevirtual 26, 3) := by decide +kernel
theorem dX0_takeEntry_50 : decode cX0_takeEntry 50 = .ok (.ifCond .eq 14, 3) := by decide +kernel
theorem dX0_takeEntry_53 : decode cX0_takeEntry 53 = .ok (.aload_n 0, 1) := by decide +kernel
theorem dX0_takeEntry_54 : decode cX0_takeEntry 54 = .ok (.invokevirtual 44, 3) := by decide +kernel
theorem dX0_takeEntry_57 : decode cX0_takeEntry 57 = .ok (.ifCond .eq 7, 3) := by decide +kernel
theorem dX0_takeEntry_60 : decode cX0_takeEntry 60 = .ok (.iconst 1, 1) := by decide +kernel
theorem dX0_takeEntry_61 : decode cX0_takeEntry 61 = .ok (.goto 4, 3) := by decide +kernel
theorem dX0_takeEntry_64 : decode cX0_takeEntry 64 = .ok (.iconst 0, 1) := by decide +kernel
theorem dX0_takeEntry_65 : decode cX0_takeEntry 65 = .ok (.ireturn, 1) := by decide +kernel
set_option maxRecDepth 20000 in
theorem ggX0_takeText_X0_takeNumber : GoodIn wsX0_takeText wsX0_takeNumber := goodIn_r _ [9, 10, 11, 12, 13, 8, 14, 15, 16, 17, 18, 19, 20, 29, 30, 31, 32, 33, 34, 35, 36, 37, 38] (by decide +kernel) (by decide +kernel)
set_option maxRecDepth 20000 in
theorem gX0_takeText_X0_takeNumber : GoodIn wsX0_takeText (wsV RX0 30 RX0 yX0_takeNumber wsX0_takeNumber) := goodIn_app (goodIn_of _ (by decide +kernel)) ggX0_takeText_X0_takeNumber
set_option maxRecDepth 20000 in
theorem ggX0_takeText_X0_takeSign : GoodIn wsX0_takeText wsX0_takeSign := goodIn_r _ [24, 10, 15, 16, 17, 8, 18, 19, 20, 29, 30, 31, 32, 33, 34, 35, 36, 37, 38] (by decide +kernel) (by decide +kernel)
set_option maxRecDepth 20000 in
theorem gX0_takeText_X0_takeSign : GoodIn wsX0_takeText (wsV RX0 26 RX0 yX0_takeSign wsX0_takeSign) := goodIn_app (goodIn_of _ (by decide +kernel)) ggX0_takeText_X0_takeSign
set_option maxRecDepth 20000 in
theorem ggX0_takeText_X0_takeFacts : GoodIn wsX0_takeText wsX0_takeFacts := goodIn_r _ [28, 10, 15, 16, 17, 8, 18, 19, 20, 29, 30, 31, 32, 33, 34, 35, 36, 37, 38] (by decide +kernel) (by decide +kernel)
set_option maxRecDepth 20000 in
theorem gX0_takeText_X0_takeFacts : GoodIn wsX0_takeText (wsV RX0 56 RX0 yX0_takeFacts wsX0_takeFacts) := goodIn_app (goodIn_of _ (by decide +kernel)) ggX0_takeText_X0_takeFacts
theorem dX0_takeText_0 : decode cX0_takeText 0 = .ok (.aload_n 0, 1) := by decide +kernel
theorem dX0_takeText_1 : decode cX0_takeText 1 = .ok (.aload_n 0, 1) := by decide +kernel
theorem dX0_takeText_2 : decode cX0_takeText 2 = .ok (.iconst 0, 1) := by decide +kernel
theorem dX0_takeText_3 : decode cX0_takeText 3 = .ok (.sipush 999, 3) := by decide +kernel
theorem dX0_takeText_6 : decode cX0_takeText 6 = .ok (.invokevirtual 30, 3) := by decide +kernel
theorem dX0_takeText_9 : decode cX0_takeText 9 = .ok (.putfield 47, 3) := by decide +kernel
theorem dX0_takeText_12 : decode cX0_takeText 12 = .ok (.aload_n 0, 1) := by decide +kernel
theorem dX0_takeText_13 : decode cX0_takeText 13 = .ok (.getfield 47, 3) := by decide +kernel
theorem dX0_takeText_16 : decode cX0_takeText 16 = .ok (.ifCond .lt 12, 3) := by decide +kernel
theorem dX0_takeText_19 : decode cX0_takeText 19 = .ok (.aload_n 0, 1) := by decide +kernel
theorem dX0_takeText_20 : decode cX0_takeText 20 = .ok (.bipush 47, 2) := by decide +kernel
theorem dX0_takeText_22 : decode cX0_takeText 22 = .ok (.invokevirtual 26, 3) := by decide +kernel
theorem dX0_takeText_25 : decode cX0_takeText 25 = .ok (.ifCond .ne 5, 3) := by decide +kernel
theorem dX0_takeText_28 : decode cX0_takeText 28 = .ok (.iconst 0, 1) := by decide +kernel
theorem dX0_takeText_29 : decode cX0_takeText 29 = .ok (.ireturn, 1) := by decide +kernel
theorem dX0_takeText_30 : decode cX0_takeText 30 = .ok (.aload_n 0, 1) := by decide +kernel
theorem dX0_takeText_31 : decode cX0_takeText 31 = .ok (.aload_n 0, 1) := by decide +kernel
theorem dX0_takeText_32 : decode cX0_takeText 32 = .ok (.iconst 0, 1) := by decide +kernel
theorem dX0_takeText_33 : decode cX0_takeText 33 = .ok (.sipush 999, 3) := by decide +kernel
theorem dX0_takeText_36 : decode cX0_takeText 36 = .ok (.invokevirtual 30, 3) := by decide +kernel
theorem dX0_takeText_39 : decode cX0_takeText 39 = .ok (.putfield 50, 3) := by decide +kernel
theorem dX0_takeText_42 : decode cX0_takeText 42 = .ok (.aload_n 0, 1) := by decide +kernel
theorem dX0_takeText_43 : decode cX0_takeText 43 = .ok (.getfield 50, 3) := by decide +kernel
theorem dX0_takeText_46 : decode cX0_takeText 46 = .ok (.ifCond .lt 12, 3) := by decide +kernel
theorem dX0_takeText_49 : decode cX0_takeText 49 = .ok (.aload_n 0, 1) := by decide +kernel
theorem dX0_takeText_50 : decode cX0_takeText 50 = .ok (.bipush 47, 2) := by decide +kernel
theorem dX0_takeText_52 : decode cX0_takeText 52 = .ok (.invokevirtual 26, 3) := by decide +kernel
theorem dX0_takeText_55 : decode cX0_takeText 55 = .ok (.ifCond .ne 5, 3) := by decide +kernel
theorem dX0_takeText_58 : decode cX0_takeText 58 = .ok (.iconst 0, 1) := by decide +kernel
theorem dX0_takeText_59 : decode cX0_takeText 59 = .ok (.ireturn, 1) := by decide +kernel
theorem dX0_takeText_60 : decode cX0_takeText 60 = .ok (.aload_n 0, 1) := by decide +kernel
theorem dX0_takeText_61 : decode cX0_takeText 61 = .ok (.aload_n 0, 1) := by decide +kernel
theorem dX0_takeText_62 : decode cX0_takeText 62 = .ok (.iconst 0, 1) := by decide +kernel
theorem dX0_takeText_63 : decode cX0_takeText 63 = .ok (.sipush 999, 3) := by decide +kernel
theorem dX0_takeText_66 : decode cX0_takeText 66 = .ok (.invokevirtual 30, 3) := by decide +kernel
theorem dX0_takeText_69 : decode cX0_takeText 69 = .ok (.putfield 53, 3) := by decide +kernel
theorem dX0_takeText_72 : decode cX0_takeText 72 = .ok (.aload_n 0, 1) := by decide +kernel
theorem dX0_takeText_73 : decode cX0_takeText 73 = .ok (.getfield 53, 3) := by decide +kernel
theorem dX0_takeText_76 : decode cX0_takeText 76 = .ok (.ifCond .lt 12, 3) := by decide +kernel
theorem dX0_takeText_79 : decode cX0_takeText 79 = .ok (.aload_n 0, 1) := by decide +kernel
theorem dX0_takeText_80 : decode cX0_takeText 80 = .ok (.bipush 61, 2) := by decide +kernel
theorem dX0_takeText_82 : decode cX0_takeText 82 = .ok (.invokevirtual 26, 3) := by decide +kernel
theorem dX0_takeText_85 : decode cX0_takeText 85 = .ok (.ifCond .ne 5, 3) := by decide +kernel
theorem dX0_takeText_88 : decode cX0_takeText 88 = .ok (.iconst 0, 1) := by decide +kernel
theorem dX0_takeText_89 : decode cX0_takeText 89 = .ok (.ireturn, 1) := by decide +kernel
theorem dX0_takeText_90 : decode cX0_takeText 90 = .ok (.aload_n 0, 1) := by decide +kernel
theorem dX0_takeText_91 : decode cX0_takeText 91 = .ok (.aload_n 0, 1) := by decide +kernel
theorem dX0_takeText_92 : decode cX0_takeText 92 = .ok (.invokevirtual 56, 3) := by decide +kernel
theorem dX0_takeText_95 : decode cX0_takeText 95 = .ok (.putfield 60, 3) := by decide +kernel
theorem dX0_takeText_98 : decode cX0_takeText 98 = .ok (.aload_n 0, 1) := by decide +kernel
theorem dX0_takeText_99 : decode cX0_takeText 99 = .ok (.getfield 60, 3) := by decide +kernel
theorem dX0_takeText_102 : decode cX0_takeText 102 = .ok (.ifCond .eq 7, 3) := by decide +kernel
theorem dX0_takeText_105 : decode cX0_takeText 105 = .ok (.iconst 1, 1) := by decide +kernel
theorem dX0_takeText_106 : decode cX0_takeText 106 = .ok (.goto 4, 3) := by decide +kernel
theorem dX0_takeText_109 : decode cX0_takeText 109 = .ok (.iconst 0, 1) := by decide +kernel
theorem dX0_takeText_110 : decode cX0_takeText 110 = .ok (.ireturn, 1) := by decide +kernel
set_option maxRecDepth 20000 in
theorem ggX0_takeCaption_X0_takeNumber : GoodIn wsX0_takeCaption wsX0_takeNumber := goodIn_r _ [8, 9, 10, 11, 12, 7, 13, 14, 15, 16, 17, 18, 19, 28, 29, 30, 31, 32, 33, 34, 35, 36, 37] (by decide +kernel) (by decide +kernel)
set_option maxRecDepth 20000 in
theorem gX0_takeCaption_X0_takeNumber : GoodIn wsX0_takeCaption (wsV RX0 30 RX0 yX0_takeNumber wsX0_takeNumber) := goodIn_app (goodIn_of _ (by decide +kernel)) ggX0_takeCaption_X0_takeNumber
set_option maxRecDepth 20000 in
theorem ggX0_takeCaption_X0_takeSign : GoodIn wsX0_takeCaption wsX0_takeSign := goodIn_r _ [23, 9, 14, 15, 16, 7, 17, 18, 19, 28, 29, 30, 31, 32, 33, 34, 35, 36, 37] (by decide +kernel) (by decide +kernel)
set_option maxRecDepth 20000 in
theorem gX0_takeCaption_X0_takeSign : GoodIn wsX0_takeCaption (wsV RX0 26 RX0 yX0_takeSign wsX0_takeSign) := goodIn_app (goodIn_of _ (by decide +kernel)) ggX0_takeCaption_X0_takeSign
set_option maxRecDepth 20000 in
theorem ggX0_takeCaption_X0_takeFacts : GoodIn wsX0_takeCaption wsX0_takeFacts := goodIn_r _ [27, 9, 14, 15, 16, 7, 17, 18, 19, 28, 29, 30, 31, 32, 33, 34, 35, 36, 37] (by decide +kernel) (by decide +kernel)
set_option maxRecDepth 20000 in
theorem gX0_takeCaption_X0_takeFacts : GoodIn wsX0_takeCaption (wsV RX0 56 RX0 yX0_takeFacts wsX0_takeFacts) := goodIn_app (goodIn_of _ (by decide +kernel)) ggX0_takeCaption_X0_takeFacts
theorem dX0_takeCaption_0 : decode cX0_takeCaption 0 = .ok (.aload_n 0, 1) := by decide +kernel
theorem dX0_takeCaption_1 : decode cX0_takeCaption 1 = .ok (.aload_n 0, 1) := by decide +kernel
theorem dX0_takeCaption_2 : decode cX0_takeCaption 2 = .ok (.iconst 0, 1) := by decide +kernel
theorem dX0_takeCaption_3 : decode cX0_takeCaption 3 = .ok (.iconst 4, 1) := by decide +kernel
theorem dX0_takeCaption_4 : decode cX0_takeCaption 4 = .ok (.invokevirtual 30, 3) := by decide +kernel
theorem dX0_takeCaption_7 : decode cX0_takeCaption 7 = .ok (.putfield 63, 3) := by decide +kernel
theorem dX0_takeCaption_10 : decode cX0_takeCaption 10 = .ok (.aload_n 0, 1) := by decide +kernel
theorem dX0_takeCaption_11 : decode cX0_takeCaption 11 = .ok (.getfield 63, 3) := by decide +kernel
theorem dX0_takeCaption_14 : decode cX0_takeCaption 14 = .ok (.ifCond .lt 12, 3) := by decide +kernel
theorem dX0_takeCaption_17 : decode cX0_takeCaption 17 = .ok (.aload_n 0, 1) := by decide +kernel
theorem dX0_takeCaption_18 : decode cX0_takeCaption 18 = .ok (.bipush 43, 2) := by decide +kernel
theorem dX0_takeCaption_20 : decode cX0_takeCaption 20 = .ok (.invokevirtual 26, 3) := by decide +kernel
theorem dX0_takeCaption_23 : decode cX0_takeCaption 23 = .ok (.ifCond .ne 5, 3) := by decide +kernel
theorem dX0_takeCaption_26 : decode cX0_takeCaption 26 = .ok (.iconst 0, 1) := by decide +kernel
theorem dX0_takeCaption_27 : decode cX0_takeCaption 27 = .ok (.ireturn, 1) := by decide +kernel
theorem dX0_takeCaption_28 : decode cX0_takeCaption 28 = .ok (.aload_n 0, 1) := by decide +kernel
theorem dX0_takeCaption_29 : decode cX0_takeCaption 29 = .ok (.aload_n 0, 1) := by decide +kernel
theorem dX0_takeCaption_30 : decode cX0_takeCaption 30 = .ok (.iconst 1, 1) := by decide +kernel
theorem dX0_takeCaption_31 : decode cX0_takeCaption 31 = .ok (.bipush 30, 2) := by decide +kernel
theorem dX0_takeCaption_33 : decode cX0_takeCaption 33 = .ok (.invokevirtual 30, 3) := by decide +kernel
theorem dX0_takeCaption_36 : decode cX0_takeCaption 36 = .ok (.putfield 47, 3) := by decide +kernel
theorem dX0_takeCaption_39 : decode cX0_takeCaption 39 = .ok (.aload_n 0, 1) := by decide +kernel
theorem dX0_takeCaption_40 : decode cX0_takeCaption 40 = .ok (.getfield 47, 3) := by decide +kernel
theorem dX0_takeCaption_43 : decode cX0_takeCaption 43 = .ok (.ifCond .lt 12, 3) := by decide +kernel
theorem dX0_takeCaption_46 : decode cX0_takeCaption 46 = .ok (.aload_n 0, 1) := by decide +kernel
theorem dX0_takeCaption_47 : decode cX0_takeCaption 47 = .ok (.bipush 61, 2) := by decide +kernel
theorem dX0_takeCaption_49 : decode cX0_takeCaption 49 = .ok (.invokevirtual 26, 3) := by decide +kernel
theorem dX0_takeCaption_52 : decode cX0_takeCaption 52 = .ok (.ifCond .ne 5, 3) := by decide +kernel
theorem dX0_takeCaption_55 : decode cX0_takeCaption 55 = .ok (.iconst 0, 1) := by decide +kernel
theorem dX0_takeCaption_56 : decode cX0_takeCaption 56 = .ok (.ireturn, 1) := by decide +kernel
theorem dX0_takeCaption_57 : decode cX0_takeCaption 57 = .ok (.aload_n 0, 1) := by decide +kernel
theorem dX0_takeCaption_58 : decode cX0_takeCaption 58 = .ok (.aload_n 0, 1) := by decide +kernel
theorem dX0_takeCaption_59 : decode cX0_takeCaption 59 = .ok (.invokevirtual 56, 3) := by decide +kernel
theorem dX0_takeCaption_62 : decode cX0_takeCaption 62 = .ok (.putfield 60, 3) := by decide +kernel
theorem dX0_takeCaption_65 : decode cX0_takeCaption 65 = .ok (.iconst 1, 1) := by decide +kernel
theorem dX0_takeCaption_66 : decode cX0_takeCaption 66 = .ok (.ireturn, 1) := by decide +kernel
set_option maxRecDepth 20000 in
theorem ggX0_takeSign_X0_nextSign : GoodIn wsX0_takeSign wsX0_nextSign := goodIn_r _ [6, 1, 7, 8, 9, 10, 11, 12, 13, 14, 15, 16, 17, 18] (by decide +kernel) (by decide +kernel)
set_option maxRecDepth 20000 in
theorem gX0_takeSign_X0_nextSign : GoodIn wsX0_takeSign (wsV RX0 66 RX0 yX0_nextSign wsX0_nextSign) := goodIn_app (goodIn_of _ (by decide +kernel)) ggX0_takeSign_X0_nextSign
theorem dX0_takeSign_0 : decode cX0_takeSign 0 = .ok (.aload_n 0, 1) := by decide +kernel
theorem dX0_takeSign_1 : decode cX0_takeSign 1 = .ok (.invokevirtual 66, 3) := by decide +kernel
theorem dX0_takeSign_4 : decode cX0_takeSign 4 = .ok (.iload_n 1, 1) := by decide +kernel
theorem dX0_takeSign_5 : decode cX0_takeSign 5 = .ok (.if_icmp .eq 5, 3) := by decide +kernel
theorem dX0_takeSign_8 : decode cX0_takeSign 8 = .ok (.iconst 0, 1) := by decide +kernel
theorem dX0_takeSign_9 : decode cX0_takeSign 9 = .ok (.ireturn, 1) := by decide +kernel
theorem dX0_takeSign_10 : decode cX0_takeSign 10 = .ok (.aload_n 0, 1) := by decide +kernel
theorem dX0_takeSign_11 : decode cX0_takeSign 11 = .ok (.dup, 1) := by decide +kernel
theorem dX0_takeSign_12 : decode cX0_takeSign 12 = .ok (.getfield 19, 3) := by decide +kernel
theorem dX0_takeSign_15 : decode cX0_takeSign 15 = .ok (.iconst 1, 1) := by decide +kernel
theorem dX0_takeSign_16 : decode cX0_takeSign 16 = .ok (.iadd, 1) := by decide +kernel
theorem dX0_takeSign_17 : decode cX0_takeSign 17 = .ok (.putfield 19, 3) := by decide +kernel
theorem dX0_takeSign_20 : decode cX0_takeSign 20 = .ok (.iconst 1, 1) := by decide +kernel
theorem dX0_takeSign_21 : decode cX0_takeSign 21 = .ok (.ireturn, 1) := by decide +kernel
set_option maxRecDepth 20000 in
theorem ggX0_takeNumber_X0_nextDigit : GoodIn wsX0_takeNumber wsX0_nextDigit := goodIn_r _ [6, 7, 8, 9, 5, 10, 1, 11, 12, 13, 14, 15, 16, 17, 18, 19, 20, 21, 22] (by decide +kernel) (by decide +kernel)
set_option maxRecDepth 20000 in
theorem gX0_takeNumber_X0_nextDigit : GoodIn wsX0_takeNumber (wsV RX0 69 RX0 yX0_nextDigit wsX0_nextDigit) := goodIn_app (goodIn_of _ (by decide +kernel)) ggX0_takeNumber_X0_nextDigit
theorem dX0_takeNumber_0 : decode cX0_takeNumber 0 = .ok (.aload_n 0, 1) := by decide +kernel
theorem dX0_takeNumber_1 : decode cX0_takeNumber 1 = .ok (.invokevirtual 69, 3) := by decide +kernel
theorem dX0_takeNumber_4 : decode cX0_takeNumber 4 = .ok (.istore_n 3, 1) := by decide +kernel
theorem dX0_takeNumber_5 : decode cX0_takeNumber 5 = .ok (.iload_n 3, 1) := by decide +kernel
theorem dX0_takeNumber_6 : decode cX0_takeNumber 6 = .ok (.iload_n 1, 1) := by decide +kernel
theorem dX0_takeNumber_7 : decode cX0_takeNumber 7 = .ok (.if_icmp .lt 8, 3) := by decide +kernel
theorem dX0_takeNumber_10 : decode cX0_takeNumber 10 = .ok (.iload_n 3, 1) := by decide +kernel
theorem dX0_takeNumber_11 : decode cX0_takeNumber 11 = .ok (.iload_n 2, 1) := by decide +kernel
theorem dX0_takeNumber_12 : decode cX0_takeNumber 12 = .ok (.if_icmp .le 5, 3) := by decide +kernel
theorem dX0_takeNumber_15 : decode cX0_takeNumber 15 = .ok (.iconst (-1), 1) := by decide +kernel
theorem dX0_takeNumber_16 : decode cX0_takeNumber 16 = .ok (.ireturn, 1) := by decide +kernel
theorem dX0_takeNumber_17 : decode cX0_takeNumber 17 = .ok (.aload_n 0, 1) := by decide +kernel
theorem dX0_takeNumber_18 : decode cX0_takeNumber 18 = .ok (.dup, 1) := by decide +kernel
theorem dX0_takeNumber_19 : decode cX0_takeNumber 19 = .ok (.getfield 19, 3) := by decide +kernel
theorem dX0_takeNumber_22 : decode cX0_takeNumber 22 = .ok (.iconst 1, 1) := by decide +kernel
theorem dX0_takeNumber_23 : decode cX0_takeNumber 23 = .ok (.iadd, 1) := by decide +kernel
theorem dX0_takeNumber_24 : decode cX0_takeNumber 24 = .ok (.putfield 19, 3) := by decide +kernel
theorem dX0_takeNumber_27 : decode cX0_takeNumber 27 = .ok (.iconst 1, 1) := by decide +kernel
theorem dX0_takeNumber_28 : decode cX0_takeNumber 28 = .ok (.istore 4, 2) := by decide +kernel
theorem dX0_takeNumber_30 : decode cX0_takeNumber 30 = .ok (.iload 4, 2) := by decide +kernel
theorem dX0_takeNumber_32 : decode cX0_takeNumber 32 = .ok (.bipush 60, 2) := by decide +kernel
theorem dX0_takeNumber_34 : decode cX0_takeNumber 34 = .ok (.if_icmp .ge 56, 3) := by decide +kernel
theorem dX0_takeNumber_37 : decode cX0_takeNumber 37 = .ok (.iload_n 3, 1) := by decide +kernel
theorem dX0_takeNumber_38 : decode cX0_takeNumber 38 = .ok (.ifCond .le 52, 3) := by decide +kernel
theorem dX0_takeNumber_41 : decode cX0_takeNumber 41 = .ok (.aload_n 0, 1) := by decide +kernel
theorem dX0_takeNumber_42 : decode cX0_takeNumber 42 = .ok (.invokevirtual 69, 3) := by decide +kernel
theorem dX0_takeNumber_45 : decode cX0_takeNumber 45 = .ok (.istore 5, 2) := by decide +kernel
theorem dX0_takeNumber_47 : decode cX0_takeNumber 47 = .ok (.iload 5, 2) := by decide +kernel
theorem dX0_takeNumber_49 : decode cX0_takeNumber 49 = .ok (.ifCond .lt 41, 3) := by decide +kernel
theorem dX0_takeNumber_52 : decode cX0_takeNumber 52 = .ok (.iload_n 3, 1) := by decide +kernel
theorem dX0_takeNumber_53 : decode cX0_takeNumber 53 = .ok (.bipush 10, 2) := by decide +kernel
theorem dX0_takeNumber_55 : decode cX0_takeNumber 55 = .ok (.imul, 1) := by decide +kernel
theorem dX0_takeNumber_56 : decode cX0_takeNumber 56 = .ok (.iload 5, 2) := by decide +kernel
theorem dX0_takeNumber_58 : decode cX0_takeNumber 58 = .ok (.iadd, 1) := by decide +kernel
theorem dX0_takeNumber_59 : decode cX0_takeNumber 59 = .ok (.iload_n 2, 1) := by decide +kernel
theorem dX0_takeNumber_60 : decode cX0_takeNumber 60 = .ok (.if_icmp .le 6, 3) := by decide +kernel
theorem dX0_takeNumber_63 : decode cX0_takeNumber 63 = .ok (.goto 27, 3) := by decide +kernel
theorem dX0_takeNumber_66 : decode cX0_takeNumber 66 = .ok (.iload_n 3, 1) := by decide +kernel
theorem dX0_takeNumber_67 : decode cX0_takeNumber 67 = .ok (.bipush 10, 2) := by decide +kernel
theorem dX0_takeNumber_69 : decode cX0_takeNumber 69 = .ok (.imul, 1) := by decide +kernel
theorem dX0_takeNumber_70 : decode cX0_takeNumber 70 = .ok (.iload 5, 2) := by decide +kernel
theorem dX0_takeNumber_72 : decode cX0_takeNumber 72 = .ok (.iadd, 1) := by decide +kernel
theorem dX0_takeNumber_73 : decode cX0_takeNumber 73 = .ok (.istore_n 3, 1) := by decide +kernel
theorem dX0_takeNumber_74 : decode cX0_takeNumber 74 = .ok (.aload_n 0, 1) := by decide +kernel
theorem dX0_takeNumber_75 : decode cX0_takeNumber 75 = .ok (.dup, 1) := by decide +kernel
theorem dX0_takeNumber_76 : decode cX0_takeNumber 76 = .ok (.getfield 19, 3) := by decide +kernel
theorem dX0_takeNumber_79 : decode cX0_takeNumber 79 = .ok (.iconst 1, 1) := by decide +kernel
theorem dX0_takeNumber_80 : decode cX0_takeNumber 80 = .ok (.iadd, 1) := by decide +kernel
theorem dX0_takeNumber_81 : decode cX0_takeNumber 81 = .ok (.putfield 19, 3) := by decide +kernel
theorem dX0_takeNumber_84 : decode cX0_takeNumber 84 = .ok (.iinc 4 1, 3) := by decide +kernel
theorem dX0_takeNumber_87 : decode cX0_takeNumber 87 = .ok (.goto (-57), 3) := by decide +kernel
theorem dX0_takeNumber_90 : decode cX0_takeNumber 90 = .ok (.iload_n 3, 1) := by decide +kernel
theorem dX0_takeNumber_91 : decode cX0_takeNumber 91 = .ok (.ireturn, 1) := by decide +kernel
set_option maxRecDepth 20000 in
theorem ggX0_takeFacts_X0_nextSign : GoodIn wsX0_takeFacts wsX0_nextSign := goodIn_r _ [6, 1, 7, 8, 9, 10, 11, 12, 13, 14, 15, 16, 17, 18] (by decide +kernel) (by decide +kernel)
set_option maxRecDepth 20000 in
theorem gX0_takeFacts_X0_nextSign : GoodIn wsX0_takeFacts (wsV RX0 66 RX0 yX0_nextSign wsX0_nextSign) := goodIn_app (goodIn_of _ (by decide +kernel)) ggX0_takeFacts_X0_nextSign
theorem dX0_takeFacts_0 : decode cX0_takeFacts 0 = .ok (.iconst 0, 1) := by decide +kernel
theorem dX0_takeFacts_1 : decode cX0_takeFacts 1 = .ok (.istore_n 1, 1) := by decide +kernel
theorem dX0_takeFacts_2 : decode cX0_takeFacts 2 = .ok (.iconst 0, 1) := by decide +kernel
theorem dX0_takeFacts_3 : decode cX0_takeFacts 3 = .ok (.istore_n 2, 1) := by decide +kernel
theorem dX0_takeFacts_4 : decode cX0_takeFacts 4 = .ok (.iload_n 2, 1) := by decide +kernel
theorem dX0_takeFacts_5 : decode cX0_takeFacts 5 = .ok (.bipush 16, 2) := by decide +kernel
theorem dX0_takeFacts_7 : decode cX0_takeFacts 7 = .ok (.if_icmp .ge 36, 3) := by decide +kernel
theorem dX0_takeFacts_10 : decode cX0_takeFacts 10 = .ok (.aload_n 0, 1) := by decide +kernel
theorem dX0_takeFacts_11 : decode cX0_takeFacts 11 = .ok (.invokevirtual 66, 3) := by decide +kernel
theorem dX0_takeFacts_14 : decode cX0_takeFacts 14 = .ok (.bipush 97, 2) := by decide +kernel
theorem dX0_takeFacts_16 : decode cX0_takeFacts 16 = .ok (.iload_n 2, 1) := by decide +kernel
theorem dX0_takeFacts_17 : decode cX0_takeFacts 17 = .ok (.iadd, 1) := by decide +kernel
theorem dX0_takeFacts_18 : decode cX0_takeFacts 18 = .ok (.if_icmp .ne 19, 3) := by decide +kernel
theorem dX0_takeFacts_21 : decode cX0_takeFacts 21 = .ok (.iload_n 1, 1) := by decide +kernel
theorem dX0_takeFacts_22 : decode cX0_takeFacts 22 = .ok (.iconst 1, 1) := by decide +kernel
theorem dX0_takeFacts_23 : decode cX0_takeFacts 23 = .ok (.iload_n 2, 1) := by decide +kernel
theorem dX0_takeFacts_24 : decode cX0_takeFacts 24 = .ok (.ishl, 1) := by decide +kernel
theorem dX0_takeFacts_25 : decode cX0_takeFacts 25 = .ok (.ior, 1) := by decide +kernel
theorem dX0_takeFacts_26 : decode cX0_takeFacts 26 = .ok (.istore_n 1, 1) := by decide +kernel
theorem dX0_takeFacts_27 : decode cX0_takeFacts 27 = .ok (.aload_n 0, 1) := by decide +kernel
theorem dX0_takeFacts_28 : decode cX0_takeFacts 28 = .ok (.dup, 1) := by decide +kernel
theorem dX0_takeFacts_29 : decode cX0_takeFacts 29 = .ok (.getfield 19, 3) := by decide +kernel
theorem dX0_takeFacts_32 : decode cX0_takeFacts 32 = .ok (.iconst 1, 1) := by decide +kernel
theorem dX0_takeFacts_33 : decode cX0_takeFacts 33 = .ok (.iadd, 1) := by decide +kernel
theorem dX0_takeFacts_34 : decode cX0_takeFacts 34 = .ok (.putfield 19, 3) := by decide +kernel
theorem dX0_takeFacts_37 : decode cX0_takeFacts 37 = .ok (.iinc 2 1, 3) := by decide +kernel
theorem dX0_takeFacts_40 : decode cX0_takeFacts 40 = .ok (.goto (-36), 3) := by decide +kernel
theorem dX0_takeFacts_43 : decode cX0_takeFacts 43 = .ok (.iload_n 1, 1) := by decide +kernel
theorem dX0_takeFacts_44 : decode cX0_takeFacts 44 = .ok (.ireturn, 1) := by decide +kernel
set_option maxRecDepth 20000 in
theorem ggX0_nextDigit_X0_nextSign : GoodIn wsX0_nextDigit wsX0_nextSign := goodIn_r _ [5, 6, 7, 8, 9, 10, 11, 12, 13, 14, 15, 16, 17, 18] (by decide +kernel) (by decide +kernel)
set_option maxRecDepth 20000 in
theorem gX0_nextDigit_X0_nextSign : GoodIn wsX0_nextDigit (wsV RX0 66 RX0 yX0_nextSign wsX0_nextSign) := goodIn_app (goodIn_of _ (by decide +kernel)) ggX0_nextDigit_X0_nextSign
theorem dX0_nextDigit_0 : decode cX0_nextDigit 0 = .ok (.aload_n 0, 1) := by decide +kernel
theorem dX0_nextDigit_1 : decode cX0_nextDigit 1 = .ok (.invokevirtual 66, 3) := by decide +kernel
theorem dX0_nextDigit_4 : decode cX0_nextDigit 4 = .ok (.istore_n 1, 1) := by decide +kernel
theorem dX0_nextDigit_5 : decode cX0_nextDigit 5 = .ok (.iload_n 1, 1) := by decide +kernel
theorem dX0_nextDigit_6 : decode cX0_nextDigit 6 = .ok (.bipush 48, 2) := by decide +kernel
theorem dX0_nextDigit_8 : decode cX0_nextDigit 8 = .ok (.if_icmp .lt 16, 3) := by decide +kernel
theorem dX0_nextDigit_11 : decode cX0_nextDigit 11 = .ok (.iload_n 1, 1) := by decide +kernel
theorem dX0_nextDigit_12 : decode cX0_nextDigit 12 = .ok (.bipush 57, 2) := by decide +kernel
theorem dX0_nextDigit_14 : decode cX0_nextDigit 14 = .ok (.if_icmp .gt 10, 3) := by decide +kernel
theorem dX0_nextDigit_17 : decode cX0_nextDigit 17 = .ok (.iload_n 1, 1) := by decide +kernel
theorem dX0_nextDigit_18 : decode cX0_nextDigit 18 = .ok (.bipush 48, 2) := by decide +kernel
theorem dX0_nextDigit_20 : decode cX0_nextDigit 20 = .ok (.isub, 1) := by decide +kernel
theorem dX0_nextDigit_21 : decode cX0_nextDigit 21 = .ok (.goto 4, 3) := by decide +kernel
theorem dX0_nextDigit_24 : decode cX0_nextDigit 24 = .ok (.iconst (-1), 1) := by decide +kernel
theorem dX0_nextDigit_25 : decode cX0_nextDigit 25 = .ok (.ireturn, 1) := by decide +kernel
theorem dX0_nextSign_0 : decode cX0_nextSign 0 = .ok (.aload_n 0, 1) := by decide +kernel
theorem dX0_nextSign_1 : decode cX0_nextSign 1 = .ok (.getfield 19, 3) := by decide +kernel
theorem dX0_nextSign_4 : decode cX0_nextSign 4 = .ok (.ifCond .lt 23, 3) := by decide +kernel
theorem dX0_nextSign_7 : decode cX0_nextSign 7 = .ok (.aload_n 0, 1) := by decide +kernel
theorem dX0_nextSign_8 : decode cX0_nextSign 8 = .ok (.getfield 19, 3) := by decide +kernel
theorem dX0_nextSign_11 : decode cX0_nextSign 11 = .ok (.aload_n 0, 1) := by decide +kernel
theorem dX0_nextSign_12 : decode cX0_nextSign 12 = .ok (.getfield 15, 3) := by decide +kernel
theorem dX0_nextSign_15 : decode cX0_nextSign 15 = .ok (.if_icmp .ge 12, 3) := by decide +kernel
theorem dX0_nextSign_18 : decode cX0_nextSign 18 = .ok (.aload_n 0, 1) := by decide +kernel
theorem dX0_nextSign_19 : decode cX0_nextSign 19 = .ok (.getfield 19, 3) := by decide +kernel
theorem dX0_nextSign_22 : decode cX0_nextSign 22 = .ok (.bipush 60, 2) := by decide +kernel
theorem dX0_nextSign_24 : decode cX0_nextSign 24 = .ok (.if_icmp .lt 5, 3) := by decide +kernel
theorem dX0_nextSign_27 : decode cX0_nextSign 27 = .ok (.iconst (-1), 1) := by decide +kernel
theorem dX0_nextSign_28 : decode cX0_nextSign 28 = .ok (.ireturn, 1) := by decide +kernel
theorem dX0_nextSign_29 : decode cX0_nextSign 29 = .ok (.aload_n 0, 1) := by decide +kernel
theorem dX0_nextSign_30 : decode cX0_nextSign 30 = .ok (.getfield 9, 3) := by decide +kernel
theorem dX0_nextSign_33 : decode cX0_nextSign 33 = .ok (.aload_n 0, 1) := by decide +kernel
theorem dX0_nextSign_34 : decode cX0_nextSign 34 = .ok (.getfield 19, 3) := by decide +kernel
theorem dX0_nextSign_37 : decode cX0_nextSign 37 = .ok (.caload, 1) := by decide +kernel
theorem dX0_nextSign_38 : decode cX0_nextSign 38 = .ok (.ireturn, 1) := by decide +kernel
theorem dX1_init_0 : decode cX1_init 0 = .ok (.aload_n 0, 1) := by decide +kernel
theorem dX1_init_1 : decode cX1_init 1 = .ok (.invokespecial 3, 3) := by decide +kernel
theorem dX1_init_4 : decode cX1_init 4 = .ok (.aload_n 0, 1) := by decide +kernel
theorem dX1_init_5 : decode cX1_init 5 = .ok (.bipush 8, 2) := by decide +kernel
theorem dX1_init_7 : decode cX1_init 7 = .ok (.newarray .int, 2) := by decide +kernel
theorem dX1_init_9 : decode cX1_init 9 = .ok (.putfield 9, 3) := by decide +kernel
theorem dX1_init_12 : decode cX1_init 12 = .ok (.aload_n 0, 1) := by decide +kernel
theorem dX1_init_13 : decode cX1_init 13 = .ok (.sipush 640, 3) := by decide +kernel
theorem dX1_init_16 : decode cX1_init 16 = .ok (.newarray .int, 2) := by decide +kernel
theorem dX1_init_18 : decode cX1_init 18 = .ok (.putfield 15, 3) := by decide +kernel
theorem dX1_init_21 : decode cX1_init 21 = .ok (.aload_n 0, 1) := by decide +kernel
theorem dX1_init_22 : decode cX1_init 22 = .ok (.iconst 5, 1) := by decide +kernel
theorem dX1_init_23 : decode cX1_init 23 = .ok (.putfield 18, 3) := by decide +kernel
theorem dX1_init_26 : decode cX1_init 26 = .ok (.return_, 1) := by decide +kernel
theorem dX1_copyFrom_0 : decode cX1_copyFrom 0 = .ok (.aload_n 1, 1) := by decide +kernel
theorem dX1_copyFrom_1 : decode cX1_copyFrom 1 = .ok (.getfield 9, 3) := by decide +kernel
theorem dX1_copyFrom_4 : decode cX1_copyFrom 4 = .ok (.iconst 0, 1) := by decide +kernel
theorem dX1_copyFrom_5 : decode cX1_copyFrom 5 = .ok (.aload_n 0, 1) := by decide +kernel
theorem dX1_copyFrom_6 : decode cX1_copyFrom 6 = .ok (.getfield 9, 3) := by decide +kernel
theorem dX1_copyFrom_9 : decode cX1_copyFrom 9 = .ok (.iconst 0, 1) := by decide +kernel
theorem dX1_copyFrom_10 : decode cX1_copyFrom 10 = .ok (.bipush 8, 2) := by decide +kernel
theorem dX1_copyFrom_12 : decode cX1_copyFrom 12 = .ok (.invokestatic 22, 3) := by decide +kernel
theorem dX1_copyFrom_15 : decode cX1_copyFrom 15 = .ok (.aload_n 1, 1) := by decide +kernel
theorem dX1_copyFrom_16 : decode cX1_copyFrom 16 = .ok (.getfield 15, 3) := by decide +kernel
theorem dX1_copyFrom_19 : decode cX1_copyFrom 19 = .ok (.iconst 0, 1) := by decide +kernel
theorem dX1_copyFrom_20 : decode cX1_copyFrom 20 = .ok (.aload_n 0, 1) := by decide +kernel
theorem dX1_copyFrom_21 : decode cX1_copyFrom 21 = .ok (.getfield 15, 3) := by decide +kernel
theorem dX1_copyFrom_24 : decode cX1_copyFrom 24 = .ok (.iconst 0, 1) := by decide +kernel
theorem dX1_copyFrom_25 : decode cX1_copyFrom 25 = .ok (.sipush 640, 3) := by decide +kernel
theorem dX1_copyFrom_28 : decode cX1_copyFrom 28 = .ok (.invokestatic 22, 3) := by decide +kernel
theorem dX1_copyFrom_31 : decode cX1_copyFrom 31 = .ok (.aload_n 0, 1) := by decide +kernel
theorem dX1_copyFrom_32 : decode cX1_copyFrom 32 = .ok (.aload_n 1, 1) := by decide +kernel
theorem dX1_copyFrom_33 : decode cX1_copyFrom 33 = .ok (.getfield 28, 3) := by decide +kernel
theorem dX1_copyFrom_36 : decode cX1_copyFrom 36 = .ok (.putfield 28, 3) := by decide +kernel
theorem dX1_copyFrom_39 : decode cX1_copyFrom 39 = .ok (.aload_n 0, 1) := by decide +kernel
theorem dX1_copyFrom_40 : decode cX1_copyFrom 40 = .ok (.aload_n 1, 1) := by decide +kernel
theorem dX1_copyFrom_41 : decode cX1_copyFrom 41 = .ok (.getfield 18, 3) := by decide +kernel
theorem dX1_copyFrom_44 : decode cX1_copyFrom 44 = .ok (.putfield 18, 3) := by decide +kernel
theorem dX1_copyFrom_47 : decode cX1_copyFrom 47 = .ok (.aload_n 0, 1) := by decide +kernel
theorem dX1_copyFrom_48 : decode cX1_copyFrom 48 = .ok (.aload_n 1, 1) := by decide +kernel
theorem dX1_copyFrom_49 : decode cX1_copyFrom 49 = .ok (.getfield 31, 3) := by decide +kernel
theorem dX1_copyFrom_52 : decode cX1_copyFrom 52 = .ok (.putfield 31, 3) := by decide +kernel
theorem dX1_copyFrom_55 : decode cX1_copyFrom 55 = .ok (.aload_n 0, 1) := by decide +kernel
theorem dX1_copyFrom_56 : decode cX1_copyFrom 56 = .ok (.aload_n 1, 1) := by decide +kernel
theorem dX1_copyFrom_57 : decode cX1_copyFrom 57 = .ok (.getfield 34, 3) := by decide +kernel
theorem dX1_copyFrom_60 : decode cX1_copyFrom 60 = .ok (.putfield 34, 3) := by decide +kernel
theorem dX1_copyFrom_63 : decode cX1_copyFrom 63 = .ok (.aload_n 0, 1) := by decide +kernel
theorem dX1_copyFrom_64 : decode cX1_copyFrom 64 = .ok (.aload_n 1, 1) := by decide +kernel
theorem dX1_copyFrom_65 : decode cX1_copyFrom 65 = .ok (.getfield 37, 3) := by decide +kernel
theorem dX1_copyFrom_68 : decode cX1_copyFrom 68 = .ok (.putfield 37, 3) := by decide +kernel
theorem dX1_copyFrom_71 : decode cX1_copyFrom 71 = .ok (.aload_n 0, 1) := by decide +kernel
theorem dX1_copyFrom_72 : decode cX1_copyFrom 72 = .ok (.aload_n 1, 1) := by decide +kernel
theorem dX1_copyFrom_73 : decode cX1_copyFrom 73 = .ok (.getfield 40, 3) := by decide +kernel
theorem dX1_copyFrom_76 : decode cX1_copyFrom 76 = .ok (.putfield 40, 3) := by decide +kernel
theorem dX1_copyFrom_79 : decode cX1_copyFrom 79 = .ok (.aload_n 0, 1) := by decide +kernel
theorem dX1_copyFrom_80 : decode cX1_copyFrom 80 = .ok (.aload_n 1, 1) := by decide +kernel
theorem dX1_copyFrom_81 : decode cX1_copyFrom 81 = .ok (.getfield 44, 3) := by decide +kernel
theorem dX1_copyFrom_84 : decode cX1_copyFrom 84 = .ok (.putfield 44, 3) := by decide +kernel
theorem dX1_copyFrom_87 : decode cX1_copyFrom 87 = .ok (.aload_n 0, 1) := by decide +kernel
theorem dX1_copyFrom_88 : decode cX1_copyFrom 88 = .ok (.aload_n 1, 1) := by decide +kernel
theorem dX1_copyFrom_89 : decode cX1_copyFrom 89 = .ok (.getfield 47, 3) := by decide +kernel
theorem dX1_copyFrom_92 : decode cX1_copyFrom 92 = .ok (.putfield 47, 3) := by decide +kernel
theorem dX1_copyFrom_95 : decode cX1_copyFrom 95 = .ok (.aload_n 0, 1) := by decide +kernel
theorem dX1_copyFrom_96 : decode cX1_copyFrom 96 = .ok (.aload_n 1, 1) := by decide +kernel
theorem dX1_copyFrom_97 : decode cX1_copyFrom 97 = .ok (.getfield 50, 3) := by decide +kernel
theorem dX1_copyFrom_100 : decode cX1_copyFrom 100 = .ok (.putfield 50, 3) := by decide +kernel
theorem dX1_copyFrom_103 : decode cX1_copyFrom 103 = .ok (.aload_n 0, 1) := by decide +kernel
theorem dX1_copyFrom_104 : decode cX1_copyFrom 104 = .ok (.aload_n 1, 1) := by decide +kernel
theorem dX1_copyFrom_105 : decode cX1_copyFrom 105 = .ok (.getfield 53, 3) := by decide +kernel
theorem dX1_copyFrom_108 : decode cX1_copyFrom 108 = .ok (.putfield 53, 3) := by decide +kernel
theorem dX1_copyFrom_111 : decode cX1_copyFrom 111 = .ok (.return_, 1) := by decide +kernel
set_option maxRecDepth 20000 in
theorem ggX1_rowOf_X2_isExhibit : GoodIn wsX1_rowOf wsX2_isExhibit := goodIn_r _ [4] (by decide +kernel) (by decide +kernel)
set_option maxRecDepth 20000 in
theorem gX1_rowOf_X2_isExhibit_n56 : GoodIn wsX1_rowOf (wsX2_isExhibit) := ggX1_rowOf_X2_isExhibit
theorem dX1_rowOf_0 : decode cX1_rowOf 0 = .ok (.iload_n 1, 1) := by decide +kernel
theorem dX1_rowOf_1 : decode cX1_rowOf 1 = .ok (.invokestatic 56, 3) := by decide +kernel
theorem dX1_rowOf_4 : decode cX1_rowOf 4 = .ok (.ifCond .eq 17, 3) := by decide +kernel
theorem dX1_rowOf_7 : decode cX1_rowOf 7 = .ok (.iload_n 2, 1) := by decide +kernel
theorem dX1_rowOf_8 : decode cX1_rowOf 8 = .ok (.ifCond .lt 13, 3) := by decide +kernel
theorem dX1_rowOf_11 : decode cX1_rowOf 11 = .ok (.iload_n 2, 1) := by decide +kernel
theorem dX1_rowOf_12 : decode cX1_rowOf 12 = .ok (.aload_n 0, 1) := by decide +kernel
theorem dX1_rowOf_13 : decode cX1_rowOf 13 = .ok (.getfield 9, 3) := by decide +kernel
theorem dX1_rowOf_16 : decode cX1_rowOf 16 = .ok (.iload_n 1, 1) := by decide +kernel
theorem dX1_rowOf_17 : decode cX1_rowOf 17 = .ok (.iaload, 1) := by decide +kernel
theorem dX1_rowOf_18 : decode cX1_rowOf 18 = .ok (.if_icmp .lt 5, 3) := by decide +kernel
theorem dX1_rowOf_21 : decode cX1_rowOf 21 = .ok (.iconst (-1), 1) := by decide +kernel
theorem dX1_rowOf_22 : decode cX1_rowOf 22 = .ok (.ireturn, 1) := by decide +kernel
theorem dX1_rowOf_23 : decode cX1_rowOf 23 = .ok (.iload_n 1, 1) := by decide +kernel
theorem dX1_rowOf_24 : decode cX1_rowOf 24 = .ok (.iconst 5, 1) := by decide +kernel
theorem dX1_rowOf_25 : decode cX1_rowOf 25 = .ok (.imul, 1) := by decide +kernel
theorem dX1_rowOf_26 : decode cX1_rowOf 26 = .ok (.iload_n 2, 1) := by decide +kernel
theorem dX1_rowOf_27 : decode cX1_rowOf 27 = .ok (.iadd, 1) := by decide +kernel
theorem dX1_rowOf_28 : decode cX1_rowOf 28 = .ok (.bipush 16, 2) := by decide +kernel
theorem dX1_rowOf_30 : decode cX1_rowOf 30 = .ok (.imul, 1) := by decide +kernel
theorem dX1_rowOf_31 : decode cX1_rowOf 31 = .ok (.ireturn, 1) := by decide +kernel
theorem dX1_captionOf_0 : decode cX1_captionOf 0 = .ok (.iload_n 2, 1) := by decide +kernel
theorem dX1_captionOf_1 : decode cX1_captionOf 1 = .ok (.ifCond .lt 15, 3) := by decide +kernel
theorem dX1_captionOf_4 : decode cX1_captionOf 4 = .ok (.iload_n 2, 1) := by decide +kernel
theorem dX1_captionOf_5 : decode cX1_captionOf 5 = .ok (.aload_n 0, 1) := by decide +kernel
theorem dX1_captionOf_6 : decode cX1_captionOf 6 = .ok (.getfield 15, 3) := by decide +kernel
theorem dX1_captionOf_9 : decode cX1_captionOf 9 = .ok (.iload_n 1, 1) := by decide +kernel
theorem dX1_captionOf_10 : decode cX1_captionOf 10 = .ok (.iconst 5, 1) := by decide +kernel
theorem dX1_captionOf_11 : decode cX1_captionOf 11 = .ok (.iadd, 1) := by decide +kernel
theorem dX1_captionOf_12 : decode cX1_captionOf 12 = .ok (.iaload, 1) := by decide +kernel
theorem dX1_captionOf_13 : decode cX1_captionOf 13 = .ok (.if_icmp .lt 5, 3) := by decide +kernel
theorem dX1_captionOf_16 : decode cX1_captionOf 16 = .ok (.iconst (-1), 1) := by decide +kernel
theorem dX1_captionOf_17 : decode cX1_captionOf 17 = .ok (.ireturn, 1) := by decide +kernel
theorem dX1_captionOf_18 : decode cX1_captionOf 18 = .ok (.iload_n 1, 1) := by decide +kernel
theorem dX1_captionOf_19 : decode cX1_captionOf 19 = .ok (.bipush 7, 2) := by decide +kernel
theorem dX1_captionOf_21 : decode cX1_captionOf 21 = .ok (.iadd, 1) := by decide +kernel
theorem dX1_captionOf_22 : decode cX1_captionOf 22 = .ok (.iload_n 2, 1) := by decide +kernel
theorem dX1_captionOf_23 : decode cX1_captionOf 23 = .ok (.iconst 3, 1) := by decide +kernel
theorem dX1_captionOf_24 : decode cX1_captionOf 24 = .ok (.imul, 1) := by decide +kernel
theorem dX1_captionOf_25 : decode cX1_captionOf 25 = .ok (.iadd, 1) := by decide +kernel
theorem dX1_captionOf_26 : decode cX1_captionOf 26 = .ok (.ireturn, 1) := by decide +kernel
set_option maxRecDepth 20000 in
theorem ggX1_putText_X2_isExhibit : GoodIn wsX1_putText wsX2_isExhibit := goodIn_r _ [6] (by decide +kernel) (by decide +kernel)
set_option maxRecDepth 20000 in
theorem gX1_putText_X2_isExhibit_n56 : GoodIn wsX1_putText (wsX2_isExhibit) := ggX1_putText_X2_isExhibit
set_option maxRecDepth 20000 in
theorem ggX1_putText_X2_isText : GoodIn wsX1_putText wsX2_isText := goodIn_r _ [8] (by decide +kernel) (by decide +kernel)
set_option maxRecDepth 20000 in
theorem gX1_putText_X2_isText_n60 : GoodIn wsX1_putText (wsX2_isText) := ggX1_putText_X2_isText
theorem dX1_putText_0 : decode cX1_putText 0 = .ok (.iload_n 1, 1) := by decide +kernel
theorem dX1_putText_1 : decode cX1_putText 1 = .ok (.invokestatic 56, 3) := by decide +kernel
theorem dX1_putText_4 : decode cX1_putText 4 = .ok (.ifCond .ne 5, 3) := by decide +kernel
theorem dX1_putText_7 : decode cX1_putText 7 = .ok (.iconst (-1), 1) := by decide +kernel
theorem dX1_putText_8 : decode cX1_putText 8 = .ok (.ireturn, 1) := by decide +kernel
theorem dX1_putText_9 : decode cX1_putText 9 = .ok (.iload_n 2, 1) := by decide +kernel
theorem dX1_putText_10 : decode cX1_putText 10 = .ok (.iload_n 3, 1) := by decide +kernel
theorem dX1_putText_11 : decode cX1_putText 11 = .ok (.iload 4, 2) := by decide +kernel
theorem dX1_putText_13 : decode cX1_putText 13 = .ok (.invokestatic 60, 3) := by decide +kernel
theorem dX1_putText_16 : decode cX1_putText 16 = .ok (.ifCond .eq 16, 3) := by decide +kernel
theorem dX1_putText_19 : decode cX1_putText 19 = .ok (.iload 5, 2) := by decide +kernel
theorem dX1_putText_21 : decode cX1_putText 21 = .ok (.iconst 1, 1) := by decide +kernel
theorem dX1_putText_22 : decode cX1_putText 22 = .ok (.if_icmp .lt 10, 3) := by decide +kernel
theorem dX1_putText_25 : decode cX1_putText 25 = .ok (.iload 5, 2) := by decide +kernel
theorem dX1_putText_27 : decode cX1_putText 27 = .ok (.ldc 64, 2) := by decide +kernel
theorem dX1_putText_29 : decode cX1_putText 29 = .ok (.if_icmp .le 6, 3) := by decide +kernel
theorem dX1_putText_32 : decode cX1_putText 32 = .ok (.bipush (-2), 2) := by decide +kernel
theorem dX1_putText_34 : decode cX1_putText 34 = .ok (.ireturn, 1) := by decide +kernel
theorem dX1_putText_35 : decode cX1_putText 35 = .ok (.aload_n 0, 1) := by decide +kernel
theorem dX1_putText_36 : decode cX1_putText 36 = .ok (.getfield 9, 3) := by decide +kernel
theorem dX1_putText_39 : decode cX1_putText 39 = .ok (.iload_n 1, 1) := by decide +kernel
theorem dX1_putText_40 : decode cX1_putText 40 = .ok (.iaload, 1) := by decide +kernel
theorem dX1_putText_41 : decode cX1_putText 41 = .ok (.istore 6, 2) := by decide +kernel
theorem dX1_putText_43 : decode cX1_putText 43 = .ok (.iload 6, 2) := by decide +kernel
theorem dX1_putText_45 : decode cX1_putText 45 = .ok (.iconst 5, 1) := by decide +kernel
theorem dX1_putText_46 : decode cX1_putText 46 = .ok (.if_icmp .lt 6, 3) := by decide +kernel
theorem dX1_putText_49 : decode cX1_putText 49 = .ok (.bipush (-3), 2) := by decide +kernel
theorem dX1_putText_51 : decode cX1_putText 51 = .ok (.ireturn, 1) := by decide +kernel
theorem dX1_putText_52 : decode cX1_putText 52 = .ok (.iload_n 1, 1) := by decide +kernel
theorem dX1_putText_53 : decode cX1_putText 53 = .ok (.iconst 5, 1) := by decide +kernel
theorem dX1_putText_54 : decode cX1_putText 54 = .ok (.imul, 1) := by decide +kernel
theorem dX1_putText_55 : decode cX1_putText 55 = .ok (.iload 6, 2) := by decide +kernel
theorem dX1_putText_57 : decode cX1_putText 57 = .ok (.iadd, 1) := by decide +kernel
theorem dX1_putText_58 : decode cX1_putText 58 = .ok (.bipush 16, 2) := by decide +kernel
theorem dX1_putText_60 : decode cX1_putText 60 = .ok (.imul, 1) := by decide +kernel
theorem dX1_putText_61 : decode cX1_putText 61 = .ok (.istore 7, 2) := by decide +kernel
theorem dX1_putText_63 : decode cX1_putText 63 = .ok (.aload_n 0, 1) := by decide +kernel
theorem dX1_putText_64 : decode cX1_putText 64 = .ok (.getfield 15, 3) := by decide +kernel
theorem dX1_putText_67 : decode cX1_putText 67 = .ok (.iload 7, 2) := by decide +kernel
theorem dX1_putText_69 : decode cX1_putText 69 = .ok (.iconst 0, 1) := by decide +kernel
theorem dX1_putText_70 : decode cX1_putText 70 = .ok (.iadd, 1) := by decide +kernel
theorem dX1_putText_71 : decode cX1_putText 71 = .ok (.iload_n 2, 1) := by decide +kernel
theorem dX1_putText_72 : decode cX1_putText 72 = .ok (.iastore, 1) := by decide +kernel
theorem dX1_putText_73 : decode cX1_putText 73 = .ok (.aload_n 0, 1) := by decide +kernel
theorem dX1_putText_74 : decode cX1_putText 74 = .ok (.getfield 15, 3) := by decide +kernel
theorem dX1_putText_77 : decode cX1_putText 77 = .ok (.iload 7, 2) := by decide +kernel
theorem dX1_putText_79 : decode cX1_putText 79 = .ok (.iconst 1, 1) := by decide +kernel
theorem dX1_putText_80 : decode cX1_putText 80 = .ok (.iadd, 1) := by decide +kernel
theorem dX1_putText_81 : decode cX1_putText 81 = .ok (.iload_n 3, 1) := by decide +kernel
theorem dX1_putText_82 : decode cX1_putText 82 = .ok (.iastore, 1) := by decide +kernel
theorem dX1_putText_83 : decode cX1_putText 83 = .ok (.aload_n 0, 1) := by decide +kernel
theorem dX1_putText_84 : decode cX1_putText 84 = .ok (.getfield 15, 3) := by decide +kernel
theorem dX1_putText_87 : decode cX1_putText 87 = .ok (.iload 7, 2) := by decide +kernel
theorem dX1_putText_89 : decode cX1_putText 89 = .ok (.iconst 2, 1) := by decide +kernel
theorem dX1_putText_90 : decode cX1_putText 90 = .ok (.iadd, 1) := by decide +kernel
theorem dX1_putText_91 : decode cX1_putText 91 = .ok (.iload 4, 2) := by decide +kernel
theorem dX1_putText_93 : decode cX1_putText 93 = .ok (.iastore, 1) := by decide +kernel
theorem dX1_putText_94 : decode cX1_putText 94 = .ok (.aload_n 0, 1) := by decide +kernel
theorem dX1_putText_95 : decode cX1_putText 95 = .ok (.getfield 15, 3) := by decide +kernel
theorem dX1_putText_98 : decode cX1_putText 98 = .ok (.iload 7, 2) := by decide +kernel
theorem dX1_putText_100 : decode cX1_putText 100 = .ok (.iconst 3, 1) := by decide +kernel
theorem dX1_putText_101 : decode cX1_putText 101 = .ok (.iadd, 1) := by decide +kernel
theorem dX1_putText_102 : decode cX1_putText 102 = .ok (.iload 5, 2) := by decide +kernel
theorem dX1_putText_104 : decode cX1_putText 104 = .ok (.iastore, 1) := by decide +kernel
theorem dX1_putText_105 : decode cX1_putText 105 = .ok (.aload_n 0, 1) := by decide +kernel
theorem dX1_putText_106 : decode cX1_putText 106 = .ok (.getfield 15, 3) := by decide +kernel
theorem dX1_putText_109 : decode cX1_putText 109 = .ok (.iload 7, 2) := by decide +kernel
theorem dX1_putText_111 : decode cX1_putText 111 = .ok (.iconst 4, 1) := by decide +kernel
theorem dX1_putText_112 : decode cX1_putText 112 = .ok (.iadd, 1) := by decide +kernel
theorem dX1_putText_113 : decode cX1_putText 113 = .ok (.iconst 4, 1) := by decide +kernel
theorem dX1_putText_114 : decode cX1_putText 114 = .ok (.iload_n 2, 1) := by decide +kernel
theorem dX1_putText_115 : decode cX1_putText 115 = .ok (.iconst 2, 1) := by decide +kernel
theorem dX1_putText_116 : decode cX1_putText 116 = .ok (.iload_n 3, 1) := by decide +kernel
theorem dX1_putText_117 : decode cX1_putText 117 = .ok (.imul, 1) := by decide +kernel
theorem dX1_putText_118 : decode cX1_putText 118 = .ok (.idiv, 1) := by decide +kernel
theorem dX1_putText_119 : decode cX1_putText 119 = .ok (.iadd, 1) := by decide +kernel
theorem dX1_putText_120 : decode cX1_putText 120 = .ok (.bipush 30, 2) := by decide +kernel
theorem dX1_putText_122 : decode cX1_putText 122 = .ok (.iload 4, 2) := by decide +kernel
theorem dX1_putText_124 : decode cX1_putText 124 = .ok (.imul, 1) := by decide +kernel
theorem dX1_putText_125 : decode cX1_putText 125 = .ok (.iload_n 2, 1) := by decide +kernel
theorem dX1_putText_126 : decode cX1_putText 126 = .ok (.idiv, 1) := by decide +kernel
theorem dX1_putText_127 : decode cX1_putText 127 = .ok (.iadd, 1) := by decide +kernel
theorem dX1_putText_128 : decode cX1_putText 128 = .ok (.iastore, 1) := by decide +kernel
theorem dX1_putText_129 : decode cX1_putText 129 = .ok (.aload_n 0, 1) := by decide +kernel
theorem dX1_putText_130 : decode cX1_putText 130 = .ok (.getfield 15, 3) := by decide +kernel
theorem dX1_putText_133 : decode cX1_putText 133 = .ok (.iload 7, 2) := by decide +kernel
theorem dX1_putText_135 : decode cX1_putText 135 = .ok (.iconst 5, 1) := by decide +kernel
theorem dX1_putText_136 : decode cX1_putText 136 = .ok (.iadd, 1) := by decide +kernel
theorem dX1_putText_137 : decode cX1_putText 137 = .ok (.iconst 0, 1) := by decide +kernel
theorem dX1_putText_138 : decode cX1_putText 138 = .ok (.iastore, 1) := by decide +kernel
theorem dX1_putText_139 : decode cX1_putText 139 = .ok (.aload_n 0, 1) := by decide +kernel
theorem dX1_putText_140 : decode cX1_putText 140 = .ok (.getfield 15, 3) := by decide +kernel
theorem dX1_putText_143 : decode cX1_putText 143 = .ok (.iload 7, 2) := by decide +kernel
theorem dX1_putText_145 : decode cX1_putText 145 = .ok (.bipush 6, 2) := by decide +kernel
theorem dX1_putText_147 : decode cX1_putText 147 = .ok (.iadd, 1) := by decide +kernel
theorem dX1_putText_148 : decode cX1_putText 148 = .ok (.iconst 0, 1) := by decide +kernel
theorem dX1_putText_149 : decode cX1_putText 149 = .ok (.iastore, 1) := by decide +kernel
theorem dX1_putText_150 : decode cX1_putText 150 = .ok (.aload_n 0, 1) := by decide +kernel
theorem dX1_putText_151 : decode cX1_putText 151 = .ok (.getfield 9, 3) := by decide +kernel
theorem dX1_putText_154 : decode cX1_putText 154 = .ok (.iload_n 1, 1) := by decide +kernel
theorem dX1_putText_155 : decode cX1_putText 155 = .ok (.iload 6, 2) := by decide +kernel
theorem dX1_putText_157 : decode cX1_putText 157 = .ok (.iconst 1, 1) := by decide +kernel
theorem dX1_putText_158 : decode cX1_putText 158 = .ok (.iadd, 1) := by decide +kernel
theorem dX1_putText_159 : decode cX1_putText 159 = .ok (.iastore, 1) := by decide +kernel
theorem dX1_putText_160 : decode cX1_putText 160 = .ok (.iload 6, 2) := by decide +kernel
theorem dX1_putText_162 : decode cX1_putText 162 = .ok (.ireturn, 1) := by decide +kernel
set_option maxRecDepth 20000 in
theorem ggX1_dropText_X1_rowOf : GoodIn wsX1_dropText wsX1_rowOf := goodIn_r _ [11, 1, 12, 13, 14, 15, 16, 17, 18, 19, 20, 21, 22, 23, 24, 25, 26] (by decide +kernel) (by decide +kernel)
set_option maxRecDepth 20000 in
theorem gX1_dropText_X1_rowOf : GoodIn wsX1_dropText (wsV RX1 65 RX1 yX1_rowOf wsX1_rowOf) := goodIn_app (goodIn_of _ (by decide +kernel)) ggX1_dropText_X1_rowOf
theorem dX1_dropText_0 : decode cX1_dropText 0 = .ok (.aload_n 0, 1) := by decide +kernel
theorem dX1_dropText_1 : decode cX1_dropText 1 = .ok (.iload_n 1, 1) := by decide +kernel
theorem dX1_dropText_2 : decode cX1_dropText 2 = .ok (.iload_n 2, 1) := by decide +kernel
theorem dX1_dropText_3 : decode cX1_dropText 3 = .ok (.invokevirtual 65, 3) := by decide +kernel
theorem dX1_dropText_6 : decode cX1_dropText 6 = .ok (.istore_n 3, 1) := by decide +kernel
theorem dX1_dropText_7 : decode cX1_dropText 7 = .ok (.iload_n 3, 1) := by decide +kernel
theorem dX1_dropText_8 : decode cX1_dropText 8 = .ok (.ifCond .ge 5, 3) := by decide +kernel
theorem dX1_dropText_11 : decode cX1_dropText 11 = .ok (.iconst (-1), 1) := by decide +kernel
theorem dX1_dropText_12 : decode cX1_dropText 12 = .ok (.ireturn, 1) := by decide +kernel
theorem dX1_dropText_13 : decode cX1_dropText 13 = .ok (.aload_n 0, 1) := by decide +kernel
theorem dX1_dropText_14 : decode cX1_dropText 14 = .ok (.getfield 9, 3) := by decide +kernel
theorem dX1_dropText_17 : decode cX1_dropText 17 = .ok (.iload_n 1, 1) := by decide +kernel
theorem dX1_dropText_18 : decode cX1_dropText 18 = .ok (.iaload, 1) := by decide +kernel
theorem dX1_dropText_19 : decode cX1_dropText 19 = .ok (.iconst 1, 1) := by decide +kernel
theorem dX1_dropText_20 : decode cX1_dropText 20 = .ok (.isub, 1) := by decide +kernel
theorem dX1_dropText_21 : decode cX1_dropText 21 = .ok (.istore 4, 2) := by decide +kernel
theorem dX1_dropText_23 : decode cX1_dropText 23 = .ok (.iload_n 2, 1) := by decide +kernel
theorem dX1_dropText_24 : decode cX1_dropText 24 = .ok (.iload 4, 2) := by decide +kernel
theorem dX1_dropText_26 : decode cX1_dropText 26 = .ok (.if_icmp .ge 26, 3) := by decide +kernel
theorem dX1_dropText_29 : decode cX1_dropText 29 = .ok (.aload_n 0, 1) := by decide +kernel
theorem dX1_dropText_30 : decode cX1_dropText 30 = .ok (.getfield 15, 3) := by decide +kernel
theorem dX1_dropText_33 : decode cX1_dropText 33 = .ok (.iload_n 3, 1) := by decide +kernel
theorem dX1_dropText_34 : decode cX1_dropText 34 = .ok (.bipush 16, 2) := by decide +kernel
theorem dX1_dropText_36 : decode cX1_dropText 36 = .ok (.iadd, 1) := by decide +kernel
theorem dX1_dropText_37 : decode cX1_dropText 37 = .ok (.aload_n 0, 1) := by decide +kernel
theorem dX1_dropText_38 : decode cX1_dropText 38 = .ok (.getfield 15, 3) := by decide +kernel
theorem dX1_dropText_41 : decode cX1_dropText 41 = .ok (.iload_n 3, 1) := by decide +kernel
theorem dX1_dropText_42 : decode cX1_dropText 42 = .ok (.iload 4, 2) := by decide +kernel
theorem dX1_dropText_44 : decode cX1_dropText 44 = .ok (.iload_n 2, 1) := by decide +kernel
theorem dX1_dropText_45 : decode cX1_dropText 45 = .ok (.isub, 1) := by decide +kernel
theorem dX1_dropText_46 : decode cX1_dropText 46 = .ok (.bipush 16, 2) := by decide +kernel
theorem dX1_dropText_48 : decode cX1_dropText 48 = .ok (.imul, 1) := by decide +kernel
theorem dX1_dropText_49 : decode cX1_dropText 49 = .ok (.invokestatic 22, 3) := by decide +kernel
theorem dX1_dropText_52 : decode cX1_dropText 52 = .ok (.aload_n 0, 1) := by decide +kernel
theorem dX1_dropText_53 : decode cX1_dropText 53 = .ok (.getfield 9, 3) := by decide +kernel
theorem dX1_dropText_56 : decode cX1_dropText 56 = .ok (.iload_n 1, 1) := by decide +kernel
theorem dX1_dropText_57 : decode cX1_dropText 57 = .ok (.iload 4, 2) := by decide +kernel
theorem dX1_dropText_59 : decode cX1_dropText 59 = .ok (.iastore, 1) := by decide +kernel
theorem dX1_dropText_60 : decode cX1_dropText 60 = .ok (.iload 4, 2) := by decide +kernel
theorem dX1_dropText_62 : decode cX1_dropText 62 = .ok (.ireturn, 1) := by decide +kernel
set_option maxRecDepth 20000 in
theorem ggX1_changeFacts_X1_rowOf : GoodIn wsX1_changeFacts wsX1_rowOf := goodIn_r _ [7, 8, 9, 10, 11, 16, 17, 18, 19, 20, 21, 22, 23, 24, 25, 26, 27] (by decide +kernel) (by decide +kernel)
set_option maxRecDepth 20000 in
theorem gX1_changeFacts_X1_rowOf : GoodIn wsX1_changeFacts (wsV RX1 65 RX1 yX1_rowOf wsX1_rowOf) := goodIn_app (goodIn_of _ (by decide +kernel)) ggX1_changeFacts_X1_rowOf
set_option maxRecDepth 20000 in
theorem ggX1_changeFacts_X1_captionFacts : GoodIn wsX1_changeFacts wsX1_captionFacts := goodIn_r _ [15, 2, 16, 17, 18, 19, 20, 21, 22, 23, 24, 25, 26, 27] (by decide +kernel) (by decide +kernel)
set_option maxRecDepth 20000 in
theorem gX1_changeFacts_X1_captionFacts : GoodIn wsX1_changeFacts (wsV RX1 69 RX1 yX1_captionFacts wsX1_captionFacts) := goodIn_app (goodIn_of _ (by decide +kernel)) ggX1_changeFacts_X1_captionFacts
theorem dX1_changeFacts_0 : decode cX1_changeFacts 0 = .ok (.aload_n 0, 1) := by decide +kernel
theorem dX1_changeFacts_1 : decode cX1_changeFacts 1 = .ok (.iload_n 1, 1) := by decide +kernel
theorem dX1_changeFacts_2 : decode cX1_changeFacts 2 = .ok (.iload_n 2, 1) := by decide +kernel
theorem dX1_changeFacts_3 : decode cX1_changeFacts 3 = .ok (.invokevirtual 65, 3) := by decide +kernel
theorem dX1_changeFacts_6 : decode cX1_changeFacts 6 = .ok (.istore 4, 2) := by decide +kernel
theorem dX1_changeFacts_8 : decode cX1_changeFacts 8 = .ok (.iload 4, 2) := by decide +kernel
theorem dX1_changeFacts_10 : decode cX1_changeFacts 10 = .ok (.ifCond .ge 5, 3) := by decide +kernel
theorem dX1_changeFacts_13 : decode cX1_changeFacts 13 = .ok (.iconst (-1), 1) := by decide +kernel
theorem dX1_changeFacts_14 : decode cX1_changeFacts 14 = .ok (.ireturn, 1) := by decide +kernel
theorem dX1_changeFacts_15 : decode cX1_changeFacts 15 = .ok (.iload_n 3, 1) := by decide +kernel
theorem dX1_changeFacts_16 : decode cX1_changeFacts 16 = .ok (.iconst 1, 1) := by decide +kernel
theorem dX1_changeFacts_17 : decode cX1_changeFacts 17 = .ok (.if_icmp .lt 9, 3) := by decide +kernel
theorem dX1_changeFacts_20 : decode cX1_changeFacts 20 = .ok (.iload_n 3, 1) := by decide +kernel
theorem dX1_changeFacts_21 : decode cX1_changeFacts 21 = .ok (.ldc 64, 2) := by decide +kernel
theorem dX1_changeFacts_23 : decode cX1_changeFacts 23 = .ok (.if_icmp .le 6, 3) := by decide +kernel
theorem dX1_changeFacts_26 : decode cX1_changeFacts 26 = .ok (.bipush (-2), 2) := by decide +kernel
theorem dX1_changeFacts_28 : decode cX1_changeFacts 28 = .ok (.ireturn, 1) := by decide +kernel
theorem dX1_changeFacts_29 : decode cX1_changeFacts 29 = .ok (.aload_n 0, 1) := by decide +kernel
theorem dX1_changeFacts_30 : decode cX1_changeFacts 30 = .ok (.iload 4, 2) := by decide +kernel
theorem dX1_changeFacts_32 : decode cX1_changeFacts 32 = .ok (.invokevirtual 69, 3) := by decide +kernel
theorem dX1_changeFacts_35 : decode cX1_changeFacts 35 = .ok (.iload_n 3, 1) := by decide +kernel
theorem dX1_changeFacts_36 : decode cX1_changeFacts 36 = .ok (.iconst (-1), 1) := by decide +kernel
theorem dX1_changeFacts_37 : decode cX1_changeFacts 37 = .ok (.ixor, 1) := by decide +kernel
theorem dX1_changeFacts_38 : decode cX1_changeFacts 38 = .ok (.iand, 1) := by decide +kernel
theorem dX1_changeFacts_39 : decode cX1_changeFacts 39 = .ok (.ifCond .eq 6, 3) := by decide +kernel
theorem dX1_changeFacts_42 : decode cX1_changeFacts 42 = .ok (.bipush (-4), 2) := by decide +kernel
theorem dX1_changeFacts_44 : decode cX1_changeFacts 44 = .ok (.ireturn, 1) := by decide +kernel
theorem dX1_changeFacts_45 : decode cX1_changeFacts 45 = .ok (.aload_n 0, 1) := by decide +kernel
theorem dX1_changeFacts_46 : decode cX1_changeFacts 46 = .ok (.getfield 15, 3) := by decide +kernel
theorem dX1_changeFacts_49 : decode cX1_changeFacts 49 = .ok (.iload 4, 2) := by decide +kernel
theorem dX1_changeFacts_51 : decode cX1_changeFacts 51 = .ok (.iconst 3, 1) := by decide +kernel
theorem dX1_changeFacts_52 : decode cX1_changeFacts 52 = .ok (.iadd, 1) := by decide +kernel
theorem dX1_changeFacts_53 : decode cX1_changeFacts 53 = .ok (.iaload, 1) := by decide +kernel
theorem dX1_changeFacts_54 : decode cX1_changeFacts 54 = .ok (.istore 5, 2) := by decide +kernel
theorem dX1_changeFacts_56 : decode cX1_changeFacts 56 = .ok (.iload 5, 2) := by decide +kernel
theorem dX1_changeFacts_58 : decode cX1_changeFacts 58 = .ok (.iload_n 3, 1) := by decide +kernel
theorem dX1_changeFacts_59 : decode cX1_changeFacts 59 = .ok (.if_icmp .ne 6, 3) := by decide +kernel
theorem dX1_changeFacts_62 : decode cX1_changeFacts 62 = .ok (.bipush (-5), 2) := by decide +kernel
theorem dX1_changeFacts_64 : decode cX1_changeFacts 64 = .ok (.ireturn, 1) := by decide +kernel
theorem dX1_changeFacts_65 : decode cX1_changeFacts 65 = .ok (.aload_n 0, 1) := by decide +kernel
theorem dX1_changeFacts_66 : decode cX1_changeFacts 66 = .ok (.getfield 15, 3) := by decide +kernel
theorem dX1_changeFacts_69 : decode cX1_changeFacts 69 = .ok (.iload 4, 2) := by decide +kernel
theorem dX1_changeFacts_71 : decode cX1_changeFacts 71 = .ok (.iconst 3, 1) := by decide +kernel
theorem dX1_changeFacts_72 : decode cX1_changeFacts 72 = .ok (.iadd, 1) := by decide +kernel
theorem dX1_changeFacts_73 : decode cX1_changeFacts 73 = .ok (.iload_n 3, 1) := by decide +kernel
theorem dX1_changeFacts_74 : decode cX1_changeFacts 74 = .ok (.iastore, 1) := by decide +kernel
theorem dX1_changeFacts_75 : decode cX1_changeFacts 75 = .ok (.iload 5, 2) := by decide +kernel
theorem dX1_changeFacts_77 : decode cX1_changeFacts 77 = .ok (.ireturn, 1) := by decide +kernel
theorem dX1_captionFacts_0 : decode cX1_captionFacts 0 = .ok (.iconst 0, 1) := by decide +kernel
theorem dX1_captionFacts_1 : decode cX1_captionFacts 1 = .ok (.istore_n 2, 1) := by decide +kernel
theorem dX1_captionFacts_2 : decode cX1_captionFacts 2 = .ok (.iconst 0, 1) := by decide +kernel
theorem dX1_captionFacts_3 : decode cX1_captionFacts 3 = .ok (.istore_n 3, 1) := by decide +kernel
theorem dX1_captionFacts_4 : decode cX1_captionFacts 4 = .ok (.iload_n 3, 1) := by decide +kernel
theorem dX1_captionFacts_5 : decode cX1_captionFacts 5 = .ok (.aload_n 0, 1) := by decide +kernel
theorem dX1_captionFacts_6 : decode cX1_captionFacts 6 = .ok (.getfield 15, 3) := by decide +kernel
theorem dX1_captionFacts_9 : decode cX1_captionFacts 9 = .ok (.iload_n 1, 1) := by decide +kernel
theorem dX1_captionFacts_10 : decode cX1_captionFacts 10 = .ok (.iconst 5, 1) := by decide +kernel
theorem dX1_captionFacts_11 : decode cX1_captionFacts 11 = .ok (.iadd, 1) := by decide +kernel
theorem dX1_captionFacts_12 : decode cX1_captionFacts 12 = .ok (.iaload, 1) := by decide +kernel
theorem dX1_captionFacts_13 : decode cX1_captionFacts 13 = .ok (.if_icmp .ge 27, 3) := by decide +kernel
theorem dX1_captionFacts_16 : decode cX1_captionFacts 16 = .ok (.iload_n 2, 1) := by decide +kernel
theorem dX1_captionFacts_17 : decode cX1_captionFacts 17 = .ok (.aload_n 0, 1) := by decide +kernel
theorem dX1_captionFacts_18 : decode cX1_captionFacts 18 = .ok (.getfield 15, 3) := by decide +kernel
theorem dX1_captionFacts_21 : decode cX1_captionFacts 21 = .ok (.iload_n 1, 1) := by decide +kernel
theorem dX1_captionFacts_22 : decode cX1_captionFacts 22 = .ok (.bipush 7, 2) := by decide +kernel
theorem dX1_captionFacts_24 : decode cX1_captionFacts 24 = .ok (.iadd, 1) := by decide +kernel
theorem dX1_captionFacts_25 : decode cX1_captionFacts 25 = .ok (.iload_n 3, 1) := by decide +kernel
theorem dX1_captionFacts_26 : decode cX1_captionFacts 26 = .ok (.iconst 3, 1) := by decide +kernel
theorem dX1_captionFacts_27 : decode cX1_captionFacts 27 = .ok (.imul, 1) := by decide +kernel
theorem dX1_captionFacts_28 : decode cX1_captionFacts 28 = .ok (.iadd, 1) := by decide +kernel
theorem dX1_captionFacts_29 : decode cX1_captionFacts 29 = .ok (.iconst 1, 1) := by decide +kernel
theorem dX1_captionFacts_30 : decode cX1_captionFacts 30 = .ok (.iadd, 1) := by decide +kernel
theorem dX1_captionFacts_31 : decode cX1_captionFacts 31 = .ok (.iaload, 1) := by decide +kernel
theorem dX1_captionFacts_32 : decode cX1_captionFacts 32 = .ok (.ior, 1) := by decide +kernel
theorem dX1_captionFacts_33 : decode cX1_captionFacts 33 = .ok (.istore_n 2, 1) := by decide +kernel
theorem dX1_captionFacts_34 : decode cX1_captionFacts 34 = .ok (.iinc 3 1, 3) := by decide +kernel
theorem dX1_captionFacts_37 : decode cX1_captionFacts 37 = .ok (.goto (-33), 3) := by decide +kernel
theorem dX1_captionFacts_40 : decode cX1_captionFacts 40 = .ok (.iload_n 2, 1) := by decide +kernel
theorem dX1_captionFacts_41 : decode cX1_captionFacts 41 = .ok (.ireturn, 1) := by decide +kernel
set_option maxRecDepth 20000 in
theorem ggX1_putCaption_X1_rowOf : GoodIn wsX1_putCaption wsX1_rowOf := goodIn_r _ [7, 8, 9, 10, 11, 12, 13, 14, 15, 16, 17, 18, 19, 20, 21, 22, 23] (by decide +kernel) (by decide +kernel)
set_option maxRecDepth 20000 in
theorem gX1_putCaption_X1_rowOf : GoodIn wsX1_putCaption (wsV RX1 65 RX1 yX1_rowOf wsX1_rowOf) := goodIn_app (goodIn_of _ (by decide +kernel)) ggX1_putCaption_X1_rowOf
theorem dX1_putCaption_0 : decode cX1_putCaption 0 = .ok (.aload_n 0, 1) := by decide +kernel
theorem dX1_putCaption_1 : decode cX1_putCaption 1 = .ok (.iload_n 1, 1) := by decide +kernel
theorem dX1_putCaption_2 : decode cX1_putCaption 2 = .ok (.iload_n 2, 1) := by decide +kernel
theorem dX1_putCaption_3 : decode cX1_putCaption 3 = .ok (.invokevirtual 65, 3) := by decide +kernel
theorem dX1_putCaption_6 : decode cX1_putCaption 6 = .ok (.istore 5, 2) := by decide +kernel
theorem dX1_putCaption_8 : decode cX1_putCaption 8 = .ok (.iload 5, 2) := by decide +kernel
theorem dX1_putCaption_10 : decode cX1_putCaption 10 = .ok (.ifCond .ge 5, 3) := by decide +kernel
theorem dX1_putCaption_13 : decode cX1_putCaption 13 = .ok (.iconst (-1), 1) := by decide +kernel
theorem dX1_putCaption_14 : decode cX1_putCaption 14 = .ok (.ireturn, 1) := by decide +kernel
theorem dX1_putCaption_15 : decode cX1_putCaption 15 = .ok (.iload_n 3, 1) := by decide +kernel
theorem dX1_putCaption_16 : decode cX1_putCaption 16 = .ok (.iconst 1, 1) := by decide +kernel
theorem dX1_putCaption_17 : decode cX1_putCaption 17 = .ok (.if_icmp .lt 21, 3) := by decide +kernel
theorem dX1_putCaption_20 : decode cX1_putCaption 20 = .ok (.iload_n 3, 1) := by decide +kernel
theorem dX1_putCaption_21 : decode cX1_putCaption 21 = .ok (.bipush 30, 2) := by decide +kernel
theorem dX1_putCaption_23 : decode cX1_putCaption 23 = .ok (.if_icmp .gt 15, 3) := by decide +kernel
theorem dX1_putCaption_26 : decode cX1_putCaption 26 = .ok (.iload 4, 2) := by decide +kernel
theorem dX1_putCaption_28 : decode cX1_putCaption 28 = .ok (.ifCond .lt 10, 3) := by decide +kernel
theorem dX1_putCaption_31 : decode cX1_putCaption 31 = .ok (.iload 4, 2) := by decide +kernel
theorem dX1_putCaption_33 : decode cX1_putCaption 33 = .ok (.ldc 64, 2) := by decide +kernel
theorem dX1_putCaption_35 : decode cX1_putCaption 35 = .ok (.if_icmp .le 6, 3) := by decide +kernel
theorem dX1_putCaption_38 : decode cX1_putCaption 38 = .ok (.bipush (-2), 2) := by decide +kernel
theorem dX1_putCaption_40 : decode cX1_putCaption 40 = .ok (.ireturn, 1) := by decide +kernel
theorem dX1_putCaption_41 : decode cX1_putCaption 41 = .ok (.iload 4, 2) := by decide +kernel
theorem dX1_putCaption_43 : decode cX1_putCaption 43 = .ok (.aload_n 0, 1) := by decide +kernel
theorem dX1_putCaption_44 : decode cX1_putCaption 44 = .ok (.getfield 15, 3) := by decide +kernel
theorem dX1_putCaption_47 : decode cX1_putCaption 47 = .ok (.iload 5, 2) := by decide +kernel
theorem dX1_putCaption_49 : decode cX1_putCaption 49 = .ok (.iconst 3, 1) := by decide +kernel
theorem dX1_putCaption_50 : decode cX1_putCaption 50 = .ok (.iadd, 1) := by decide +kernel
theorem dX1_putCaption_51 : decode cX1_putCaption 51 = .ok (.iaload, 1) := by decide +kernel
theorem dX1_putCaption_52 : decode cX1_putCaption 52 = .ok (.iconst (-1), 1) := by decide +kernel
theorem dX1_putCaption_53 : decode cX1_putCaption 53 = .ok (.ixor, 1) := by decide +kernel
theorem dX1_putCaption_54 : decode cX1_putCaption 54 = .ok (.iand, 1) := by decide +kernel
theorem dX1_putCaption_55 : decode cX1_putCaption 55 = .ok (.ifCond .eq 6, 3) := by decide +kernel
theorem dX1_putCaption_58 : decode cX1_putCaption 58 = .ok (.bipush (-4), 2) := by decide +kernel
theorem dX1_putCaption_60 : decode cX1_putCaption 60 = .ok (.ireturn, 1) := by decide +kernel
theorem dX1_putCaption_61 : decode cX1_putCaption 61 = .ok (.aload_n 0, 1) := by decide +kernel
theorem dX1_putCaption_62 : decode cX1_putCaption 62 = .ok (.getfield 15, 3) := by decide +kernel
theorem dX1_putCaption_65 : decode cX1_putCaption 65 = .ok (.iload 5, 2) := by decide +kernel
theorem dX1_putCaption_67 : decode cX1_putCaption 67 = .ok (.iconst 5, 1) := by decide +kernel
theorem dX1_putCaption_68 : decode cX1_putCaption 68 = .ok (.iadd, 1) := by decide +kernel
theorem dX1_putCaption_69 : decode cX1_putCaption 69 = .ok (.iaload, 1) := by decide +kernel
theorem dX1_putCaption_70 : decode cX1_putCaption 70 = .ok (.istore 6, 2) := by decide +kernel
theorem dX1_putCaption_72 : decode cX1_putCaption 72 = .ok (.iload 6, 2) := by decide +kernel
theorem dX1_putCaption_74 : decode cX1_putCaption 74 = .ok (.iconst 3, 1) := by decide +kernel
theorem dX1_putCaption_75 : decode cX1_putCaption 75 = .ok (.if_icmp .lt 6, 3) := by decide +kernel
theorem dX1_putCaption_78 : decode cX1_putCaption 78 = .ok (.bipush (-3), 2) := by decide +kernel
theorem dX1_putCaption_80 : decode cX1_putCaption 80 = .ok (.ireturn, 1) := by decide +kernel
theorem dX1_putCaption_81 : decode cX1_putCaption 81 = .ok (.iload 5, 2) := by decide +kernel
theorem dX1_putCaption_83 : decode cX1_putCaption 83 = .ok (.bipush 7, 2) := by decide +kernel
theorem dX1_putCaption_85 : decode cX1_putCaption 85 = .ok (.iadd, 1) := by decide +kernel
theorem dX1_putCaption_86 : decode cX1_putCaption 86 = .ok (.iload 6, 2) := by decide +kernel
theorem dX1_putCaption_88 : decode cX1_putCaption 88 = .ok (.iconst 3, 1) := by decide +kernel
theorem dX1_putCaption_89 : decode cX1_putCaption 89 = .ok (.imul, 1) := by decide +kernel
theorem dX1_putCaption_90 : decode cX1_putCaption 90 = .ok (.iadd, 1) := by decide +kernel
theorem dX1_putCaption_91 : decode cX1_putCaption 91 = .ok (.istore 7, 2) := by decide +kernel
theorem dX1_putCaption_93 : decode cX1_putCaption 93 = .ok (.aload_n 0, 1) := by decide +kernel
theorem dX1_putCaption_94 : decode cX1_putCaption 94 = .ok (.getfield 15, 3) := by decide +kernel
theorem dX1_putCaption_97 : decode cX1_putCaption 97 = .ok (.iload 7, 2) := by decide +kernel
theorem dX1_putCaption_99 : decode cX1_putCaption 99 = .ok (.iconst 0, 1) := by decide +kernel
theorem dX1_putCaption_100 : decode cX1_putCaption 100 = .ok (.iadd, 1) := by decide +kernel
theorem dX1_putCaption_101 : decode cX1_putCaption 101 = .ok (.iload_n 3, 1) := by decide +kernel
theorem dX1_putCaption_102 : decode cX1_putCaption 102 = .ok (.iastore, 1) := by decide +kernel
theorem dX1_putCaption_103 : decode cX1_putCaption 103 = .ok (.aload_n 0, 1) := by decide +kernel
theorem dX1_putCaption_104 : decode cX1_putCaption 104 = .ok (.getfield 15, 3) := by decide +kernel
theorem dX1_putCaption_107 : decode cX1_putCaption 107 = .ok (.iload 7, 2) := by decide +kernel
theorem dX1_putCaption_109 : decode cX1_putCaption 109 = .ok (.iconst 1, 1) := by decide +kernel
theorem dX1_putCaption_110 : decode cX1_putCaption 110 = .ok (.iadd, 1) := by decide +kernel
theorem dX1_putCaption_111 : decode cX1_putCaption 111 = .ok (.iload 4, 2) := by decide +kernel
theorem dX1_putCaption_113 : decode cX1_putCaption 113 = .ok (.iastore, 1) := by decide +kernel
theorem dX1_putCaption_114 : decode cX1_putCaption 114 = .ok (.aload_n 0, 1) := by decide +kernel
theorem dX1_putCaption_115 : decode cX1_putCaption 115 = .ok (.getfield 15, 3) := by decide +kernel
theorem dX1_putCaption_118 : decode cX1_putCaption 118 = .ok (.iload 7, 2) := by decide +kernel
theorem dX1_putCaption_120 : decode cX1_putCaption 120 = .ok (.iconst 2, 1) := by decide +kernel
theorem dX1_putCaption_121 : decode cX1_putCaption 121 = .ok (.iadd, 1) := by decide +kernel
theorem dX1_putCaption_122 : decode cX1_putCaption 122 = .ok (.iconst 0, 1) := by decide +kernel
theorem dX1_putCaption_123 : decode cX1_putCaption 123 = .ok (.iastore, 1) := by decide +kernel
theorem dX1_putCaption_124 : decode cX1_putCaption 124 = .ok (.aload_n 0, 1) := by decide +kernel
theorem dX1_putCaption_125 : decode cX1_putCaption 125 = .ok (.getfield 15, 3) := by decide +kernel
theorem dX1_putCaption_128 : decode cX1_putCaption 128 = .ok (.iload 5, 2) := by decide +kernel
theorem dX1_putCaption_130 : decode cX1_putCaption 130 = .ok (.iconst 5, 1) := by decide +kernel
theorem dX1_putCaption_131 : decode cX1_putCaption 131 = .ok (.iadd, 1) := by decide +kernel
theorem dX1_putCaption_132 : decode cX1_putCaption 132 = .ok (.iload 6, 2) := by decide +kernel
theorem dX1_putCaption_134 : decode cX1_putCaption 134 = .ok (.iconst 1, 1) := by decide +kernel
theorem dX1_putCaption_135 : decode cX1_putCaption 135 = .ok (.iadd, 1) := by decide +kernel
theorem dX1_putCaption_136 : decode cX1_putCaption 136 = .ok (.iastore, 1) := by decide +kernel
theorem dX1_putCaption_137 : decode cX1_putCaption 137 = .ok (.iload 6, 2) := by decide +kernel
theorem dX1_putCaption_139 : decode cX1_putCaption 139 = .ok (.ireturn, 1) := by decide +kernel
set_option maxRecDepth 20000 in
theorem ggX1_admit_X2_isAge : GoodIn wsX1_admit wsX2_isAge := goodIn_r _ [10] (by decide +kernel) (by decide +kernel)
set_option maxRecDepth 20000 in
theorem gX1_admit_X2_isAge_n73 : GoodIn wsX1_admit (wsX2_isAge) := ggX1_admit_X2_isAge
set_option maxRecDepth 20000 in
theorem ggX1_admit_X1_textFor : GoodIn wsX1_admit wsX1_textFor := goodIn_r _ [15, 16, 17, 9, 18, 19, 20, 21, 14, 22, 23, 24, 25, 26, 27, 28, 29, 30, 31, 32, 33, 34, 35] (by decide +kernel) (by decide +kernel)
set_option maxRecDepth 20000 in
theorem gX1_admit_X1_textFor : GoodIn wsX1_admit (wsV RX1 76 RX1 yX1_textFor wsX1_textFor) := goodIn_app (goodIn_of _ (by decide +kernel)) ggX1_admit_X1_textFor
theorem dX1_admit_0 : decode cX1_admit 0 = .ok (.iload_n 1, 1) := by decide +kernel
theorem dX1_admit_1 : decode cX1_admit 1 = .ok (.invokestatic 73, 3) := by decide +kernel
theorem dX1_admit_4 : decode cX1_admit 4 = .ok (.ifCond .eq 28, 3) := by decide +kernel
theorem dX1_admit_7 : decode cX1_admit 7 = .ok (.iload_n 2, 1) := by decide +kernel
theorem dX1_admit_8 : decode cX1_admit 8 = .ok (.bipush 30, 2) := by decide +kernel
theorem dX1_admit_10 : decode cX1_admit 10 = .ok (.if_icmp .lt 22, 3) := by decide +kernel
theorem dX1_admit_13 : decode cX1_admit 13 = .ok (.iload_n 2, 1) := by decide +kernel
theorem dX1_admit_14 : decode cX1_admit 14 = .ok (.sipush 400, 3) := by decide +kernel
theorem dX1_admit_17 : decode cX1_admit 17 = .ok (.if_icmp .gt 15, 3) := by decide +kernel
theorem dX1_admit_20 : decode cX1_admit 20 = .ok (.iload_n 3, 1) := by decide +kernel
theorem dX1_admit_21 : decode cX1_admit 21 = .ok (.iconst 1, 1) := by decide +kernel
theorem dX1_admit_22 : decode cX1_admit 22 = .ok (.if_icmp .lt 10, 3) := by decide +kernel
theorem dX1_admit_25 : decode cX1_admit 25 = .ok (.iload_n 3, 1) := by decide +kernel
theorem dX1_admit_26 : decode cX1_admit 26 = .ok (.sipush 9999, 3) := by decide +kernel
theorem dX1_admit_29 : decode cX1_admit 29 = .ok (.if_icmp .le 6, 3) := by decide +kernel
theorem dX1_admit_32 : decode cX1_admit 32 = .ok (.bipush (-2), 2) := by decide +kernel
theorem dX1_admit_34 : decode cX1_admit 34 = .ok (.ireturn, 1) := by decide +kernel
theorem dX1_admit_35 : decode cX1_admit 35 = .ok (.aload_n 0, 1) := by decide +kernel
theorem dX1_admit_36 : decode cX1_admit 36 = .ok (.iconst 1, 1) := by decide +kernel
theorem dX1_admit_37 : decode cX1_admit 37 = .ok (.putfield 40, 3) := by decide +kernel
theorem dX1_admit_40 : decode cX1_admit 40 = .ok (.aload_n 0, 1) := by decide +kernel
theorem dX1_admit_41 : decode cX1_admit 41 = .ok (.iload_n 1, 1) := by decide +kernel
theorem dX1_admit_42 : decode cX1_admit 42 = .ok (.putfield 44, 3) := by decide +kernel
theorem dX1_admit_45 : decode cX1_admit 45 = .ok (.aload_n 0, 1) := by decide +kernel
theorem dX1_admit_46 : decode cX1_admit 46 = .ok (.iload_n 2, 1) := by decide +kernel
theorem dX1_admit_47 : decode cX1_admit 47 = .ok (.putfield 47, 3) := by decide +kernel
theorem dX1_admit_50 : decode cX1_admit 50 = .ok (.aload_n 0, 1) := by decide +kernel
theorem dX1_admit_51 : decode cX1_admit 51 = .ok (.iload_n 3, 1) := by decide +kernel
theorem dX1_admit_52 : decode cX1_admit 52 = .ok (.putfield 50, 3) := by decide +kernel
theorem dX1_admit_55 : decode cX1_admit 55 = .ok (.aload_n 0, 1) := by decide +kernel
theorem dX1_admit_56 : decode cX1_admit 56 = .ok (.iconst 0, 1) := by decide +kernel
theorem dX1_admit_57 : decode cX1_admit 57 = .ok (.putfield 53, 3) := by decide +kernel
theorem dX1_admit_60 : decode cX1_admit 60 = .ok (.aload_n 0, 1) := by decide +kernel
theorem dX1_admit_61 : decode cX1_admit 61 = .ok (.dup, 1) := by decide +kernel
theorem dX1_admit_62 : decode cX1_admit 62 = .ok (.getfield 31, 3) := by decide +kernel
theorem dX1_admit_65 : decode cX1_admit 65 = .ok (.iconst 1, 1) := by decide +kernel
theorem dX1_admit_66 : decode cX1_admit 66 = .ok (.iadd, 1) := by decide +kernel
theorem dX1_admit_67 : decode cX1_admit 67 = .ok (.putfield 31, 3) := by decide +kernel
theorem dX1_admit_70 : decode cX1_admit 70 = .ok (.aload_n 0, 1) := by decide +kernel
theorem dX1_admit_71 : decode cX1_admit 71 = .ok (.aload_n 0, 1) := by decide +kernel
theorem dX1_admit_72 : decode cX1_admit 72 = .ok (.getfield 28, 3) := by decide +kernel
theorem dX1_admit_75 : decode cX1_admit 75 = .ok (.aload_n 0, 1) := by decide +kernel
theorem dX1_admit_76 : decode cX1_admit 76 = .ok (.getfield 44, 3) := by decide +kernel
theorem dX1_admit_79 : decode cX1_admit 79 = .ok (.invokevirtual 76, 3) := by decide +kernel
theorem dX1_admit_82 : decode cX1_admit 82 = .ok (.istore 4, 2) := by decide +kernel
theorem dX1_admit_84 : decode cX1_admit 84 = .ok (.iload 4, 2) := by decide +kernel
theorem dX1_admit_86 : decode cX1_admit 86 = .ok (.bipush (-5), 2) := by decide +kernel
theorem dX1_admit_88 : decode cX1_admit 88 = .ok (.if_icmp .ne 8, 3) := by decide +kernel
theorem dX1_admit_91 : decode cX1_admit 91 = .ok (.bipush 9, 2) := by decide +kernel
theorem dX1_admit_93 : decode cX1_admit 93 = .ok (.goto 5, 3) := by decide +kernel
theorem dX1_admit_96 : decode cX1_admit 96 = .ok (.iload 4, 2) := by decide +kernel
theorem dX1_admit_98 : decode cX1_admit 98 = .ok (.ireturn, 1) := by decide +kernel
set_option maxRecDepth 20000 in
theorem ggX1_touchCaption_X1_shownRow : GoodIn wsX1_touchCaption wsX1_shownRow := goodIn_r _ [9, 10, 11, 12, 13, 14, 15, 8, 16, 17, 18, 19, 20, 21, 22, 23, 24, 1, 25, 26, 27, 28, 54, 55, 56, 57, 58, 59, 60, 61, 62, 63, 64, 65] (by decide +kernel) (by decide +kernel)
set_option maxRecDepth 20000 in
theorem gX1_touchCaption_X1_shownRow : GoodIn wsX1_touchCaption (wsV RX1 79 RX1 yX1_shownRow wsX1_shownRow) := goodIn_app (goodIn_of _ (by decide +kernel)) ggX1_touchCaption_X1_shownRow
set_option maxRecDepth 20000 in
theorem ggX1_touchCaption_X1_captionOf : GoodIn wsX1_touchCaption wsX1_captionOf := goodIn_r _ [32, 1, 54, 55, 56, 57, 58, 59, 60, 61, 62, 63, 64, 65] (by decide +kernel) (by decide +kernel)
set_option maxRecDepth 20000 in
theorem gX1_touchCaption_X1_captionOf : GoodIn wsX1_touchCaption (wsV RX1 83 RX1 yX1_captionOf wsX1_captionOf) := goodIn_app (goodIn_of _ (by decide +kernel)) ggX1_touchCaption_X1_captionOf
set_option maxRecDepth 20000 in
theorem ggX1_touchCaption_X1_timeFor : GoodIn wsX1_touchCaption wsX1_timeFor := goodIn_r _ [36, 37, 38, 39, 40, 41, 54, 55, 56, 57, 58, 59, 60, 61, 62, 63, 64, 65] (by decide +kernel) (by decide +kernel)
set_option maxRecDepth 20000 in
theorem gX1_touchCaption_X1_timeFor : GoodIn wsX1_touchCaption (wsV RX1 86 RX1 yX1_timeFor wsX1_timeFor) := goodIn_app (goodIn_of _ (by decide +kernel)) ggX1_touchCaption_X1_timeFor
set_option maxRecDepth 20000 in
theorem ggX1_touchCaption_X1_readShown : GoodIn wsX1_touchCaption wsX1_readShown := goodIn_r _ [45, 1, 2, 3, 46, 5, 6, 7, 8, 9, 10, 11, 12, 13, 14, 15, 16, 17, 18, 19, 20, 21, 22, 23, 24, 25, 26, 27, 28, 33, 34, 35, 36, 37, 38, 39, 40, 41, 54, 55, 56, 57, 58, 59, 60, 61, 62, 63, 64, 65] (by decide +kernel) (by decide +kernel)
set_option maxRecDepth 20000 in
theorem gX1_touchCaption_X1_readShown : GoodIn wsX1_touchCaption (wsV RX1 89 RX1 yX1_readShown wsX1_readShown) := goodIn_app (goodIn_of _ (by decide +kernel)) ggX1_touchCaption_X1_readShown
set_option maxRecDepth 20000 in
theorem ggX1_touchCaption_J6_bitCount_0f7a4 : GoodIn wsX1_touchCaption wsJ6_bitCount_0f7a4 := goodIn_r _ [50, 51, 52, 53] (by decide +kernel) (by decide +kernel)
set_option maxRecDepth 20000 in
theorem gX1_touchCaption_J6_bitCount_0f7a4 : GoodIn wsX1_touchCaption (va_wsS RX1 93 yJ6_bitCount_0f7a4 wsJ6_bitCount_0f7a4) := goodIn_app (goodIn_of _ (by decide +kernel)) ggX1_touchCaption_J6_bitCount_0f7a4
theorem dX1_touchCaption_0 : decode cX1_touchCaption 0 = .ok (.aload_n 0, 1) := by decide +kernel
theorem dX1_touchCaption_1 : decode cX1_touchCaption 1 = .ok (.invokevirtual 79, 3) := by decide +kernel
theorem dX1_touchCaption_4 : decode cX1_touchCaption 4 = .ok (.istore_n 2, 1) := by decide +kernel
theorem dX1_touchCaption_5 : decode cX1_touchCaption 5 = .ok (.iload_n 2, 1) := by decide +kernel
theorem dX1_touchCaption_6 : decode cX1_touchCaption 6 = .ok (.ifCond .ge 6, 3) := by decide +kernel
theorem dX1_touchCaption_9 : decode cX1_touchCaption 9 = .ok (.bipush (-4), 2) := by decide +kernel
theorem dX1_touchCaption_11 : decode cX1_touchCaption 11 = .ok (.ireturn, 1) := by decide +kernel
theorem dX1_touchCaption_12 : decode cX1_touchCaption 12 = .ok (.aload_n 0, 1) := by decide +kernel
theorem dX1_touchCaption_13 : decode cX1_touchCaption 13 = .ok (.iload_n 2, 1) := by decide +kernel
theorem dX1_touchCaption_14 : decode cX1_touchCaption 14 = .ok (.iload_n 1, 1) := by decide +kernel
theorem dX1_touchCaption_15 : decode cX1_touchCaption 15 = .ok (.invokevirtual 83, 3) := by decide +kernel
theorem dX1_touchCaption_18 : decode cX1_touchCaption 18 = .ok (.istore_n 3, 1) := by decide +kernel
theorem dX1_touchCaption_19 : decode cX1_touchCaption 19 = .ok (.iload_n 3, 1) := by decide +kernel
theorem dX1_touchCaption_20 : decode cX1_touchCaption 20 = .ok (.ifCond .ge 5, 3) := by decide +kernel
theorem dX1_touchCaption_23 : decode cX1_touchCaption 23 = .ok (.iconst (-1), 1) := by decide +kernel
theorem dX1_touchCaption_24 : decode cX1_touchCaption 24 = .ok (.ireturn, 1) := by decide +kernel
theorem dX1_touchCaption_25 : decode cX1_touchCaption 25 = .ok (.aload_n 0, 1) := by decide +kernel
theorem dX1_touchCaption_26 : decode cX1_touchCaption 26 = .ok (.aload_n 0, 1) := by decide +kernel
theorem dX1_touchCaption_27 : decode cX1_touchCaption 27 = .ok (.getfield 15, 3) := by decide +kernel
theorem dX1_touchCaption_30 : decode cX1_touchCaption 30 = .ok (.iload_n 3, 1) := by decide +kernel
theorem dX1_touchCaption_31 : decode cX1_touchCaption 31 = .ok (.iconst 0, 1) := by decide +kernel
theorem dX1_touchCaption_32 : decode cX1_touchCaption 32 = .ok (.iadd, 1) := by decide +kernel
theorem dX1_touchCaption_33 : decode cX1_touchCaption 33 = .ok (.iaload, 1) := by decide +kernel
theorem dX1_touchCaption_34 : decode cX1_touchCaption 34 = .ok (.invokevirtual 86, 3) := by decide +kernel
theorem dX1_touchCaption_37 : decode cX1_touchCaption 37 = .ok (.istore 4, 2) := by decide +kernel
theorem dX1_touchCaption_39 : decode cX1_touchCaption 39 = .ok (.iload 4, 2) := by decide +kernel
theorem dX1_touchCaption_41 : decode cX1_touchCaption 41 = .ok (.aload_n 0, 1) := by decide +kernel
theorem dX1_touchCaption_42 : decode cX1_touchCaption 42 = .ok (.getfield 50, 3) := by decide +kernel
theorem dX1_touchCaption_45 : decode cX1_touchCaption 45 = .ok (.if_icmp .le 6, 3) := by decide +kernel
theorem dX1_touchCaption_48 : decode cX1_touchCaption 48 = .ok (.bipush (-5), 2) := by decide +kernel
theorem dX1_touchCaption_50 : decode cX1_touchCaption 50 = .ok (.ireturn, 1) := by decide +kernel
theorem dX1_touchCaption_51 : decode cX1_touchCaption 51 = .ok (.aload_n 0, 1) := by decide +kernel
theorem dX1_touchCaption_52 : decode cX1_touchCaption 52 = .ok (.getfield 53, 3) := by decide +kernel
theorem dX1_touchCaption_55 : decode cX1_touchCaption 55 = .ok (.istore 5, 2) := by decide +kernel
theorem dX1_touchCaption_57 : decode cX1_touchCaption 57 = .ok (.aload_n 0, 1) := by decide +kernel
theorem dX1_touchCaption_58 : decode cX1_touchCaption 58 = .ok (.dup, 1) := by decide +kernel
theorem dX1_touchCaption_59 : decode cX1_touchCaption 59 = .ok (.getfield 50, 3) := by decide +kernel
theorem dX1_touchCaption_62 : decode cX1_touchCaption 62 = .ok (.iload 4, 2) := by decide +kernel
theorem dX1_touchCaption_64 : decode cX1_touchCaption 64 = .ok (.isub, 1) := by decide +kernel
theorem dX1_touchCaption_65 : decode cX1_touchCaption 65 = .ok (.putfield 50, 3) := by decide +kernel
theorem dX1_touchCaption_68 : decode cX1_touchCaption 68 = .ok (.aload_n 0, 1) := by decide +kernel
theorem dX1_touchCaption_69 : decode cX1_touchCaption 69 = .ok (.dup, 1) := by decide +kernel
theorem dX1_touchCaption_70 : decode cX1_touchCaption 70 = .ok (.getfield 53, 3) := by decide +kernel
theorem dX1_touchCaption_73 : decode cX1_touchCaption 73 = .ok (.aload_n 0, 1) := by decide +kernel
theorem dX1_touchCaption_74 : decode cX1_touchCaption 74 = .ok (.getfield 15, 3) := by decide +kernel
theorem dX1_touchCaption_77 : decode cX1_touchCaption 77 = .ok (.iload_n 3, 1) := by decide +kernel
theorem dX1_touchCaption_78 : decode cX1_touchCaption 78 = .ok (.iconst 1, 1) := by decide +kernel
theorem dX1_touchCaption_79 : decode cX1_touchCaption 79 = .ok (.iadd, 1) := by decide +kernel
theorem dX1_touchCaption_80 : decode cX1_touchCaption 80 = .ok (.iaload, 1) := by decide +kernel
theorem dX1_touchCaption_81 : decode cX1_touchCaption 81 = .ok (.ior, 1) := by decide +kernel
theorem dX1_touchCaption_82 : decode cX1_touchCaption 82 = .ok (.putfield 53, 3) := by decide +kernel
theorem dX1_touchCaption_85 : decode cX1_touchCaption 85 = .ok (.aload_n 0, 1) := by decide +kernel
theorem dX1_touchCaption_86 : decode cX1_touchCaption 86 = .ok (.getfield 15, 3) := by decide +kernel
theorem dX1_touchCaption_89 : decode cX1_touchCaption 89 = .ok (.iload_n 3, 1) := by decide +kernel
theorem dX1_touchCaption_90 : decode cX1_touchCaption 90 = .ok (.iconst 2, 1) := by decide +kernel
theorem dX1_touchCaption_91 : decode cX1_touchCaption 91 = .ok (.iadd, 1) := by decide +kernel
theorem dX1_touchCaption_92 : decode cX1_touchCaption 92 = .ok (.dup2, 1) := by decide +kernel
theorem dX1_touchCaption_93 : decode cX1_touchCaption 93 = .ok (.iaload, 1) := by decide +kernel
theorem dX1_touchCaption_94 : decode cX1_touchCaption 94 = .ok (.iconst 1, 1) := by decide +kernel
theorem dX1_touchCaption_95 : decode cX1_touchCaption 95 = .ok (.iadd, 1) := by decide +kernel
theorem dX1_touchCaption_96 : decode cX1_touchCaption 96 = .ok (.iastore, 1) := by decide +kernel
theorem dX1_touchCaption_97 : decode cX1_touchCaption 97 = .ok (.aload_n 0, 1) := by decide +kernel
theorem dX1_touchCaption_98 : decode cX1_touchCaption 98 = .ok (.dup, 1) := by decide +kernel
theorem dX1_touchCaption_99 : decode cX1_touchCaption 99 = .ok (.getfield 37, 3) := by decide +kernel
theorem dX1_touchCaption_102 : decode cX1_touchCaption 102 = .ok (.iconst 1, 1) := by decide +kernel
theorem dX1_touchCaption_103 : decode cX1_touchCaption 103 = .ok (.iadd, 1) := by decide +kernel
theorem dX1_touchCaption_104 : decode cX1_touchCaption 104 = .ok (.putfield 37, 3) := by decide +kernel
theorem dX1_touchCaption_107 : decode cX1_touchCaption 107 = .ok (.aload_n 0, 1) := by decide +kernel
theorem dX1_touchCaption_108 : decode cX1_touchCaption 108 = .ok (.invokevirtual 89, 3) := by decide +kernel
theorem dX1_touchCaption_111 : decode cX1_touchCaption 111 = .ok (.pop, 1) := by decide +kernel
theorem dX1_touchCaption_112 : decode cX1_touchCaption 112 = .ok (.aload_n 0, 1) := by decide +kernel
theorem dX1_touchCaption_113 : decode cX1_touchCaption 113 = .ok (.getfield 53, 3) := by decide +kernel
theorem dX1_touchCaption_116 : decode cX1_touchCaption 116 = .ok (.iload 5, 2) := by decide +kernel
theorem dX1_touchCaption_118 : decode cX1_touchCaption 118 = .ok (.iconst (-1), 1) := by decide +kernel
theorem dX1_touchCaption_119 : decode cX1_touchCaption 119 = .ok (.ixor, 1) := by decide +kernel
theorem dX1_touchCaption_120 : decode cX1_touchCaption 120 = .ok (.iand, 1) := by decide +kernel
theorem dX1_touchCaption_121 : decode cX1_touchCaption 121 = .ok (.invokestatic 93, 3) := by decide +kernel
theorem dX1_touchCaption_124 : decode cX1_touchCaption 124 = .ok (.ireturn, 1) := by decide +kernel
set_option maxRecDepth 20000 in
theorem ggX1_readUntouched_X1_shownRow : GoodIn wsX1_readUntouched wsX1_shownRow := goodIn_r _ [7, 8, 9, 10, 11, 12, 13, 6, 14, 15, 16, 17, 18, 19, 20, 21, 22, 1, 23, 24, 25, 26, 49, 50, 51, 52, 53, 54, 55, 56, 57, 58, 59, 60] (by decide +kernel) (by decide +kernel)
set_option maxRecDepth 20000 in
theorem gX1_readUntouched_X1_shownRow : GoodIn wsX1_readUntouched (wsV RX1 79 RX1 yX1_shownRow wsX1_shownRow) := goodIn_app (goodIn_of _ (by decide +kernel)) ggX1_readUntouched_X1_shownRow
set_option maxRecDepth 20000 in
theorem ggX1_readUntouched_X1_readShown : GoodIn wsX1_readUntouched wsX1_readShown := goodIn_r _ [30, 1, 31, 2, 32, 3, 4, 5, 6, 7, 8, 9, 10, 11, 12, 13, 14, 15, 16, 17, 18, 19, 20, 21, 22, 23, 24, 25, 26, 33, 34, 35, 36, 37, 38, 39, 40, 41, 49, 50, 51, 52, 53, 54, 55, 56, 57, 58, 59, 60] (by decide +kernel) (by decide +kernel)
set_option maxRecDepth 20000 in
theorem gX1_readUntouched_X1_readShown : GoodIn wsX1_readUntouched (wsV RX1 89 RX1 yX1_readShown wsX1_readShown) := goodIn_app (goodIn_of _ (by decide +kernel)) ggX1_readUntouched_X1_readShown
set_option maxRecDepth 20000 in
theorem ggX1_readUntouched_J6_bitCount_0f7a4 : GoodIn wsX1_readUntouched wsJ6_bitCount_0f7a4 := goodIn_r _ [45, 46, 47, 48] (by decide +kernel) (by decide +kernel)
set_option maxRecDepth 20000 in
theorem gX1_readUntouched_J6_bitCount_0f7a4 : GoodIn wsX1_readUntouched (va_wsS RX1 93 yJ6_bitCount_0f7a4 wsJ6_bitCount_0f7a4) := goodIn_app (goodIn_of _ (by decide +kernel)) ggX1_readUntouched_J6_bitCount_0f7a4
theorem dX1_readUntouched_0 : decode cX1_readUntouched 0 = .ok (.aload_n 0, 1) := by decide +kernel
theorem dX1_readUntouched_1 : decode cX1_readUntouched 1 = .ok (.invokevirtual 79, 3) := by decide +kernel
theorem dX1_readUntouched_4 : decode cX1_readUntouched 4 = .ok (.istore_n 1, 1) := by decide +kernel
theorem dX1_readUntouched_5 : decode cX1_readUntouched 5 = .ok (.iload_n 1, 1) := by decide +kernel
theorem dX1_readUntouched_6 : decode cX1_readUntouched 6 = .ok (.ifCond .lt 14, 3) := by decide +kernel
theorem dX1_readUntouched_9 : decode cX1_readUntouched 9 = .ok (.aload_n 0, 1) := by decide +kernel
theorem dX1_readUntouched_10 : decode cX1_readUntouched 10 = .ok (.getfield 15, 3) := by decide +kernel
theorem dX1_readUntouched_13 : decode cX1_readUntouched 13 = .ok (.iload_n 1, 1) := by decide +kernel
theorem dX1_readUntouched_14 : decode cX1_readUntouched 14 = .ok (.iconst 5, 1) := by decide +kernel
theorem dX1_readUntouched_15 : decode cX1_readUntouched 15 = .ok (.iadd, 1) := by decide +kernel
theorem dX1_readUntouched_16 : decode cX1_readUntouched 16 = .ok (.iaload, 1) := by decide +kernel
theorem dX1_readUntouched_17 : decode cX1_readUntouched 17 = .ok (.ifCond .le 6, 3) := by decide +kernel
theorem dX1_readUntouched_20 : decode cX1_readUntouched 20 = .ok (.bipush (-4), 2) := by decide +kernel
theorem dX1_readUntouched_22 : decode cX1_readUntouched 22 = .ok (.ireturn, 1) := by decide +kernel
theorem dX1_readUntouched_23 : decode cX1_readUntouched 23 = .ok (.aload_n 0, 1) := by decide +kernel
theorem dX1_readUntouched_24 : decode cX1_readUntouched 24 = .ok (.getfield 53, 3) := by decide +kernel
theorem dX1_readUntouched_27 : decode cX1_readUntouched 27 = .ok (.istore_n 2, 1) := by decide +kernel
theorem dX1_readUntouched_28 : decode cX1_readUntouched 28 = .ok (.aload_n 0, 1) := by decide +kernel
theorem dX1_readUntouched_29 : decode cX1_readUntouched 29 = .ok (.invokevirtual 89, 3) := by decide +kernel
theorem dX1_readUntouched_32 : decode cX1_readUntouched 32 = .ok (.ifCond .ne 6, 3) := by decide +kernel
theorem dX1_readUntouched_35 : decode cX1_readUntouched 35 = .ok (.bipush (-5), 2) := by decide +kernel
theorem dX1_readUntouched_37 : decode cX1_readUntouched 37 = .ok (.ireturn, 1) := by decide +kernel
theorem dX1_readUntouched_38 : decode cX1_readUntouched 38 = .ok (.aload_n 0, 1) := by decide +kernel
theorem dX1_readUntouched_39 : decode cX1_readUntouched 39 = .ok (.getfield 53, 3) := by decide +kernel
theorem dX1_readUntouched_42 : decode cX1_readUntouched 42 = .ok (.iload_n 2, 1) := by decide +kernel
theorem dX1_readUntouched_43 : decode cX1_readUntouched 43 = .ok (.iconst (-1), 1) := by decide +kernel
theorem dX1_readUntouched_44 : decode cX1_readUntouched 44 = .ok (.ixor, 1) := by decide +kernel
theorem dX1_readUntouched_45 : decode cX1_readUntouched 45 = .ok (.iand, 1) := by decide +kernel
theorem dX1_readUntouched_46 : decode cX1_readUntouched 46 = .ok (.invokestatic 93, 3) := by decide +kernel
theorem dX1_readUntouched_49 : decode cX1_readUntouched 49 = .ok (.ireturn, 1) := by decide +kernel
set_option maxRecDepth 20000 in
theorem ggX1_readShown_X1_shownRow : GoodIn wsX1_readShown wsX1_shownRow := goodIn_r _ [9, 10, 11, 12, 13, 14, 15, 8, 16, 17, 18, 19, 20, 21, 22, 23, 24, 1, 25, 26, 27, 28, 38, 39, 40, 41, 42, 43, 44, 45, 46, 47, 48, 49] (by decide +kernel) (by decide +kernel)
set_option maxRecDepth 20000 in
theorem gX1_readShown_X1_shownRow : GoodIn wsX1_readShown (wsV RX1 79 RX1 yX1_shownRow wsX1_shownRow) := goodIn_app (goodIn_of _ (by decide +kernel)) ggX1_readShown_X1_shownRow
set_option maxRecDepth 20000 in
theorem ggX1_readShown_X1_timeFor : GoodIn wsX1_readShown wsX1_timeFor := goodIn_r _ [32, 33, 34, 35, 36, 37, 38, 39, 40, 41, 42, 43, 44, 45, 46, 47, 48, 49] (by decide +kernel) (by decide +kernel)
set_option maxRecDepth 20000 in
theorem gX1_readShown_X1_timeFor : GoodIn wsX1_readShown (wsV RX1 86 RX1 yX1_timeFor wsX1_timeFor) := goodIn_app (goodIn_of _ (by decide +kernel)) ggX1_readShown_X1_timeFor
theorem dX1_readShown_0 : decode cX1_readShown 0 = .ok (.aload_n 0, 1) := by decide +kernel
theorem dX1_readShown_1 : decode cX1_readShown 1 = .ok (.invokevirtual 79, 3) := by decide +kernel
theorem dX1_readShown_4 : decode cX1_readShown 4 = .ok (.istore_n 1, 1) := by decide +kernel
theorem dX1_readShown_5 : decode cX1_readShown 5 = .ok (.iload_n 1, 1) := by decide +kernel
theorem dX1_readShown_6 : decode cX1_readShown 6 = .ok (.ifCond .ge 5, 3) := by decide +kernel
theorem dX1_readShown_9 : decode cX1_readShown 9 = .ok (.iconst 0, 1) := by decide +kernel
theorem dX1_readShown_10 : decode cX1_readShown 10 = .ok (.ireturn, 1) := by decide +kernel
theorem dX1_readShown_11 : decode cX1_readShown 11 = .ok (.aload_n 0, 1) := by decide +kernel
theorem dX1_readShown_12 : decode cX1_readShown 12 = .ok (.aload_n 0, 1) := by decide +kernel
theorem dX1_readShown_13 : decode cX1_readShown 13 = .ok (.getfield 15, 3) := by decide +kernel
theorem dX1_readShown_16 : decode cX1_readShown 16 = .ok (.iload_n 1, 1) := by decide +kernel
theorem dX1_readShown_17 : decode cX1_readShown 17 = .ok (.iconst 0, 1) := by decide +kernel
theorem dX1_readShown_18 : decode cX1_readShown 18 = .ok (.iadd, 1) := by decide +kernel
theorem dX1_readShown_19 : decode cX1_readShown 19 = .ok (.iaload, 1) := by decide +kernel
theorem dX1_readShown_20 : decode cX1_readShown 20 = .ok (.invokevirtual 86, 3) := by decide +kernel
theorem dX1_readShown_23 : decode cX1_readShown 23 = .ok (.istore_n 2, 1) := by decide +kernel
theorem dX1_readShown_24 : decode cX1_readShown 24 = .ok (.iload_n 2, 1) := by decide +kernel
theorem dX1_readShown_25 : decode cX1_readShown 25 = .ok (.aload_n 0, 1) := by decide +kernel
theorem dX1_readShown_26 : decode cX1_readShown 26 = .ok (.getfield 50, 3) := by decide +kernel
theorem dX1_readShown_29 : decode cX1_readShown 29 = .ok (.if_icmp .gt 21, 3) := by decide +kernel
theorem dX1_readShown_32 : decode cX1_readShown 32 = .ok (.aload_n 0, 1) := by decide +kernel
theorem dX1_readShown_33 : decode cX1_readShown 33 = .ok (.getfield 15, 3) := by decide +kernel
theorem dX1_readShown_36 : decode cX1_readShown 36 = .ok (.iload_n 1, 1) := by decide +kernel
theorem dX1_readShown_37 : decode cX1_readShown 37 = .ok (.iconst 3, 1) := by decide +kernel
theorem dX1_readShown_38 : decode cX1_readShown 38 = .ok (.iadd, 1) := by decide +kernel
theorem dX1_readShown_39 : decode cX1_readShown 39 = .ok (.iaload, 1) := by decide +kernel
theorem dX1_readShown_40 : decode cX1_readShown 40 = .ok (.aload_n 0, 1) := by decide +kernel
theorem dX1_readShown_41 : decode cX1_readShown 41 = .ok (.getfield 53, 3) := by decide +kernel
theorem dX1_readShown_44 : decode cX1_readShown 44 = .ok (.iconst (-1), 1) := by decide +kernel
theorem dX1_readShown_45 : decode cX1_readShown 45 = .ok (.ixor, 1) := by decide +kernel
theorem dX1_readShown_46 : decode cX1_readShown 46 = .ok (.iand, 1) := by decide +kernel
theorem dX1_readShown_47 : decode cX1_readShown 47 = .ok (.ifCond .ne 5, 3) := by decide +kernel
theorem dX1_readShown_50 : decode cX1_readShown 50 = .ok (.iconst 0, 1) := by decide +kernel
theorem dX1_readShown_51 : decode cX1_readShown 51 = .ok (.ireturn, 1) := by decide +kernel
theorem dX1_readShown_52 : decode cX1_readShown 52 = .ok (.aload_n 0, 1) := by decide +kernel
theorem dX1_readShown_53 : decode cX1_readShown 53 = .ok (.dup, 1) := by decide +kernel
theorem dX1_readShown_54 : decode cX1_readShown 54 = .ok (.getfield 50, 3) := by decide +kernel
theorem dX1_readShown_57 : decode cX1_readShown 57 = .ok (.iload_n 2, 1) := by decide +kernel
theorem dX1_readShown_58 : decode cX1_readShown 58 = .ok (.isub, 1) := by decide +kernel
theorem dX1_readShown_59 : decode cX1_readShown 59 = .ok (.putfield 50, 3) := by decide +kernel
theorem dX1_readShown_62 : decode cX1_readShown 62 = .ok (.aload_n 0, 1) := by decide +kernel
theorem dX1_readShown_63 : decode cX1_readShown 63 = .ok (.dup, 1) := by decide +kernel
theorem dX1_readShown_64 : decode cX1_readShown 64 = .ok (.getfield 53, 3) := by decide +kernel
theorem dX1_readShown_67 : decode cX1_readShown 67 = .ok (.aload_n 0, 1) := by decide +kernel
theorem dX1_readShown_68 : decode cX1_readShown 68 = .ok (.getfield 15, 3) := by decide +kernel
theorem dX1_readShown_71 : decode cX1_readShown 71 = .ok (.iload_n 1, 1) := by decide +kernel
theorem dX1_readShown_72 : decode cX1_readShown 72 = .ok (.iconst 3, 1) := by decide +kernel
theorem dX1_readShown_73 : decode cX1_readShown 73 = .ok (.iadd, 1) := by decide +kernel
theorem dX1_readShown_74 : decode cX1_readShown 74 = .ok (.iaload, 1) := by decide +kernel
theorem dX1_readShown_75 : decode cX1_readShown 75 = .ok (.ior, 1) := by decide +kernel
theorem dX1_readShown_76 : decode cX1_readShown 76 = .ok (.putfield 53, 3) := by decide +kernel
theorem dX1_readShown_79 : decode cX1_readShown 79 = .ok (.aload_n 0, 1) := by decide +kernel
theorem dX1_readShown_80 : decode cX1_readShown 80 = .ok (.getfield 15, 3) := by decide +kernel
theorem dX1_readShown_83 : decode cX1_readShown 83 = .ok (.iload_n 1, 1) := by decide +kernel
theorem dX1_readShown_84 : decode cX1_readShown 84 = .ok (.bipush 6, 2) := by decide +kernel
theorem dX1_readShown_86 : decode cX1_readShown 86 = .ok (.iadd, 1) := by decide +kernel
theorem dX1_readShown_87 : decode cX1_readShown 87 = .ok (.dup2, 1) := by decide +kernel
theorem dX1_readShown_88 : decode cX1_readShown 88 = .ok (.iaload, 1) := by decide +kernel
theorem dX1_readShown_89 : decode cX1_readShown 89 = .ok (.iconst 1, 1) := by decide +kernel
theorem dX1_readShown_90 : decode cX1_readShown 90 = .ok (.iadd, 1) := by decide +kernel
theorem dX1_readShown_91 : decode cX1_readShown 91 = .ok (.iastore, 1) := by decide +kernel
theorem dX1_readShown_92 : decode cX1_readShown 92 = .ok (.aload_n 0, 1) := by decide +kernel
theorem dX1_readShown_93 : decode cX1_readShown 93 = .ok (.dup, 1) := by decide +kernel
theorem dX1_readShown_94 : decode cX1_readShown 94 = .ok (.getfield 34, 3) := by decide +kernel
theorem dX1_readShown_97 : decode cX1_readShown 97 = .ok (.iconst 1, 1) := by decide +kernel
theorem dX1_readShown_98 : decode cX1_readShown 98 = .ok (.iadd, 1) := by decide +kernel
theorem dX1_readShown_99 : decode cX1_readShown 99 = .ok (.putfield 34, 3) := by decide +kernel
theorem dX1_readShown_102 : decode cX1_readShown 102 = .ok (.iconst 1, 1) := by decide +kernel
theorem dX1_readShown_103 : decode cX1_readShown 103 = .ok (.ireturn, 1) := by decide +kernel
set_option maxRecDepth 20000 in
theorem ggX1_turnRing_J9_floorMod_7cf53 : GoodIn wsX1_turnRing wsJ9_floorMod_7cf53 := goodIn_r _ [11] (by decide +kernel) (by decide +kernel)
set_option maxRecDepth 20000 in
theorem gX1_turnRing_J9_floorMod_7cf53 : GoodIn wsX1_turnRing (va_wsS RX1 98 yJ9_floorMod_7cf53 wsJ9_floorMod_7cf53) := goodIn_app (goodIn_of _ (by decide +kernel)) ggX1_turnRing_J9_floorMod_7cf53
theorem dX1_turnRing_0 : decode cX1_turnRing 0 = .ok (.aload_n 0, 1) := by decide +kernel
theorem dX1_turnRing_1 : decode cX1_turnRing 1 = .ok (.iload_n 1, 1) := by decide +kernel
theorem dX1_turnRing_2 : decode cX1_turnRing 2 = .ok (.ifCond .eq 12, 3) := by decide +kernel
theorem dX1_turnRing_5 : decode cX1_turnRing 5 = .ok (.aload_n 0, 1) := by decide +kernel
theorem dX1_turnRing_6 : decode cX1_turnRing 6 = .ok (.getfield 28, 3) := by decide +kernel
theorem dX1_turnRing_9 : decode cX1_turnRing 9 = .ok (.iconst 1, 1) := by decide +kernel
theorem dX1_turnRing_10 : decode cX1_turnRing 10 = .ok (.iadd, 1) := by decide +kernel
theorem dX1_turnRing_11 : decode cX1_turnRing 11 = .ok (.goto 9, 3) := by decide +kernel
theorem dX1_turnRing_14 : decode cX1_turnRing 14 = .ok (.aload_n 0, 1) := by decide +kernel
theorem dX1_turnRing_15 : decode cX1_turnRing 15 = .ok (.getfield 28, 3) := by decide +kernel
theorem dX1_turnRing_18 : decode cX1_turnRing 18 = .ok (.iconst 1, 1) := by decide +kernel
theorem dX1_turnRing_19 : decode cX1_turnRing 19 = .ok (.isub, 1) := by decide +kernel
theorem dX1_turnRing_20 : decode cX1_turnRing 20 = .ok (.bipush 8, 2) := by decide +kernel
theorem dX1_turnRing_22 : decode cX1_turnRing 22 = .ok (.invokestatic 98, 3) := by decide +kernel
theorem dX1_turnRing_25 : decode cX1_turnRing 25 = .ok (.putfield 28, 3) := by decide +kernel
theorem dX1_turnRing_28 : decode cX1_turnRing 28 = .ok (.aload_n 0, 1) := by decide +kernel
theorem dX1_turnRing_29 : decode cX1_turnRing 29 = .ok (.aload_n 0, 1) := by decide +kernel
theorem dX1_turnRing_30 : decode cX1_turnRing 30 = .ok (.getfield 50, 3) := by decide +kernel
theorem dX1_turnRing_33 : decode cX1_turnRing 33 = .ok (.aload_n 0, 1) := by decide +kernel
theorem dX1_turnRing_34 : decode cX1_turnRing 34 = .ok (.getfield 18, 3) := by decide +kernel
theorem dX1_turnRing_37 : decode cX1_turnRing 37 = .ok (.isub, 1) := by decide +kernel
theorem dX1_turnRing_38 : decode cX1_turnRing 38 = .ok (.iconst 0, 1) := by decide +kernel
theorem dX1_turnRing_39 : decode cX1_turnRing 39 = .ok (.invokestatic 103, 3) := by decide +kernel
theorem dX1_turnRing_42 : decode cX1_turnRing 42 = .ok (.putfield 50, 3) := by decide +kernel
theorem dX1_turnRing_45 : decode cX1_turnRing 45 = .ok (.aload_n 0, 1) := by decide +kernel
theorem dX1_turnRing_46 : decode cX1_turnRing 46 = .ok (.getfield 28, 3) := by decide +kernel
theorem dX1_turnRing_49 : decode cX1_turnRing 49 = .ok (.ireturn, 1) := by decide +kernel
theorem dX1_changeTurning_0 : decode cX1_changeTurning 0 = .ok (.iload_n 1, 1) := by decide +kernel
theorem dX1_changeTurning_1 : decode cX1_changeTurning 1 = .ok (.ifCond .lt 9, 3) := by decide +kernel
theorem dX1_changeTurning_4 : decode cX1_changeTurning 4 = .ok (.iload_n 1, 1) := by decide +kernel
theorem dX1_changeTurning_5 : decode cX1_changeTurning 5 = .ok (.bipush 60, 2) := by decide +kernel
theorem dX1_changeTurning_7 : decode cX1_changeTurning 7 = .ok (.if_icmp .le 6, 3) := by decide +kernel
theorem dX1_changeTurning_10 : decode cX1_changeTurning 10 = .ok (.bipush (-2), 2) := by decide +kernel
theorem dX1_changeTurning_12 : decode cX1_changeTurning 12 = .ok (.ireturn, 1) := by decide +kernel
theorem dX1_changeTurning_13 : decode cX1_changeTurning 13 = .ok (.iload_n 1, 1) := by decide +kernel
theorem dX1_changeTurning_14 : decode cX1_changeTurning 14 = .ok (.aload_n 0, 1) := by decide +kernel
theorem dX1_changeTurning_15 : decode cX1_changeTurning 15 = .ok (.getfield 18, 3) := by decide +kernel
theorem dX1_changeTurning_18 : decode cX1_changeTurning 18 = .ok (.if_icmp .ne 6, 3) := by decide +kernel
theorem dX1_changeTurning_21 : decode cX1_changeTurning 21 = .ok (.bipush (-5), 2) := by decide +kernel
theorem dX1_changeTurning_23 : decode cX1_changeTurning 23 = .ok (.ireturn, 1) := by decide +kernel
theorem dX1_changeTurning_24 : decode cX1_changeTurning 24 = .ok (.aload_n 0, 1) := by decide +kernel
theorem dX1_changeTurning_25 : decode cX1_changeTurning 25 = .ok (.getfield 18, 3) := by decide +kernel
theorem dX1_changeTurning_28 : decode cX1_changeTurning 28 = .ok (.istore_n 2, 1) := by decide +kernel
theorem dX1_changeTurning_29 : decode cX1_changeTurning 29 = .ok (.aload_n 0, 1) := by decide +kernel
theorem dX1_changeTurning_30 : decode cX1_changeTurning 30 = .ok (.iload_n 1, 1) := by decide +kernel
theorem dX1_changeTurning_31 : decode cX1_changeTurning 31 = .ok (.putfield 18, 3) := by decide +kernel
theorem dX1_changeTurning_34 : decode cX1_changeTurning 34 = .ok (.iload_n 2, 1) := by decide +kernel
theorem dX1_changeTurning_35 : decode cX1_changeTurning 35 = .ok (.ireturn, 1) := by decide +kernel
set_option maxRecDepth 20000 in
theorem ggX1_shownRow_X1_textFor : GoodIn wsX1_shownRow wsX1_textFor := goodIn_r _ [8, 9, 10, 11, 12, 13, 14, 15, 7, 16, 17, 22, 23, 24, 25, 26, 27, 28, 29, 30, 31, 32, 33] (by decide +kernel) (by decide +kernel)
set_option maxRecDepth 20000 in
theorem gX1_shownRow_X1_textFor : GoodIn wsX1_shownRow (wsV RX1 76 RX1 yX1_textFor wsX1_textFor) := goodIn_app (goodIn_of _ (by decide +kernel)) ggX1_shownRow_X1_textFor
set_option maxRecDepth 20000 in
theorem ggX1_shownRow_X1_rowOf : GoodIn wsX1_shownRow wsX1_rowOf := goodIn_r _ [21, 9, 10, 11, 12, 22, 23, 24, 25, 26, 27, 28, 29, 30, 31, 32, 33] (by decide +kernel) (by decide +kernel)
set_option maxRecDepth 20000 in
theorem gX1_shownRow_X1_rowOf : GoodIn wsX1_shownRow (wsV RX1 65 RX1 yX1_rowOf wsX1_rowOf) := goodIn_app (goodIn_of _ (by decide +kernel)) ggX1_shownRow_X1_rowOf
theorem dX1_shownRow_0 : decode cX1_shownRow 0 = .ok (.aload_n 0, 1) := by decide +kernel
theorem dX1_shownRow_1 : decode cX1_shownRow 1 = .ok (.getfield 40, 3) := by decide +kernel
theorem dX1_shownRow_4 : decode cX1_shownRow 4 = .ok (.ifCond .ne 6, 3) := by decide +kernel
theorem dX1_shownRow_7 : decode cX1_shownRow 7 = .ok (.bipush (-5), 2) := by decide +kernel
theorem dX1_shownRow_9 : decode cX1_shownRow 9 = .ok (.ireturn, 1) := by decide +kernel
theorem dX1_shownRow_10 : decode cX1_shownRow 10 = .ok (.aload_n 0, 1) := by decide +kernel
theorem dX1_shownRow_11 : decode cX1_shownRow 11 = .ok (.aload_n 0, 1) := by decide +kernel
theorem dX1_shownRow_12 : decode cX1_shownRow 12 = .ok (.getfield 28, 3) := by decide +kernel
theorem dX1_shownRow_15 : decode cX1_shownRow 15 = .ok (.aload_n 0, 1) := by decide +kernel
theorem dX1_shownRow_16 : decode cX1_shownRow 16 = .ok (.getfield 44, 3) := by decide +kernel
theorem dX1_shownRow_19 : decode cX1_shownRow 19 = .ok (.invokevirtual 76, 3) := by decide +kernel
theorem dX1_shownRow_22 : decode cX1_shownRow 22 = .ok (.istore_n 1, 1) := by decide +kernel
theorem dX1_shownRow_23 : decode cX1_shownRow 23 = .ok (.iload_n 1, 1) := by decide +kernel
theorem dX1_shownRow_24 : decode cX1_shownRow 24 = .ok (.bipush (-5), 2) := by decide +kernel
theorem dX1_shownRow_26 : decode cX1_shownRow 26 = .ok (.if_icmp .ne 8, 3) := by decide +kernel
theorem dX1_shownRow_29 : decode cX1_shownRow 29 = .ok (.bipush (-5), 2) := by decide +kernel
theorem dX1_shownRow_31 : decode cX1_shownRow 31 = .ok (.goto 12, 3) := by decide +kernel
theorem dX1_shownRow_34 : decode cX1_shownRow 34 = .ok (.aload_n 0, 1) := by decide +kernel
theorem dX1_shownRow_35 : decode cX1_shownRow 35 = .ok (.aload_n 0, 1) := by decide +kernel
theorem dX1_shownRow_36 : decode cX1_shownRow 36 = .ok (.getfield 28, 3) := by decide +kernel
theorem dX1_shownRow_39 : decode cX1_shownRow 39 = .ok (.iload_n 1, 1) := by decide +kernel
theorem dX1_shownRow_40 : decode cX1_shownRow 40 = .ok (.invokevirtual 65, 3) := by decide +kernel
theorem dX1_shownRow_43 : decode cX1_shownRow 43 = .ok (.ireturn, 1) := by decide +kernel
theorem dX1_timeFor_0 : decode cX1_timeFor 0 = .ok (.aload_n 0, 1) := by decide +kernel
theorem dX1_timeFor_1 : decode cX1_timeFor 1 = .ok (.getfield 47, 3) := by decide +kernel
theorem dX1_timeFor_4 : decode cX1_timeFor 4 = .ok (.bipush 30, 2) := by decide +kernel
theorem dX1_timeFor_6 : decode cX1_timeFor 6 = .ok (.invokestatic 103, 3) := by decide +kernel
theorem dX1_timeFor_9 : decode cX1_timeFor 9 = .ok (.istore_n 2, 1) := by decide +kernel
theorem dX1_timeFor_10 : decode cX1_timeFor 10 = .ok (.bipush 60, 2) := by decide +kernel
theorem dX1_timeFor_12 : decode cX1_timeFor 12 = .ok (.iload_n 1, 1) := by decide +kernel
theorem dX1_timeFor_13 : decode cX1_timeFor 13 = .ok (.imul, 1) := by decide +kernel
theorem dX1_timeFor_14 : decode cX1_timeFor 14 = .ok (.iload_n 2, 1) := by decide +kernel
theorem dX1_timeFor_15 : decode cX1_timeFor 15 = .ok (.iadd, 1) := by decide +kernel
theorem dX1_timeFor_16 : decode cX1_timeFor 16 = .ok (.iconst 1, 1) := by decide +kernel
theorem dX1_timeFor_17 : decode cX1_timeFor 17 = .ok (.isub, 1) := by decide +kernel
theorem dX1_timeFor_18 : decode cX1_timeFor 18 = .ok (.iload_n 2, 1) := by decide +kernel
theorem dX1_timeFor_19 : decode cX1_timeFor 19 = .ok (.idiv, 1) := by decide +kernel
theorem dX1_timeFor_20 : decode cX1_timeFor 20 = .ok (.ireturn, 1) := by decide +kernel
set_option maxRecDepth 20000 in
theorem ggX1_textFor_X2_isExhibit : GoodIn wsX1_textFor wsX2_isExhibit := goodIn_r _ [4] (by decide +kernel) (by decide +kernel)
set_option maxRecDepth 20000 in
theorem gX1_textFor_X2_isExhibit_n56 : GoodIn wsX1_textFor (wsX2_isExhibit) := ggX1_textFor_X2_isExhibit
set_option maxRecDepth 20000 in
theorem ggX1_textFor_X1_fitsBetter : GoodIn wsX1_textFor wsX1_fitsBetter := goodIn_r _ [9, 10, 11, 12, 13, 14, 15, 16, 17, 18, 19, 20, 21, 22] (by decide +kernel) (by decide +kernel)
set_option maxRecDepth 20000 in
theorem gX1_textFor_X1_fitsBetter : GoodIn wsX1_textFor (wsV RX1 106 RX1 yX1_fitsBetter wsX1_fitsBetter) := goodIn_app (goodIn_of _ (by decide +kernel)) ggX1_textFor_X1_fitsBetter
theorem dX1_textFor_0 : decode cX1_textFor 0 = .ok (.iload_n 1, 1) := by decide +kernel
theorem dX1_textFor_1 : decode cX1_textFor 1 = .ok (.invokestatic 56, 3) := by decide +kernel
theorem dX1_textFor_4 : decode cX1_textFor 4 = .ok (.ifCond .eq 12, 3) := by decide +kernel
theorem dX1_textFor_7 : decode cX1_textFor 7 = .ok (.aload_n 0, 1) := by decide +kernel
theorem dX1_textFor_8 : decode cX1_textFor 8 = .ok (.getfield 9, 3) := by decide +kernel
theorem dX1_textFor_11 : decode cX1_textFor 11 = .ok (.iload_n 1, 1) := by decide +kernel
theorem dX1_textFor_12 : decode cX1_textFor 12 = .ok (.iaload, 1) := by decide +kernel
theorem dX1_textFor_13 : decode cX1_textFor 13 = .ok (.ifCond .ne 6, 3) := by decide +kernel
theorem dX1_textFor_16 : decode cX1_textFor 16 = .ok (.bipush (-5), 2) := by decide +kernel
theorem dX1_textFor_18 : decode cX1_textFor 18 = .ok (.ireturn, 1) := by decide +kernel
theorem dX1_textFor_19 : decode cX1_textFor 19 = .ok (.iload_n 1, 1) := by decide +kernel
theorem dX1_textFor_20 : decode cX1_textFor 20 = .ok (.iconst 5, 1) := by decide +kernel
theorem dX1_textFor_21 : decode cX1_textFor 21 = .ok (.imul, 1) := by decide +kernel
theorem dX1_textFor_22 : decode cX1_textFor 22 = .ok (.bipush 16, 2) := by decide +kernel
theorem dX1_textFor_24 : decode cX1_textFor 24 = .ok (.imul, 1) := by decide +kernel
theorem dX1_textFor_25 : decode cX1_textFor 25 = .ok (.istore_n 3, 1) := by decide +kernel
theorem dX1_textFor_26 : decode cX1_textFor 26 = .ok (.iconst 0, 1) := by decide +kernel
theorem dX1_textFor_27 : decode cX1_textFor 27 = .ok (.istore 4, 2) := by decide +kernel
theorem dX1_textFor_29 : decode cX1_textFor 29 = .ok (.iconst 1, 1) := by decide +kernel
theorem dX1_textFor_30 : decode cX1_textFor 30 = .ok (.istore 5, 2) := by decide +kernel
theorem dX1_textFor_32 : decode cX1_textFor 32 = .ok (.iload 5, 2) := by decide +kernel
theorem dX1_textFor_34 : decode cX1_textFor 34 = .ok (.aload_n 0, 1) := by decide +kernel
theorem dX1_textFor_35 : decode cX1_textFor 35 = .ok (.getfield 9, 3) := by decide +kernel
theorem dX1_textFor_38 : decode cX1_textFor 38 = .ok (.iload_n 1, 1) := by decide +kernel
theorem dX1_textFor_39 : decode cX1_textFor 39 = .ok (.iaload, 1) := by decide +kernel
theorem dX1_textFor_40 : decode cX1_textFor 40 = .ok (.if_icmp .ge 35, 3) := by decide +kernel
theorem dX1_textFor_43 : decode cX1_textFor 43 = .ok (.aload_n 0, 1) := by decide +kernel
theorem dX1_textFor_44 : decode cX1_textFor 44 = .ok (.iload_n 3, 1) := by decide +kernel
theorem dX1_textFor_45 : decode cX1_textFor 45 = .ok (.iload 5, 2) := by decide +kernel
theorem dX1_textFor_47 : decode cX1_textFor 47 = .ok (.bipush 16, 2) := by decide +kernel
theorem dX1_textFor_49 : decode cX1_textFor 49 = .ok (.imul, 1) := by decide +kernel
theorem dX1_textFor_50 : decode cX1_textFor 50 = .ok (.iadd, 1) := by decide +kernel
theorem dX1_textFor_51 : decode cX1_textFor 51 = .ok (.iload_n 3, 1) := by decide +kernel
theorem dX1_textFor_52 : decode cX1_textFor 52 = .ok (.iload 4, 2) := by decide +kernel
theorem dX1_textFor_54 : decode cX1_textFor 54 = .ok (.bipush 16, 2) := by decide +kernel
theorem dX1_textFor_56 : decode cX1_textFor 56 = .ok (.imul, 1) := by decide +kernel
theorem dX1_textFor_57 : decode cX1_textFor 57 = .ok (.iadd, 1) := by decide +kernel
theorem dX1_textFor_58 : decode cX1_textFor 58 = .ok (.iload_n 2, 1) := by decide +kernel
theorem dX1_textFor_59 : decode cX1_textFor 59 = .ok (.invokevirtual 106, 3) := by decide +kernel
theorem dX1_textFor_62 : decode cX1_textFor 62 = .ok (.ifCond .eq 7, 3) := by decide +kernel
theorem dX1_textFor_65 : decode cX1_textFor 65 = .ok (.iload 5, 2) := by decide +kernel
theorem dX1_textFor_67 : decode cX1_textFor 67 = .ok (.istore 4, 2) := by decide +kernel
theorem dX1_textFor_69 : decode cX1_textFor 69 = .ok (.iinc 5 1, 3) := by decide +kernel
theorem dX1_textFor_72 : decode cX1_textFor 72 = .ok (.goto (-40), 3) := by decide +kernel
theorem dX1_textFor_75 : decode cX1_textFor 75 = .ok (.iload 4, 2) := by decide +kernel
theorem dX1_textFor_77 : decode cX1_textFor 77 = .ok (.ireturn, 1) := by decide +kernel
theorem dX1_fitsBetter_0 : decode cX1_fitsBetter 0 = .ok (.aload_n 0, 1) := by decide +kernel
theorem dX1_fitsBetter_1 : decode cX1_fitsBetter 1 = .ok (.getfield 15, 3) := by decide +kernel
theorem dX1_fitsBetter_4 : decode cX1_fitsBetter 4 = .ok (.iload_n 1, 1) := by decide +kernel
theorem dX1_fitsBetter_5 : decode cX1_fitsBetter 5 = .ok (.iconst 4, 1) := by decide +kernel
theorem dX1_fitsBetter_6 : decode cX1_fitsBetter 6 = .ok (.iadd, 1) := by decide +kernel
theorem dX1_fitsBetter_7 : decode cX1_fitsBetter 7 = .ok (.iaload, 1) := by decide +kernel
theorem dX1_fitsBetter_8 : decode cX1_fitsBetter 8 = .ok (.istore 4, 2) := by decide +kernel
theorem dX1_fitsBetter_10 : decode cX1_fitsBetter 10 = .ok (.aload_n 0, 1) := by decide +kernel
theorem dX1_fitsBetter_11 : decode cX1_fitsBetter 11 = .ok (.getfield 15, 3) := by decide +kernel
theorem dX1_fitsBetter_14 : decode cX1_fitsBetter 14 = .ok (.iload_n 2, 1) := by decide +kernel
theorem dX1_fitsBetter_15 : decode cX1_fitsBetter 15 = .ok (.iconst 4, 1) := by decide +kernel
theorem dX1_fitsBetter_16 : decode cX1_fitsBetter 16 = .ok (.iadd, 1) := by decide +kernel
theorem dX1_fitsBetter_17 : decode cX1_fitsBetter 17 = .ok (.iaload, 1) := by decide +kernel
theorem dX1_fitsBetter_18 : decode cX1_fitsBetter 18 = .ok (.istore 5, 2) := by decide +kernel
theorem dX1_fitsBetter_20 : decode cX1_fitsBetter 20 = .ok (.iload 4, 2) := by decide +kernel
theorem dX1_fitsBetter_22 : decode cX1_fitsBetter 22 = .ok (.iload_n 3, 1) := by decide +kernel
theorem dX1_fitsBetter_23 : decode cX1_fitsBetter 23 = .ok (.if_icmp .gt 9, 3) := by decide +kernel
theorem dX1_fitsBetter_26 : decode cX1_fitsBetter 26 = .ok (.iload 5, 2) := by decide +kernel
theorem dX1_fitsBetter_28 : decode cX1_fitsBetter 28 = .ok (.iload_n 3, 1) := by decide +kernel
theorem dX1_fitsBetter_29 : decode cX1_fitsBetter 29 = .ok (.if_icmp .le 16, 3) := by decide +kernel
theorem dX1_fitsBetter_32 : decode cX1_fitsBetter 32 = .ok (.iload 4, 2) := by decide +kernel
theorem dX1_fitsBetter_34 : decode cX1_fitsBetter 34 = .ok (.iload 5, 2) := by decide +kernel
theorem dX1_fitsBetter_36 : decode cX1_fitsBetter 36 = .ok (.if_icmp .ge 7, 3) := by decide +kernel
theorem dX1_fitsBetter_39 : decode cX1_fitsBetter 39 = .ok (.iconst 1, 1) := by decide +kernel
theorem dX1_fitsBetter_40 : decode cX1_fitsBetter 40 = .ok (.goto 4, 3) := by decide +kernel
theorem dX1_fitsBetter_43 : decode cX1_fitsBetter 43 = .ok (.iconst 0, 1) := by decide +kernel
theorem dX1_fitsBetter_44 : decode cX1_fitsBetter 44 = .ok (.ireturn, 1) := by decide +kernel
theorem dX1_fitsBetter_45 : decode cX1_fitsBetter 45 = .ok (.iload 4, 2) := by decide +kernel
theorem dX1_fitsBetter_47 : decode cX1_fitsBetter 47 = .ok (.iload 5, 2) := by decide +kernel
theorem dX1_fitsBetter_49 : decode cX1_fitsBetter 49 = .ok (.if_icmp .eq 16, 3) := by decide +kernel
theorem dX1_fitsBetter_52 : decode cX1_fitsBetter 52 = .ok (.iload 4, 2) := by decide +kernel
theorem dX1_fitsBetter_54 : decode cX1_fitsBetter 54 = .ok (.iload 5, 2) := by decide +kernel
theorem dX1_fitsBetter_56 : decode cX1_fitsBetter 56 = .ok (.if_icmp .le 7, 3) := by decide +kernel
theorem dX1_fitsBetter_59 : decode cX1_fitsBetter 59 = .ok (.iconst 1, 1) := by decide +kernel
theorem dX1_fitsBetter_60 : decode cX1_fitsBetter 60 = .ok (.goto 4, 3) := by decide +kernel
theorem dX1_fitsBetter_63 : decode cX1_fitsBetter 63 = .ok (.iconst 0, 1) := by decide +kernel
theorem dX1_fitsBetter_64 : decode cX1_fitsBetter 64 = .ok (.ireturn, 1) := by decide +kernel
theorem dX1_fitsBetter_65 : decode cX1_fitsBetter 65 = .ok (.aload_n 0, 1) := by decide +kernel
theorem dX1_fitsBetter_66 : decode cX1_fitsBetter 66 = .ok (.getfield 15, 3) := by decide +kernel
theorem dX1_fitsBetter_69 : decode cX1_fitsBetter 69 = .ok (.iload_n 1, 1) := by decide +kernel
theorem dX1_fitsBetter_70 : decode cX1_fitsBetter 70 = .ok (.iconst 0, 1) := by decide +kernel
theorem dX1_fitsBetter_71 : decode cX1_fitsBetter 71 = .ok (.iadd, 1) := by decide +kernel
theorem dX1_fitsBetter_72 : decode cX1_fitsBetter 72 = .ok (.iaload, 1) := by decide +kernel
theorem dX1_fitsBetter_73 : decode cX1_fitsBetter 73 = .ok (.aload_n 0, 1) := by decide +kernel
theorem dX1_fitsBetter_74 : decode cX1_fitsBetter 74 = .ok (.getfield 15, 3) := by decide +kernel
theorem dX1_fitsBetter_77 : decode cX1_fitsBetter 77 = .ok (.iload_n 2, 1) := by decide +kernel
theorem dX1_fitsBetter_78 : decode cX1_fitsBetter 78 = .ok (.iconst 0, 1) := by decide +kernel
theorem dX1_fitsBetter_79 : decode cX1_fitsBetter 79 = .ok (.iadd, 1) := by decide +kernel
theorem dX1_fitsBetter_80 : decode cX1_fitsBetter 80 = .ok (.iaload, 1) := by decide +kernel
theorem dX1_fitsBetter_81 : decode cX1_fitsBetter 81 = .ok (.if_icmp .ge 7, 3) := by decide +kernel
theorem dX1_fitsBetter_84 : decode cX1_fitsBetter 84 = .ok (.iconst 1, 1) := by decide +kernel
theorem dX1_fitsBetter_85 : decode cX1_fitsBetter 85 = .ok (.goto 4, 3) := by decide +kernel
theorem dX1_fitsBetter_88 : decode cX1_fitsBetter 88 = .ok (.iconst 0, 1) := by decide +kernel
theorem dX1_fitsBetter_89 : decode cX1_fitsBetter 89 = .ok (.ireturn, 1) := by decide +kernel
set_option maxRecDepth 20000 in
theorem ggX1_factsFor_X1_textFor : GoodIn wsX1_factsFor wsX1_textFor := goodIn_r _ [6, 7, 8, 9, 10, 11, 12, 13, 5, 14, 1, 19, 20, 21, 22, 23, 24, 25, 26, 27, 28, 29, 30] (by decide +kernel) (by decide +kernel)
set_option maxRecDepth 20000 in
theorem gX1_factsFor_X1_textFor : GoodIn wsX1_factsFor (wsV RX1 76 RX1 yX1_textFor wsX1_textFor) := goodIn_app (goodIn_of _ (by decide +kernel)) ggX1_factsFor_X1_textFor
set_option maxRecDepth 20000 in
theorem ggX1_factsFor_X1_rowOf : GoodIn wsX1_factsFor wsX1_rowOf := goodIn_r _ [18, 7, 8, 9, 10, 19, 20, 21, 22, 23, 24, 25, 26, 27, 28, 29, 30] (by decide +kernel) (by decide +kernel)
set_option maxRecDepth 20000 in
theorem gX1_factsFor_X1_rowOf : GoodIn wsX1_factsFor (wsV RX1 65 RX1 yX1_rowOf wsX1_rowOf) := goodIn_app (goodIn_of _ (by decide +kernel)) ggX1_factsFor_X1_rowOf
theorem dX1_factsFor_0 : decode cX1_factsFor 0 = .ok (.iconst 0, 1) := by decide +kernel
theorem dX1_factsFor_1 : decode cX1_factsFor 1 = .ok (.istore_n 2, 1) := by decide +kernel
theorem dX1_factsFor_2 : decode cX1_factsFor 2 = .ok (.iconst 0, 1) := by decide +kernel
theorem dX1_factsFor_3 : decode cX1_factsFor 3 = .ok (.istore_n 3, 1) := by decide +kernel
theorem dX1_factsFor_4 : decode cX1_factsFor 4 = .ok (.iload_n 3, 1) := by decide +kernel
theorem dX1_factsFor_5 : decode cX1_factsFor 5 = .ok (.bipush 8, 2) := by decide +kernel
theorem dX1_factsFor_7 : decode cX1_factsFor 7 = .ok (.if_icmp .ge 39, 3) := by decide +kernel
theorem dX1_factsFor_10 : decode cX1_factsFor 10 = .ok (.aload_n 0, 1) := by decide +kernel
theorem dX1_factsFor_11 : decode cX1_factsFor 11 = .ok (.iload_n 3, 1) := by decide +kernel
theorem dX1_factsFor_12 : decode cX1_factsFor 12 = .ok (.aload_n 0, 1) := by decide +kernel
theorem dX1_factsFor_13 : decode cX1_factsFor 13 = .ok (.iload_n 3, 1) := by decide +kernel
theorem dX1_factsFor_14 : decode cX1_factsFor 14 = .ok (.iload_n 1, 1) := by decide +kernel
theorem dX1_factsFor_15 : decode cX1_factsFor 15 = .ok (.invokevirtual 76, 3) := by decide +kernel
theorem dX1_factsFor_18 : decode cX1_factsFor 18 = .ok (.invokevirtual 65, 3) := by decide +kernel
theorem dX1_factsFor_21 : decode cX1_factsFor 21 = .ok (.istore 4, 2) := by decide +kernel
theorem dX1_factsFor_23 : decode cX1_factsFor 23 = .ok (.iload 4, 2) := by decide +kernel
theorem dX1_factsFor_25 : decode cX1_factsFor 25 = .ok (.ifCond .lt 15, 3) := by decide +kernel
theorem dX1_factsFor_28 : decode cX1_factsFor 28 = .ok (.iload_n 2, 1) := by decide +kernel
theorem dX1_factsFor_29 : decode cX1_factsFor 29 = .ok (.aload_n 0, 1) := by decide +kernel
theorem dX1_factsFor_30 : decode cX1_factsFor 30 = .ok (.getfield 15, 3) := by decide +kernel
theorem dX1_factsFor_33 : decode cX1_factsFor 33 = .ok (.iload 4, 2) := by decide +kernel
theorem dX1_factsFor_35 : decode cX1_factsFor 35 = .ok (.iconst 3, 1) := by decide +kernel
theorem dX1_factsFor_36 : decode cX1_factsFor 36 = .ok (.iadd, 1) := by decide +kernel
theorem dX1_factsFor_37 : decode cX1_factsFor 37 = .ok (.iaload, 1) := by decide +kernel
theorem dX1_factsFor_38 : decode cX1_factsFor 38 = .ok (.ior, 1) := by decide +kernel
theorem dX1_factsFor_39 : decode cX1_factsFor 39 = .ok (.istore_n 2, 1) := by decide +kernel
theorem dX1_factsFor_40 : decode cX1_factsFor 40 = .ok (.iinc 3 1, 3) := by decide +kernel
theorem dX1_factsFor_43 : decode cX1_factsFor 43 = .ok (.goto (-39), 3) := by decide +kernel
theorem dX1_factsFor_46 : decode cX1_factsFor 46 = .ok (.iload_n 2, 1) := by decide +kernel
theorem dX1_factsFor_47 : decode cX1_factsFor 47 = .ok (.ireturn, 1) := by decide +kernel
theorem dX1_allFacts_0 : decode cX1_allFacts 0 = .ok (.iconst 0, 1) := by decide +kernel
theorem dX1_allFacts_1 : decode cX1_allFacts 1 = .ok (.istore_n 1, 1) := by decide +kernel
theorem dX1_allFacts_2 : decode cX1_allFacts 2 = .ok (.iconst 0, 1) := by decide +kernel
theorem dX1_allFacts_3 : decode cX1_allFacts 3 = .ok (.istore_n 2, 1) := by decide +kernel
theorem dX1_allFacts_4 : decode cX1_allFacts 4 = .ok (.iload_n 2, 1) := by decide +kernel
theorem dX1_allFacts_5 : decode cX1_allFacts 5 = .ok (.bipush 8, 2) := by decide +kernel
theorem dX1_allFacts_7 : decode cX1_allFacts 7 = .ok (.if_icmp .ge 45, 3) := by decide +kernel
theorem dX1_allFacts_10 : decode cX1_allFacts 10 = .ok (.iconst 0, 1) := by decide +kernel
theorem dX1_allFacts_11 : decode cX1_allFacts 11 = .ok (.istore_n 3, 1) := by decide +kernel
theorem dX1_allFacts_12 : decode cX1_allFacts 12 = .ok (.iload_n 3, 1) := by decide +kernel
theorem dX1_allFacts_13 : decode cX1_allFacts 13 = .ok (.aload_n 0, 1) := by decide +kernel
theorem dX1_allFacts_14 : decode cX1_allFacts 14 = .ok (.getfield 9, 3) := by decide +kernel
theorem dX1_allFacts_17 : decode cX1_allFacts 17 = .ok (.iload_n 2, 1) := by decide +kernel
theorem dX1_allFacts_18 : decode cX1_allFacts 18 = .ok (.iaload, 1) := by decide +kernel
theorem dX1_allFacts_19 : decode cX1_allFacts 19 = .ok (.if_icmp .ge 27, 3) := by decide +kernel
theorem dX1_allFacts_22 : decode cX1_allFacts 22 = .ok (.iload_n 1, 1) := by decide +kernel
theorem dX1_allFacts_23 : decode cX1_allFacts 23 = .ok (.aload_n 0, 1) := by decide +kernel
theorem dX1_allFacts_24 : decode cX1_allFacts 24 = .ok (.getfield 15, 3) := by decide +kernel
theorem dX1_allFacts_27 : decode cX1_allFacts 27 = .ok (.iload_n 2, 1) := by decide +kernel
theorem dX1_allFacts_28 : decode cX1_allFacts 28 = .ok (.iconst 5, 1) := by decide +kernel
theorem dX1_allFacts_29 : decode cX1_allFacts 29 = .ok (.imul, 1) := by decide +kernel
theorem dX1_allFacts_30 : decode cX1_allFacts 30 = .ok (.iload_n 3, 1) := by decide +kernel
theorem dX1_allFacts_31 : decode cX1_allFacts 31 = .ok (.iadd, 1) := by decide +kernel
theorem dX1_allFacts_32 : decode cX1_allFacts 32 = .ok (.bipush 16, 2) := by decide +kernel
theorem dX1_allFacts_34 : decode cX1_allFacts 34 = .ok (.imul, 1) := by decide +kernel
theorem dX1_allFacts_35 : decode cX1_allFacts 35 = .ok (.iconst 3, 1) := by decide +kernel
theorem dX1_allFacts_36 : decode cX1_allFacts 36 = .ok (.iadd, 1) := by decide +kernel
theorem dX1_allFacts_37 : decode cX1_allFacts 37 = .ok (.iaload, 1) := by decide +kernel
theorem dX1_allFacts_38 : decode cX1_allFacts 38 = .ok (.ior, 1) := by decide +kernel
theorem dX1_allFacts_39 : decode cX1_allFacts 39 = .ok (.istore_n 1, 1) := by decide +kernel
theorem dX1_allFacts_40 : decode cX1_allFacts 40 = .ok (.iinc 3 1, 3) := by decide +kernel
theorem dX1_allFacts_43 : decode cX1_allFacts 43 = .ok (.goto (-31), 3) := by decide +kernel
theorem dX1_allFacts_46 : decode cX1_allFacts 46 = .ok (.iinc 2 1, 3) := by decide +kernel
theorem dX1_allFacts_49 : decode cX1_allFacts 49 = .ok (.goto (-45), 3) := by decide +kernel
theorem dX1_allFacts_52 : decode cX1_allFacts 52 = .ok (.iload_n 1, 1) := by decide +kernel
theorem dX1_allFacts_53 : decode cX1_allFacts 53 = .ok (.ireturn, 1) := by decide +kernel
theorem dX1_countTexts_0 : decode cX1_countTexts 0 = .ok (.iconst 0, 1) := by decide +kernel
theorem dX1_countTexts_1 : decode cX1_countTexts 1 = .ok (.istore_n 1, 1) := by decide +kernel
theorem dX1_countTexts_2 : decode cX1_countTexts 2 = .ok (.iconst 0, 1) := by decide +kernel
theorem dX1_countTexts_3 : decode cX1_countTexts 3 = .ok (.istore_n 2, 1) := by decide +kernel
theorem dX1_countTexts_4 : decode cX1_countTexts 4 = .ok (.iload_n 2, 1) := by decide +kernel
theorem dX1_countTexts_5 : decode cX1_countTexts 5 = .ok (.bipush 8, 2) := by decide +kernel
theorem dX1_countTexts_7 : decode cX1_countTexts 7 = .ok (.if_icmp .ge 18, 3) := by decide +kernel
theorem dX1_countTexts_10 : decode cX1_countTexts 10 = .ok (.iload_n 1, 1) := by decide +kernel
theorem dX1_countTexts_11 : decode cX1_countTexts 11 = .ok (.aload_n 0, 1) := by decide +kernel
theorem dX1_countTexts_12 : decode cX1_countTexts 12 = .ok (.getfield 9, 3) := by decide +kernel
theorem dX1_countTexts_15 : decode cX1_countTexts 15 = .ok (.iload_n 2, 1) := by decide +kernel
theorem dX1_countTexts_16 : decode cX1_countTexts 16 = .ok (.iaload, 1) := by decide +kernel
theorem dX1_countTexts_17 : decode cX1_countTexts 17 = .ok (.iadd, 1) := by decide +kernel
theorem dX1_countTexts_18 : decode cX1_countTexts 18 = .ok (.istore_n 1, 1) := by decide +kernel
theorem dX1_countTexts_19 : decode cX1_countTexts 19 = .ok (.iinc 2 1, 3) := by decide +kernel
theorem dX1_countTexts_22 : decode cX1_countTexts 22 = .ok (.goto (-18), 3) := by decide +kernel
theorem dX1_countTexts_25 : decode cX1_countTexts 25 = .ok (.iload_n 1, 1) := by decide +kernel
theorem dX1_countTexts_26 : decode cX1_countTexts 26 = .ok (.ireturn, 1) := by decide +kernel
theorem dX1_countCaptions_0 : decode cX1_countCaptions 0 = .ok (.iconst 0, 1) := by decide +kernel
theorem dX1_countCaptions_1 : decode cX1_countCaptions 1 = .ok (.istore_n 1, 1) := by decide +kernel
theorem dX1_countCaptions_2 : decode cX1_countCaptions 2 = .ok (.iconst 0, 1) := by decide +kernel
theorem dX1_countCaptions_3 : decode cX1_countCaptions 3 = .ok (.istore_n 2, 1) := by decide +kernel
theorem dX1_countCaptions_4 : decode cX1_countCaptions 4 = .ok (.iload_n 2, 1) := by decide +kernel
theorem dX1_countCaptions_5 : decode cX1_countCaptions 5 = .ok (.bipush 8, 2) := by decide +kernel
theorem dX1_countCaptions_7 : decode cX1_countCaptions 7 = .ok (.if_icmp .ge 45, 3) := by decide +kernel
theorem dX1_countCaptions_10 : decode cX1_countCaptions 10 = .ok (.iconst 0, 1) := by decide +kernel
theorem dX1_countCaptions_11 : decode cX1_countCaptions 11 = .ok (.istore_n 3, 1) := by decide +kernel
theorem dX1_countCaptions_12 : decode cX1_countCaptions 12 = .ok (.iload_n 3, 1) := by decide +kernel
theorem dX1_countCaptions_13 : decode cX1_countCaptions 13 = .ok (.aload_n 0, 1) := by decide +kernel
theorem dX1_countCaptions_14 : decode cX1_countCaptions 14 = .ok (.getfield 9, 3) := by decide +kernel
theorem dX1_countCaptions_17 : decode cX1_countCaptions 17 = .ok (.iload_n 2, 1) := by decide +kernel
theorem dX1_countCaptions_18 : decode cX1_countCaptions 18 = .ok (.iaload, 1) := by decide +kernel
theorem dX1_countCaptions_19 : decode cX1_countCaptions 19 = .ok (.if_icmp .ge 27, 3) := by decide +kernel
theorem dX1_countCaptions_22 : decode cX1_countCaptions 22 = .ok (.iload_n 1, 1) := by decide +kernel
theorem dX1_countCaptions_23 : decode cX1_countCaptions 23 = .ok (.aload_n 0, 1) := by decide +kernel
theorem dX1_countCaptions_24 : decode cX1_countCaptions 24 = .ok (.getfield 15, 3) := by decide +kernel
theorem dX1_countCaptions_27 : decode cX1_countCaptions 27 = .ok (.iload_n 2, 1) := by decide +kernel
theorem dX1_countCaptions_28 : decode cX1_countCaptions 28 = .ok (.iconst 5, 1) := by decide +kernel
theorem dX1_countCaptions_29 : decode cX1_countCaptions 29 = .ok (.imul, 1) := by decide +kernel
theorem dX1_countCaptions_30 : decode cX1_countCaptions 30 = .ok (.iload_n 3, 1) := by decide +kernel
theorem dX1_countCaptions_31 : decode cX1_countCaptions 31 = .ok (.iadd, 1) := by decide +kernel
theorem dX1_countCaptions_32 : decode cX1_countCaptions 32 = .ok (.bipush 16, 2) := by decide +kernel
theorem dX1_countCaptions_34 : decode cX1_countCaptions 34 = .ok (.imul, 1) := by decide +kernel
theorem dX1_countCaptions_35 : decode cX1_countCaptions 35 = .ok (.iconst 5, 1) := by decide +kernel
theorem dX1_countCaptions_36 : decode cX1_countCaptions 36 = .ok (.iadd, 1) := by decide +kernel
theorem dX1_countCaptions_37 : decode cX1_countCaptions 37 = .ok (.iaload, 1) := by decide +kernel
theorem dX1_countCaptions_38 : decode cX1_countCaptions 38 = .ok (.iadd, 1) := by decide +kernel
theorem dX1_countCaptions_39 : decode cX1_countCaptions 39 = .ok (.istore_n 1, 1) := by decide +kernel
theorem dX1_countCaptions_40 : decode cX1_countCaptions 40 = .ok (.iinc 3 1, 3) := by decide +kernel
theorem dX1_countCaptions_43 : decode cX1_countCaptions 43 = .ok (.goto (-31), 3) := by decide +kernel
theorem dX1_countCaptions_46 : decode cX1_countCaptions 46 = .ok (.iinc 2 1, 3) := by decide +kernel
theorem dX1_countCaptions_49 : decode cX1_countCaptions 49 = .ok (.goto (-45), 3) := by decide +kernel
theorem dX1_countCaptions_52 : decode cX1_countCaptions 52 = .ok (.iload_n 1, 1) := by decide +kernel
theorem dX1_countCaptions_53 : decode cX1_countCaptions 53 = .ok (.ireturn, 1) := by decide +kernel
theorem dX1_countNeverRead_0 : decode cX1_countNeverRead 0 = .ok (.iconst 0, 1) := by decide +kernel
theorem dX1_countNeverRead_1 : decode cX1_countNeverRead 1 = .ok (.istore_n 1, 1) := by decide +kernel
theorem dX1_countNeverRead_2 : decode cX1_countNeverRead 2 = .ok (.iconst 0, 1) := by decide +kernel
theorem dX1_countNeverRead_3 : decode cX1_countNeverRead 3 = .ok (.istore_n 2, 1) := by decide +kernel
theorem dX1_countNeverRead_4 : decode cX1_countNeverRead 4 = .ok (.iload_n 2, 1) := by decide +kernel
theorem dX1_countNeverRead_5 : decode cX1_countNeverRead 5 = .ok (.bipush 8, 2) := by decide +kernel
theorem dX1_countNeverRead_7 : decode cX1_countNeverRead 7 = .ok (.if_icmp .ge 49, 3) := by decide +kernel
theorem dX1_countNeverRead_10 : decode cX1_countNeverRead 10 = .ok (.iconst 0, 1) := by decide +kernel
theorem dX1_countNeverRead_11 : decode cX1_countNeverRead 11 = .ok (.istore_n 3, 1) := by decide +kernel
theorem dX1_countNeverRead_12 : decode cX1_countNeverRead 12 = .ok (.iload_n 3, 1) := by decide +kernel
theorem dX1_countNeverRead_13 : decode cX1_countNeverRead 13 = .ok (.aload_n 0, 1) := by decide +kernel
theorem dX1_countNeverRead_14 : decode cX1_countNeverRead 14 = .ok (.getfield 9, 3) := by decide +kernel
theorem dX1_countNeverRead_17 : decode cX1_countNeverRead 17 = .ok (.iload_n 2, 1) := by decide +kernel
theorem dX1_countNeverRead_18 : decode cX1_countNeverRead 18 = .ok (.iaload, 1) := by decide +kernel
theorem dX1_countNeverRead_19 : decode cX1_countNeverRead 19 = .ok (.if_icmp .ge 31, 3) := by decide +kernel
theorem dX1_countNeverRead_22 : decode cX1_countNeverRead 22 = .ok (.aload_n 0, 1) := by decide +kernel
theorem dX1_countNeverRead_23 : decode cX1_countNeverRead 23 = .ok (.getfield 15, 3) := by decide +kernel
theorem dX1_countNeverRead_26 : decode cX1_countNeverRead 26 = .ok (.iload_n 2, 1) := by decide +kernel
theorem dX1_countNeverRead_27 : decode cX1_countNeverRead 27 = .ok (.iconst 5, 1) := by decide +kernel
theorem dX1_countNeverRead_28 : decode cX1_countNeverRead 28 = .ok (.imul, 1) := by decide +kernel
theorem dX1_countNeverRead_29 : decode cX1_countNeverRead 29 = .ok (.iload_n 3, 1) := by decide +kernel
theorem dX1_countNeverRead_30 : decode cX1_countNeverRead 30 = .ok (.iadd, 1) := by decide +kernel
theorem dX1_countNeverRead_31 : decode cX1_countNeverRead 31 = .ok (.bipush 16, 2) := by decide +kernel
theorem dX1_countNeverRead_33 : decode cX1_countNeverRead 33 = .ok (.imul, 1) := by decide +kernel
theorem dX1_countNeverRead_34 : decode cX1_countNeverRead 34 = .ok (.bipush 6, 2) := by decide +kernel
theorem dX1_countNeverRead_36 : decode cX1_countNeverRead 36 = .ok (.iadd, 1) := by decide +kernel
theorem dX1_countNeverRead_37 : decode cX1_countNeverRead 37 = .ok (.iaload, 1) := by decide +kernel
theorem dX1_countNeverRead_38 : decode cX1_countNeverRead 38 = .ok (.ifCond .ne 6, 3) := by decide +kernel
theorem dX1_countNeverRead_41 : decode cX1_countNeverRead 41 = .ok (.iinc 1 1, 3) := by decide +kernel
theorem dX1_countNeverRead_44 : decode cX1_countNeverRead 44 = .ok (.iinc 3 1, 3) := by decide +kernel
theorem dX1_countNeverRead_47 : decode cX1_countNeverRead 47 = .ok (.goto (-35), 3) := by decide +kernel
theorem dX1_countNeverRead_50 : decode cX1_countNeverRead 50 = .ok (.iinc 2 1, 3) := by decide +kernel
theorem dX1_countNeverRead_53 : decode cX1_countNeverRead 53 = .ok (.goto (-49), 3) := by decide +kernel
theorem dX1_countNeverRead_56 : decode cX1_countNeverRead 56 = .ok (.iload_n 1, 1) := by decide +kernel
theorem dX1_countNeverRead_57 : decode cX1_countNeverRead 57 = .ok (.ireturn, 1) := by decide +kernel
set_option maxRecDepth 20000 in
theorem ggX2_init_X1_init : GoodIn wsX2_init wsX1_init := goodIn_r _ [16, 17, 2, 3, 18, 19, 20, 21, 27, 28, 29, 30, 31, 32, 33, 34, 35, 36, 37, 38] (by decide +kernel) (by decide +kernel)
set_option maxRecDepth 20000 in
theorem gX2_init_X1_init_n11 : GoodIn wsX2_init (wsX1_init) := ggX2_init_X1_init
set_option maxRecDepth 20000 in
theorem ggX2_init_X0_init : GoodIn wsX2_init wsX0_init := goodIn_r _ [23, 24, 2, 3, 25, 26, 49, 50, 51, 52, 53, 54, 55, 56, 57, 58] (by decide +kernel) (by decide +kernel)
set_option maxRecDepth 20000 in
theorem gX2_init_X0_init_n28 : GoodIn wsX2_init (wsX0_init) := ggX2_init_X0_init
theorem dX2_init_0 : decode cX2_init 0 = .ok (.aload_n 0, 1) := by decide +kernel
theorem dX2_init_1 : decode cX2_init 1 = .ok (.invokespecial 3, 3) := by decide +kernel
theorem dX2_init_4 : decode cX2_init 4 = .ok (.aload_n 0, 1) := by decide +kernel
theorem dX2_init_5 : decode cX2_init 5 = .ok (.new 9, 3) := by decide +kernel
theorem dX2_init_8 : decode cX2_init 8 = .ok (.dup, 1) := by decide +kernel
theorem dX2_init_9 : decode cX2_init 9 = .ok (.invokespecial 11, 3) := by decide +kernel
theorem dX2_init_12 : decode cX2_init 12 = .ok (.putfield 12, 3) := by decide +kernel
theorem dX2_init_15 : decode cX2_init 15 = .ok (.aload_n 0, 1) := by decide +kernel
theorem dX2_init_16 : decode cX2_init 16 = .ok (.new 9, 3) := by decide +kernel
theorem dX2_init_19 : decode cX2_init 19 = .ok (.dup, 1) := by decide +kernel
theorem dX2_init_20 : decode cX2_init 20 = .ok (.invokespecial 11, 3) := by decide +kernel
theorem dX2_init_23 : decode cX2_init 23 = .ok (.putfield 16, 3) := by decide +kernel
theorem dX2_init_26 : decode cX2_init 26 = .ok (.aload_n 0, 1) := by decide +kernel
theorem dX2_init_27 : decode cX2_init 27 = .ok (.new 9, 3) := by decide +kernel
theorem dX2_init_30 : decode cX2_init 30 = .ok (.dup, 1) := by decide +kernel
theorem dX2_init_31 : decode cX2_init 31 = .ok (.invokespecial 11, 3) := by decide +kernel
theorem dX2_init_34 : decode cX2_init 34 = .ok (.putfield 19, 3) := by decide +kernel
theorem dX2_init_37 : decode cX2_init 37 = .ok (.aload_n 0, 1) := by decide +kernel
theorem dX2_init_38 : decode cX2_init 38 = .ok (.iconst 4, 1) := by decide +kernel
theorem dX2_init_39 : decode cX2_init 39 = .ok (.anewarray 9, 3) := by decide +kernel
theorem dX2_init_42 : decode cX2_init 42 = .ok (.putfield 22, 3) := by decide +kernel
theorem dX2_init_45 : decode cX2_init 45 = .ok (.aload_n 0, 1) := by decide +kernel
theorem dX2_init_46 : decode cX2_init 46 = .ok (.new 26, 3) := by decide +kernel
theorem dX2_init_49 : decode cX2_init 49 = .ok (.dup, 1) := by decide +kernel
theorem dX2_init_50 : decode cX2_init 50 = .ok (.invokespecial 28, 3) := by decide +kernel
theorem dX2_init_53 : decode cX2_init 53 = .ok (.putfield 29, 3) := by decide +kernel
theorem dX2_init_56 : decode cX2_init 56 = .ok (.iconst 0, 1) := by decide +kernel
theorem dX2_init_57 : decode cX2_init 57 = .ok (.istore_n 1, 1) := by decide +kernel
theorem dX2_init_58 : decode cX2_init 58 = .ok (.iload_n 1, 1) := by decide +kernel
theorem dX2_init_59 : decode cX2_init 59 = .ok (.iconst 4, 1) := by decide +kernel
theorem dX2_init_60 : decode cX2_init 60 = .ok (.if_icmp .ge 22, 3) := by decide +kernel
theorem dX2_init_63 : decode cX2_init 63 = .ok (.aload_n 0, 1) := by decide +kernel
theorem dX2_init_64 : decode cX2_init 64 = .ok (.getfield 22, 3) := by decide +kernel
theorem dX2_init_67 : decode cX2_init 67 = .ok (.iload_n 1, 1) := by decide +kernel
theorem dX2_init_68 : decode cX2_init 68 = .ok (.new 9, 3) := by decide +kernel
theorem dX2_init_71 : decode cX2_init 71 = .ok (.dup, 1) := by decide +kernel
theorem dX2_init_72 : decode cX2_init 72 = .ok (.invokespecial 11, 3) := by decide +kernel
theorem dX2_init_75 : decode cX2_init 75 = .ok (.aastore, 1) := by decide +kernel
theorem dX2_init_76 : decode cX2_init 76 = .ok (.iinc 1 1, 3) := by decide +kernel
theorem dX2_init_79 : decode cX2_init 79 = .ok (.goto (-21), 3) := by decide +kernel
theorem dX2_init_82 : decode cX2_init 82 = .ok (.return_, 1) := by decide +kernel
set_option maxRecDepth 20000 in
theorem ggX2_addText_X2_attempt : GoodIn wsX2_addText wsX2_attempt := goodIn_r _ [5, 6, 7, 8, 9, 10, 11, 12, 13, 14, 15, 16, 17, 18, 19, 20, 21, 22, 23, 24, 25, 26, 27, 28, 49, 50, 51, 52, 53, 54, 55, 56, 57, 58, 59, 60, 61, 62, 63, 64, 65, 66, 67, 68, 69, 70] (by decide +kernel) (by decide +kernel)
set_option maxRecDepth 20000 in
theorem gX2_addText_X2_attempt : GoodIn wsX2_addText (wsV RX2 33 RX2 yX2_attempt wsX2_attempt) := goodIn_app (goodIn_of _ (by decide +kernel)) ggX2_addText_X2_attempt
set_option maxRecDepth 20000 in
theorem ggX2_addText_X1_putText : GoodIn wsX2_addText wsX1_putText := goodIn_r _ [32, 33, 13, 18, 34, 4, 35, 36, 37, 59, 60, 61, 62, 63, 64, 65, 66, 67, 68, 69, 70] (by decide +kernel) (by decide +kernel)
set_option maxRecDepth 20000 in
theorem gX2_addText_X1_putText : GoodIn wsX2_addText (wsV RX2 37 RX1 yX1_putText wsX1_putText) := goodIn_app (goodIn_of _ (by decide +kernel)) ggX2_addText_X1_putText
set_option maxRecDepth 20000 in
theorem ggX2_addText_X2_settle : GoodIn wsX2_addText wsX2_settle := goodIn_r _ [41, 42, 43, 7, 6, 44, 45, 46, 47, 48, 49, 50, 51, 52, 53, 54, 55, 56, 57, 58] (by decide +kernel) (by decide +kernel)
set_option maxRecDepth 20000 in
theorem gX2_addText_X2_settle : GoodIn wsX2_addText (wsV RX2 41 RX2 yX2_settle wsX2_settle) := goodIn_app (goodIn_of _ (by decide +kernel)) ggX2_addText_X2_settle
theorem dX2_addText_0 : decode cX2_addText 0 = .ok (.aload_n 0, 1) := by decide +kernel
theorem dX2_addText_1 : decode cX2_addText 1 = .ok (.aload_n 0, 1) := by decide +kernel
theorem dX2_addText_2 : decode cX2_addText 2 = .ok (.invokevirtual 33, 3) := by decide +kernel
theorem dX2_addText_5 : decode cX2_addText 5 = .ok (.iload_n 1, 1) := by decide +kernel
theorem dX2_addText_6 : decode cX2_addText 6 = .ok (.iload_n 2, 1) := by decide +kernel
theorem dX2_addText_7 : decode cX2_addText 7 = .ok (.iload_n 3, 1) := by decide +kernel
theorem dX2_addText_8 : decode cX2_addText 8 = .ok (.iload 4, 2) := by decide +kernel
theorem dX2_addText_10 : decode cX2_addText 10 = .ok (.iload 5, 2) := by decide +kernel
theorem dX2_addText_12 : decode cX2_addText 12 = .ok (.invokevirtual 37, 3) := by decide +kernel
theorem dX2_addText_15 : decode cX2_addText 15 = .ok (.invokevirtual 41, 3) := by decide +kernel
theorem dX2_addText_18 : decode cX2_addText 18 = .ok (.ireturn, 1) := by decide +kernel
set_option maxRecDepth 20000 in
theorem ggX2_removeText_X2_attempt : GoodIn wsX2_removeText wsX2_attempt := goodIn_r _ [5, 6, 7, 8, 9, 10, 11, 12, 13, 14, 15, 16, 17, 18, 19, 20, 21, 22, 23, 24, 25, 26, 27, 28, 50, 51, 52, 53, 54, 55, 56, 57, 58, 59, 60, 61, 62, 63, 64, 65, 66, 67, 68, 69, 70, 71] (by decide +kernel) (by decide +kernel)
set_option maxRecDepth 20000 in
theorem gX2_removeText_X2_attempt : GoodIn wsX2_removeText (wsV RX2 33 RX2 yX2_attempt wsX2_attempt) := goodIn_app (goodIn_of _ (by decide +kernel)) ggX2_removeText_X2_attempt
set_option maxRecDepth 20000 in
theorem ggX2_removeText_X1_dropText : GoodIn wsX2_removeText wsX1_dropText := goodIn_r _ [32, 13, 18, 14, 15, 16, 17, 33, 34, 35, 11, 36, 37, 4, 38, 60, 61, 62, 63, 64, 65, 66, 67, 68, 69, 70, 71] (by decide +kernel) (by decide +kernel)
set_option maxRecDepth 20000 in
theorem gX2_removeText_X1_dropText : GoodIn wsX2_removeText (wsV RX2 45 RX1 yX1_dropText wsX1_dropText) := goodIn_app (goodIn_of _ (by decide +kernel)) ggX2_removeText_X1_dropText
set_option maxRecDepth 20000 in
theorem ggX2_removeText_X2_settle : GoodIn wsX2_removeText wsX2_settle := goodIn_r _ [42, 43, 44, 7, 6, 45, 46, 47, 48, 49, 50, 51, 52, 53, 54, 55, 56, 57, 58, 59] (by decide +kernel) (by decide +kernel)
set_option maxRecDepth 20000 in
theorem gX2_removeText_X2_settle : GoodIn wsX2_removeText (wsV RX2 41 RX2 yX2_settle wsX2_settle) := goodIn_app (goodIn_of _ (by decide +kernel)) ggX2_removeText_X2_settle
theorem dX2_removeText_0 : decode cX2_removeText 0 = .ok (.aload_n 0, 1) := by decide +kernel
theorem dX2_removeText_1 : decode cX2_removeText 1 = .ok (.aload_n 0, 1) := by decide +kernel
theorem dX2_removeText_2 : decode cX2_removeText 2 = .ok (.invokevirtual 33, 3) := by decide +kernel
theorem dX2_removeText_5 : decode cX2_removeText 5 = .ok (.iload_n 1, 1) := by decide +kernel
theorem dX2_removeText_6 : decode cX2_removeText 6 = .ok (.iload_n 2, 1) := by decide +kernel
theorem dX2_removeText_7 : decode cX2_removeText 7 = .ok (.invokevirtual 45, 3) := by decide +kernel
theorem dX2_removeText_10 : decode cX2_removeText 10 = .ok (.invokevirtual 41, 3) := by decide +kernel
theorem dX2_removeText_13 : decode cX2_removeText 13 = .ok (.ireturn, 1) := by decide +kernel
set_option maxRecDepth 20000 in
theorem ggX2_setFacts_X2_attempt : GoodIn wsX2_setFacts wsX2_attempt := goodIn_r _ [5, 6, 7, 8, 9, 10, 11, 12, 13, 14, 15, 16, 17, 18, 19, 20, 21, 22, 23, 24, 25, 26, 27, 28, 55, 56, 57, 58, 59, 60, 61, 62, 63, 64, 65, 66, 67, 68, 69, 70, 71, 72, 73, 74, 75, 76] (by decide +kernel) (by decide +kernel)
set_option maxRecDepth 20000 in
theorem gX2_setFacts_X2_attempt : GoodIn wsX2_setFacts (wsV RX2 33 RX2 yX2_attempt wsX2_attempt) := goodIn_app (goodIn_of _ (by decide +kernel)) ggX2_setFacts_X2_attempt
set_option maxRecDepth 20000 in
theorem ggX2_setFacts_X1_changeFacts : GoodIn wsX2_setFacts wsX1_changeFacts := goodIn_r _ [32, 33, 18, 34, 35, 36, 11, 37, 13, 38, 4, 39, 40, 41, 42, 43, 65, 66, 67, 68, 69, 70, 71, 72, 73, 74, 75, 76] (by decide +kernel) (by decide +kernel)
set_option maxRecDepth 20000 in
theorem gX2_setFacts_X1_changeFacts : GoodIn wsX2_setFacts (wsV RX2 49 RX1 yX1_changeFacts wsX1_changeFacts) := goodIn_app (goodIn_of _ (by decide +kernel)) ggX2_setFacts_X1_changeFacts
set_option maxRecDepth 20000 in
theorem ggX2_setFacts_X2_settle : GoodIn wsX2_setFacts wsX2_settle := goodIn_r _ [47, 48, 49, 7, 6, 50, 51, 52, 53, 54, 55, 56, 57, 58, 59, 60, 61, 62, 63, 64] (by decide +kernel) (by decide +kernel)
set_option maxRecDepth 20000 in
theorem gX2_setFacts_X2_settle : GoodIn wsX2_setFacts (wsV RX2 41 RX2 yX2_settle wsX2_settle) := goodIn_app (goodIn_of _ (by decide +kernel)) ggX2_setFacts_X2_settle
theorem dX2_setFacts_0 : decode cX2_setFacts 0 = .ok (.aload_n 0, 1) := by decide +kernel
theorem dX2_setFacts_1 : decode cX2_setFacts 1 = .ok (.aload_n 0, 1) := by decide +kernel
theorem dX2_setFacts_2 : decode cX2_setFacts 2 = .ok (.invokevirtual 33, 3) := by decide +kernel
theorem dX2_setFacts_5 : decode cX2_setFacts 5 = .ok (.iload_n 1, 1) := by decide +kernel
theorem dX2_setFacts_6 : decode cX2_setFacts 6 = .ok (.iload_n 2, 1) := by decide +kernel
theorem dX2_setFacts_7 : decode cX2_setFacts 7 = .ok (.iload_n 3, 1) := by decide +kernel
theorem dX2_setFacts_8 : decode cX2_setFacts 8 = .ok (.invokevirtual 49, 3) := by decide +kernel
theorem dX2_setFacts_11 : decode cX2_setFacts 11 = .ok (.invokevirtual 41, 3) := by decide +kernel
theorem dX2_setFacts_14 : decode cX2_setFacts 14 = .ok (.ireturn, 1) := by decide +kernel
set_option maxRecDepth 20000 in
theorem ggX2_addCaption_X2_attempt : GoodIn wsX2_addCaption wsX2_attempt := goodIn_r _ [5, 6, 7, 8, 9, 10, 11, 12, 13, 14, 15, 16, 17, 18, 19, 20, 21, 22, 23, 24, 25, 26, 27, 28, 51, 52, 53, 54, 55, 56, 57, 58, 59, 60, 61, 62, 63, 64, 65, 66, 67, 68, 69, 70, 71, 72] (by decide +kernel) (by decide +kernel)
set_option maxRecDepth 20000 in
theorem gX2_addCaption_X2_attempt : GoodIn wsX2_addCaption (wsV RX2 33 RX2 yX2_attempt wsX2_attempt) := goodIn_app (goodIn_of _ (by decide +kernel)) ggX2_addCaption_X2_attempt
set_option maxRecDepth 20000 in
theorem ggX2_addCaption_X1_putCaption : GoodIn wsX2_addCaption wsX1_putCaption := goodIn_r _ [32, 33, 18, 34, 35, 36, 11, 37, 13, 38, 4, 39, 61, 62, 63, 64, 65, 66, 67, 68, 69, 70, 71, 72] (by decide +kernel) (by decide +kernel)
set_option maxRecDepth 20000 in
theorem gX2_addCaption_X1_putCaption : GoodIn wsX2_addCaption (wsV RX2 53 RX1 yX1_putCaption wsX1_putCaption) := goodIn_app (goodIn_of _ (by decide +kernel)) ggX2_addCaption_X1_putCaption
set_option maxRecDepth 20000 in
theorem ggX2_addCaption_X2_settle : GoodIn wsX2_addCaption wsX2_settle := goodIn_r _ [43, 44, 45, 7, 6, 46, 47, 48, 49, 50, 51, 52, 53, 54, 55, 56, 57, 58, 59, 60] (by decide +kernel) (by decide +kernel)
set_option maxRecDepth 20000 in
theorem gX2_addCaption_X2_settle : GoodIn wsX2_addCaption (wsV RX2 41 RX2 yX2_settle wsX2_settle) := goodIn_app (goodIn_of _ (by decide +kernel)) ggX2_addCaption_X2_settle
theorem dX2_addCaption_0 : decode cX2_addCaption 0 = .ok (.aload_n 0, 1) := by decide +kernel
theorem dX2_addCaption_1 : decode cX2_addCaption 1 = .ok (.aload_n 0, 1) := by decide +kernel
theorem dX2_addCaption_2 : decode cX2_addCaption 2 = .ok (.invokevirtual 33, 3) := by decide +kernel
theorem dX2_addCaption_5 : decode cX2_addCaption 5 = .ok (.iload_n 1, 1) := by decide +kernel
theorem dX2_addCaption_6 : decode cX2_addCaption 6 = .ok (.iload_n 2, 1) := by decide +kernel
theorem dX2_addCaption_7 : decode cX2_addCaption 7 = .ok (.iload_n 3, 1) := by decide +kernel
theorem dX2_addCaption_8 : decode cX2_addCaption 8 = .ok (.iload 4, 2) := by decide +kernel
theorem dX2_addCaption_10 : decode cX2_addCaption 10 = .ok (.invokevirtual 53, 3) := by decide +kernel
theorem dX2_addCaption_13 : decode cX2_addCaption 13 = .ok (.invokevirtual 41, 3) := by decide +kernel
theorem dX2_addCaption_16 : decode cX2_addCaption 16 = .ok (.ireturn, 1) := by decide +kernel
set_option maxRecDepth 20000 in
theorem ggX2_readEntries_X0_findFault : GoodIn wsX2_readEntries wsX0_findFault := goodIn_r _ [6, 7, 8, 9, 10, 11, 5, 12, 13, 14, 15, 16, 17, 18, 19, 20, 21, 22, 23, 24, 25, 26, 27, 28, 29, 30, 31, 32, 33, 34, 35, 36, 37, 38, 39, 40, 41, 42, 43, 44, 45, 46, 47, 48, 135, 136, 137, 138, 139, 140, 141, 142, 143, 144] (by decide +kernel) (by decide +kernel)
set_option maxRecDepth 20000 in
theorem gX2_readEntries_X0_findFault : GoodIn wsX2_readEntries (wsV RX2 57 RX0 yX0_findFault wsX0_findFault) := goodIn_app (goodIn_of _ (by decide +kernel)) ggX2_readEntries_X0_findFault
set_option maxRecDepth 20000 in
theorem ggX2_readEntries_X2_attempt : GoodIn wsX2_readEntries wsX2_attempt := goodIn_r _ [53, 54, 55, 56, 57, 58, 59, 60, 61, 62, 63, 64, 65, 66, 67, 68, 69, 70, 71, 72, 73, 74, 75, 76, 125, 126, 127, 128, 129, 130, 131, 132, 133, 134, 145, 146, 147, 148, 149, 150, 151, 152, 153, 154, 155, 156] (by decide +kernel) (by decide +kernel)
set_option maxRecDepth 20000 in
theorem gX2_readEntries_X2_attempt : GoodIn wsX2_readEntries (wsV RX2 33 RX2 yX2_attempt wsX2_attempt) := goodIn_app (goodIn_of _ (by decide +kernel)) ggX2_readEntries_X2_attempt
set_option maxRecDepth 20000 in
theorem ggX2_readEntries_X2_doEntries : GoodIn wsX2_readEntries wsX2_doEntries := goodIn_r _ [80, 1, 81, 82, 83, 84, 10, 11, 5, 12, 13, 14, 15, 16, 17, 18, 7, 19, 20, 21, 22, 23, 24, 25, 26, 8, 27, 28, 29, 30, 31, 32, 33, 34, 35, 36, 37, 38, 39, 40, 41, 42, 43, 44, 45, 46, 47, 48, 85, 86, 87, 52, 88, 89, 90, 91, 92, 93, 94, 95, 96, 97, 98, 59, 99, 100, 66, 101, 102, 103, 104, 61, 105, 106, 107, 108, 109, 110, 111, 112, 113, 125, 126, 127, 128, 129, 130, 131, 132, 133, 134, 135, 136, 137, 138, 139, 140, 141, 142, 143, 144, 145, 146, 147, 148, 149, 150, 151, 152, 153, 154, 155, 156] (by decide +kernel) (by decide +kernel)
set_option maxRecDepth 20000 in
theorem gX2_readEntries_X2_doEntries : GoodIn wsX2_readEntries (wsV RX2 61 RX2 yX2_doEntries wsX2_doEntries) := goodIn_app (goodIn_of _ (by decide +kernel)) ggX2_readEntries_X2_doEntries
set_option maxRecDepth 20000 in
theorem ggX2_readEntries_X2_settle : GoodIn wsX2_readEntries wsX2_settle := goodIn_r _ [117, 118, 119, 55, 54, 120, 121, 122, 123, 124, 125, 126, 127, 128, 129, 130, 131, 132, 133, 134] (by decide +kernel) (by decide +kernel)
set_option maxRecDepth 20000 in
theorem gX2_readEntries_X2_settle : GoodIn wsX2_readEntries (wsV RX2 41 RX2 yX2_settle wsX2_settle) := goodIn_app (goodIn_of _ (by decide +kernel)) ggX2_readEntries_X2_settle
theorem dX2_readEntries_0 : decode cX2_readEntries 0 = .ok (.aload_n 0, 1) := by decide +kernel
theorem dX2_readEntries_1 : decode cX2_readEntries 1 = .ok (.getfield 29, 3) := by decide +kernel
theorem dX2_readEntries_4 : decode cX2_readEntries 4 = .ok (.invokevirtual 57, 3) := by decide +kernel
theorem dX2_readEntries_7 : decode cX2_readEntries 7 = .ok (.istore_n 1, 1) := by decide +kernel
theorem dX2_readEntries_8 : decode cX2_readEntries 8 = .ok (.iload_n 1, 1) := by decide +kernel
theorem dX2_readEntries_9 : decode cX2_readEntries 9 = .ok (.iconst (-1), 1) := by decide +kernel
theorem dX2_readEntries_10 : decode cX2_readEntries 10 = .ok (.if_icmp .eq 8, 3) := by decide +kernel
theorem dX2_readEntries_13 : decode cX2_readEntries 13 = .ok (.bipush (-100), 2) := by decide +kernel
theorem dX2_readEntries_15 : decode cX2_readEntries 15 = .ok (.iload_n 1, 1) := by decide +kernel
theorem dX2_readEntries_16 : decode cX2_readEntries 16 = .ok (.isub, 1) := by decide +kernel
theorem dX2_readEntries_17 : decode cX2_readEntries 17 = .ok (.ireturn, 1) := by decide +kernel
theorem dX2_readEntries_18 : decode cX2_readEntries 18 = .ok (.aload_n 0, 1) := by decide +kernel
theorem dX2_readEntries_19 : decode cX2_readEntries 19 = .ok (.aload_n 0, 1) := by decide +kernel
theorem dX2_readEntries_20 : decode cX2_readEntries 20 = .ok (.aload_n 0, 1) := by decide +kernel
theorem dX2_readEntries_21 : decode cX2_readEntries 21 = .ok (.invokevirtual 33, 3) := by decide +kernel
theorem dX2_readEntries_24 : decode cX2_readEntries 24 = .ok (.invokevirtual 61, 3) := by decide +kernel
theorem dX2_readEntries_27 : decode cX2_readEntries 27 = .ok (.invokevirtual 41, 3) := by decide +kernel
theorem dX2_readEntries_30 : decode cX2_readEntries 30 = .ok (.ireturn, 1) := by decide +kernel
theorem dX2_refusal_0 : decode cX2_refusal 0 = .ok (.iload_n 1, 1) := by decide +kernel
theorem dX2_refusal_1 : decode cX2_refusal 1 = .ok (.ifCond .lt 8, 3) := by decide +kernel
theorem dX2_refusal_4 : decode cX2_refusal 4 = .ok (.iload_n 1, 1) := by decide +kernel
theorem dX2_refusal_5 : decode cX2_refusal 5 = .ok (.iconst 1, 1) := by decide +kernel
theorem dX2_refusal_6 : decode cX2_refusal 6 = .ok (.if_icmp .le 6, 3) := by decide +kernel
theorem dX2_refusal_9 : decode cX2_refusal 9 = .ok (.bipush (-2), 2) := by decide +kernel
theorem dX2_refusal_11 : decode cX2_refusal 11 = .ok (.ireturn, 1) := by decide +kernel
theorem dX2_refusal_12 : decode cX2_refusal 12 = .ok (.aload_n 0, 1) := by decide +kernel
theorem dX2_refusal_13 : decode cX2_refusal 13 = .ok (.getfield 65, 3) := by decide +kernel
theorem dX2_refusal_16 : decode cX2_refusal 16 = .ok (.ifCond .ne 6, 3) := by decide +kernel
theorem dX2_refusal_19 : decode cX2_refusal 19 = .ok (.bipush (-5), 2) := by decide +kernel
theorem dX2_refusal_21 : decode cX2_refusal 21 = .ok (.ireturn, 1) := by decide +kernel
theorem dX2_refusal_22 : decode cX2_refusal 22 = .ok (.iload_n 1, 1) := by decide +kernel
theorem dX2_refusal_23 : decode cX2_refusal 23 = .ok (.ifCond .ne 10, 3) := by decide +kernel
theorem dX2_refusal_26 : decode cX2_refusal 26 = .ok (.aload_n 0, 1) := by decide +kernel
theorem dX2_refusal_27 : decode cX2_refusal 27 = .ok (.getfield 69, 3) := by decide +kernel
theorem dX2_refusal_30 : decode cX2_refusal 30 = .ok (.goto 7, 3) := by decide +kernel
theorem dX2_refusal_33 : decode cX2_refusal 33 = .ok (.aload_n 0, 1) := by decide +kernel
theorem dX2_refusal_34 : decode cX2_refusal 34 = .ok (.getfield 65, 3) := by decide +kernel
theorem dX2_refusal_37 : decode cX2_refusal 37 = .ok (.ireturn, 1) := by decide +kernel
set_option maxRecDepth 20000 in
theorem ggX2_enter_X2_attempt : GoodIn wsX2_enter wsX2_attempt := goodIn_r _ [5, 6, 7, 8, 9, 10, 11, 12, 13, 14, 15, 16, 17, 18, 19, 20, 21, 22, 23, 24, 25, 26, 27, 28, 56, 57, 58, 59, 60, 61, 62, 63, 64, 65, 66, 67, 68, 69, 70, 71, 72, 73, 74, 75, 76, 77] (by decide +kernel) (by decide +kernel)
set_option maxRecDepth 20000 in
theorem gX2_enter_X2_attempt : GoodIn wsX2_enter (wsV RX2 33 RX2 yX2_attempt wsX2_attempt) := goodIn_app (goodIn_of _ (by decide +kernel)) ggX2_enter_X2_attempt
set_option maxRecDepth 20000 in
theorem ggX2_enter_X1_admit : GoodIn wsX2_enter wsX1_admit := goodIn_r _ [32, 24, 25, 26, 27, 28, 21, 19, 33, 4, 34, 35, 36, 37, 11, 38, 13, 39, 40, 41, 42, 43, 44, 18, 66, 67, 68, 69, 70, 71, 72, 73, 74, 75, 76, 77] (by decide +kernel) (by decide +kernel)
set_option maxRecDepth 20000 in
theorem gX2_enter_X1_admit : GoodIn wsX2_enter (wsV RX2 72 RX1 yX1_admit wsX1_admit) := goodIn_app (goodIn_of _ (by decide +kernel)) ggX2_enter_X1_admit
set_option maxRecDepth 20000 in
theorem ggX2_enter_X2_settle : GoodIn wsX2_enter wsX2_settle := goodIn_r _ [48, 49, 50, 7, 6, 51, 52, 53, 54, 55, 56, 57, 58, 59, 60, 61, 62, 63, 64, 65] (by decide +kernel) (by decide +kernel)
set_option maxRecDepth 20000 in
theorem gX2_enter_X2_settle : GoodIn wsX2_enter (wsV RX2 41 RX2 yX2_settle wsX2_settle) := goodIn_app (goodIn_of _ (by decide +kernel)) ggX2_enter_X2_settle
theorem dX2_enter_0 : decode cX2_enter 0 = .ok (.aload_n 0, 1) := by decide +kernel
theorem dX2_enter_1 : decode cX2_enter 1 = .ok (.aload_n 0, 1) := by decide +kernel
theorem dX2_enter_2 : decode cX2_enter 2 = .ok (.invokevirtual 33, 3) := by decide +kernel
theorem dX2_enter_5 : decode cX2_enter 5 = .ok (.iload_n 1, 1) := by decide +kernel
theorem dX2_enter_6 : decode cX2_enter 6 = .ok (.iload_n 2, 1) := by decide +kernel
theorem dX2_enter_7 : decode cX2_enter 7 = .ok (.iload_n 3, 1) := by decide +kernel
theorem dX2_enter_8 : decode cX2_enter 8 = .ok (.invokevirtual 72, 3) := by decide +kernel
theorem dX2_enter_11 : decode cX2_enter 11 = .ok (.invokevirtual 41, 3) := by decide +kernel
theorem dX2_enter_14 : decode cX2_enter 14 = .ok (.ireturn, 1) := by decide +kernel
set_option maxRecDepth 20000 in
theorem ggX2_touch_X2_attempt : GoodIn wsX2_touch wsX2_attempt := goodIn_r _ [5, 6, 7, 8, 9, 10, 11, 12, 13, 14, 15, 16, 17, 18, 19, 20, 21, 22, 23, 24, 25, 26, 27, 28, 84, 85, 86, 87, 88, 89, 90, 91, 92, 93, 94, 95, 96, 97, 98, 99, 100, 101, 102, 103, 104, 105] (by decide +kernel) (by decide +kernel)
set_option maxRecDepth 20000 in
theorem gX2_touch_X2_attempt : GoodIn wsX2_touch (wsV RX2 33 RX2 yX2_attempt wsX2_attempt) := goodIn_app (goodIn_of _ (by decide +kernel)) ggX2_touch_X2_attempt
set_option maxRecDepth 20000 in
theorem ggX2_touch_X1_touchCaption : GoodIn wsX2_touch wsX1_touchCaption := goodIn_r _ [32, 18, 27, 28, 23, 33, 34, 35, 11, 36, 24, 19, 25, 37, 38, 39, 40, 13, 41, 4, 42, 43, 44, 45, 46, 47, 48, 49, 50, 51, 52, 53, 54, 55, 56, 57, 58, 26, 59, 60, 61, 62, 63, 64, 65, 66, 22, 67, 68, 69, 70, 71, 72, 73, 94, 95, 96, 97, 98, 99, 100, 101, 102, 103, 104, 105] (by decide +kernel) (by decide +kernel)
set_option maxRecDepth 20000 in
theorem gX2_touch_X1_touchCaption : GoodIn wsX2_touch (wsV RX2 75 RX1 yX1_touchCaption wsX1_touchCaption) := goodIn_app (goodIn_of _ (by decide +kernel)) ggX2_touch_X1_touchCaption
set_option maxRecDepth 20000 in
theorem ggX2_touch_X2_settle : GoodIn wsX2_touch wsX2_settle := goodIn_r _ [77, 78, 79, 7, 6, 80, 81, 82, 61, 83, 84, 85, 86, 87, 88, 89, 90, 91, 92, 93] (by decide +kernel) (by decide +kernel)
set_option maxRecDepth 20000 in
theorem gX2_touch_X2_settle : GoodIn wsX2_touch (wsV RX2 41 RX2 yX2_settle wsX2_settle) := goodIn_app (goodIn_of _ (by decide +kernel)) ggX2_touch_X2_settle
theorem dX2_touch_0 : decode cX2_touch 0 = .ok (.aload_n 0, 1) := by decide +kernel
theorem dX2_touch_1 : decode cX2_touch 1 = .ok (.aload_n 0, 1) := by decide +kernel
theorem dX2_touch_2 : decode cX2_touch 2 = .ok (.invokevirtual 33, 3) := by decide +kernel
theorem dX2_touch_5 : decode cX2_touch 5 = .ok (.iload_n 1, 1) := by decide +kernel
theorem dX2_touch_6 : decode cX2_touch 6 = .ok (.invokevirtual 75, 3) := by decide +kernel
theorem dX2_touch_9 : decode cX2_touch 9 = .ok (.invokevirtual 41, 3) := by decide +kernel
theorem dX2_touch_12 : decode cX2_touch 12 = .ok (.ireturn, 1) := by decide +kernel
set_option maxRecDepth 20000 in
theorem ggX2_read_X2_attempt : GoodIn wsX2_read wsX2_attempt := goodIn_r _ [5, 6, 7, 8, 9, 10, 11, 12, 13, 14, 15, 16, 17, 18, 19, 20, 21, 22, 23, 24, 25, 26, 27, 28, 80, 81, 82, 83, 84, 85, 86, 87, 88, 89, 90, 91, 92, 93, 94, 95, 96, 97, 98, 99, 100, 101] (by decide +kernel) (by decide +kernel)
set_option maxRecDepth 20000 in
theorem gX2_read_X2_attempt : GoodIn wsX2_read (wsV RX2 33 RX2 yX2_attempt wsX2_attempt) := goodIn_app (goodIn_of _ (by decide +kernel)) ggX2_read_X2_attempt
set_option maxRecDepth 20000 in
theorem ggX2_read_X1_readUntouched : GoodIn wsX2_read wsX1_readUntouched := goodIn_r _ [32, 18, 28, 33, 34, 35, 11, 36, 24, 19, 25, 37, 38, 39, 40, 13, 41, 4, 42, 43, 44, 45, 46, 47, 48, 49, 50, 51, 52, 53, 54, 27, 22, 55, 56, 57, 58, 26, 59, 60, 61, 62, 63, 64, 65, 66, 67, 68, 69, 90, 91, 92, 93, 94, 95, 96, 97, 98, 99, 100, 101] (by decide +kernel) (by decide +kernel)
set_option maxRecDepth 20000 in
theorem gX2_read_X1_readUntouched : GoodIn wsX2_read (wsV RX2 78 RX1 yX1_readUntouched wsX1_readUntouched) := goodIn_app (goodIn_of _ (by decide +kernel)) ggX2_read_X1_readUntouched
set_option maxRecDepth 20000 in
theorem ggX2_read_X2_settle : GoodIn wsX2_read wsX2_settle := goodIn_r _ [73, 74, 75, 7, 6, 76, 77, 78, 61, 79, 80, 81, 82, 83, 84, 85, 86, 87, 88, 89] (by decide +kernel) (by decide +kernel)
set_option maxRecDepth 20000 in
theorem gX2_read_X2_settle : GoodIn wsX2_read (wsV RX2 41 RX2 yX2_settle wsX2_settle) := goodIn_app (goodIn_of _ (by decide +kernel)) ggX2_read_X2_settle
theorem dX2_read_0 : decode cX2_read 0 = .ok (.aload_n 0, 1) := by decide +kernel
theorem dX2_read_1 : decode cX2_read 1 = .ok (.aload_n 0, 1) := by decide +kernel
theorem dX2_read_2 : decode cX2_read 2 = .ok (.invokevirtual 33, 3) := by decide +kernel
theorem dX2_read_5 : decode cX2_read 5 = .ok (.invokevirtual 78, 3) := by decide +kernel
theorem dX2_read_8 : decode cX2_read 8 = .ok (.invokevirtual 41, 3) := by decide +kernel
theorem dX2_read_11 : decode cX2_read 11 = .ok (.ireturn, 1) := by decide +kernel
set_option maxRecDepth 20000 in
theorem ggX2_turn_X2_attempt : GoodIn wsX2_turn wsX2_attempt := goodIn_r _ [5, 6, 7, 8, 9, 10, 11, 12, 13, 14, 15, 16, 17, 18, 19, 20, 21, 22, 23, 24, 25, 26, 27, 28, 51, 52, 53, 54, 55, 56, 57, 58, 59, 60, 61, 62, 63, 64, 65, 66, 67, 68, 69, 70, 71, 72] (by decide +kernel) (by decide +kernel)
set_option maxRecDepth 20000 in
theorem gX2_turn_X2_attempt : GoodIn wsX2_turn (wsV RX2 33 RX2 yX2_attempt wsX2_attempt) := goodIn_app (goodIn_of _ (by decide +kernel)) ggX2_turn_X2_attempt
set_option maxRecDepth 20000 in
theorem ggX2_turn_X1_turnRing : GoodIn wsX2_turn wsX1_turnRing := goodIn_r _ [32, 19, 27, 20, 33, 34, 35, 36, 37, 38, 39, 40, 61, 62, 63, 64, 65, 66, 67, 68, 69, 70, 71, 72] (by decide +kernel) (by decide +kernel)
set_option maxRecDepth 20000 in
theorem gX2_turn_X1_turnRing : GoodIn wsX2_turn (wsV RX2 81 RX1 yX1_turnRing wsX1_turnRing) := goodIn_app (goodIn_of _ (by decide +kernel)) ggX2_turn_X1_turnRing
set_option maxRecDepth 20000 in
theorem ggX2_turn_X2_settle : GoodIn wsX2_turn wsX2_settle := goodIn_r _ [44, 45, 46, 7, 6, 47, 48, 49, 35, 50, 51, 52, 53, 54, 55, 56, 57, 58, 59, 60] (by decide +kernel) (by decide +kernel)
set_option maxRecDepth 20000 in
theorem gX2_turn_X2_settle : GoodIn wsX2_turn (wsV RX2 41 RX2 yX2_settle wsX2_settle) := goodIn_app (goodIn_of _ (by decide +kernel)) ggX2_turn_X2_settle
theorem dX2_turn_0 : decode cX2_turn 0 = .ok (.aload_n 0, 1) := by decide +kernel
theorem dX2_turn_1 : decode cX2_turn 1 = .ok (.aload_n 0, 1) := by decide +kernel
theorem dX2_turn_2 : decode cX2_turn 2 = .ok (.invokevirtual 33, 3) := by decide +kernel
theorem dX2_turn_5 : decode cX2_turn 5 = .ok (.iload_n 1, 1) := by decide +kernel
theorem dX2_turn_6 : decode cX2_turn 6 = .ok (.invokevirtual 81, 3) := by decide +kernel
theorem dX2_turn_9 : decode cX2_turn 9 = .ok (.invokevirtual 41, 3) := by decide +kernel
theorem dX2_turn_12 : decode cX2_turn 12 = .ok (.ireturn, 1) := by decide +kernel
set_option maxRecDepth 20000 in
theorem ggX2_setTurning_X2_attempt : GoodIn wsX2_setTurning wsX2_attempt := goodIn_r _ [5, 6, 7, 8, 9, 10, 11, 12, 13, 14, 15, 16, 17, 18, 19, 20, 21, 22, 23, 24, 25, 26, 27, 28, 44, 45, 46, 47, 48, 49, 50, 51, 52, 53, 54, 55, 56, 57, 58, 59, 60, 61, 62, 63, 64, 65] (by decide +kernel) (by decide +kernel)
set_option maxRecDepth 20000 in
theorem gX2_setTurning_X2_attempt : GoodIn wsX2_setTurning (wsV RX2 33 RX2 yX2_attempt wsX2_attempt) := goodIn_app (goodIn_of _ (by decide +kernel)) ggX2_setTurning_X2_attempt
set_option maxRecDepth 20000 in
theorem ggX2_setTurning_X1_changeTurning : GoodIn wsX2_setTurning wsX1_changeTurning := goodIn_r _ [32, 20, 54, 55, 56, 57, 58, 59, 60, 61, 62, 63, 64, 65] (by decide +kernel) (by decide +kernel)
set_option maxRecDepth 20000 in
theorem gX2_setTurning_X1_changeTurning : GoodIn wsX2_setTurning (wsV RX2 85 RX1 yX1_changeTurning wsX1_changeTurning) := goodIn_app (goodIn_of _ (by decide +kernel)) ggX2_setTurning_X1_changeTurning
set_option maxRecDepth 20000 in
theorem ggX2_setTurning_X2_settle : GoodIn wsX2_setTurning wsX2_settle := goodIn_r _ [36, 37, 38, 7, 6, 39, 40, 41, 42, 43, 44, 45, 46, 47, 48, 49, 50, 51, 52, 53] (by decide +kernel) (by decide +kernel)
set_option maxRecDepth 20000 in
theorem gX2_setTurning_X2_settle : GoodIn wsX2_setTurning (wsV RX2 41 RX2 yX2_settle wsX2_settle) := goodIn_app (goodIn_of _ (by decide +kernel)) ggX2_setTurning_X2_settle
theorem dX2_setTurning_0 : decode cX2_setTurning 0 = .ok (.aload_n 0, 1) := by decide +kernel
theorem dX2_setTurning_1 : decode cX2_setTurning 1 = .ok (.aload_n 0, 1) := by decide +kernel
theorem dX2_setTurning_2 : decode cX2_setTurning 2 = .ok (.invokevirtual 33, 3) := by decide +kernel
theorem dX2_setTurning_5 : decode cX2_setTurning 5 = .ok (.iload_n 1, 1) := by decide +kernel
theorem dX2_setTurning_6 : decode cX2_setTurning 6 = .ok (.invokevirtual 85, 3) := by decide +kernel
theorem dX2_setTurning_9 : decode cX2_setTurning 9 = .ok (.invokevirtual 41, 3) := by decide +kernel
theorem dX2_setTurning_12 : decode cX2_setTurning 12 = .ok (.ireturn, 1) := by decide +kernel
set_option maxRecDepth 20000 in
theorem ggX2_type_X0_append : GoodIn wsX2_type wsX0_append := goodIn_r _ [6, 7, 8, 19, 20, 21, 22, 23, 24, 25, 26, 27, 28] (by decide +kernel) (by decide +kernel)
set_option maxRecDepth 20000 in
theorem gX2_type_X0_append : GoodIn wsX2_type (wsV RX2 88 RX0 yX0_append wsX0_append) := goodIn_app (goodIn_of _ (by decide +kernel)) ggX2_type_X0_append
theorem dX2_type_0 : decode cX2_type 0 = .ok (.aload_n 0, 1) := by decide +kernel
theorem dX2_type_1 : decode cX2_type 1 = .ok (.getfield 29, 3) := by decide +kernel
theorem dX2_type_4 : decode cX2_type 4 = .ok (.iload_n 1, 1) := by decide +kernel
theorem dX2_type_5 : decode cX2_type 5 = .ok (.invokevirtual 88, 3) := by decide +kernel
theorem dX2_type_8 : decode cX2_type 8 = .ok (.ireturn, 1) := by decide +kernel
theorem dX2_clearPad_0 : decode cX2_clearPad 0 = .ok (.aload_n 0, 1) := by decide +kernel
theorem dX2_clearPad_1 : decode cX2_clearPad 1 = .ok (.getfield 29, 3) := by decide +kernel
theorem dX2_clearPad_4 : decode cX2_clearPad 4 = .ok (.getfield 92, 3) := by decide +kernel
theorem dX2_clearPad_7 : decode cX2_clearPad 7 = .ok (.istore_n 1, 1) := by decide +kernel
theorem dX2_clearPad_8 : decode cX2_clearPad 8 = .ok (.aload_n 0, 1) := by decide +kernel
theorem dX2_clearPad_9 : decode cX2_clearPad 9 = .ok (.getfield 29, 3) := by decide +kernel
theorem dX2_clearPad_12 : decode cX2_clearPad 12 = .ok (.iconst 0, 1) := by decide +kernel
theorem dX2_clearPad_13 : decode cX2_clearPad 13 = .ok (.putfield 92, 3) := by decide +kernel
theorem dX2_clearPad_16 : decode cX2_clearPad 16 = .ok (.iload_n 1, 1) := by decide +kernel
theorem dX2_clearPad_17 : decode cX2_clearPad 17 = .ok (.ireturn, 1) := by decide +kernel
theorem dX2_undo_0 : decode cX2_undo 0 = .ok (.aload_n 0, 1) := by decide +kernel
theorem dX2_undo_1 : decode cX2_undo 1 = .ok (.getfield 95, 3) := by decide +kernel
theorem dX2_undo_4 : decode cX2_undo 4 = .ok (.ifCond .ne 6, 3) := by decide +kernel
theorem dX2_undo_7 : decode cX2_undo 7 = .ok (.bipush (-5), 2) := by decide +kernel
theorem dX2_undo_9 : decode cX2_undo 9 = .ok (.ireturn, 1) := by decide +kernel
theorem dX2_undo_10 : decode cX2_undo 10 = .ok (.aload_n 0, 1) := by decide +kernel
theorem dX2_undo_11 : decode cX2_undo 11 = .ok (.dup, 1) := by decide +kernel
theorem dX2_undo_12 : decode cX2_undo 12 = .ok (.getfield 98, 3) := by decide +kernel
theorem dX2_undo_15 : decode cX2_undo 15 = .ok (.iconst 1, 1) := by decide +kernel
theorem dX2_undo_16 : decode cX2_undo 16 = .ok (.isub, 1) := by decide +kernel
theorem dX2_undo_17 : decode cX2_undo 17 = .ok (.putfield 98, 3) := by decide +kernel
theorem dX2_undo_20 : decode cX2_undo 20 = .ok (.aload_n 0, 1) := by decide +kernel
theorem dX2_undo_21 : decode cX2_undo 21 = .ok (.dup, 1) := by decide +kernel
theorem dX2_undo_22 : decode cX2_undo 22 = .ok (.getfield 95, 3) := by decide +kernel
theorem dX2_undo_25 : decode cX2_undo 25 = .ok (.iconst 1, 1) := by decide +kernel
theorem dX2_undo_26 : decode cX2_undo 26 = .ok (.isub, 1) := by decide +kernel
theorem dX2_undo_27 : decode cX2_undo 27 = .ok (.putfield 95, 3) := by decide +kernel
theorem dX2_undo_30 : decode cX2_undo 30 = .ok (.aload_n 0, 1) := by decide +kernel
theorem dX2_undo_31 : decode cX2_undo 31 = .ok (.getfield 98, 3) := by decide +kernel
theorem dX2_undo_34 : decode cX2_undo 34 = .ok (.iconst 3, 1) := by decide +kernel
theorem dX2_undo_35 : decode cX2_undo 35 = .ok (.iand, 1) := by decide +kernel
theorem dX2_undo_36 : decode cX2_undo 36 = .ok (.istore_n 1, 1) := by decide +kernel
theorem dX2_undo_37 : decode cX2_undo 37 = .ok (.aload_n 0, 1) := by decide +kernel
theorem dX2_undo_38 : decode cX2_undo 38 = .ok (.getfield 12, 3) := by decide +kernel
theorem dX2_undo_41 : decode cX2_undo 41 = .ok (.astore_n 2, 1) := by decide +kernel
theorem dX2_undo_42 : decode cX2_undo 42 = .ok (.aload_n 0, 1) := by decide +kernel
theorem dX2_undo_43 : decode cX2_undo 43 = .ok (.aload_n 0, 1) := by decide +kernel
theorem dX2_undo_44 : decode cX2_undo 44 = .ok (.getfield 22, 3) := by decide +kernel
theorem dX2_undo_47 : decode cX2_undo 47 = .ok (.iload_n 1, 1) := by decide +kernel
theorem dX2_undo_48 : decode cX2_undo 48 = .ok (.aaload, 1) := by decide +kernel
theorem dX2_undo_49 : decode cX2_undo 49 = .ok (.putfield 12, 3) := by decide +kernel
theorem dX2_undo_52 : decode cX2_undo 52 = .ok (.aload_n 0, 1) := by decide +kernel
theorem dX2_undo_53 : decode cX2_undo 53 = .ok (.getfield 22, 3) := by decide +kernel
theorem dX2_undo_56 : decode cX2_undo 56 = .ok (.iload_n 1, 1) := by decide +kernel
theorem dX2_undo_57 : decode cX2_undo 57 = .ok (.aload_n 2, 1) := by decide +kernel
theorem dX2_undo_58 : decode cX2_undo 58 = .ok (.aastore, 1) := by decide +kernel
theorem dX2_undo_59 : decode cX2_undo 59 = .ok (.aload_n 0, 1) := by decide +kernel
theorem dX2_undo_60 : decode cX2_undo 60 = .ok (.getfield 95, 3) := by decide +kernel
theorem dX2_undo_63 : decode cX2_undo 63 = .ok (.ireturn, 1) := by decide +kernel
set_option maxRecDepth 20000 in
theorem ggX2_keep_X1_copyFrom : GoodIn wsX2_keep wsX1_copyFrom := goodIn_r _ [8, 9, 10, 11, 12, 13, 14, 15, 16, 17, 18, 19, 20, 21, 22, 23, 24, 39, 40, 41, 42, 43, 44, 45, 46, 47, 48, 49, 50] (by decide +kernel) (by decide +kernel)
set_option maxRecDepth 20000 in
theorem gX2_keep_X1_copyFrom : GoodIn wsX2_keep (wsV RX2 101 RX1 yX1_copyFrom wsX1_copyFrom) := goodIn_app (goodIn_of _ (by decide +kernel)) ggX2_keep_X1_copyFrom
set_option maxRecDepth 20000 in
theorem ggX2_keep_X1_countTexts : GoodIn wsX2_keep wsX1_countTexts := goodIn_r _ [28, 9, 39, 40, 41, 42, 43, 44, 45, 46, 47, 48, 49, 50] (by decide +kernel) (by decide +kernel)
set_option maxRecDepth 20000 in
theorem gX2_keep_X1_countTexts : GoodIn wsX2_keep (wsV RX2 109 RX1 yX1_countTexts wsX1_countTexts) := goodIn_app (goodIn_of _ (by decide +kernel)) ggX2_keep_X1_countTexts
theorem dX2_keep_0 : decode cX2_keep 0 = .ok (.aload_n 0, 1) := by decide +kernel
theorem dX2_keep_1 : decode cX2_keep 1 = .ok (.getfield 19, 3) := by decide +kernel
theorem dX2_keep_4 : decode cX2_keep 4 = .ok (.aload_n 0, 1) := by decide +kernel
theorem dX2_keep_5 : decode cX2_keep 5 = .ok (.getfield 12, 3) := by decide +kernel
theorem dX2_keep_8 : decode cX2_keep 8 = .ok (.invokevirtual 101, 3) := by decide +kernel
theorem dX2_keep_11 : decode cX2_keep 11 = .ok (.aload_n 0, 1) := by decide +kernel
theorem dX2_keep_12 : decode cX2_keep 12 = .ok (.iconst 1, 1) := by decide +kernel
theorem dX2_keep_13 : decode cX2_keep 13 = .ok (.putfield 105, 3) := by decide +kernel
theorem dX2_keep_16 : decode cX2_keep 16 = .ok (.aload_n 0, 1) := by decide +kernel
theorem dX2_keep_17 : decode cX2_keep 17 = .ok (.getfield 12, 3) := by decide +kernel
theorem dX2_keep_20 : decode cX2_keep 20 = .ok (.invokevirtual 109, 3) := by decide +kernel
theorem dX2_keep_23 : decode cX2_keep 23 = .ok (.ireturn, 1) := by decide +kernel
set_option maxRecDepth 20000 in
theorem ggX2_restore_X1_copyFrom : GoodIn wsX2_restore wsX1_copyFrom := goodIn_r _ [8, 9, 10, 11, 12, 13, 14, 15, 16, 17, 18, 19, 20, 21, 22, 23, 24, 52, 53, 54, 55, 56, 57, 58, 59, 60, 61, 62, 63] (by decide +kernel) (by decide +kernel)
set_option maxRecDepth 20000 in
theorem gX2_restore_X1_copyFrom : GoodIn wsX2_restore (wsV RX2 101 RX1 yX1_copyFrom wsX1_copyFrom) := goodIn_app (goodIn_of _ (by decide +kernel)) ggX2_restore_X1_copyFrom
set_option maxRecDepth 20000 in
theorem ggX2_restore_X1_countTexts : GoodIn wsX2_restore wsX1_countTexts := goodIn_r _ [28, 9, 52, 53, 54, 55, 56, 57, 58, 59, 60, 61, 62, 63] (by decide +kernel) (by decide +kernel)
set_option maxRecDepth 20000 in
theorem gX2_restore_X1_countTexts : GoodIn wsX2_restore (wsV RX2 109 RX1 yX1_countTexts wsX1_countTexts) := goodIn_app (goodIn_of _ (by decide +kernel)) ggX2_restore_X1_countTexts
set_option maxRecDepth 20000 in
theorem ggX2_restore_X2_settle : GoodIn wsX2_restore wsX2_settle := goodIn_r _ [33, 34, 35, 36, 2, 37, 38, 39, 40, 41, 42, 43, 44, 45, 46, 47, 48, 49, 50, 51] (by decide +kernel) (by decide +kernel)
set_option maxRecDepth 20000 in
theorem gX2_restore_X2_settle : GoodIn wsX2_restore (wsV RX2 41 RX2 yX2_settle wsX2_settle) := goodIn_app (goodIn_of _ (by decide +kernel)) ggX2_restore_X2_settle
theorem dX2_restore_0 : decode cX2_restore 0 = .ok (.aload_n 0, 1) := by decide +kernel
theorem dX2_restore_1 : decode cX2_restore 1 = .ok (.getfield 105, 3) := by decide +kernel
theorem dX2_restore_4 : decode cX2_restore 4 = .ok (.ifCond .ne 6, 3) := by decide +kernel
theorem dX2_restore_7 : decode cX2_restore 7 = .ok (.bipush (-5), 2) := by decide +kernel
theorem dX2_restore_9 : decode cX2_restore 9 = .ok (.ireturn, 1) := by decide +kernel
theorem dX2_restore_10 : decode cX2_restore 10 = .ok (.aload_n 0, 1) := by decide +kernel
theorem dX2_restore_11 : decode cX2_restore 11 = .ok (.getfield 16, 3) := by decide +kernel
theorem dX2_restore_14 : decode cX2_restore 14 = .ok (.aload_n 0, 1) := by decide +kernel
theorem dX2_restore_15 : decode cX2_restore 15 = .ok (.getfield 19, 3) := by decide +kernel
theorem dX2_restore_18 : decode cX2_restore 18 = .ok (.invokevirtual 101, 3) := by decide +kernel
theorem dX2_restore_21 : decode cX2_restore 21 = .ok (.aload_n 0, 1) := by decide +kernel
theorem dX2_restore_22 : decode cX2_restore 22 = .ok (.aload_n 0, 1) := by decide +kernel
theorem dX2_restore_23 : decode cX2_restore 23 = .ok (.getfield 16, 3) := by decide +kernel
theorem dX2_restore_26 : decode cX2_restore 26 = .ok (.invokevirtual 109, 3) := by decide +kernel
theorem dX2_restore_29 : decode cX2_restore 29 = .ok (.invokevirtual 41, 3) := by decide +kernel
theorem dX2_restore_32 : decode cX2_restore 32 = .ok (.ireturn, 1) := by decide +kernel
set_option maxRecDepth 20000 in
theorem ggX2_text_X1_rowOf : GoodIn wsX2_text wsX1_rowOf := goodIn_r _ [7, 8, 9, 10, 11, 22, 23, 24, 25, 26, 27, 28, 29, 30, 31, 32, 33] (by decide +kernel) (by decide +kernel)
set_option maxRecDepth 20000 in
theorem gX2_text_X1_rowOf : GoodIn wsX2_text (wsV RX2 112 RX1 yX1_rowOf wsX1_rowOf) := goodIn_app (goodIn_of _ (by decide +kernel)) ggX2_text_X1_rowOf
theorem dX2_text_0 : decode cX2_text 0 = .ok (.aload_n 0, 1) := by decide +kernel
theorem dX2_text_1 : decode cX2_text 1 = .ok (.getfield 12, 3) := by decide +kernel
theorem dX2_text_4 : decode cX2_text 4 = .ok (.iload_n 1, 1) := by decide +kernel
theorem dX2_text_5 : decode cX2_text 5 = .ok (.iload_n 2, 1) := by decide +kernel
theorem dX2_text_6 : decode cX2_text 6 = .ok (.invokevirtual 112, 3) := by decide +kernel
theorem dX2_text_9 : decode cX2_text 9 = .ok (.istore 4, 2) := by decide +kernel
theorem dX2_text_11 : decode cX2_text 11 = .ok (.iload 4, 2) := by decide +kernel
theorem dX2_text_13 : decode cX2_text 13 = .ok (.ifCond .ge 5, 3) := by decide +kernel
theorem dX2_text_16 : decode cX2_text 16 = .ok (.iconst (-1), 1) := by decide +kernel
theorem dX2_text_17 : decode cX2_text 17 = .ok (.ireturn, 1) := by decide +kernel
theorem dX2_text_18 : decode cX2_text 18 = .ok (.iload_n 3, 1) := by decide +kernel
theorem dX2_text_19 : decode cX2_text 19 = .ok (.ifCond .lt 9, 3) := by decide +kernel
theorem dX2_text_22 : decode cX2_text 22 = .ok (.iload_n 3, 1) := by decide +kernel
theorem dX2_text_23 : decode cX2_text 23 = .ok (.bipush 7, 2) := by decide +kernel
theorem dX2_text_25 : decode cX2_text 25 = .ok (.if_icmp .lt 6, 3) := by decide +kernel
theorem dX2_text_28 : decode cX2_text 28 = .ok (.bipush (-2), 2) := by decide +kernel
theorem dX2_text_30 : decode cX2_text 30 = .ok (.ireturn, 1) := by decide +kernel
theorem dX2_text_31 : decode cX2_text 31 = .ok (.aload_n 0, 1) := by decide +kernel
theorem dX2_text_32 : decode cX2_text 32 = .ok (.getfield 12, 3) := by decide +kernel
theorem dX2_text_35 : decode cX2_text 35 = .ok (.getfield 115, 3) := by decide +kernel
theorem dX2_text_38 : decode cX2_text 38 = .ok (.iload 4, 2) := by decide +kernel
theorem dX2_text_40 : decode cX2_text 40 = .ok (.iload_n 3, 1) := by decide +kernel
theorem dX2_text_41 : decode cX2_text 41 = .ok (.iadd, 1) := by decide +kernel
theorem dX2_text_42 : decode cX2_text 42 = .ok (.iaload, 1) := by decide +kernel
theorem dX2_text_43 : decode cX2_text 43 = .ok (.ireturn, 1) := by decide +kernel
set_option maxRecDepth 20000 in
theorem ggX2_caption_X1_rowOf : GoodIn wsX2_caption wsX1_rowOf := goodIn_r _ [7, 8, 9, 10, 11, 27, 28, 29, 30, 31, 32, 33, 34, 35, 36, 37, 38] (by decide +kernel) (by decide +kernel)
set_option maxRecDepth 20000 in
theorem gX2_caption_X1_rowOf : GoodIn wsX2_caption (wsV RX2 112 RX1 yX1_rowOf wsX1_rowOf) := goodIn_app (goodIn_of _ (by decide +kernel)) ggX2_caption_X1_rowOf
set_option maxRecDepth 20000 in
theorem ggX2_caption_X1_captionOf : GoodIn wsX2_caption wsX1_captionOf := goodIn_r _ [15, 16, 27, 28, 29, 30, 31, 32, 33, 34, 35, 36, 37, 38] (by decide +kernel) (by decide +kernel)
set_option maxRecDepth 20000 in
theorem gX2_caption_X1_captionOf : GoodIn wsX2_caption (wsV RX2 119 RX1 yX1_captionOf wsX1_captionOf) := goodIn_app (goodIn_of _ (by decide +kernel)) ggX2_caption_X1_captionOf
theorem dX2_caption_0 : decode cX2_caption 0 = .ok (.aload_n 0, 1) := by decide +kernel
theorem dX2_caption_1 : decode cX2_caption 1 = .ok (.getfield 12, 3) := by decide +kernel
theorem dX2_caption_4 : decode cX2_caption 4 = .ok (.iload_n 1, 1) := by decide +kernel
theorem dX2_caption_5 : decode cX2_caption 5 = .ok (.iload_n 2, 1) := by decide +kernel
theorem dX2_caption_6 : decode cX2_caption 6 = .ok (.invokevirtual 112, 3) := by decide +kernel
theorem dX2_caption_9 : decode cX2_caption 9 = .ok (.istore 5, 2) := by decide +kernel
theorem dX2_caption_11 : decode cX2_caption 11 = .ok (.iload 5, 2) := by decide +kernel
theorem dX2_caption_13 : decode cX2_caption 13 = .ok (.ifCond .ge 5, 3) := by decide +kernel
theorem dX2_caption_16 : decode cX2_caption 16 = .ok (.iconst (-1), 1) := by decide +kernel
theorem dX2_caption_17 : decode cX2_caption 17 = .ok (.ireturn, 1) := by decide +kernel
theorem dX2_caption_18 : decode cX2_caption 18 = .ok (.aload_n 0, 1) := by decide +kernel
theorem dX2_caption_19 : decode cX2_caption 19 = .ok (.getfield 12, 3) := by decide +kernel
theorem dX2_caption_22 : decode cX2_caption 22 = .ok (.iload 5, 2) := by decide +kernel
theorem dX2_caption_24 : decode cX2_caption 24 = .ok (.iload_n 3, 1) := by decide +kernel
theorem dX2_caption_25 : decode cX2_caption 25 = .ok (.invokevirtual 119, 3) := by decide +kernel
theorem dX2_caption_28 : decode cX2_caption 28 = .ok (.istore 6, 2) := by decide +kernel
theorem dX2_caption_30 : decode cX2_caption 30 = .ok (.iload 6, 2) := by decide +kernel
theorem dX2_caption_32 : decode cX2_caption 32 = .ok (.ifCond .ge 5, 3) := by decide +kernel
theorem dX2_caption_35 : decode cX2_caption 35 = .ok (.iconst (-1), 1) := by decide +kernel
theorem dX2_caption_36 : decode cX2_caption 36 = .ok (.ireturn, 1) := by decide +kernel
theorem dX2_caption_37 : decode cX2_caption 37 = .ok (.iload 4, 2) := by decide +kernel
theorem dX2_caption_39 : decode cX2_caption 39 = .ok (.ifCond .lt 9, 3) := by decide +kernel
theorem dX2_caption_42 : decode cX2_caption 42 = .ok (.iload 4, 2) := by decide +kernel
theorem dX2_caption_44 : decode cX2_caption 44 = .ok (.iconst 3, 1) := by decide +kernel
theorem dX2_caption_45 : decode cX2_caption 45 = .ok (.if_icmp .lt 6, 3) := by decide +kernel
theorem dX2_caption_48 : decode cX2_caption 48 = .ok (.bipush (-2), 2) := by decide +kernel
theorem dX2_caption_50 : decode cX2_caption 50 = .ok (.ireturn, 1) := by decide +kernel
theorem dX2_caption_51 : decode cX2_caption 51 = .ok (.aload_n 0, 1) := by decide +kernel
theorem dX2_caption_52 : decode cX2_caption 52 = .ok (.getfield 12, 3) := by decide +kernel
theorem dX2_caption_55 : decode cX2_caption 55 = .ok (.getfield 115, 3) := by decide +kernel
theorem dX2_caption_58 : decode cX2_caption 58 = .ok (.iload 6, 2) := by decide +kernel
theorem dX2_caption_60 : decode cX2_caption 60 = .ok (.iload 4, 2) := by decide +kernel
theorem dX2_caption_62 : decode cX2_caption 62 = .ok (.iadd, 1) := by decide +kernel
theorem dX2_caption_63 : decode cX2_caption 63 = .ok (.iaload, 1) := by decide +kernel
theorem dX2_caption_64 : decode cX2_caption 64 = .ok (.ireturn, 1) := by decide +kernel
set_option maxRecDepth 20000 in
theorem ggX2_visitor_J6_bitCount_0f7a4 : GoodIn wsX2_visitor wsJ6_bitCount_0f7a4 := goodIn_r _ [11, 12, 13, 14] (by decide +kernel) (by decide +kernel)
set_option maxRecDepth 20000 in
theorem gX2_visitor_J6_bitCount_0f7a4 : GoodIn wsX2_visitor (va_wsS RX2 137 yJ6_bitCount_0f7a4 wsJ6_bitCount_0f7a4) := goodIn_app (goodIn_of _ (by decide +kernel)) ggX2_visitor_J6_bitCount_0f7a4
set_option maxRecDepth 20000 in
theorem ggX2_visitor_X1_textFor : GoodIn wsX2_visitor wsX1_textFor := goodIn_r _ [19, 20, 21, 22, 23, 24, 25, 26, 18, 27, 28, 39, 40, 41, 42, 43, 44, 45, 46, 47, 48, 49, 50] (by decide +kernel) (by decide +kernel)
set_option maxRecDepth 20000 in
theorem gX2_visitor_X1_textFor : GoodIn wsX2_visitor (wsV RX2 145 RX1 yX1_textFor wsX1_textFor) := goodIn_app (goodIn_of _ (by decide +kernel)) ggX2_visitor_X1_textFor
theorem dX2_visitor_0 : decode cX2_visitor 0 = .ok (.iload_n 1, 1) := by decide +kernel
theorem dX2_visitor_1 : decode cX2_visitor 1 = .ok (.ifCond .lt 8, 3) := by decide +kernel
theorem dX2_visitor_4 : decode cX2_visitor 4 = .ok (.iload_n 1, 1) := by decide +kernel
theorem dX2_visitor_5 : decode cX2_visitor 5 = .ok (.iconst 5, 1) := by decide +kernel
theorem dX2_visitor_6 : decode cX2_visitor 6 = .ok (.if_icmp .le 6, 3) := by decide +kernel
theorem dX2_visitor_9 : decode cX2_visitor 9 = .ok (.bipush (-2), 2) := by decide +kernel
theorem dX2_visitor_11 : decode cX2_visitor 11 = .ok (.ireturn, 1) := by decide +kernel
theorem dX2_visitor_12 : decode cX2_visitor 12 = .ok (.aload_n 0, 1) := by decide +kernel
theorem dX2_visitor_13 : decode cX2_visitor 13 = .ok (.getfield 12, 3) := by decide +kernel
theorem dX2_visitor_16 : decode cX2_visitor 16 = .ok (.getfield 122, 3) := by decide +kernel
theorem dX2_visitor_19 : decode cX2_visitor 19 = .ok (.ifCond .ne 6, 3) := by decide +kernel
theorem dX2_visitor_22 : decode cX2_visitor 22 = .ok (.bipush (-5), 2) := by decide +kernel
theorem dX2_visitor_24 : decode cX2_visitor 24 = .ok (.ireturn, 1) := by decide +kernel
theorem dX2_visitor_25 : decode cX2_visitor 25 = .ok (.iload_n 1, 1) := by decide +kernel
theorem dX2_visitor_26 : decode cX2_visitor 26 = .ok (.tableswitch 77 0 4 #[34, 42, 50, 58, 66], 34) := by decide +kernel
theorem dX2_visitor_60 : decode cX2_visitor 60 = .ok (.aload_n 0, 1) := by decide +kernel
theorem dX2_visitor_61 : decode cX2_visitor 61 = .ok (.getfield 12, 3) := by decide +kernel
theorem dX2_visitor_64 : decode cX2_visitor 64 = .ok (.getfield 125, 3) := by decide +kernel
theorem dX2_visitor_67 : decode cX2_visitor 67 = .ok (.ireturn, 1) := by decide +kernel
theorem dX2_visitor_68 : decode cX2_visitor 68 = .ok (.aload_n 0, 1) := by decide +kernel
theorem dX2_visitor_69 : decode cX2_visitor 69 = .ok (.getfield 12, 3) := by decide +kernel
theorem dX2_visitor_72 : decode cX2_visitor 72 = .ok (.getfield 128, 3) := by decide +kernel
theorem dX2_visitor_75 : decode cX2_visitor 75 = .ok (.ireturn, 1) := by decide +kernel
theorem dX2_visitor_76 : decode cX2_visitor 76 = .ok (.aload_n 0, 1) := by decide +kernel
theorem dX2_visitor_77 : decode cX2_visitor 77 = .ok (.getfield 12, 3) := by decide +kernel
theorem dX2_visitor_80 : decode cX2_visitor 80 = .ok (.getfield 131, 3) := by decide +kernel
theorem dX2_visitor_83 : decode cX2_visitor 83 = .ok (.ireturn, 1) := by decide +kernel
theorem dX2_visitor_84 : decode cX2_visitor 84 = .ok (.aload_n 0, 1) := by decide +kernel
theorem dX2_visitor_85 : decode cX2_visitor 85 = .ok (.getfield 12, 3) := by decide +kernel
theorem dX2_visitor_88 : decode cX2_visitor 88 = .ok (.getfield 134, 3) := by decide +kernel
theorem dX2_visitor_91 : decode cX2_visitor 91 = .ok (.ireturn, 1) := by decide +kernel
theorem dX2_visitor_92 : decode cX2_visitor 92 = .ok (.aload_n 0, 1) := by decide +kernel
theorem dX2_visitor_93 : decode cX2_visitor 93 = .ok (.getfield 12, 3) := by decide +kernel
theorem dX2_visitor_96 : decode cX2_visitor 96 = .ok (.getfield 134, 3) := by decide +kernel
theorem dX2_visitor_99 : decode cX2_visitor 99 = .ok (.invokestatic 137, 3) := by decide +kernel
theorem dX2_visitor_102 : decode cX2_visitor 102 = .ok (.ireturn, 1) := by decide +kernel
theorem dX2_visitor_103 : decode cX2_visitor 103 = .ok (.aload_n 0, 1) := by decide +kernel
theorem dX2_visitor_104 : decode cX2_visitor 104 = .ok (.getfield 12, 3) := by decide +kernel
theorem dX2_visitor_107 : decode cX2_visitor 107 = .ok (.aload_n 0, 1) := by decide +kernel
theorem dX2_visitor_108 : decode cX2_visitor 108 = .ok (.getfield 12, 3) := by decide +kernel
theorem dX2_visitor_111 : decode cX2_visitor 111 = .ok (.getfield 142, 3) := by decide +kernel
theorem dX2_visitor_114 : decode cX2_visitor 114 = .ok (.aload_n 0, 1) := by decide +kernel
theorem dX2_visitor_115 : decode cX2_visitor 115 = .ok (.getfield 12, 3) := by decide +kernel
theorem dX2_visitor_118 : decode cX2_visitor 118 = .ok (.getfield 125, 3) := by decide +kernel
theorem dX2_visitor_121 : decode cX2_visitor 121 = .ok (.invokevirtual 145, 3) := by decide +kernel
theorem dX2_visitor_124 : decode cX2_visitor 124 = .ok (.ireturn, 1) := by decide +kernel
set_option maxRecDepth 20000 in
theorem ggX2_shown_X2_isExhibit : GoodIn wsX2_shown wsX2_isExhibit := goodIn_r _ [5] (by decide +kernel) (by decide +kernel)
set_option maxRecDepth 20000 in
theorem gX2_shown_X2_isExhibit : GoodIn wsX2_shown (va_wsS RX2 148 yX2_isExhibit wsX2_isExhibit) := goodIn_app (goodIn_of _ (by decide +kernel)) ggX2_shown_X2_isExhibit
set_option maxRecDepth 20000 in
theorem ggX2_shown_X2_isAge : GoodIn wsX2_shown wsX2_isAge := goodIn_r _ [8] (by decide +kernel) (by decide +kernel)
set_option maxRecDepth 20000 in
theorem gX2_shown_X2_isAge : GoodIn wsX2_shown (va_wsS RX2 152 yX2_isAge wsX2_isAge) := goodIn_app (goodIn_of _ (by decide +kernel)) ggX2_shown_X2_isAge
set_option maxRecDepth 20000 in
theorem ggX2_shown_X1_textFor : GoodIn wsX2_shown wsX1_textFor := goodIn_r _ [13, 14, 3, 4, 5, 15, 16, 17, 12, 18, 19, 30, 31, 32, 33, 34, 35, 36, 37, 38, 39, 40, 41] (by decide +kernel) (by decide +kernel)
set_option maxRecDepth 20000 in
theorem gX2_shown_X1_textFor : GoodIn wsX2_shown (wsV RX2 145 RX1 yX1_textFor wsX1_textFor) := goodIn_app (goodIn_of _ (by decide +kernel)) ggX2_shown_X1_textFor
theorem dX2_shown_0 : decode cX2_shown 0 = .ok (.iload_n 1, 1) := by decide +kernel
theorem dX2_shown_1 : decode cX2_shown 1 = .ok (.invokestatic 148, 3) := by decide +kernel
theorem dX2_shown_4 : decode cX2_shown 4 = .ok (.ifCond .ne 5, 3) := by decide +kernel
theorem dX2_shown_7 : decode cX2_shown 7 = .ok (.iconst (-1), 1) := by decide +kernel
theorem dX2_shown_8 : decode cX2_shown 8 = .ok (.ireturn, 1) := by decide +kernel
theorem dX2_shown_9 : decode cX2_shown 9 = .ok (.iload_n 2, 1) := by decide +kernel
theorem dX2_shown_10 : decode cX2_shown 10 = .ok (.invokestatic 152, 3) := by decide +kernel
theorem dX2_shown_13 : decode cX2_shown 13 = .ok (.ifCond .ne 6, 3) := by decide +kernel
theorem dX2_shown_16 : decode cX2_shown 16 = .ok (.bipush (-2), 2) := by decide +kernel
theorem dX2_shown_18 : decode cX2_shown 18 = .ok (.ireturn, 1) := by decide +kernel
theorem dX2_shown_19 : decode cX2_shown 19 = .ok (.aload_n 0, 1) := by decide +kernel
theorem dX2_shown_20 : decode cX2_shown 20 = .ok (.getfield 12, 3) := by decide +kernel
theorem dX2_shown_23 : decode cX2_shown 23 = .ok (.iload_n 1, 1) := by decide +kernel
theorem dX2_shown_24 : decode cX2_shown 24 = .ok (.iload_n 2, 1) := by decide +kernel
theorem dX2_shown_25 : decode cX2_shown 25 = .ok (.invokevirtual 145, 3) := by decide +kernel
theorem dX2_shown_28 : decode cX2_shown 28 = .ok (.ireturn, 1) := by decide +kernel
set_option maxRecDepth 20000 in
theorem ggX2_unmet_X2_isAge : GoodIn wsX2_unmet wsX2_isAge := goodIn_r _ [5] (by decide +kernel) (by decide +kernel)
set_option maxRecDepth 20000 in
theorem gX2_unmet_X2_isAge : GoodIn wsX2_unmet (va_wsS RX2 152 yX2_isAge wsX2_isAge) := goodIn_app (goodIn_of _ (by decide +kernel)) ggX2_unmet_X2_isAge
set_option maxRecDepth 20000 in
theorem ggX2_unmet_X1_allFacts : GoodIn wsX2_unmet wsX1_allFacts := goodIn_r _ [10, 11, 12, 41, 42, 43, 44, 45, 46, 47, 48, 49, 50, 51, 52] (by decide +kernel) (by decide +kernel)
set_option maxRecDepth 20000 in
theorem gX2_unmet_X1_allFacts : GoodIn wsX2_unmet (wsV RX2 155 RX1 yX1_allFacts wsX1_allFacts) := goodIn_app (goodIn_of _ (by decide +kernel)) ggX2_unmet_X1_allFacts
set_option maxRecDepth 20000 in
theorem ggX2_unmet_X1_factsFor : GoodIn wsX2_unmet wsX1_factsFor := goodIn_r _ [16, 12, 17, 18, 19, 9, 20, 11, 21, 4, 22, 23, 24, 25, 26, 27, 28, 29, 30, 41, 42, 43, 44, 45, 46, 47, 48, 49, 50, 51, 52] (by decide +kernel) (by decide +kernel)
set_option maxRecDepth 20000 in
theorem gX2_unmet_X1_factsFor : GoodIn wsX2_unmet (wsV RX2 158 RX1 yX1_factsFor wsX1_factsFor) := goodIn_app (goodIn_of _ (by decide +kernel)) ggX2_unmet_X1_factsFor
theorem dX2_unmet_0 : decode cX2_unmet 0 = .ok (.iload_n 1, 1) := by decide +kernel
theorem dX2_unmet_1 : decode cX2_unmet 1 = .ok (.invokestatic 152, 3) := by decide +kernel
theorem dX2_unmet_4 : decode cX2_unmet 4 = .ok (.ifCond .ne 6, 3) := by decide +kernel
theorem dX2_unmet_7 : decode cX2_unmet 7 = .ok (.bipush (-2), 2) := by decide +kernel
theorem dX2_unmet_9 : decode cX2_unmet 9 = .ok (.ireturn, 1) := by decide +kernel
theorem dX2_unmet_10 : decode cX2_unmet 10 = .ok (.aload_n 0, 1) := by decide +kernel
theorem dX2_unmet_11 : decode cX2_unmet 11 = .ok (.getfield 12, 3) := by decide +kernel
theorem dX2_unmet_14 : decode cX2_unmet 14 = .ok (.invokevirtual 155, 3) := by decide +kernel
theorem dX2_unmet_17 : decode cX2_unmet 17 = .ok (.aload_n 0, 1) := by decide +kernel
theorem dX2_unmet_18 : decode cX2_unmet 18 = .ok (.getfield 12, 3) := by decide +kernel
theorem dX2_unmet_21 : decode cX2_unmet 21 = .ok (.iload_n 1, 1) := by decide +kernel
theorem dX2_unmet_22 : decode cX2_unmet 22 = .ok (.invokevirtual 158, 3) := by decide +kernel
theorem dX2_unmet_25 : decode cX2_unmet 25 = .ok (.iconst (-1), 1) := by decide +kernel
theorem dX2_unmet_26 : decode cX2_unmet 26 = .ok (.ixor, 1) := by decide +kernel
theorem dX2_unmet_27 : decode cX2_unmet 27 = .ok (.iand, 1) := by decide +kernel
theorem dX2_unmet_28 : decode cX2_unmet 28 = .ok (.ireturn, 1) := by decide +kernel
set_option maxRecDepth 20000 in
theorem ggX2_round_X2_attempt : GoodIn wsX2_round wsX2_attempt := goodIn_r _ [6, 7, 8, 9, 10, 11, 12, 13, 14, 15, 16, 17, 18, 19, 20, 21, 22, 23, 24, 25, 26, 27, 28, 29, 86, 87, 88, 89, 90, 91, 92, 93, 94, 95, 74, 75, 76, 77, 78, 79, 80, 81, 82, 83, 84, 85] (by decide +kernel) (by decide +kernel)
set_option maxRecDepth 20000 in
theorem gX2_round_X2_attempt : GoodIn wsX2_round (wsV RX2 33 RX2 yX2_attempt wsX2_attempt) := goodIn_app (goodIn_of _ (by decide +kernel)) ggX2_round_X2_attempt
set_option maxRecDepth 20000 in
theorem ggX2_round_X1_admit : GoodIn wsX2_round wsX1_admit := goodIn_r _ [33, 25, 26, 27, 28, 29, 22, 20, 34, 5, 35, 36, 37, 38, 12, 39, 14, 40, 41, 42, 43, 44, 45, 19, 74, 75, 76, 77, 78, 79, 80, 81, 82, 83, 84, 85] (by decide +kernel) (by decide +kernel)
set_option maxRecDepth 20000 in
theorem gX2_round_X1_admit : GoodIn wsX2_round (wsV RX2 72 RX1 yX1_admit wsX1_admit) := goodIn_app (goodIn_of _ (by decide +kernel)) ggX2_round_X1_admit
set_option maxRecDepth 20000 in
theorem ggX2_round_X1_readShown : GoodIn wsX2_round wsX1_readShown := goodIn_r _ [49, 19, 28, 29, 23, 50, 51, 52, 12, 53, 25, 20, 26, 36, 37, 38, 39, 14, 40, 5, 41, 42, 43, 44, 45, 54, 55, 56, 57, 58, 59, 60, 61, 27, 62, 63, 64, 65, 74, 75, 76, 77, 78, 79, 80, 81, 82, 83, 84, 85] (by decide +kernel) (by decide +kernel)
set_option maxRecDepth 20000 in
theorem gX2_round_X1_readShown : GoodIn wsX2_round (wsV RX2 161 RX1 yX1_readShown wsX1_readShown) := goodIn_app (goodIn_of _ (by decide +kernel)) ggX2_round_X1_readShown
set_option maxRecDepth 20000 in
theorem ggX2_round_X1_turnRing : GoodIn wsX2_round wsX1_turnRing := goodIn_r _ [69, 20, 28, 21, 62, 63, 64, 65, 70, 71, 72, 73, 74, 75, 76, 77, 78, 79, 80, 81, 82, 83, 84, 85] (by decide +kernel) (by decide +kernel)
set_option maxRecDepth 20000 in
theorem gX2_round_X1_turnRing : GoodIn wsX2_round (wsV RX2 81 RX1 yX1_turnRing wsX1_turnRing) := goodIn_app (goodIn_of _ (by decide +kernel)) ggX2_round_X1_turnRing
theorem dX2_round_0 : decode cX2_round 0 = .ok (.aload_n 0, 1) := by decide +kernel
theorem dX2_round_1 : decode cX2_round 1 = .ok (.invokevirtual 33, 3) := by decide +kernel
theorem dX2_round_4 : decode cX2_round 4 = .ok (.astore 4, 2) := by decide +kernel
theorem dX2_round_6 : decode cX2_round 6 = .ok (.aload 4, 2) := by decide +kernel
theorem dX2_round_8 : decode cX2_round 8 = .ok (.iload_n 1, 1) := by decide +kernel
theorem dX2_round_9 : decode cX2_round 9 = .ok (.iload_n 2, 1) := by decide +kernel
theorem dX2_round_10 : decode cX2_round 10 = .ok (.iload_n 3, 1) := by decide +kernel
theorem dX2_round_11 : decode cX2_round 11 = .ok (.invokevirtual 72, 3) := by decide +kernel
theorem dX2_round_14 : decode cX2_round 14 = .ok (.istore 5, 2) := by decide +kernel
theorem dX2_round_16 : decode cX2_round 16 = .ok (.iload 5, 2) := by decide +kernel
theorem dX2_round_18 : decode cX2_round 18 = .ok (.ifCond .ge 6, 3) := by decide +kernel
theorem dX2_round_21 : decode cX2_round 21 = .ok (.iload 5, 2) := by decide +kernel
theorem dX2_round_23 : decode cX2_round 23 = .ok (.ireturn, 1) := by decide +kernel
theorem dX2_round_24 : decode cX2_round 24 = .ok (.aload 4, 2) := by decide +kernel
theorem dX2_round_26 : decode cX2_round 26 = .ok (.invokevirtual 161, 3) := by decide +kernel
theorem dX2_round_29 : decode cX2_round 29 = .ok (.pop, 1) := by decide +kernel
theorem dX2_round_30 : decode cX2_round 30 = .ok (.iconst 1, 1) := by decide +kernel
theorem dX2_round_31 : decode cX2_round 31 = .ok (.istore 6, 2) := by decide +kernel
theorem dX2_round_33 : decode cX2_round 33 = .ok (.iload 6, 2) := by decide +kernel
theorem dX2_round_35 : decode cX2_round 35 = .ok (.bipush 8, 2) := by decide +kernel
theorem dX2_round_37 : decode cX2_round 37 = .ok (.if_icmp .ge 22, 3) := by decide +kernel
theorem dX2_round_40 : decode cX2_round 40 = .ok (.aload 4, 2) := by decide +kernel
theorem dX2_round_42 : decode cX2_round 42 = .ok (.iconst 1, 1) := by decide +kernel
theorem dX2_round_43 : decode cX2_round 43 = .ok (.invokevirtual 81, 3) := by decide +kernel
theorem dX2_round_46 : decode cX2_round 46 = .ok (.pop, 1) := by decide +kernel
theorem dX2_round_47 : decode cX2_round 47 = .ok (.aload 4, 2) := by decide +kernel
theorem dX2_round_49 : decode cX2_round 49 = .ok (.invokevirtual 161, 3) := by decide +kernel
theorem dX2_round_52 : decode cX2_round 52 = .ok (.pop, 1) := by decide +kernel
theorem dX2_round_53 : decode cX2_round 53 = .ok (.iinc 6 1, 3) := by decide +kernel
theorem dX2_round_56 : decode cX2_round 56 = .ok (.goto (-23), 3) := by decide +kernel
theorem dX2_round_59 : decode cX2_round 59 = .ok (.aload 4, 2) := by decide +kernel
theorem dX2_round_61 : decode cX2_round 61 = .ok (.getfield 134, 3) := by decide +kernel
theorem dX2_round_64 : decode cX2_round 64 = .ok (.ireturn, 1) := by decide +kernel
set_option maxRecDepth 20000 in
theorem ggX2_ages_X1_rowOf : GoodIn wsX2_ages wsX1_rowOf := goodIn_r _ [6, 7, 8, 9, 10, 30, 31, 32, 33, 34, 35, 36, 37, 38, 39, 40, 41] (by decide +kernel) (by decide +kernel)
set_option maxRecDepth 20000 in
theorem gX2_ages_X1_rowOf : GoodIn wsX2_ages (wsV RX2 112 RX1 yX1_rowOf wsX1_rowOf) := goodIn_app (goodIn_of _ (by decide +kernel)) ggX2_ages_X1_rowOf
set_option maxRecDepth 20000 in
theorem ggX2_ages_X1_textFor : GoodIn wsX2_ages wsX1_textFor := goodIn_r _ [14, 7, 8, 9, 10, 15, 16, 17, 5, 18, 19, 30, 31, 32, 33, 34, 35, 36, 37, 38, 39, 40, 41] (by decide +kernel) (by decide +kernel)
set_option maxRecDepth 20000 in
theorem gX2_ages_X1_textFor : GoodIn wsX2_ages (wsV RX2 145 RX1 yX1_textFor wsX1_textFor) := goodIn_app (goodIn_of _ (by decide +kernel)) ggX2_ages_X1_textFor
theorem dX2_ages_0 : decode cX2_ages 0 = .ok (.aload_n 0, 1) := by decide +kernel
theorem dX2_ages_1 : decode cX2_ages 1 = .ok (.getfield 12, 3) := by decide +kernel
theorem dX2_ages_4 : decode cX2_ages 4 = .ok (.iload_n 1, 1) := by decide +kernel
theorem dX2_ages_5 : decode cX2_ages 5 = .ok (.iload_n 2, 1) := by decide +kernel
theorem dX2_ages_6 : decode cX2_ages 6 = .ok (.invokevirtual 112, 3) := by decide +kernel
theorem dX2_ages_9 : decode cX2_ages 9 = .ok (.ifCond .ge 5, 3) := by decide +kernel
theorem dX2_ages_12 : decode cX2_ages 12 = .ok (.iconst (-1), 1) := by decide +kernel
theorem dX2_ages_13 : decode cX2_ages 13 = .ok (.ireturn, 1) := by decide +kernel
theorem dX2_ages_14 : decode cX2_ages 14 = .ok (.iload_n 3, 1) := by decide +kernel
theorem dX2_ages_15 : decode cX2_ages 15 = .ok (.ifCond .lt 8, 3) := by decide +kernel
theorem dX2_ages_18 : decode cX2_ages 18 = .ok (.iload_n 3, 1) := by decide +kernel
theorem dX2_ages_19 : decode cX2_ages 19 = .ok (.iconst 2, 1) := by decide +kernel
theorem dX2_ages_20 : decode cX2_ages 20 = .ok (.if_icmp .le 6, 3) := by decide +kernel
theorem dX2_ages_23 : decode cX2_ages 23 = .ok (.bipush (-2), 2) := by decide +kernel
theorem dX2_ages_25 : decode cX2_ages 25 = .ok (.ireturn, 1) := by decide +kernel
theorem dX2_ages_26 : decode cX2_ages 26 = .ok (.bipush (-5), 2) := by decide +kernel
theorem dX2_ages_28 : decode cX2_ages 28 = .ok (.istore 4, 2) := by decide +kernel
theorem dX2_ages_30 : decode cX2_ages 30 = .ok (.bipush (-5), 2) := by decide +kernel
theorem dX2_ages_32 : decode cX2_ages 32 = .ok (.istore 5, 2) := by decide +kernel
theorem dX2_ages_34 : decode cX2_ages 34 = .ok (.iconst 0, 1) := by decide +kernel
theorem dX2_ages_35 : decode cX2_ages 35 = .ok (.istore 6, 2) := by decide +kernel
theorem dX2_ages_37 : decode cX2_ages 37 = .ok (.iconst 4, 1) := by decide +kernel
theorem dX2_ages_38 : decode cX2_ages 38 = .ok (.istore 7, 2) := by decide +kernel
theorem dX2_ages_40 : decode cX2_ages 40 = .ok (.iload 7, 2) := by decide +kernel
theorem dX2_ages_42 : decode cX2_ages 42 = .ok (.bipush 99, 2) := by decide +kernel
theorem dX2_ages_44 : decode cX2_ages 44 = .ok (.if_icmp .gt 44, 3) := by decide +kernel
theorem dX2_ages_47 : decode cX2_ages 47 = .ok (.aload_n 0, 1) := by decide +kernel
theorem dX2_ages_48 : decode cX2_ages 48 = .ok (.getfield 12, 3) := by decide +kernel
theorem dX2_ages_51 : decode cX2_ages 51 = .ok (.iload_n 1, 1) := by decide +kernel
theorem dX2_ages_52 : decode cX2_ages 52 = .ok (.iload 7, 2) := by decide +kernel
theorem dX2_ages_54 : decode cX2_ages 54 = .ok (.invokevirtual 145, 3) := by decide +kernel
theorem dX2_ages_57 : decode cX2_ages 57 = .ok (.iload_n 2, 1) := by decide +kernel
theorem dX2_ages_58 : decode cX2_ages 58 = .ok (.if_icmp .ne 24, 3) := by decide +kernel
theorem dX2_ages_61 : decode cX2_ages 61 = .ok (.iload 6, 2) := by decide +kernel
theorem dX2_ages_63 : decode cX2_ages 63 = .ok (.ifCond .ne 8, 3) := by decide +kernel
theorem dX2_ages_66 : decode cX2_ages 66 = .ok (.iload 7, 2) := by decide +kernel
theorem dX2_ages_68 : decode cX2_ages 68 = .ok (.goto 5, 3) := by decide +kernel
theorem dX2_ages_71 : decode cX2_ages 71 = .ok (.iload 4, 2) := by decide +kernel
theorem dX2_ages_73 : decode cX2_ages 73 = .ok (.istore 4, 2) := by decide +kernel
theorem dX2_ages_75 : decode cX2_ages 75 = .ok (.iload 7, 2) := by decide +kernel
theorem dX2_ages_77 : decode cX2_ages 77 = .ok (.istore 5, 2) := by decide +kernel
theorem dX2_ages_79 : decode cX2_ages 79 = .ok (.iinc 6 1, 3) := by decide +kernel
theorem dX2_ages_82 : decode cX2_ages 82 = .ok (.iinc 7 1, 3) := by decide +kernel
theorem dX2_ages_85 : decode cX2_ages 85 = .ok (.goto (-45), 3) := by decide +kernel
theorem dX2_ages_88 : decode cX2_ages 88 = .ok (.iload_n 3, 1) := by decide +kernel
theorem dX2_ages_89 : decode cX2_ages 89 = .ok (.iconst 2, 1) := by decide +kernel
theorem dX2_ages_90 : decode cX2_ages 90 = .ok (.if_icmp .ne 6, 3) := by decide +kernel
theorem dX2_ages_93 : decode cX2_ages 93 = .ok (.iload 6, 2) := by decide +kernel
theorem dX2_ages_95 : decode cX2_ages 95 = .ok (.ireturn, 1) := by decide +kernel
theorem dX2_ages_96 : decode cX2_ages 96 = .ok (.iload_n 3, 1) := by decide +kernel
theorem dX2_ages_97 : decode cX2_ages 97 = .ok (.ifCond .ne 8, 3) := by decide +kernel
theorem dX2_ages_100 : decode cX2_ages 100 = .ok (.iload 4, 2) := by decide +kernel
theorem dX2_ages_102 : decode cX2_ages 102 = .ok (.goto 5, 3) := by decide +kernel
theorem dX2_ages_105 : decode cX2_ages 105 = .ok (.iload 5, 2) := by decide +kernel
theorem dX2_ages_107 : decode cX2_ages 107 = .ok (.ireturn, 1) := by decide +kernel
set_option maxRecDepth 20000 in
theorem ggX2_count_X1_countTexts : GoodIn wsX2_count wsX1_countTexts := goodIn_r _ [14, 15, 46, 47, 48, 49, 50, 51, 52, 53, 54, 55, 56, 57] (by decide +kernel) (by decide +kernel)
set_option maxRecDepth 20000 in
theorem gX2_count_X1_countTexts : GoodIn wsX2_count (wsV RX2 109 RX1 yX1_countTexts wsX1_countTexts) := goodIn_app (goodIn_of _ (by decide +kernel)) ggX2_count_X1_countTexts
set_option maxRecDepth 20000 in
theorem ggX2_count_X1_countCaptions : GoodIn wsX2_count wsX1_countCaptions := goodIn_r _ [19, 15, 20, 46, 47, 48, 49, 50, 51, 52, 53, 54, 55, 56, 57] (by decide +kernel) (by decide +kernel)
set_option maxRecDepth 20000 in
theorem gX2_count_X1_countCaptions : GoodIn wsX2_count (wsV RX2 165 RX1 yX1_countCaptions wsX1_countCaptions) := goodIn_app (goodIn_of _ (by decide +kernel)) ggX2_count_X1_countCaptions
set_option maxRecDepth 20000 in
theorem ggX2_count_X1_countNeverRead : GoodIn wsX2_count wsX1_countNeverRead := goodIn_r _ [24, 15, 20, 46, 47, 48, 49, 50, 51, 52, 53, 54, 55, 56, 57] (by decide +kernel) (by decide +kernel)
set_option maxRecDepth 20000 in
theorem gX2_count_X1_countNeverRead : GoodIn wsX2_count (wsV RX2 180 RX1 yX1_countNeverRead wsX1_countNeverRead) := goodIn_app (goodIn_of _ (by decide +kernel)) ggX2_count_X1_countNeverRead
set_option maxRecDepth 20000 in
theorem ggX2_count_X1_allFacts : GoodIn wsX2_count wsX1_allFacts := goodIn_r _ [28, 15, 20, 46, 47, 48, 49, 50, 51, 52, 53, 54, 55, 56, 57] (by decide +kernel) (by decide +kernel)
set_option maxRecDepth 20000 in
theorem gX2_count_X1_allFacts : GoodIn wsX2_count (wsV RX2 155 RX1 yX1_allFacts wsX1_allFacts) := goodIn_app (goodIn_of _ (by decide +kernel)) ggX2_count_X1_allFacts
set_option maxRecDepth 20000 in
theorem ggX2_count_J6_bitCount_0f7a4 : GoodIn wsX2_count wsJ6_bitCount_0f7a4 := goodIn_r _ [32, 33, 34, 35] (by decide +kernel) (by decide +kernel)
set_option maxRecDepth 20000 in
theorem gX2_count_J6_bitCount_0f7a4 : GoodIn wsX2_count (va_wsS RX2 137 yJ6_bitCount_0f7a4 wsJ6_bitCount_0f7a4) := goodIn_app (goodIn_of _ (by decide +kernel)) ggX2_count_J6_bitCount_0f7a4
theorem dX2_count_0 : decode cX2_count 0 = .ok (.iload_n 1, 1) := by decide +kernel
theorem dX2_count_1 : decode cX2_count 1 = .ok (.tableswitch 147 0 10 #[59, 67, 75, 83, 91, 99, 107, 115, 123, 134, 139], 59) := by decide +kernel
theorem dX2_count_60 : decode cX2_count 60 = .ok (.aload_n 0, 1) := by decide +kernel
theorem dX2_count_61 : decode cX2_count 61 = .ok (.getfield 12, 3) := by decide +kernel
theorem dX2_count_64 : decode cX2_count 64 = .ok (.invokevirtual 109, 3) := by decide +kernel
theorem dX2_count_67 : decode cX2_count 67 = .ok (.ireturn, 1) := by decide +kernel
theorem dX2_count_68 : decode cX2_count 68 = .ok (.aload_n 0, 1) := by decide +kernel
theorem dX2_count_69 : decode cX2_count 69 = .ok (.getfield 12, 3) := by decide +kernel
theorem dX2_count_72 : decode cX2_count 72 = .ok (.invokevirtual 165, 3) := by decide +kernel
theorem dX2_count_75 : decode cX2_count 75 = .ok (.ireturn, 1) := by decide +kernel
theorem dX2_count_76 : decode cX2_count 76 = .ok (.aload_n 0, 1) := by decide +kernel
theorem dX2_count_77 : decode cX2_count 77 = .ok (.getfield 12, 3) := by decide +kernel
theorem dX2_count_80 : decode cX2_count 80 = .ok (.getfield 142, 3) := by decide +kernel
theorem dX2_count_83 : decode cX2_count 83 = .ok (.ireturn, 1) := by decide +kernel
theorem dX2_count_84 : decode cX2_count 84 = .ok (.aload_n 0, 1) := by decide +kernel
theorem dX2_count_85 : decode cX2_count 85 = .ok (.getfield 12, 3) := by decide +kernel
theorem dX2_count_88 : decode cX2_count 88 = .ok (.getfield 168, 3) := by decide +kernel
theorem dX2_count_91 : decode cX2_count 91 = .ok (.ireturn, 1) := by decide +kernel
theorem dX2_count_92 : decode cX2_count 92 = .ok (.aload_n 0, 1) := by decide +kernel
theorem dX2_count_93 : decode cX2_count 93 = .ok (.getfield 12, 3) := by decide +kernel
theorem dX2_count_96 : decode cX2_count 96 = .ok (.getfield 171, 3) := by decide +kernel
theorem dX2_count_99 : decode cX2_count 99 = .ok (.ireturn, 1) := by decide +kernel
theorem dX2_count_100 : decode cX2_count 100 = .ok (.aload_n 0, 1) := by decide +kernel
theorem dX2_count_101 : decode cX2_count 101 = .ok (.getfield 12, 3) := by decide +kernel
theorem dX2_count_104 : decode cX2_count 104 = .ok (.getfield 174, 3) := by decide +kernel
theorem dX2_count_107 : decode cX2_count 107 = .ok (.ireturn, 1) := by decide +kernel
theorem dX2_count_108 : decode cX2_count 108 = .ok (.aload_n 0, 1) := by decide +kernel
theorem dX2_count_109 : decode cX2_count 109 = .ok (.getfield 12, 3) := by decide +kernel
theorem dX2_count_112 : decode cX2_count 112 = .ok (.getfield 177, 3) := by decide +kernel
theorem dX2_count_115 : decode cX2_count 115 = .ok (.ireturn, 1) := by decide +kernel
theorem dX2_count_116 : decode cX2_count 116 = .ok (.aload_n 0, 1) := by decide +kernel
theorem dX2_count_117 : decode cX2_count 117 = .ok (.getfield 12, 3) := by decide +kernel
theorem dX2_count_120 : decode cX2_count 120 = .ok (.invokevirtual 180, 3) := by decide +kernel
theorem dX2_count_123 : decode cX2_count 123 = .ok (.ireturn, 1) := by decide +kernel
theorem dX2_count_124 : decode cX2_count 124 = .ok (.aload_n 0, 1) := by decide +kernel
theorem dX2_count_125 : decode cX2_count 125 = .ok (.getfield 12, 3) := by decide +kernel
theorem dX2_count_128 : decode cX2_count 128 = .ok (.invokevirtual 155, 3) := by decide +kernel
theorem dX2_count_131 : decode cX2_count 131 = .ok (.invokestatic 137, 3) := by decide +kernel
theorem dX2_count_134 : decode cX2_count 134 = .ok (.ireturn, 1) := by decide +kernel
theorem dX2_count_135 : decode cX2_count 135 = .ok (.aload_n 0, 1) := by decide +kernel
theorem dX2_count_136 : decode cX2_count 136 = .ok (.getfield 95, 3) := by decide +kernel
theorem dX2_count_139 : decode cX2_count 139 = .ok (.ireturn, 1) := by decide +kernel
theorem dX2_count_140 : decode cX2_count 140 = .ok (.aload_n 0, 1) := by decide +kernel
theorem dX2_count_141 : decode cX2_count 141 = .ok (.getfield 29, 3) := by decide +kernel
theorem dX2_count_144 : decode cX2_count 144 = .ok (.getfield 92, 3) := by decide +kernel
theorem dX2_count_147 : decode cX2_count 147 = .ok (.ireturn, 1) := by decide +kernel
theorem dX2_count_148 : decode cX2_count 148 = .ok (.bipush (-2), 2) := by decide +kernel
theorem dX2_count_150 : decode cX2_count 150 = .ok (.ireturn, 1) := by decide +kernel
set_option maxRecDepth 20000 in
theorem ggX2_attempt_X1_copyFrom : GoodIn wsX2_attempt wsX1_copyFrom := goodIn_r _ [7, 8, 9, 10, 11, 12, 13, 14, 15, 16, 17, 18, 19, 20, 21, 22, 23, 34, 35, 36, 37, 38, 39, 40, 41, 42, 43, 44, 45] (by decide +kernel) (by decide +kernel)
set_option maxRecDepth 20000 in
theorem gX2_attempt_X1_copyFrom : GoodIn wsX2_attempt (wsV RX2 101 RX1 yX1_copyFrom wsX1_copyFrom) := goodIn_app (goodIn_of _ (by decide +kernel)) ggX2_attempt_X1_copyFrom
theorem dX2_attempt_0 : decode cX2_attempt 0 = .ok (.aload_n 0, 1) := by decide +kernel
theorem dX2_attempt_1 : decode cX2_attempt 1 = .ok (.getfield 16, 3) := by decide +kernel
theorem dX2_attempt_4 : decode cX2_attempt 4 = .ok (.aload_n 0, 1) := by decide +kernel
theorem dX2_attempt_5 : decode cX2_attempt 5 = .ok (.getfield 12, 3) := by decide +kernel
theorem dX2_attempt_8 : decode cX2_attempt 8 = .ok (.invokevirtual 101, 3) := by decide +kernel
theorem dX2_attempt_11 : decode cX2_attempt 11 = .ok (.aload_n 0, 1) := by decide +kernel
theorem dX2_attempt_12 : decode cX2_attempt 12 = .ok (.getfield 16, 3) := by decide +kernel
theorem dX2_attempt_15 : decode cX2_attempt 15 = .ok (.areturn, 1) := by decide +kernel
theorem dX2_settle_0 : decode cX2_settle 0 = .ok (.iload_n 1, 1) := by decide +kernel
theorem dX2_settle_1 : decode cX2_settle 1 = .ok (.ifCond .ge 5, 3) := by decide +kernel
theorem dX2_settle_4 : decode cX2_settle 4 = .ok (.iload_n 1, 1) := by decide +kernel
theorem dX2_settle_5 : decode cX2_settle 5 = .ok (.ireturn, 1) := by decide +kernel
theorem dX2_settle_6 : decode cX2_settle 6 = .ok (.aload_n 0, 1) := by decide +kernel
theorem dX2_settle_7 : decode cX2_settle 7 = .ok (.getfield 98, 3) := by decide +kernel
theorem dX2_settle_10 : decode cX2_settle 10 = .ok (.iconst 3, 1) := by decide +kernel
theorem dX2_settle_11 : decode cX2_settle 11 = .ok (.iand, 1) := by decide +kernel
theorem dX2_settle_12 : decode cX2_settle 12 = .ok (.istore_n 2, 1) := by decide +kernel
theorem dX2_settle_13 : decode cX2_settle 13 = .ok (.aload_n 0, 1) := by decide +kernel
theorem dX2_settle_14 : decode cX2_settle 14 = .ok (.getfield 22, 3) := by decide +kernel
theorem dX2_settle_17 : decode cX2_settle 17 = .ok (.iload_n 2, 1) := by decide +kernel
theorem dX2_settle_18 : decode cX2_settle 18 = .ok (.aaload, 1) := by decide +kernel
theorem dX2_settle_19 : decode cX2_settle 19 = .ok (.astore_n 3, 1) := by decide +kernel
theorem dX2_settle_20 : decode cX2_settle 20 = .ok (.aload_n 0, 1) := by decide +kernel
theorem dX2_settle_21 : decode cX2_settle 21 = .ok (.getfield 22, 3) := by decide +kernel
theorem dX2_settle_24 : decode cX2_settle 24 = .ok (.iload_n 2, 1) := by decide +kernel
theorem dX2_settle_25 : decode cX2_settle 25 = .ok (.aload_n 0, 1) := by decide +kernel
theorem dX2_settle_26 : decode cX2_settle 26 = .ok (.getfield 12, 3) := by decide +kernel
theorem dX2_settle_29 : decode cX2_settle 29 = .ok (.aastore, 1) := by decide +kernel
theorem dX2_settle_30 : decode cX2_settle 30 = .ok (.aload_n 0, 1) := by decide +kernel
theorem dX2_settle_31 : decode cX2_settle 31 = .ok (.aload_n 0, 1) := by decide +kernel
theorem dX2_settle_32 : decode cX2_settle 32 = .ok (.getfield 16, 3) := by decide +kernel
theorem dX2_settle_35 : decode cX2_settle 35 = .ok (.putfield 12, 3) := by decide +kernel
theorem dX2_settle_38 : decode cX2_settle 38 = .ok (.aload_n 0, 1) := by decide +kernel
theorem dX2_settle_39 : decode cX2_settle 39 = .ok (.aload_n 3, 1) := by decide +kernel
theorem dX2_settle_40 : decode cX2_settle 40 = .ok (.putfield 16, 3) := by decide +kernel
theorem dX2_settle_43 : decode cX2_settle 43 = .ok (.aload_n 0, 1) := by decide +kernel
theorem dX2_settle_44 : decode cX2_settle 44 = .ok (.dup, 1) := by decide +kernel
theorem dX2_settle_45 : decode cX2_settle 45 = .ok (.getfield 98, 3) := by decide +kernel
theorem dX2_settle_48 : decode cX2_settle 48 = .ok (.iconst 1, 1) := by decide +kernel
theorem dX2_settle_49 : decode cX2_settle 49 = .ok (.iadd, 1) := by decide +kernel
theorem dX2_settle_50 : decode cX2_settle 50 = .ok (.putfield 98, 3) := by decide +kernel
theorem dX2_settle_53 : decode cX2_settle 53 = .ok (.aload_n 0, 1) := by decide +kernel
theorem dX2_settle_54 : decode cX2_settle 54 = .ok (.aload_n 0, 1) := by decide +kernel
theorem dX2_settle_55 : decode cX2_settle 55 = .ok (.getfield 95, 3) := by decide +kernel
theorem dX2_settle_58 : decode cX2_settle 58 = .ok (.iconst 1, 1) := by decide +kernel
theorem dX2_settle_59 : decode cX2_settle 59 = .ok (.iadd, 1) := by decide +kernel
theorem dX2_settle_60 : decode cX2_settle 60 = .ok (.iconst 4, 1) := by decide +kernel
theorem dX2_settle_61 : decode cX2_settle 61 = .ok (.invokestatic 183, 3) := by decide +kernel
theorem dX2_settle_64 : decode cX2_settle 64 = .ok (.putfield 95, 3) := by decide +kernel
theorem dX2_settle_67 : decode cX2_settle 67 = .ok (.iload_n 1, 1) := by decide +kernel
theorem dX2_settle_68 : decode cX2_settle 68 = .ok (.ireturn, 1) := by decide +kernel
set_option maxRecDepth 20000 in
theorem ggX2_doEntries_X0_takeEntry : GoodIn wsX2_doEntries wsX0_takeEntry := goodIn_r _ [9, 10, 11, 12, 13, 14, 8, 15, 16, 17, 18, 19, 20, 21, 22, 23, 24, 25, 26, 27, 28, 29, 30, 31, 32, 33, 34, 35, 36, 37, 38, 39, 40, 41, 42, 43, 44, 45, 46, 47, 91, 92, 93, 94, 95, 96, 97, 98, 99, 100] (by decide +kernel) (by decide +kernel)
set_option maxRecDepth 20000 in
theorem gX2_doEntries_X0_takeEntry : GoodIn wsX2_doEntries (wsV RX2 191 RX0 yX0_takeEntry wsX0_takeEntry) := goodIn_app (goodIn_of _ (by decide +kernel)) ggX2_doEntries_X0_takeEntry
set_option maxRecDepth 20000 in
theorem ggX2_doEntries_X2_doEntry : GoodIn wsX2_doEntries wsX2_doEntry := goodIn_r _ [52, 1, 53, 54, 55, 56, 57, 58, 59, 60, 61, 62, 63, 64, 65, 66, 67, 68, 69, 70, 71, 72, 51, 73, 74, 75, 76, 77, 78, 79, 81, 82, 83, 84, 85, 86, 87, 88, 89, 90, 91, 92, 93, 94, 95, 96, 97, 98, 99, 100, 101, 102, 103, 104, 105, 106, 107, 108, 109, 110, 111, 112] (by decide +kernel) (by decide +kernel)
set_option maxRecDepth 20000 in
theorem gX2_doEntries_X2_doEntry : GoodIn wsX2_doEntries (wsV RX2 194 RX2 yX2_doEntry wsX2_doEntry) := goodIn_app (goodIn_of _ (by decide +kernel)) ggX2_doEntries_X2_doEntry
set_option maxRecDepth 20000 in
theorem ggX2_doEntries_X0_takeSign : GoodIn wsX2_doEntries wsX0_takeSign := goodIn_r _ [30, 16, 21, 22, 23, 8, 24, 25, 26, 91, 92, 93, 94, 95, 96, 97, 98, 99, 100] (by decide +kernel) (by decide +kernel)
set_option maxRecDepth 20000 in
theorem gX2_doEntries_X0_takeSign : GoodIn wsX2_doEntries (wsV RX2 197 RX0 yX0_takeSign wsX0_takeSign) := goodIn_app (goodIn_of _ (by decide +kernel)) ggX2_doEntries_X0_takeSign
theorem dX2_doEntries_0 : decode cX2_doEntries 0 = .ok (.aload_n 0, 1) := by decide +kernel
theorem dX2_doEntries_1 : decode cX2_doEntries 1 = .ok (.getfield 29, 3) := by decide +kernel
theorem dX2_doEntries_4 : decode cX2_doEntries 4 = .ok (.iconst 0, 1) := by decide +kernel
theorem dX2_doEntries_5 : decode cX2_doEntries 5 = .ok (.putfield 188, 3) := by decide +kernel
theorem dX2_doEntries_8 : decode cX2_doEntries 8 = .ok (.iconst 0, 1) := by decide +kernel
theorem dX2_doEntries_9 : decode cX2_doEntries 9 = .ok (.istore_n 2, 1) := by decide +kernel
theorem dX2_doEntries_10 : decode cX2_doEntries 10 = .ok (.iload_n 2, 1) := by decide +kernel
theorem dX2_doEntries_11 : decode cX2_doEntries 11 = .ok (.bipush 60, 2) := by decide +kernel
theorem dX2_doEntries_13 : decode cX2_doEntries 13 = .ok (.if_icmp .ge 56, 3) := by decide +kernel
theorem dX2_doEntries_16 : decode cX2_doEntries 16 = .ok (.aload_n 0, 1) := by decide +kernel
theorem dX2_doEntries_17 : decode cX2_doEntries 17 = .ok (.getfield 29, 3) := by decide +kernel
theorem dX2_doEntries_20 : decode cX2_doEntries 20 = .ok (.invokevirtual 191, 3) := by decide +kernel
theorem dX2_doEntries_23 : decode cX2_doEntries 23 = .ok (.pop, 1) := by decide +kernel
theorem dX2_doEntries_24 : decode cX2_doEntries 24 = .ok (.aload_n 0, 1) := by decide +kernel
theorem dX2_doEntries_25 : decode cX2_doEntries 25 = .ok (.aload_n 1, 1) := by decide +kernel
theorem dX2_doEntries_26 : decode cX2_doEntries 26 = .ok (.invokevirtual 194, 3) := by decide +kernel
theorem dX2_doEntries_29 : decode cX2_doEntries 29 = .ok (.istore_n 3, 1) := by decide +kernel
theorem dX2_doEntries_30 : decode cX2_doEntries 30 = .ok (.iload_n 3, 1) := by decide +kernel
theorem dX2_doEntries_31 : decode cX2_doEntries 31 = .ok (.ifCond .ge 16, 3) := by decide +kernel
theorem dX2_doEntries_34 : decode cX2_doEntries 34 = .ok (.aload_n 0, 1) := by decide +kernel
theorem dX2_doEntries_35 : decode cX2_doEntries 35 = .ok (.iload_n 2, 1) := by decide +kernel
theorem dX2_doEntries_36 : decode cX2_doEntries 36 = .ok (.putfield 69, 3) := by decide +kernel
theorem dX2_doEntries_39 : decode cX2_doEntries 39 = .ok (.aload_n 0, 1) := by decide +kernel
theorem dX2_doEntries_40 : decode cX2_doEntries 40 = .ok (.iload_n 3, 1) := by decide +kernel
theorem dX2_doEntries_41 : decode cX2_doEntries 41 = .ok (.putfield 65, 3) := by decide +kernel
theorem dX2_doEntries_44 : decode cX2_doEntries 44 = .ok (.bipush (-4), 2) := by decide +kernel
theorem dX2_doEntries_46 : decode cX2_doEntries 46 = .ok (.ireturn, 1) := by decide +kernel
theorem dX2_doEntries_47 : decode cX2_doEntries 47 = .ok (.aload_n 0, 1) := by decide +kernel
theorem dX2_doEntries_48 : decode cX2_doEntries 48 = .ok (.getfield 29, 3) := by decide +kernel
theorem dX2_doEntries_51 : decode cX2_doEntries 51 = .ok (.bipush 59, 2) := by decide +kernel
theorem dX2_doEntries_53 : decode cX2_doEntries 53 = .ok (.invokevirtual 197, 3) := by decide +kernel
theorem dX2_doEntries_56 : decode cX2_doEntries 56 = .ok (.ifCond .ne 7, 3) := by decide +kernel
theorem dX2_doEntries_59 : decode cX2_doEntries 59 = .ok (.iload_n 2, 1) := by decide +kernel
theorem dX2_doEntries_60 : decode cX2_doEntries 60 = .ok (.iconst 1, 1) := by decide +kernel
theorem dX2_doEntries_61 : decode cX2_doEntries 61 = .ok (.iadd, 1) := by decide +kernel
theorem dX2_doEntries_62 : decode cX2_doEntries 62 = .ok (.ireturn, 1) := by decide +kernel
theorem dX2_doEntries_63 : decode cX2_doEntries 63 = .ok (.iinc 2 1, 3) := by decide +kernel
theorem dX2_doEntries_66 : decode cX2_doEntries 66 = .ok (.goto (-56), 3) := by decide +kernel
theorem dX2_doEntries_69 : decode cX2_doEntries 69 = .ok (.bipush 60, 2) := by decide +kernel
theorem dX2_doEntries_71 : decode cX2_doEntries 71 = .ok (.ireturn, 1) := by decide +kernel
set_option maxRecDepth 20000 in
theorem ggX2_doEntry_X1_putCaption : GoodIn wsX2_doEntry wsX1_putCaption := goodIn_r _ [13, 14, 15, 16, 17, 18, 12, 19, 20, 21, 22, 23, 50, 51, 52, 53, 54, 55, 56, 57, 58, 59, 60, 61] (by decide +kernel) (by decide +kernel)
set_option maxRecDepth 20000 in
theorem gX2_doEntry_X1_putCaption : GoodIn wsX2_doEntry (wsV RX2 53 RX1 yX1_putCaption wsX1_putCaption) := goodIn_app (goodIn_of _ (by decide +kernel)) ggX2_doEntry_X1_putCaption
set_option maxRecDepth 20000 in
theorem ggX2_doEntry_X1_putText : GoodIn wsX2_doEntry wsX1_putText := goodIn_r _ [27, 14, 20, 15, 21, 22, 23, 28, 29, 50, 51, 52, 53, 54, 55, 56, 57, 58, 59, 60, 61] (by decide +kernel) (by decide +kernel)
set_option maxRecDepth 20000 in
theorem gX2_doEntry_X1_putText : GoodIn wsX2_doEntry (wsV RX2 37 RX1 yX1_putText wsX1_putText) := goodIn_app (goodIn_of _ (by decide +kernel)) ggX2_doEntry_X1_putText
theorem dX2_doEntry_0 : decode cX2_doEntry 0 = .ok (.aload_n 0, 1) := by decide +kernel
theorem dX2_doEntry_1 : decode cX2_doEntry 1 = .ok (.getfield 29, 3) := by decide +kernel
theorem dX2_doEntry_4 : decode cX2_doEntry 4 = .ok (.getfield 201, 3) := by decide +kernel
theorem dX2_doEntry_7 : decode cX2_doEntry 7 = .ok (.ifCond .eq 36, 3) := by decide +kernel
theorem dX2_doEntry_10 : decode cX2_doEntry 10 = .ok (.aload_n 1, 1) := by decide +kernel
theorem dX2_doEntry_11 : decode cX2_doEntry 11 = .ok (.aload_n 0, 1) := by decide +kernel
theorem dX2_doEntry_12 : decode cX2_doEntry 12 = .ok (.getfield 29, 3) := by decide +kernel
theorem dX2_doEntry_15 : decode cX2_doEntry 15 = .ok (.getfield 204, 3) := by decide +kernel
theorem dX2_doEntry_18 : decode cX2_doEntry 18 = .ok (.aload_n 0, 1) := by decide +kernel
theorem dX2_doEntry_19 : decode cX2_doEntry 19 = .ok (.getfield 29, 3) := by decide +kernel
theorem dX2_doEntry_22 : decode cX2_doEntry 22 = .ok (.getfield 207, 3) := by decide +kernel
theorem dX2_doEntry_25 : decode cX2_doEntry 25 = .ok (.aload_n 0, 1) := by decide +kernel
theorem dX2_doEntry_26 : decode cX2_doEntry 26 = .ok (.getfield 29, 3) := by decide +kernel
theorem dX2_doEntry_29 : decode cX2_doEntry 29 = .ok (.getfield 210, 3) := by decide +kernel
theorem dX2_doEntry_32 : decode cX2_doEntry 32 = .ok (.aload_n 0, 1) := by decide +kernel
theorem dX2_doEntry_33 : decode cX2_doEntry 33 = .ok (.getfield 29, 3) := by decide +kernel
theorem dX2_doEntry_36 : decode cX2_doEntry 36 = .ok (.getfield 213, 3) := by decide +kernel
theorem dX2_doEntry_39 : decode cX2_doEntry 39 = .ok (.invokevirtual 53, 3) := by decide +kernel
theorem dX2_doEntry_42 : decode cX2_doEntry 42 = .ok (.ireturn, 1) := by decide +kernel
theorem dX2_doEntry_43 : decode cX2_doEntry 43 = .ok (.aload_n 1, 1) := by decide +kernel
theorem dX2_doEntry_44 : decode cX2_doEntry 44 = .ok (.aload_n 0, 1) := by decide +kernel
theorem dX2_doEntry_45 : decode cX2_doEntry 45 = .ok (.getfield 29, 3) := by decide +kernel
theorem dX2_doEntry_48 : decode cX2_doEntry 48 = .ok (.getfield 204, 3) := by decide +kernel
theorem dX2_doEntry_51 : decode cX2_doEntry 51 = .ok (.aload_n 0, 1) := by decide +kernel
theorem dX2_doEntry_52 : decode cX2_doEntry 52 = .ok (.getfield 29, 3) := by decide +kernel
theorem dX2_doEntry_55 : decode cX2_doEntry 55 = .ok (.getfield 210, 3) := by decide +kernel
theorem dX2_doEntry_58 : decode cX2_doEntry 58 = .ok (.aload_n 0, 1) := by decide +kernel
theorem dX2_doEntry_59 : decode cX2_doEntry 59 = .ok (.getfield 29, 3) := by decide +kernel
theorem dX2_doEntry_62 : decode cX2_doEntry 62 = .ok (.getfield 216, 3) := by decide +kernel
theorem dX2_doEntry_65 : decode cX2_doEntry 65 = .ok (.aload_n 0, 1) := by decide +kernel
theorem dX2_doEntry_66 : decode cX2_doEntry 66 = .ok (.getfield 29, 3) := by decide +kernel
theorem dX2_doEntry_69 : decode cX2_doEntry 69 = .ok (.getfield 219, 3) := by decide +kernel
theorem dX2_doEntry_72 : decode cX2_doEntry 72 = .ok (.aload_n 0, 1) := by decide +kernel
theorem dX2_doEntry_73 : decode cX2_doEntry 73 = .ok (.getfield 29, 3) := by decide +kernel
theorem dX2_doEntry_76 : decode cX2_doEntry 76 = .ok (.getfield 213, 3) := by decide +kernel
theorem dX2_doEntry_79 : decode cX2_doEntry 79 = .ok (.invokevirtual 37, 3) := by decide +kernel
theorem dX2_doEntry_82 : decode cX2_doEntry 82 = .ok (.ireturn, 1) := by decide +kernel
theorem dX2_isExhibit_0 : decode cX2_isExhibit 0 = .ok (.iload_n 0, 1) := by decide +kernel
theorem dX2_isExhibit_1 : decode cX2_isExhibit 1 = .ok (.ifCond .lt 13, 3) := by decide +kernel
theorem dX2_isExhibit_4 : decode cX2_isExhibit 4 = .ok (.iload_n 0, 1) := by decide +kernel
theorem dX2_isExhibit_5 : decode cX2_isExhibit 5 = .ok (.bipush 8, 2) := by decide +kernel
theorem dX2_isExhibit_7 : decode cX2_isExhibit 7 = .ok (.if_icmp .ge 7, 3) := by decide +kernel
theorem dX2_isExhibit_10 : decode cX2_isExhibit 10 = .ok (.iconst 1, 1) := by decide +kernel
theorem dX2_isExhibit_11 : decode cX2_isExhibit 11 = .ok (.goto 4, 3) := by decide +kernel
theorem dX2_isExhibit_14 : decode cX2_isExhibit 14 = .ok (.iconst 0, 1) := by decide +kernel
theorem dX2_isExhibit_15 : decode cX2_isExhibit 15 = .ok (.ireturn, 1) := by decide +kernel
theorem dX2_isAge_0 : decode cX2_isAge 0 = .ok (.iload_n 0, 1) := by decide +kernel
theorem dX2_isAge_1 : decode cX2_isAge 1 = .ok (.iconst 4, 1) := by decide +kernel
theorem dX2_isAge_2 : decode cX2_isAge 2 = .ok (.if_icmp .lt 13, 3) := by decide +kernel
theorem dX2_isAge_5 : decode cX2_isAge 5 = .ok (.iload_n 0, 1) := by decide +kernel
theorem dX2_isAge_6 : decode cX2_isAge 6 = .ok (.bipush 99, 2) := by decide +kernel
theorem dX2_isAge_8 : decode cX2_isAge 8 = .ok (.if_icmp .gt 7, 3) := by decide +kernel
theorem dX2_isAge_11 : decode cX2_isAge 11 = .ok (.iconst 1, 1) := by decide +kernel
theorem dX2_isAge_12 : decode cX2_isAge 12 = .ok (.goto 4, 3) := by decide +kernel
theorem dX2_isAge_15 : decode cX2_isAge 15 = .ok (.iconst 0, 1) := by decide +kernel
theorem dX2_isAge_16 : decode cX2_isAge 16 = .ok (.ireturn, 1) := by decide +kernel
theorem dX2_isText_0 : decode cX2_isText 0 = .ok (.iload_n 0, 1) := by decide +kernel
theorem dX2_isText_1 : decode cX2_isText 1 = .ok (.iconst 1, 1) := by decide +kernel
theorem dX2_isText_2 : decode cX2_isText 2 = .ok (.if_icmp .lt 39, 3) := by decide +kernel
theorem dX2_isText_5 : decode cX2_isText 5 = .ok (.iload_n 0, 1) := by decide +kernel
theorem dX2_isText_6 : decode cX2_isText 6 = .ok (.sipush 300, 3) := by decide +kernel
theorem dX2_isText_9 : decode cX2_isText 9 = .ok (.if_icmp .gt 32, 3) := by decide +kernel
theorem dX2_isText_12 : decode cX2_isText 12 = .ok (.iload_n 1, 1) := by decide +kernel
theorem dX2_isText_13 : decode cX2_isText 13 = .ok (.iconst 1, 1) := by decide +kernel
theorem dX2_isText_14 : decode cX2_isText 14 = .ok (.if_icmp .lt 27, 3) := by decide +kernel
theorem dX2_isText_17 : decode cX2_isText 17 = .ok (.iload_n 1, 1) := by decide +kernel
theorem dX2_isText_18 : decode cX2_isText 18 = .ok (.bipush 50, 2) := by decide +kernel
theorem dX2_isText_20 : decode cX2_isText 20 = .ok (.if_icmp .gt 21, 3) := by decide +kernel
theorem dX2_isText_23 : decode cX2_isText 23 = .ok (.iload_n 1, 1) := by decide +kernel
theorem dX2_isText_24 : decode cX2_isText 24 = .ok (.iload_n 0, 1) := by decide +kernel
theorem dX2_isText_25 : decode cX2_isText 25 = .ok (.if_icmp .gt 16, 3) := by decide +kernel
theorem dX2_isText_28 : decode cX2_isText 28 = .ok (.iload_n 2, 1) := by decide +kernel
theorem dX2_isText_29 : decode cX2_isText 29 = .ok (.ifCond .lt 12, 3) := by decide +kernel
theorem dX2_isText_32 : decode cX2_isText 32 = .ok (.iload_n 2, 1) := by decide +kernel
theorem dX2_isText_33 : decode cX2_isText 33 = .ok (.iload_n 0, 1) := by decide +kernel
theorem dX2_isText_34 : decode cX2_isText 34 = .ok (.if_icmp .gt 7, 3) := by decide +kernel
theorem dX2_isText_37 : decode cX2_isText 37 = .ok (.iconst 1, 1) := by decide +kernel
theorem dX2_isText_38 : decode cX2_isText 38 = .ok (.goto 4, 3) := by decide +kernel
theorem dX2_isText_41 : decode cX2_isText 41 = .ok (.iconst 0, 1) := by decide +kernel
theorem dX2_isText_42 : decode cX2_isText 42 = .ok (.ireturn, 1) := by decide +kernel
theorem dX3_init_0 : decode cX3_init 0 = .ok (.aload_n 0, 1) := by decide +kernel
theorem dX3_init_1 : decode cX3_init 1 = .ok (.invokespecial 1, 3) := by decide +kernel
theorem dX3_init_4 : decode cX3_init 4 = .ok (.aload_n 0, 1) := by decide +kernel
theorem dX3_init_5 : decode cX3_init 5 = .ok (.sipush 618, 3) := by decide +kernel
theorem dX3_init_8 : decode cX3_init 8 = .ok (.newarray .int, 2) := by decide +kernel
theorem dX3_init_10 : decode cX3_init 10 = .ok (.putfield 7, 3) := by decide +kernel
theorem dX3_init_13 : decode cX3_init 13 = .ok (.aload_n 0, 1) := by decide +kernel
theorem dX3_init_14 : decode cX3_init 14 = .ok (.sipush 618, 3) := by decide +kernel
theorem dX3_init_17 : decode cX3_init 17 = .ok (.newarray .int, 2) := by decide +kernel
theorem dX3_init_19 : decode cX3_init 19 = .ok (.putfield 13, 3) := by decide +kernel
theorem dX3_init_22 : decode cX3_init 22 = .ok (.aload_n 0, 1) := by decide +kernel
theorem dX3_init_23 : decode cX3_init 23 = .ok (.sipush 2472, 3) := by decide +kernel
theorem dX3_init_26 : decode cX3_init 26 = .ok (.newarray .int, 2) := by decide +kernel
theorem dX3_init_28 : decode cX3_init 28 = .ok (.putfield 16, 3) := by decide +kernel
theorem dX3_init_31 : decode cX3_init 31 = .ok (.aload_n 0, 1) := by decide +kernel
theorem dX3_init_32 : decode cX3_init 32 = .ok (.sipush 618, 3) := by decide +kernel
theorem dX3_init_35 : decode cX3_init 35 = .ok (.newarray .int, 2) := by decide +kernel
theorem dX3_init_37 : decode cX3_init 37 = .ok (.putfield 19, 3) := by decide +kernel
theorem dX3_init_40 : decode cX3_init 40 = .ok (.aload_n 0, 1) := by decide +kernel
theorem dX3_init_41 : decode cX3_init 41 = .ok (.bipush 60, 2) := by decide +kernel
theorem dX3_init_43 : decode cX3_init 43 = .ok (.newarray .int, 2) := by decide +kernel
theorem dX3_init_45 : decode cX3_init 45 = .ok (.putfield 22, 3) := by decide +kernel
theorem dX3_init_48 : decode cX3_init 48 = .ok (.aload_n 0, 1) := by decide +kernel
theorem dX3_init_49 : decode cX3_init 49 = .ok (.bipush (-5), 2) := by decide +kernel
theorem dX3_init_51 : decode cX3_init 51 = .ok (.putfield 25, 3) := by decide +kernel
theorem dX3_init_54 : decode cX3_init 54 = .ok (.aload_n 0, 1) := by decide +kernel
theorem dX3_init_55 : decode cX3_init 55 = .ok (.bipush (-5), 2) := by decide +kernel
theorem dX3_init_57 : decode cX3_init 57 = .ok (.putfield 29, 3) := by decide +kernel
theorem dX3_init_60 : decode cX3_init 60 = .ok (.aload_n 0, 1) := by decide +kernel
theorem dX3_init_61 : decode cX3_init 61 = .ok (.iconst 5, 1) := by decide +kernel
theorem dX3_init_62 : decode cX3_init 62 = .ok (.newarray .int, 2) := by decide +kernel
theorem dX3_init_64 : decode cX3_init 64 = .ok (.putfield 32, 3) := by decide +kernel
theorem dX3_init_67 : decode cX3_init 67 = .ok (.aload_n 0, 1) := by decide +kernel
theorem dX3_init_68 : decode cX3_init 68 = .ok (.getfield 7, 3) := by decide +kernel
theorem dX3_init_71 : decode cX3_init 71 = .ok (.iconst 1, 1) := by decide +kernel
theorem dX3_init_72 : decode cX3_init 72 = .ok (.iconst 5, 1) := by decide +kernel
theorem dX3_init_73 : decode cX3_init 73 = .ok (.iastore, 1) := by decide +kernel
theorem dX3_init_74 : decode cX3_init 74 = .ok (.return_, 1) := by decide +kernel
theorem dX3_in_0 : decode cX3_in 0 = .ok (.iload_n 0, 1) := by decide +kernel
theorem dX3_in_1 : decode cX3_in 1 = .ok (.iload_n 1, 1) := by decide +kernel
theorem dX3_in_2 : decode cX3_in 2 = .ok (.if_icmp .lt 12, 3) := by decide +kernel
theorem dX3_in_5 : decode cX3_in 5 = .ok (.iload_n 0, 1) := by decide +kernel
theorem dX3_in_6 : decode cX3_in 6 = .ok (.iload_n 2, 1) := by decide +kernel
theorem dX3_in_7 : decode cX3_in 7 = .ok (.if_icmp .gt 7, 3) := by decide +kernel
theorem dX3_in_10 : decode cX3_in 10 = .ok (.iconst 1, 1) := by decide +kernel
theorem dX3_in_11 : decode cX3_in 11 = .ok (.goto 4, 3) := by decide +kernel
theorem dX3_in_14 : decode cX3_in 14 = .ok (.iconst 0, 1) := by decide +kernel
theorem dX3_in_15 : decode cX3_in 15 = .ok (.ireturn, 1) := by decide +kernel
theorem dX3_manyAt_0 : decode cX3_manyAt 0 = .ok (.bipush 10, 2) := by decide +kernel
theorem dX3_manyAt_2 : decode cX3_manyAt 2 = .ok (.bipush 76, 2) := by decide +kernel
theorem dX3_manyAt_4 : decode cX3_manyAt 4 = .ok (.iload_n 0, 1) := by decide +kernel
theorem dX3_manyAt_5 : decode cX3_manyAt 5 = .ok (.imul, 1) := by decide +kernel
theorem dX3_manyAt_6 : decode cX3_manyAt 6 = .ok (.iadd, 1) := by decide +kernel
theorem dX3_manyAt_7 : decode cX3_manyAt 7 = .ok (.ireturn, 1) := by decide +kernel
set_option maxRecDepth 20000 in
theorem ggX3_of_X3_manyAt : GoodIn wsX3_of wsX3_manyAt := goodIn_r _ [4] (by decide +kernel) (by decide +kernel)
set_option maxRecDepth 20000 in
theorem gX3_of_X3_manyAt : GoodIn wsX3_of (va_wsS RX3 35 yX3_manyAt wsX3_manyAt) := goodIn_app (goodIn_of _ (by decide +kernel)) ggX3_of_X3_manyAt
theorem dX3_of_0 : decode cX3_of 0 = .ok (.iload_n 0, 1) := by decide +kernel
theorem dX3_of_1 : decode cX3_of 1 = .ok (.invokestatic 35, 3) := by decide +kernel
theorem dX3_of_4 : decode cX3_of 4 = .ok (.iconst 1, 1) := by decide +kernel
theorem dX3_of_5 : decode cX3_of 5 = .ok (.iadd, 1) := by decide +kernel
theorem dX3_of_6 : decode cX3_of 6 = .ok (.bipush 15, 2) := by decide +kernel
theorem dX3_of_8 : decode cX3_of 8 = .ok (.iload_n 1, 1) := by decide +kernel
theorem dX3_of_9 : decode cX3_of 9 = .ok (.imul, 1) := by decide +kernel
theorem dX3_of_10 : decode cX3_of 10 = .ok (.iadd, 1) := by decide +kernel
theorem dX3_of_11 : decode cX3_of 11 = .ok (.iload_n 2, 1) := by decide +kernel
theorem dX3_of_12 : decode cX3_of 12 = .ok (.iadd, 1) := by decide +kernel
theorem dX3_of_13 : decode cX3_of 13 = .ok (.ireturn, 1) := by decide +kernel
set_option maxRecDepth 20000 in
theorem ggX3_ofCaption_X3_of : GoodIn wsX3_ofCaption wsX3_of := goodIn_r _ [4, 5, 6, 3, 7] (by decide +kernel) (by decide +kernel)
set_option maxRecDepth 20000 in
theorem gX3_ofCaption_X3_of : GoodIn wsX3_ofCaption (va_wsS RX3 39 yX3_of wsX3_of) := goodIn_app (goodIn_of _ (by decide +kernel)) ggX3_ofCaption_X3_of
theorem dX3_ofCaption_0 : decode cX3_ofCaption 0 = .ok (.iload_n 0, 1) := by decide +kernel
theorem dX3_ofCaption_1 : decode cX3_ofCaption 1 = .ok (.iload_n 1, 1) := by decide +kernel
theorem dX3_ofCaption_2 : decode cX3_ofCaption 2 = .ok (.bipush 6, 2) := by decide +kernel
theorem dX3_ofCaption_4 : decode cX3_ofCaption 4 = .ok (.iconst 3, 1) := by decide +kernel
theorem dX3_ofCaption_5 : decode cX3_ofCaption 5 = .ok (.iload_n 2, 1) := by decide +kernel
theorem dX3_ofCaption_6 : decode cX3_ofCaption 6 = .ok (.imul, 1) := by decide +kernel
theorem dX3_ofCaption_7 : decode cX3_ofCaption 7 = .ok (.iadd, 1) := by decide +kernel
theorem dX3_ofCaption_8 : decode cX3_ofCaption 8 = .ok (.iload_n 3, 1) := by decide +kernel
theorem dX3_ofCaption_9 : decode cX3_ofCaption 9 = .ok (.iadd, 1) := by decide +kernel
theorem dX3_ofCaption_10 : decode cX3_ofCaption 10 = .ok (.invokestatic 39, 3) := by decide +kernel
theorem dX3_ofCaption_13 : decode cX3_ofCaption 13 = .ok (.ireturn, 1) := by decide +kernel
set_option maxRecDepth 20000 in
theorem ggX3_isExhibit_X3_in : GoodIn wsX3_isExhibit wsX3_in := goodIn_r _ [4] (by decide +kernel) (by decide +kernel)
set_option maxRecDepth 20000 in
theorem gX3_isExhibit_X3_in : GoodIn wsX3_isExhibit (va_wsS RX3 43 yX3_in wsX3_in) := goodIn_app (goodIn_of _ (by decide +kernel)) ggX3_isExhibit_X3_in
theorem dX3_isExhibit_0 : decode cX3_isExhibit 0 = .ok (.iload_n 0, 1) := by decide +kernel
theorem dX3_isExhibit_1 : decode cX3_isExhibit 1 = .ok (.iconst 0, 1) := by decide +kernel
theorem dX3_isExhibit_2 : decode cX3_isExhibit 2 = .ok (.bipush 7, 2) := by decide +kernel
theorem dX3_isExhibit_4 : decode cX3_isExhibit 4 = .ok (.invokestatic 43, 3) := by decide +kernel
theorem dX3_isExhibit_7 : decode cX3_isExhibit 7 = .ok (.ireturn, 1) := by decide +kernel
set_option maxRecDepth 20000 in
theorem ggX3_isText_X3_isExhibit : GoodIn wsX3_isText wsX3_isExhibit := goodIn_r _ [5, 6, 7, 4, 8] (by decide +kernel) (by decide +kernel)
set_option maxRecDepth 20000 in
theorem gX3_isText_X3_isExhibit : GoodIn wsX3_isText (va_wsS RX3 47 yX3_isExhibit wsX3_isExhibit) := goodIn_app (goodIn_of _ (by decide +kernel)) ggX3_isText_X3_isExhibit
set_option maxRecDepth 20000 in
theorem ggX3_isText_X3_manyAt : GoodIn wsX3_isText wsX3_manyAt := goodIn_r _ [11] (by decide +kernel) (by decide +kernel)
set_option maxRecDepth 20000 in
theorem gX3_isText_X3_manyAt : GoodIn wsX3_isText (va_wsS RX3 35 yX3_manyAt wsX3_manyAt) := goodIn_app (goodIn_of _ (by decide +kernel)) ggX3_isText_X3_manyAt
set_option maxRecDepth 20000 in
theorem ggX3_isText_X3_in : GoodIn wsX3_isText wsX3_in := goodIn_r _ [8] (by decide +kernel) (by decide +kernel)
set_option maxRecDepth 20000 in
theorem gX3_isText_X3_in : GoodIn wsX3_isText (va_wsS RX3 43 yX3_in wsX3_in) := goodIn_app (goodIn_of _ (by decide +kernel)) ggX3_isText_X3_in
theorem dX3_isText_0 : decode cX3_isText 0 = .ok (.iload_n 1, 1) := by decide +kernel
theorem dX3_isText_1 : decode cX3_isText 1 = .ok (.invokestatic 47, 3) := by decide +kernel
theorem dX3_isText_4 : decode cX3_isText 4 = .ok (.ifCond .eq 26, 3) := by decide +kernel
theorem dX3_isText_7 : decode cX3_isText 7 = .ok (.iload_n 2, 1) := by decide +kernel
theorem dX3_isText_8 : decode cX3_isText 8 = .ok (.iconst 0, 1) := by decide +kernel
theorem dX3_isText_9 : decode cX3_isText 9 = .ok (.aload_n 0, 1) := by decide +kernel
theorem dX3_isText_10 : decode cX3_isText 10 = .ok (.getfield 7, 3) := by decide +kernel
theorem dX3_isText_13 : decode cX3_isText 13 = .ok (.iload_n 1, 1) := by decide +kernel
theorem dX3_isText_14 : decode cX3_isText 14 = .ok (.invokestatic 35, 3) := by decide +kernel
theorem dX3_isText_17 : decode cX3_isText 17 = .ok (.iaload, 1) := by decide +kernel
theorem dX3_isText_18 : decode cX3_isText 18 = .ok (.iconst 1, 1) := by decide +kernel
theorem dX3_isText_19 : decode cX3_isText 19 = .ok (.isub, 1) := by decide +kernel
theorem dX3_isText_20 : decode cX3_isText 20 = .ok (.invokestatic 43, 3) := by decide +kernel
theorem dX3_isText_23 : decode cX3_isText 23 = .ok (.ifCond .eq 7, 3) := by decide +kernel
theorem dX3_isText_26 : decode cX3_isText 26 = .ok (.iconst 1, 1) := by decide +kernel
theorem dX3_isText_27 : decode cX3_isText 27 = .ok (.goto 4, 3) := by decide +kernel
theorem dX3_isText_30 : decode cX3_isText 30 = .ok (.iconst 0, 1) := by decide +kernel
theorem dX3_isText_31 : decode cX3_isText 31 = .ok (.ireturn, 1) := by decide +kernel
set_option maxRecDepth 20000 in
theorem ggX3_isCaption_X3_isText : GoodIn wsX3_isCaption wsX3_isText := goodIn_r _ [6, 1, 7, 8, 5, 9, 10, 11, 12, 13, 14, 15, 19, 20, 21, 22, 23, 24, 25, 26, 27, 28, 29, 30, 31, 32] (by decide +kernel) (by decide +kernel)
set_option maxRecDepth 20000 in
theorem gX3_isCaption_X3_isText : GoodIn wsX3_isCaption (wsV RX3 51 RX3 yX3_isText wsX3_isText) := goodIn_app (goodIn_of _ (by decide +kernel)) ggX3_isCaption_X3_isText
set_option maxRecDepth 20000 in
theorem ggX3_isCaption_X3_of : GoodIn wsX3_isCaption wsX3_of := goodIn_r _ [18, 13, 14, 5, 15] (by decide +kernel) (by decide +kernel)
set_option maxRecDepth 20000 in
theorem gX3_isCaption_X3_of : GoodIn wsX3_isCaption (va_wsS RX3 39 yX3_of wsX3_of) := goodIn_app (goodIn_of _ (by decide +kernel)) ggX3_isCaption_X3_of
set_option maxRecDepth 20000 in
theorem ggX3_isCaption_X3_in : GoodIn wsX3_isCaption wsX3_in := goodIn_r _ [12] (by decide +kernel) (by decide +kernel)
set_option maxRecDepth 20000 in
theorem gX3_isCaption_X3_in : GoodIn wsX3_isCaption (va_wsS RX3 43 yX3_in wsX3_in) := goodIn_app (goodIn_of _ (by decide +kernel)) ggX3_isCaption_X3_in
theorem dX3_isCaption_0 : decode cX3_isCaption 0 = .ok (.aload_n 0, 1) := by decide +kernel
theorem dX3_isCaption_1 : decode cX3_isCaption 1 = .ok (.iload_n 1, 1) := by decide +kernel
theorem dX3_isCaption_2 : decode cX3_isCaption 2 = .ok (.iload_n 2, 1) := by decide +kernel
theorem dX3_isCaption_3 : decode cX3_isCaption 3 = .ok (.invokevirtual 51, 3) := by decide +kernel
theorem dX3_isCaption_6 : decode cX3_isCaption 6 = .ok (.ifCond .eq 28, 3) := by decide +kernel
theorem dX3_isCaption_9 : decode cX3_isCaption 9 = .ok (.iload_n 3, 1) := by decide +kernel
theorem dX3_isCaption_10 : decode cX3_isCaption 10 = .ok (.iconst 0, 1) := by decide +kernel
theorem dX3_isCaption_11 : decode cX3_isCaption 11 = .ok (.aload_n 0, 1) := by decide +kernel
theorem dX3_isCaption_12 : decode cX3_isCaption 12 = .ok (.getfield 7, 3) := by decide +kernel
theorem dX3_isCaption_15 : decode cX3_isCaption 15 = .ok (.iload_n 1, 1) := by decide +kernel
theorem dX3_isCaption_16 : decode cX3_isCaption 16 = .ok (.iload_n 2, 1) := by decide +kernel
theorem dX3_isCaption_17 : decode cX3_isCaption 17 = .ok (.iconst 5, 1) := by decide +kernel
theorem dX3_isCaption_18 : decode cX3_isCaption 18 = .ok (.invokestatic 39, 3) := by decide +kernel
theorem dX3_isCaption_21 : decode cX3_isCaption 21 = .ok (.iaload, 1) := by decide +kernel
theorem dX3_isCaption_22 : decode cX3_isCaption 22 = .ok (.iconst 1, 1) := by decide +kernel
theorem dX3_isCaption_23 : decode cX3_isCaption 23 = .ok (.isub, 1) := by decide +kernel
theorem dX3_isCaption_24 : decode cX3_isCaption 24 = .ok (.invokestatic 43, 3) := by decide +kernel
theorem dX3_isCaption_27 : decode cX3_isCaption 27 = .ok (.ifCond .eq 7, 3) := by decide +kernel
theorem dX3_isCaption_30 : decode cX3_isCaption 30 = .ok (.iconst 1, 1) := by decide +kernel
theorem dX3_isCaption_31 : decode cX3_isCaption 31 = .ok (.goto 4, 3) := by decide +kernel
theorem dX3_isCaption_34 : decode cX3_isCaption 34 = .ok (.iconst 0, 1) := by decide +kernel
theorem dX3_isCaption_35 : decode cX3_isCaption 35 = .ok (.ireturn, 1) := by decide +kernel
theorem dX3_know_0 : decode cX3_know 0 = .ok (.aload_n 0, 1) := by decide +kernel
theorem dX3_know_1 : decode cX3_know 1 = .ok (.getfield 55, 3) := by decide +kernel
theorem dX3_know_4 : decode cX3_know 4 = .ok (.iconst 4, 1) := by decide +kernel
theorem dX3_know_5 : decode cX3_know 5 = .ok (.if_icmp .ne 44, 3) := by decide +kernel
theorem dX3_know_8 : decode cX3_know 8 = .ok (.iconst 0, 1) := by decide +kernel
theorem dX3_know_9 : decode cX3_know 9 = .ok (.istore_n 1, 1) := by decide +kernel
theorem dX3_know_10 : decode cX3_know 10 = .ok (.iload_n 1, 1) := by decide +kernel
theorem dX3_know_11 : decode cX3_know 11 = .ok (.sipush 1854, 3) := by decide +kernel
theorem dX3_know_14 : decode cX3_know 14 = .ok (.if_icmp .ge 25, 3) := by decide +kernel
theorem dX3_know_17 : decode cX3_know 17 = .ok (.aload_n 0, 1) := by decide +kernel
theorem dX3_know_18 : decode cX3_know 18 = .ok (.getfield 16, 3) := by decide +kernel
theorem dX3_know_21 : decode cX3_know 21 = .ok (.iload_n 1, 1) := by decide +kernel
theorem dX3_know_22 : decode cX3_know 22 = .ok (.aload_n 0, 1) := by decide +kernel
theorem dX3_know_23 : decode cX3_know 23 = .ok (.getfield 16, 3) := by decide +kernel
theorem dX3_know_26 : decode cX3_know 26 = .ok (.sipush 618, 3) := by decide +kernel
theorem dX3_know_29 : decode cX3_know 29 = .ok (.iload_n 1, 1) := by decide +kernel
theorem dX3_know_30 : decode cX3_know 30 = .ok (.iadd, 1) := by decide +kernel
theorem dX3_know_31 : decode cX3_know 31 = .ok (.iaload, 1) := by decide +kernel
theorem dX3_know_32 : decode cX3_know 32 = .ok (.iastore, 1) := by decide +kernel
theorem dX3_know_33 : decode cX3_know 33 = .ok (.iinc 1 1, 3) := by decide +kernel
theorem dX3_know_36 : decode cX3_know 36 = .ok (.goto (-26), 3) := by decide +kernel
theorem dX3_know_39 : decode cX3_know 39 = .ok (.aload_n 0, 1) := by decide +kernel
theorem dX3_know_40 : decode cX3_know 40 = .ok (.dup, 1) := by decide +kernel
theorem dX3_know_41 : decode cX3_know 41 = .ok (.getfield 55, 3) := by decide +kernel
theorem dX3_know_44 : decode cX3_know 44 = .ok (.iconst 1, 1) := by decide +kernel
theorem dX3_know_45 : decode cX3_know 45 = .ok (.isub, 1) := by decide +kernel
theorem dX3_know_46 : decode cX3_know 46 = .ok (.putfield 55, 3) := by decide +kernel
theorem dX3_know_49 : decode cX3_know 49 = .ok (.iconst 0, 1) := by decide +kernel
theorem dX3_know_50 : decode cX3_know 50 = .ok (.istore_n 1, 1) := by decide +kernel
theorem dX3_know_51 : decode cX3_know 51 = .ok (.iload_n 1, 1) := by decide +kernel
theorem dX3_know_52 : decode cX3_know 52 = .ok (.sipush 618, 3) := by decide +kernel
theorem dX3_know_55 : decode cX3_know 55 = .ok (.if_icmp .ge 30, 3) := by decide +kernel
theorem dX3_know_58 : decode cX3_know 58 = .ok (.aload_n 0, 1) := by decide +kernel
theorem dX3_know_59 : decode cX3_know 59 = .ok (.getfield 16, 3) := by decide +kernel
theorem dX3_know_62 : decode cX3_know 62 = .ok (.sipush 618, 3) := by decide +kernel
theorem dX3_know_65 : decode cX3_know 65 = .ok (.aload_n 0, 1) := by decide +kernel
theorem dX3_know_66 : decode cX3_know 66 = .ok (.getfield 55, 3) := by decide +kernel
theorem dX3_know_69 : decode cX3_know 69 = .ok (.imul, 1) := by decide +kernel
theorem dX3_know_70 : decode cX3_know 70 = .ok (.iload_n 1, 1) := by decide +kernel
theorem dX3_know_71 : decode cX3_know 71 = .ok (.iadd, 1) := by decide +kernel
theorem dX3_know_72 : decode cX3_know 72 = .ok (.aload_n 0, 1) := by decide +kernel
theorem dX3_know_73 : decode cX3_know 73 = .ok (.getfield 7, 3) := by decide +kernel
theorem dX3_know_76 : decode cX3_know 76 = .ok (.iload_n 1, 1) := by decide +kernel
theorem dX3_know_77 : decode cX3_know 77 = .ok (.iaload, 1) := by decide +kernel
theorem dX3_know_78 : decode cX3_know 78 = .ok (.iastore, 1) := by decide +kernel
theorem dX3_know_79 : decode cX3_know 79 = .ok (.iinc 1 1, 3) := by decide +kernel
theorem dX3_know_82 : decode cX3_know 82 = .ok (.goto (-31), 3) := by decide +kernel
theorem dX3_know_85 : decode cX3_know 85 = .ok (.aload_n 0, 1) := by decide +kernel
theorem dX3_know_86 : decode cX3_know 86 = .ok (.dup, 1) := by decide +kernel
theorem dX3_know_87 : decode cX3_know 87 = .ok (.getfield 55, 3) := by decide +kernel
theorem dX3_know_90 : decode cX3_know 90 = .ok (.iconst 1, 1) := by decide +kernel
theorem dX3_know_91 : decode cX3_know 91 = .ok (.iadd, 1) := by decide +kernel
theorem dX3_know_92 : decode cX3_know 92 = .ok (.putfield 55, 3) := by decide +kernel
theorem dX3_know_95 : decode cX3_know 95 = .ok (.return_, 1) := by decide +kernel
theorem dX3_bitsOf_0 : decode cX3_bitsOf 0 = .ok (.iconst 0, 1) := by decide +kernel
theorem dX3_bitsOf_1 : decode cX3_bitsOf 1 = .ok (.istore_n 1, 1) := by decide +kernel
theorem dX3_bitsOf_2 : decode cX3_bitsOf 2 = .ok (.iconst 0, 1) := by decide +kernel
theorem dX3_bitsOf_3 : decode cX3_bitsOf 3 = .ok (.istore_n 2, 1) := by decide +kernel
theorem dX3_bitsOf_4 : decode cX3_bitsOf 4 = .ok (.iload_n 2, 1) := by decide +kernel
theorem dX3_bitsOf_5 : decode cX3_bitsOf 5 = .ok (.bipush 16, 2) := by decide +kernel
theorem dX3_bitsOf_7 : decode cX3_bitsOf 7 = .ok (.if_icmp .ge 17, 3) := by decide +kernel
theorem dX3_bitsOf_10 : decode cX3_bitsOf 10 = .ok (.iload_n 1, 1) := by decide +kernel
theorem dX3_bitsOf_11 : decode cX3_bitsOf 11 = .ok (.iload_n 0, 1) := by decide +kernel
theorem dX3_bitsOf_12 : decode cX3_bitsOf 12 = .ok (.iload_n 2, 1) := by decide +kernel
theorem dX3_bitsOf_13 : decode cX3_bitsOf 13 = .ok (.ishr, 1) := by decide +kernel
theorem dX3_bitsOf_14 : decode cX3_bitsOf 14 = .ok (.iconst 1, 1) := by decide +kernel
theorem dX3_bitsOf_15 : decode cX3_bitsOf 15 = .ok (.iand, 1) := by decide +kernel
theorem dX3_bitsOf_16 : decode cX3_bitsOf 16 = .ok (.iadd, 1) := by decide +kernel
theorem dX3_bitsOf_17 : decode cX3_bitsOf 17 = .ok (.istore_n 1, 1) := by decide +kernel
theorem dX3_bitsOf_18 : decode cX3_bitsOf 18 = .ok (.iinc 2 1, 3) := by decide +kernel
theorem dX3_bitsOf_21 : decode cX3_bitsOf 21 = .ok (.goto (-17), 3) := by decide +kernel
theorem dX3_bitsOf_24 : decode cX3_bitsOf 24 = .ok (.iload_n 1, 1) := by decide +kernel
theorem dX3_bitsOf_25 : decode cX3_bitsOf 25 = .ok (.ireturn, 1) := by decide +kernel
set_option maxRecDepth 20000 in
theorem ggX3_readingAge_X3_of : GoodIn wsX3_readingAge wsX3_of := goodIn_r _ [5, 6, 7, 4, 8] (by decide +kernel) (by decide +kernel)
set_option maxRecDepth 20000 in
theorem gX3_readingAge_X3_of : GoodIn wsX3_readingAge (va_wsS RX3 39 yX3_of wsX3_of) := goodIn_app (goodIn_of _ (by decide +kernel)) ggX3_readingAge_X3_of
theorem dX3_readingAge_0 : decode cX3_readingAge 0 = .ok (.aload_n 0, 1) := by decide +kernel
theorem dX3_readingAge_1 : decode cX3_readingAge 1 = .ok (.getfield 7, 3) := by decide +kernel
theorem dX3_readingAge_4 : decode cX3_readingAge 4 = .ok (.iload_n 1, 1) := by decide +kernel
theorem dX3_readingAge_5 : decode cX3_readingAge 5 = .ok (.iload_n 2, 1) := by decide +kernel
theorem dX3_readingAge_6 : decode cX3_readingAge 6 = .ok (.iconst 0, 1) := by decide +kernel
theorem dX3_readingAge_7 : decode cX3_readingAge 7 = .ok (.invokestatic 39, 3) := by decide +kernel
theorem dX3_readingAge_10 : decode cX3_readingAge 10 = .ok (.iaload, 1) := by decide +kernel
theorem dX3_readingAge_11 : decode cX3_readingAge 11 = .ok (.istore_n 3, 1) := by decide +kernel
theorem dX3_readingAge_12 : decode cX3_readingAge 12 = .ok (.iconst 4, 1) := by decide +kernel
theorem dX3_readingAge_13 : decode cX3_readingAge 13 = .ok (.iload_n 3, 1) := by decide +kernel
theorem dX3_readingAge_14 : decode cX3_readingAge 14 = .ok (.iconst 2, 1) := by decide +kernel
theorem dX3_readingAge_15 : decode cX3_readingAge 15 = .ok (.aload_n 0, 1) := by decide +kernel
theorem dX3_readingAge_16 : decode cX3_readingAge 16 = .ok (.getfield 7, 3) := by decide +kernel
theorem dX3_readingAge_19 : decode cX3_readingAge 19 = .ok (.iload_n 1, 1) := by decide +kernel
theorem dX3_readingAge_20 : decode cX3_readingAge 20 = .ok (.iload_n 2, 1) := by decide +kernel
theorem dX3_readingAge_21 : decode cX3_readingAge 21 = .ok (.iconst 1, 1) := by decide +kernel
theorem dX3_readingAge_22 : decode cX3_readingAge 22 = .ok (.invokestatic 39, 3) := by decide +kernel
theorem dX3_readingAge_25 : decode cX3_readingAge 25 = .ok (.iaload, 1) := by decide +kernel
theorem dX3_readingAge_26 : decode cX3_readingAge 26 = .ok (.imul, 1) := by decide +kernel
theorem dX3_readingAge_27 : decode cX3_readingAge 27 = .ok (.idiv, 1) := by decide +kernel
theorem dX3_readingAge_28 : decode cX3_readingAge 28 = .ok (.iadd, 1) := by decide +kernel
theorem dX3_readingAge_29 : decode cX3_readingAge 29 = .ok (.bipush 30, 2) := by decide +kernel
theorem dX3_readingAge_31 : decode cX3_readingAge 31 = .ok (.aload_n 0, 1) := by decide +kernel
theorem dX3_readingAge_32 : decode cX3_readingAge 32 = .ok (.getfield 7, 3) := by decide +kernel
theorem dX3_readingAge_35 : decode cX3_readingAge 35 = .ok (.iload_n 1, 1) := by decide +kernel
theorem dX3_readingAge_36 : decode cX3_readingAge 36 = .ok (.iload_n 2, 1) := by decide +kernel
theorem dX3_readingAge_37 : decode cX3_readingAge 37 = .ok (.iconst 2, 1) := by decide +kernel
theorem dX3_readingAge_38 : decode cX3_readingAge 38 = .ok (.invokestatic 39, 3) := by decide +kernel
theorem dX3_readingAge_41 : decode cX3_readingAge 41 = .ok (.iaload, 1) := by decide +kernel
theorem dX3_readingAge_42 : decode cX3_readingAge 42 = .ok (.imul, 1) := by decide +kernel
theorem dX3_readingAge_43 : decode cX3_readingAge 43 = .ok (.iload_n 3, 1) := by decide +kernel
theorem dX3_readingAge_44 : decode cX3_readingAge 44 = .ok (.idiv, 1) := by decide +kernel
theorem dX3_readingAge_45 : decode cX3_readingAge 45 = .ok (.iadd, 1) := by decide +kernel
theorem dX3_readingAge_46 : decode cX3_readingAge 46 = .ok (.ireturn, 1) := by decide +kernel
set_option maxRecDepth 20000 in
theorem ggX3_shownTo_X3_manyAt : GoodIn wsX3_shownTo wsX3_manyAt := goodIn_r _ [5] (by decide +kernel) (by decide +kernel)
set_option maxRecDepth 20000 in
theorem gX3_shownTo_X3_manyAt : GoodIn wsX3_shownTo (va_wsS RX3 35 yX3_manyAt wsX3_manyAt) := goodIn_app (goodIn_of _ (by decide +kernel)) ggX3_shownTo_X3_manyAt
set_option maxRecDepth 20000 in
theorem ggX3_shownTo_X3_readingAge : GoodIn wsX3_shownTo wsX3_readingAge := goodIn_r _ [9, 1, 10, 11, 4, 12, 2, 3, 5, 13, 14, 15, 16, 17, 18, 19, 20, 21, 22, 23, 24, 25, 26] (by decide +kernel) (by decide +kernel)
set_option maxRecDepth 20000 in
theorem gX3_shownTo_X3_readingAge : GoodIn wsX3_shownTo (wsV RX3 58 RX3 yX3_readingAge wsX3_readingAge) := goodIn_app (goodIn_of _ (by decide +kernel)) ggX3_shownTo_X3_readingAge
set_option maxRecDepth 20000 in
theorem ggX3_shownTo_X3_of : GoodIn wsX3_shownTo wsX3_of := goodIn_r _ [12, 2, 3, 4, 5] (by decide +kernel) (by decide +kernel)
set_option maxRecDepth 20000 in
theorem gX3_shownTo_X3_of : GoodIn wsX3_shownTo (va_wsS RX3 39 yX3_of wsX3_of) := goodIn_app (goodIn_of _ (by decide +kernel)) ggX3_shownTo_X3_of
theorem dX3_shownTo_0 : decode cX3_shownTo 0 = .ok (.bipush (-5), 2) := by decide +kernel
theorem dX3_shownTo_2 : decode cX3_shownTo 2 = .ok (.istore_n 3, 1) := by decide +kernel
theorem dX3_shownTo_3 : decode cX3_shownTo 3 = .ok (.bipush (-5), 2) := by decide +kernel
theorem dX3_shownTo_5 : decode cX3_shownTo 5 = .ok (.istore 4, 2) := by decide +kernel
theorem dX3_shownTo_7 : decode cX3_shownTo 7 = .ok (.iconst 0, 1) := by decide +kernel
theorem dX3_shownTo_8 : decode cX3_shownTo 8 = .ok (.istore 5, 2) := by decide +kernel
theorem dX3_shownTo_10 : decode cX3_shownTo 10 = .ok (.iload 5, 2) := by decide +kernel
theorem dX3_shownTo_12 : decode cX3_shownTo 12 = .ok (.aload_n 0, 1) := by decide +kernel
theorem dX3_shownTo_13 : decode cX3_shownTo 13 = .ok (.getfield 7, 3) := by decide +kernel
theorem dX3_shownTo_16 : decode cX3_shownTo 16 = .ok (.iload_n 1, 1) := by decide +kernel
theorem dX3_shownTo_17 : decode cX3_shownTo 17 = .ok (.invokestatic 35, 3) := by decide +kernel
theorem dX3_shownTo_20 : decode cX3_shownTo 20 = .ok (.iaload, 1) := by decide +kernel
theorem dX3_shownTo_21 : decode cX3_shownTo 21 = .ok (.if_icmp .ge 134, 3) := by decide +kernel
theorem dX3_shownTo_24 : decode cX3_shownTo 24 = .ok (.aload_n 0, 1) := by decide +kernel
theorem dX3_shownTo_25 : decode cX3_shownTo 25 = .ok (.iload_n 1, 1) := by decide +kernel
theorem dX3_shownTo_26 : decode cX3_shownTo 26 = .ok (.iload 5, 2) := by decide +kernel
theorem dX3_shownTo_28 : decode cX3_shownTo 28 = .ok (.invokevirtual 58, 3) := by decide +kernel
theorem dX3_shownTo_31 : decode cX3_shownTo 31 = .ok (.istore 6, 2) := by decide +kernel
theorem dX3_shownTo_33 : decode cX3_shownTo 33 = .ok (.iload 4, 2) := by decide +kernel
theorem dX3_shownTo_35 : decode cX3_shownTo 35 = .ok (.bipush (-5), 2) := by decide +kernel
theorem dX3_shownTo_37 : decode cX3_shownTo 37 = .ok (.if_icmp .eq 15, 3) := by decide +kernel
theorem dX3_shownTo_40 : decode cX3_shownTo 40 = .ok (.iload 6, 2) := by decide +kernel
theorem dX3_shownTo_42 : decode cX3_shownTo 42 = .ok (.aload_n 0, 1) := by decide +kernel
theorem dX3_shownTo_43 : decode cX3_shownTo 43 = .ok (.iload_n 1, 1) := by decide +kernel
theorem dX3_shownTo_44 : decode cX3_shownTo 44 = .ok (.iload 4, 2) := by decide +kernel
theorem dX3_shownTo_46 : decode cX3_shownTo 46 = .ok (.invokevirtual 58, 3) := by decide +kernel
theorem dX3_shownTo_49 : decode cX3_shownTo 49 = .ok (.if_icmp .ge 8, 3) := by decide +kernel
theorem dX3_shownTo_52 : decode cX3_shownTo 52 = .ok (.iload 5, 2) := by decide +kernel
theorem dX3_shownTo_54 : decode cX3_shownTo 54 = .ok (.goto 5, 3) := by decide +kernel
theorem dX3_shownTo_57 : decode cX3_shownTo 57 = .ok (.iload 4, 2) := by decide +kernel
theorem dX3_shownTo_59 : decode cX3_shownTo 59 = .ok (.istore 4, 2) := by decide +kernel
theorem dX3_shownTo_61 : decode cX3_shownTo 61 = .ok (.iload_n 3, 1) := by decide +kernel
theorem dX3_shownTo_62 : decode cX3_shownTo 62 = .ok (.bipush (-5), 2) := by decide +kernel
theorem dX3_shownTo_64 : decode cX3_shownTo 64 = .ok (.if_icmp .ne 7, 3) := by decide +kernel
theorem dX3_shownTo_67 : decode cX3_shownTo 67 = .ok (.iconst 1, 1) := by decide +kernel
theorem dX3_shownTo_68 : decode cX3_shownTo 68 = .ok (.goto 12, 3) := by decide +kernel
theorem dX3_shownTo_71 : decode cX3_shownTo 71 = .ok (.iload 6, 2) := by decide +kernel
theorem dX3_shownTo_73 : decode cX3_shownTo 73 = .ok (.aload_n 0, 1) := by decide +kernel
theorem dX3_shownTo_74 : decode cX3_shownTo 74 = .ok (.iload_n 1, 1) := by decide +kernel
theorem dX3_shownTo_75 : decode cX3_shownTo 75 = .ok (.iload_n 3, 1) := by decide +kernel
theorem dX3_shownTo_76 : decode cX3_shownTo 76 = .ok (.invokevirtual 58, 3) := by decide +kernel
theorem dX3_shownTo_79 : decode cX3_shownTo 79 = .ok (.isub, 1) := by decide +kernel
theorem dX3_shownTo_80 : decode cX3_shownTo 80 = .ok (.istore 7, 2) := by decide +kernel
theorem dX3_shownTo_82 : decode cX3_shownTo 82 = .ok (.iload_n 3, 1) := by decide +kernel
theorem dX3_shownTo_83 : decode cX3_shownTo 83 = .ok (.bipush (-5), 2) := by decide +kernel
theorem dX3_shownTo_85 : decode cX3_shownTo 85 = .ok (.if_icmp .eq 33, 3) := by decide +kernel
theorem dX3_shownTo_88 : decode cX3_shownTo 88 = .ok (.aload_n 0, 1) := by decide +kernel
theorem dX3_shownTo_89 : decode cX3_shownTo 89 = .ok (.getfield 7, 3) := by decide +kernel
theorem dX3_shownTo_92 : decode cX3_shownTo 92 = .ok (.iload_n 1, 1) := by decide +kernel
theorem dX3_shownTo_93 : decode cX3_shownTo 93 = .ok (.iload 5, 2) := by decide +kernel
theorem dX3_shownTo_95 : decode cX3_shownTo 95 = .ok (.iconst 0, 1) := by decide +kernel
theorem dX3_shownTo_96 : decode cX3_shownTo 96 = .ok (.invokestatic 39, 3) := by decide +kernel
theorem dX3_shownTo_99 : decode cX3_shownTo 99 = .ok (.iaload, 1) := by decide +kernel
theorem dX3_shownTo_100 : decode cX3_shownTo 100 = .ok (.aload_n 0, 1) := by decide +kernel
theorem dX3_shownTo_101 : decode cX3_shownTo 101 = .ok (.getfield 7, 3) := by decide +kernel
theorem dX3_shownTo_104 : decode cX3_shownTo 104 = .ok (.iload_n 1, 1) := by decide +kernel
theorem dX3_shownTo_105 : decode cX3_shownTo 105 = .ok (.iload_n 3, 1) := by decide +kernel
theorem dX3_shownTo_106 : decode cX3_shownTo 106 = .ok (.iconst 0, 1) := by decide +kernel
theorem dX3_shownTo_107 : decode cX3_shownTo 107 = .ok (.invokestatic 39, 3) := by decide +kernel
theorem dX3_shownTo_110 : decode cX3_shownTo 110 = .ok (.iaload, 1) := by decide +kernel
theorem dX3_shownTo_111 : decode cX3_shownTo 111 = .ok (.if_icmp .ge 7, 3) := by decide +kernel
theorem dX3_shownTo_114 : decode cX3_shownTo 114 = .ok (.iconst 1, 1) := by decide +kernel
theorem dX3_shownTo_115 : decode cX3_shownTo 115 = .ok (.goto 4, 3) := by decide +kernel
theorem dX3_shownTo_118 : decode cX3_shownTo 118 = .ok (.iconst 0, 1) := by decide +kernel
theorem dX3_shownTo_119 : decode cX3_shownTo 119 = .ok (.istore 8, 2) := by decide +kernel
theorem dX3_shownTo_121 : decode cX3_shownTo 121 = .ok (.iload 6, 2) := by decide +kernel
theorem dX3_shownTo_123 : decode cX3_shownTo 123 = .ok (.iload_n 2, 1) := by decide +kernel
theorem dX3_shownTo_124 : decode cX3_shownTo 124 = .ok (.if_icmp .gt 23, 3) := by decide +kernel
theorem dX3_shownTo_127 : decode cX3_shownTo 127 = .ok (.iload 7, 2) := by decide +kernel
theorem dX3_shownTo_129 : decode cX3_shownTo 129 = .ok (.ifCond .gt 13, 3) := by decide +kernel
theorem dX3_shownTo_132 : decode cX3_shownTo 132 = .ok (.iload 7, 2) := by decide +kernel
theorem dX3_shownTo_134 : decode cX3_shownTo 134 = .ok (.ifCond .ne 13, 3) := by decide +kernel
theorem dX3_shownTo_137 : decode cX3_shownTo 137 = .ok (.iload 8, 2) := by decide +kernel
theorem dX3_shownTo_139 : decode cX3_shownTo 139 = .ok (.ifCond .eq 8, 3) := by decide +kernel
theorem dX3_shownTo_142 : decode cX3_shownTo 142 = .ok (.iload 5, 2) := by decide +kernel
theorem dX3_shownTo_144 : decode cX3_shownTo 144 = .ok (.goto 4, 3) := by decide +kernel
theorem dX3_shownTo_147 : decode cX3_shownTo 147 = .ok (.iload_n 3, 1) := by decide +kernel
theorem dX3_shownTo_148 : decode cX3_shownTo 148 = .ok (.istore_n 3, 1) := by decide +kernel
theorem dX3_shownTo_149 : decode cX3_shownTo 149 = .ok (.iinc 5 1, 3) := by decide +kernel
theorem dX3_shownTo_152 : decode cX3_shownTo 152 = .ok (.goto (-142), 3) := by decide +kernel
theorem dX3_shownTo_155 : decode cX3_shownTo 155 = .ok (.iload_n 3, 1) := by decide +kernel
theorem dX3_shownTo_156 : decode cX3_shownTo 156 = .ok (.bipush (-5), 2) := by decide +kernel
theorem dX3_shownTo_158 : decode cX3_shownTo 158 = .ok (.if_icmp .ne 8, 3) := by decide +kernel
theorem dX3_shownTo_161 : decode cX3_shownTo 161 = .ok (.iload 4, 2) := by decide +kernel
theorem dX3_shownTo_163 : decode cX3_shownTo 163 = .ok (.goto 4, 3) := by decide +kernel
theorem dX3_shownTo_166 : decode cX3_shownTo 166 = .ok (.iload_n 3, 1) := by decide +kernel
theorem dX3_shownTo_167 : decode cX3_shownTo 167 = .ok (.ireturn, 1) := by decide +kernel
set_option maxRecDepth 20000 in
theorem ggX3_textFault_X3_isExhibit : GoodIn wsX3_textFault wsX3_isExhibit := goodIn_r _ [6, 7, 8, 5, 9] (by decide +kernel) (by decide +kernel)
set_option maxRecDepth 20000 in
theorem gX3_textFault_X3_isExhibit : GoodIn wsX3_textFault (va_wsS RX3 47 yX3_isExhibit wsX3_isExhibit) := goodIn_app (goodIn_of _ (by decide +kernel)) ggX3_textFault_X3_isExhibit
set_option maxRecDepth 20000 in
theorem ggX3_textFault_X3_in : GoodIn wsX3_textFault wsX3_in := goodIn_r _ [9] (by decide +kernel) (by decide +kernel)
set_option maxRecDepth 20000 in
theorem gX3_textFault_X3_in : GoodIn wsX3_textFault (va_wsS RX3 43 yX3_in wsX3_in) := goodIn_app (goodIn_of _ (by decide +kernel)) ggX3_textFault_X3_in
set_option maxRecDepth 20000 in
theorem ggX3_textFault_X3_manyAt : GoodIn wsX3_textFault wsX3_manyAt := goodIn_r _ [12] (by decide +kernel) (by decide +kernel)
set_option maxRecDepth 20000 in
theorem gX3_textFault_X3_manyAt : GoodIn wsX3_textFault (va_wsS RX3 35 yX3_manyAt wsX3_manyAt) := goodIn_app (goodIn_of _ (by decide +kernel)) ggX3_textFault_X3_manyAt
theorem dX3_textFault_0 : decode cX3_textFault 0 = .ok (.iload_n 1, 1) := by decide +kernel
theorem dX3_textFault_1 : decode cX3_textFault 1 = .ok (.invokestatic 47, 3) := by decide +kernel
theorem dX3_textFault_4 : decode cX3_textFault 4 = .ok (.ifCond .ne 5, 3) := by decide +kernel
theorem dX3_textFault_7 : decode cX3_textFault 7 = .ok (.iconst (-1), 1) := by decide +kernel
theorem dX3_textFault_8 : decode cX3_textFault 8 = .ok (.ireturn, 1) := by decide +kernel
theorem dX3_textFault_9 : decode cX3_textFault 9 = .ok (.iload_n 2, 1) := by decide +kernel
theorem dX3_textFault_10 : decode cX3_textFault 10 = .ok (.iconst 1, 1) := by decide +kernel
theorem dX3_textFault_11 : decode cX3_textFault 11 = .ok (.sipush 300, 3) := by decide +kernel
theorem dX3_textFault_14 : decode cX3_textFault 14 = .ok (.invokestatic 43, 3) := by decide +kernel
theorem dX3_textFault_17 : decode cX3_textFault 17 = .ok (.ifCond .eq 44, 3) := by decide +kernel
theorem dX3_textFault_20 : decode cX3_textFault 20 = .ok (.iload_n 3, 1) := by decide +kernel
theorem dX3_textFault_21 : decode cX3_textFault 21 = .ok (.iconst 1, 1) := by decide +kernel
theorem dX3_textFault_22 : decode cX3_textFault 22 = .ok (.iload_n 2, 1) := by decide +kernel
theorem dX3_textFault_23 : decode cX3_textFault 23 = .ok (.bipush 50, 2) := by decide +kernel
theorem dX3_textFault_25 : decode cX3_textFault 25 = .ok (.if_icmp .ge 7, 3) := by decide +kernel
theorem dX3_textFault_28 : decode cX3_textFault 28 = .ok (.iload_n 2, 1) := by decide +kernel
theorem dX3_textFault_29 : decode cX3_textFault 29 = .ok (.goto 5, 3) := by decide +kernel
theorem dX3_textFault_32 : decode cX3_textFault 32 = .ok (.bipush 50, 2) := by decide +kernel
theorem dX3_textFault_34 : decode cX3_textFault 34 = .ok (.invokestatic 43, 3) := by decide +kernel
theorem dX3_textFault_37 : decode cX3_textFault 37 = .ok (.ifCond .eq 24, 3) := by decide +kernel
theorem dX3_textFault_40 : decode cX3_textFault 40 = .ok (.iload 4, 2) := by decide +kernel
theorem dX3_textFault_42 : decode cX3_textFault 42 = .ok (.iconst 0, 1) := by decide +kernel
theorem dX3_textFault_43 : decode cX3_textFault 43 = .ok (.iload_n 2, 1) := by decide +kernel
theorem dX3_textFault_44 : decode cX3_textFault 44 = .ok (.invokestatic 43, 3) := by decide +kernel
theorem dX3_textFault_47 : decode cX3_textFault 47 = .ok (.ifCond .eq 14, 3) := by decide +kernel
theorem dX3_textFault_50 : decode cX3_textFault 50 = .ok (.iload 5, 2) := by decide +kernel
theorem dX3_textFault_52 : decode cX3_textFault 52 = .ok (.iconst 1, 1) := by decide +kernel
theorem dX3_textFault_53 : decode cX3_textFault 53 = .ok (.ldc 62, 2) := by decide +kernel
theorem dX3_textFault_55 : decode cX3_textFault 55 = .ok (.invokestatic 43, 3) := by decide +kernel
theorem dX3_textFault_58 : decode cX3_textFault 58 = .ok (.ifCond .ne 6, 3) := by decide +kernel
theorem dX3_textFault_61 : decode cX3_textFault 61 = .ok (.bipush (-2), 2) := by decide +kernel
theorem dX3_textFault_63 : decode cX3_textFault 63 = .ok (.ireturn, 1) := by decide +kernel
theorem dX3_textFault_64 : decode cX3_textFault 64 = .ok (.aload_n 0, 1) := by decide +kernel
theorem dX3_textFault_65 : decode cX3_textFault 65 = .ok (.getfield 7, 3) := by decide +kernel
theorem dX3_textFault_68 : decode cX3_textFault 68 = .ok (.iload_n 1, 1) := by decide +kernel
theorem dX3_textFault_69 : decode cX3_textFault 69 = .ok (.invokestatic 35, 3) := by decide +kernel
theorem dX3_textFault_72 : decode cX3_textFault 72 = .ok (.iaload, 1) := by decide +kernel
theorem dX3_textFault_73 : decode cX3_textFault 73 = .ok (.iconst 5, 1) := by decide +kernel
theorem dX3_textFault_74 : decode cX3_textFault 74 = .ok (.if_icmp .ne 8, 3) := by decide +kernel
theorem dX3_textFault_77 : decode cX3_textFault 77 = .ok (.bipush (-3), 2) := by decide +kernel
theorem dX3_textFault_79 : decode cX3_textFault 79 = .ok (.goto 4, 3) := by decide +kernel
theorem dX3_textFault_82 : decode cX3_textFault 82 = .ok (.iconst 0, 1) := by decide +kernel
theorem dX3_textFault_83 : decode cX3_textFault 83 = .ok (.ireturn, 1) := by decide +kernel
set_option maxRecDepth 20000 in
theorem ggX3_addsText_X3_manyAt : GoodIn wsX3_addsText wsX3_manyAt := goodIn_r _ [5] (by decide +kernel) (by decide +kernel)
set_option maxRecDepth 20000 in
theorem gX3_addsText_X3_manyAt : GoodIn wsX3_addsText (va_wsS RX3 35 yX3_manyAt wsX3_manyAt) := goodIn_app (goodIn_of _ (by decide +kernel)) ggX3_addsText_X3_manyAt
set_option maxRecDepth 20000 in
theorem ggX3_addsText_X3_of : GoodIn wsX3_addsText wsX3_of := goodIn_r _ [8, 2, 3, 4, 5] (by decide +kernel) (by decide +kernel)
set_option maxRecDepth 20000 in
theorem gX3_addsText_X3_of : GoodIn wsX3_addsText (va_wsS RX3 39 yX3_of wsX3_of) := goodIn_app (goodIn_of _ (by decide +kernel)) ggX3_addsText_X3_of
theorem dX3_addsText_0 : decode cX3_addsText 0 = .ok (.aload_n 0, 1) := by decide +kernel
theorem dX3_addsText_1 : decode cX3_addsText 1 = .ok (.getfield 7, 3) := by decide +kernel
theorem dX3_addsText_4 : decode cX3_addsText 4 = .ok (.iload_n 1, 1) := by decide +kernel
theorem dX3_addsText_5 : decode cX3_addsText 5 = .ok (.invokestatic 35, 3) := by decide +kernel
theorem dX3_addsText_8 : decode cX3_addsText 8 = .ok (.iaload, 1) := by decide +kernel
theorem dX3_addsText_9 : decode cX3_addsText 9 = .ok (.istore 6, 2) := by decide +kernel
theorem dX3_addsText_11 : decode cX3_addsText 11 = .ok (.iconst 0, 1) := by decide +kernel
theorem dX3_addsText_12 : decode cX3_addsText 12 = .ok (.istore 7, 2) := by decide +kernel
theorem dX3_addsText_14 : decode cX3_addsText 14 = .ok (.iload 7, 2) := by decide +kernel
theorem dX3_addsText_16 : decode cX3_addsText 16 = .ok (.bipush 15, 2) := by decide +kernel
theorem dX3_addsText_18 : decode cX3_addsText 18 = .ok (.if_icmp .ge 23, 3) := by decide +kernel
theorem dX3_addsText_21 : decode cX3_addsText 21 = .ok (.aload_n 0, 1) := by decide +kernel
theorem dX3_addsText_22 : decode cX3_addsText 22 = .ok (.getfield 7, 3) := by decide +kernel
theorem dX3_addsText_25 : decode cX3_addsText 25 = .ok (.iload_n 1, 1) := by decide +kernel
theorem dX3_addsText_26 : decode cX3_addsText 26 = .ok (.iload 6, 2) := by decide +kernel
theorem dX3_addsText_28 : decode cX3_addsText 28 = .ok (.iload 7, 2) := by decide +kernel
theorem dX3_addsText_30 : decode cX3_addsText 30 = .ok (.invokestatic 39, 3) := by decide +kernel
theorem dX3_addsText_33 : decode cX3_addsText 33 = .ok (.iconst 0, 1) := by decide +kernel
theorem dX3_addsText_34 : decode cX3_addsText 34 = .ok (.iastore, 1) := by decide +kernel
theorem dX3_addsText_35 : decode cX3_addsText 35 = .ok (.iinc 7 1, 3) := by decide +kernel
theorem dX3_addsText_38 : decode cX3_addsText 38 = .ok (.goto (-24), 3) := by decide +kernel
theorem dX3_addsText_41 : decode cX3_addsText 41 = .ok (.aload_n 0, 1) := by decide +kernel
theorem dX3_addsText_42 : decode cX3_addsText 42 = .ok (.getfield 7, 3) := by decide +kernel
theorem dX3_addsText_45 : decode cX3_addsText 45 = .ok (.iload_n 1, 1) := by decide +kernel
theorem dX3_addsText_46 : decode cX3_addsText 46 = .ok (.iload 6, 2) := by decide +kernel
theorem dX3_addsText_48 : decode cX3_addsText 48 = .ok (.iconst 0, 1) := by decide +kernel
theorem dX3_addsText_49 : decode cX3_addsText 49 = .ok (.invokestatic 39, 3) := by decide +kernel
theorem dX3_addsText_52 : decode cX3_addsText 52 = .ok (.iload_n 2, 1) := by decide +kernel
theorem dX3_addsText_53 : decode cX3_addsText 53 = .ok (.iastore, 1) := by decide +kernel
theorem dX3_addsText_54 : decode cX3_addsText 54 = .ok (.aload_n 0, 1) := by decide +kernel
theorem dX3_addsText_55 : decode cX3_addsText 55 = .ok (.getfield 7, 3) := by decide +kernel
theorem dX3_addsText_58 : decode cX3_addsText 58 = .ok (.iload_n 1, 1) := by decide +kernel
theorem dX3_addsText_59 : decode cX3_addsText 59 = .ok (.iload 6, 2) := by decide +kernel
theorem dX3_addsText_61 : decode cX3_addsText 61 = .ok (.iconst 1, 1) := by decide +kernel
theorem dX3_addsText_62 : decode cX3_addsText 62 = .ok (.invokestatic 39, 3) := by decide +kernel
theorem dX3_addsText_65 : decode cX3_addsText 65 = .ok (.iload_n 3, 1) := by decide +kernel
theorem dX3_addsText_66 : decode cX3_addsText 66 = .ok (.iastore, 1) := by decide +kernel
theorem dX3_addsText_67 : decode cX3_addsText 67 = .ok (.aload_n 0, 1) := by decide +kernel
theorem dX3_addsText_68 : decode cX3_addsText 68 = .ok (.getfield 7, 3) := by decide +kernel
theorem dX3_addsText_71 : decode cX3_addsText 71 = .ok (.iload_n 1, 1) := by decide +kernel
theorem dX3_addsText_72 : decode cX3_addsText 72 = .ok (.iload 6, 2) := by decide +kernel
theorem dX3_addsText_74 : decode cX3_addsText 74 = .ok (.iconst 2, 1) := by decide +kernel
theorem dX3_addsText_75 : decode cX3_addsText 75 = .ok (.invokestatic 39, 3) := by decide +kernel
theorem dX3_addsText_78 : decode cX3_addsText 78 = .ok (.iload 4, 2) := by decide +kernel
theorem dX3_addsText_80 : decode cX3_addsText 80 = .ok (.iastore, 1) := by decide +kernel
theorem dX3_addsText_81 : decode cX3_addsText 81 = .ok (.aload_n 0, 1) := by decide +kernel
theorem dX3_addsText_82 : decode cX3_addsText 82 = .ok (.getfield 7, 3) := by decide +kernel
theorem dX3_addsText_85 : decode cX3_addsText 85 = .ok (.iload_n 1, 1) := by decide +kernel
theorem dX3_addsText_86 : decode cX3_addsText 86 = .ok (.iload 6, 2) := by decide +kernel
theorem dX3_addsText_88 : decode cX3_addsText 88 = .ok (.iconst 3, 1) := by decide +kernel
theorem dX3_addsText_89 : decode cX3_addsText 89 = .ok (.invokestatic 39, 3) := by decide +kernel
theorem dX3_addsText_92 : decode cX3_addsText 92 = .ok (.iload 5, 2) := by decide +kernel
theorem dX3_addsText_94 : decode cX3_addsText 94 = .ok (.iastore, 1) := by decide +kernel
theorem dX3_addsText_95 : decode cX3_addsText 95 = .ok (.aload_n 0, 1) := by decide +kernel
theorem dX3_addsText_96 : decode cX3_addsText 96 = .ok (.getfield 7, 3) := by decide +kernel
theorem dX3_addsText_99 : decode cX3_addsText 99 = .ok (.iload_n 1, 1) := by decide +kernel
theorem dX3_addsText_100 : decode cX3_addsText 100 = .ok (.invokestatic 35, 3) := by decide +kernel
theorem dX3_addsText_103 : decode cX3_addsText 103 = .ok (.dup2, 1) := by decide +kernel
theorem dX3_addsText_104 : decode cX3_addsText 104 = .ok (.iaload, 1) := by decide +kernel
theorem dX3_addsText_105 : decode cX3_addsText 105 = .ok (.iconst 1, 1) := by decide +kernel
theorem dX3_addsText_106 : decode cX3_addsText 106 = .ok (.iadd, 1) := by decide +kernel
theorem dX3_addsText_107 : decode cX3_addsText 107 = .ok (.iastore, 1) := by decide +kernel
theorem dX3_addsText_108 : decode cX3_addsText 108 = .ok (.iload 6, 2) := by decide +kernel
theorem dX3_addsText_110 : decode cX3_addsText 110 = .ok (.ireturn, 1) := by decide +kernel
set_option maxRecDepth 20000 in
theorem ggX3_captionFault_X3_isText : GoodIn wsX3_captionFault wsX3_isText := goodIn_r _ [7, 2, 8, 9, 6, 10, 11, 12, 13, 14, 15, 16, 20, 21, 22, 23, 24, 25, 26, 27, 28, 29, 30, 31, 32, 33] (by decide +kernel) (by decide +kernel)
set_option maxRecDepth 20000 in
theorem gX3_captionFault_X3_isText : GoodIn wsX3_captionFault (wsV RX3 51 RX3 yX3_isText wsX3_isText) := goodIn_app (goodIn_of _ (by decide +kernel)) ggX3_captionFault_X3_isText
set_option maxRecDepth 20000 in
theorem ggX3_captionFault_X3_in : GoodIn wsX3_captionFault wsX3_in := goodIn_r _ [13] (by decide +kernel) (by decide +kernel)
set_option maxRecDepth 20000 in
theorem gX3_captionFault_X3_in : GoodIn wsX3_captionFault (va_wsS RX3 43 yX3_in wsX3_in) := goodIn_app (goodIn_of _ (by decide +kernel)) ggX3_captionFault_X3_in
set_option maxRecDepth 20000 in
theorem ggX3_captionFault_X3_of : GoodIn wsX3_captionFault wsX3_of := goodIn_r _ [19, 14, 15, 6, 16] (by decide +kernel) (by decide +kernel)
set_option maxRecDepth 20000 in
theorem gX3_captionFault_X3_of : GoodIn wsX3_captionFault (va_wsS RX3 39 yX3_of wsX3_of) := goodIn_app (goodIn_of _ (by decide +kernel)) ggX3_captionFault_X3_of
theorem dX3_captionFault_0 : decode cX3_captionFault 0 = .ok (.aload_n 0, 1) := by decide +kernel
theorem dX3_captionFault_1 : decode cX3_captionFault 1 = .ok (.iload_n 1, 1) := by decide +kernel
theorem dX3_captionFault_2 : decode cX3_captionFault 2 = .ok (.iload_n 2, 1) := by decide +kernel
theorem dX3_captionFault_3 : decode cX3_captionFault 3 = .ok (.invokevirtual 51, 3) := by decide +kernel
theorem dX3_captionFault_6 : decode cX3_captionFault 6 = .ok (.ifCond .ne 5, 3) := by decide +kernel
theorem dX3_captionFault_9 : decode cX3_captionFault 9 = .ok (.iconst (-1), 1) := by decide +kernel
theorem dX3_captionFault_10 : decode cX3_captionFault 10 = .ok (.ireturn, 1) := by decide +kernel
theorem dX3_captionFault_11 : decode cX3_captionFault 11 = .ok (.iload_n 3, 1) := by decide +kernel
theorem dX3_captionFault_12 : decode cX3_captionFault 12 = .ok (.iconst 1, 1) := by decide +kernel
theorem dX3_captionFault_13 : decode cX3_captionFault 13 = .ok (.bipush 30, 2) := by decide +kernel
theorem dX3_captionFault_15 : decode cX3_captionFault 15 = .ok (.invokestatic 43, 3) := by decide +kernel
theorem dX3_captionFault_18 : decode cX3_captionFault 18 = .ok (.ifCond .eq 14, 3) := by decide +kernel
theorem dX3_captionFault_21 : decode cX3_captionFault 21 = .ok (.iload 4, 2) := by decide +kernel
theorem dX3_captionFault_23 : decode cX3_captionFault 23 = .ok (.iconst 0, 1) := by decide +kernel
theorem dX3_captionFault_24 : decode cX3_captionFault 24 = .ok (.ldc 62, 2) := by decide +kernel
theorem dX3_captionFault_26 : decode cX3_captionFault 26 = .ok (.invokestatic 43, 3) := by decide +kernel
theorem dX3_captionFault_29 : decode cX3_captionFault 29 = .ok (.ifCond .ne 6, 3) := by decide +kernel
theorem dX3_captionFault_32 : decode cX3_captionFault 32 = .ok (.bipush (-2), 2) := by decide +kernel
theorem dX3_captionFault_34 : decode cX3_captionFault 34 = .ok (.ireturn, 1) := by decide +kernel
theorem dX3_captionFault_35 : decode cX3_captionFault 35 = .ok (.iload 4, 2) := by decide +kernel
theorem dX3_captionFault_37 : decode cX3_captionFault 37 = .ok (.aload_n 0, 1) := by decide +kernel
theorem dX3_captionFault_38 : decode cX3_captionFault 38 = .ok (.getfield 7, 3) := by decide +kernel
theorem dX3_captionFault_41 : decode cX3_captionFault 41 = .ok (.iload_n 1, 1) := by decide +kernel
theorem dX3_captionFault_42 : decode cX3_captionFault 42 = .ok (.iload_n 2, 1) := by decide +kernel
theorem dX3_captionFault_43 : decode cX3_captionFault 43 = .ok (.iconst 3, 1) := by decide +kernel
theorem dX3_captionFault_44 : decode cX3_captionFault 44 = .ok (.invokestatic 39, 3) := by decide +kernel
theorem dX3_captionFault_47 : decode cX3_captionFault 47 = .ok (.iaload, 1) := by decide +kernel
theorem dX3_captionFault_48 : decode cX3_captionFault 48 = .ok (.iconst (-1), 1) := by decide +kernel
theorem dX3_captionFault_49 : decode cX3_captionFault 49 = .ok (.ixor, 1) := by decide +kernel
theorem dX3_captionFault_50 : decode cX3_captionFault 50 = .ok (.iand, 1) := by decide +kernel
theorem dX3_captionFault_51 : decode cX3_captionFault 51 = .ok (.ifCond .eq 6, 3) := by decide +kernel
theorem dX3_captionFault_54 : decode cX3_captionFault 54 = .ok (.bipush (-4), 2) := by decide +kernel
theorem dX3_captionFault_56 : decode cX3_captionFault 56 = .ok (.ireturn, 1) := by decide +kernel
theorem dX3_captionFault_57 : decode cX3_captionFault 57 = .ok (.aload_n 0, 1) := by decide +kernel
theorem dX3_captionFault_58 : decode cX3_captionFault 58 = .ok (.getfield 7, 3) := by decide +kernel
theorem dX3_captionFault_61 : decode cX3_captionFault 61 = .ok (.iload_n 1, 1) := by decide +kernel
theorem dX3_captionFault_62 : decode cX3_captionFault 62 = .ok (.iload_n 2, 1) := by decide +kernel
theorem dX3_captionFault_63 : decode cX3_captionFault 63 = .ok (.iconst 5, 1) := by decide +kernel
theorem dX3_captionFault_64 : decode cX3_captionFault 64 = .ok (.invokestatic 39, 3) := by decide +kernel
theorem dX3_captionFault_67 : decode cX3_captionFault 67 = .ok (.iaload, 1) := by decide +kernel
theorem dX3_captionFault_68 : decode cX3_captionFault 68 = .ok (.iconst 3, 1) := by decide +kernel
theorem dX3_captionFault_69 : decode cX3_captionFault 69 = .ok (.if_icmp .ne 8, 3) := by decide +kernel
theorem dX3_captionFault_72 : decode cX3_captionFault 72 = .ok (.bipush (-3), 2) := by decide +kernel
theorem dX3_captionFault_74 : decode cX3_captionFault 74 = .ok (.goto 4, 3) := by decide +kernel
theorem dX3_captionFault_77 : decode cX3_captionFault 77 = .ok (.iconst 0, 1) := by decide +kernel
theorem dX3_captionFault_78 : decode cX3_captionFault 78 = .ok (.ireturn, 1) := by decide +kernel
set_option maxRecDepth 20000 in
theorem ggX3_addsCaption_X3_of : GoodIn wsX3_addsCaption wsX3_of := goodIn_r _ [5, 6, 7, 4, 8] (by decide +kernel) (by decide +kernel)
set_option maxRecDepth 20000 in
theorem gX3_addsCaption_X3_of : GoodIn wsX3_addsCaption (va_wsS RX3 39 yX3_of wsX3_of) := goodIn_app (goodIn_of _ (by decide +kernel)) ggX3_addsCaption_X3_of
set_option maxRecDepth 20000 in
theorem ggX3_addsCaption_X3_ofCaption : GoodIn wsX3_addsCaption wsX3_ofCaption := goodIn_r _ [11, 2, 3, 4, 5, 6, 7, 8] (by decide +kernel) (by decide +kernel)
set_option maxRecDepth 20000 in
theorem gX3_addsCaption_X3_ofCaption : GoodIn wsX3_addsCaption (va_wsS RX3 63 yX3_ofCaption wsX3_ofCaption) := goodIn_app (goodIn_of _ (by decide +kernel)) ggX3_addsCaption_X3_ofCaption
theorem dX3_addsCaption_0 : decode cX3_addsCaption 0 = .ok (.aload_n 0, 1) := by decide +kernel
theorem dX3_addsCaption_1 : decode cX3_addsCaption 1 = .ok (.getfield 7, 3) := by decide +kernel
theorem dX3_addsCaption_4 : decode cX3_addsCaption 4 = .ok (.iload_n 1, 1) := by decide +kernel
theorem dX3_addsCaption_5 : decode cX3_addsCaption 5 = .ok (.iload_n 2, 1) := by decide +kernel
theorem dX3_addsCaption_6 : decode cX3_addsCaption 6 = .ok (.iconst 5, 1) := by decide +kernel
theorem dX3_addsCaption_7 : decode cX3_addsCaption 7 = .ok (.invokestatic 39, 3) := by decide +kernel
theorem dX3_addsCaption_10 : decode cX3_addsCaption 10 = .ok (.iaload, 1) := by decide +kernel
theorem dX3_addsCaption_11 : decode cX3_addsCaption 11 = .ok (.istore 5, 2) := by decide +kernel
theorem dX3_addsCaption_13 : decode cX3_addsCaption 13 = .ok (.aload_n 0, 1) := by decide +kernel
theorem dX3_addsCaption_14 : decode cX3_addsCaption 14 = .ok (.getfield 7, 3) := by decide +kernel
theorem dX3_addsCaption_17 : decode cX3_addsCaption 17 = .ok (.iload_n 1, 1) := by decide +kernel
theorem dX3_addsCaption_18 : decode cX3_addsCaption 18 = .ok (.iload_n 2, 1) := by decide +kernel
theorem dX3_addsCaption_19 : decode cX3_addsCaption 19 = .ok (.iload 5, 2) := by decide +kernel
theorem dX3_addsCaption_21 : decode cX3_addsCaption 21 = .ok (.iconst 0, 1) := by decide +kernel
theorem dX3_addsCaption_22 : decode cX3_addsCaption 22 = .ok (.invokestatic 63, 3) := by decide +kernel
theorem dX3_addsCaption_25 : decode cX3_addsCaption 25 = .ok (.iload_n 3, 1) := by decide +kernel
theorem dX3_addsCaption_26 : decode cX3_addsCaption 26 = .ok (.iastore, 1) := by decide +kernel
theorem dX3_addsCaption_27 : decode cX3_addsCaption 27 = .ok (.aload_n 0, 1) := by decide +kernel
theorem dX3_addsCaption_28 : decode cX3_addsCaption 28 = .ok (.getfield 7, 3) := by decide +kernel
theorem dX3_addsCaption_31 : decode cX3_addsCaption 31 = .ok (.iload_n 1, 1) := by decide +kernel
theorem dX3_addsCaption_32 : decode cX3_addsCaption 32 = .ok (.iload_n 2, 1) := by decide +kernel
theorem dX3_addsCaption_33 : decode cX3_addsCaption 33 = .ok (.iload 5, 2) := by decide +kernel
theorem dX3_addsCaption_35 : decode cX3_addsCaption 35 = .ok (.iconst 1, 1) := by decide +kernel
theorem dX3_addsCaption_36 : decode cX3_addsCaption 36 = .ok (.invokestatic 63, 3) := by decide +kernel
theorem dX3_addsCaption_39 : decode cX3_addsCaption 39 = .ok (.iload 4, 2) := by decide +kernel
theorem dX3_addsCaption_41 : decode cX3_addsCaption 41 = .ok (.iastore, 1) := by decide +kernel
theorem dX3_addsCaption_42 : decode cX3_addsCaption 42 = .ok (.aload_n 0, 1) := by decide +kernel
theorem dX3_addsCaption_43 : decode cX3_addsCaption 43 = .ok (.getfield 7, 3) := by decide +kernel
theorem dX3_addsCaption_46 : decode cX3_addsCaption 46 = .ok (.iload_n 1, 1) := by decide +kernel
theorem dX3_addsCaption_47 : decode cX3_addsCaption 47 = .ok (.iload_n 2, 1) := by decide +kernel
theorem dX3_addsCaption_48 : decode cX3_addsCaption 48 = .ok (.iload 5, 2) := by decide +kernel
theorem dX3_addsCaption_50 : decode cX3_addsCaption 50 = .ok (.iconst 2, 1) := by decide +kernel
theorem dX3_addsCaption_51 : decode cX3_addsCaption 51 = .ok (.invokestatic 63, 3) := by decide +kernel
theorem dX3_addsCaption_54 : decode cX3_addsCaption 54 = .ok (.iconst 0, 1) := by decide +kernel
theorem dX3_addsCaption_55 : decode cX3_addsCaption 55 = .ok (.iastore, 1) := by decide +kernel
theorem dX3_addsCaption_56 : decode cX3_addsCaption 56 = .ok (.aload_n 0, 1) := by decide +kernel
theorem dX3_addsCaption_57 : decode cX3_addsCaption 57 = .ok (.getfield 7, 3) := by decide +kernel
theorem dX3_addsCaption_60 : decode cX3_addsCaption 60 = .ok (.iload_n 1, 1) := by decide +kernel
theorem dX3_addsCaption_61 : decode cX3_addsCaption 61 = .ok (.iload_n 2, 1) := by decide +kernel
theorem dX3_addsCaption_62 : decode cX3_addsCaption 62 = .ok (.iconst 5, 1) := by decide +kernel
theorem dX3_addsCaption_63 : decode cX3_addsCaption 63 = .ok (.invokestatic 39, 3) := by decide +kernel
theorem dX3_addsCaption_66 : decode cX3_addsCaption 66 = .ok (.dup2, 1) := by decide +kernel
theorem dX3_addsCaption_67 : decode cX3_addsCaption 67 = .ok (.iaload, 1) := by decide +kernel
theorem dX3_addsCaption_68 : decode cX3_addsCaption 68 = .ok (.iconst 1, 1) := by decide +kernel
theorem dX3_addsCaption_69 : decode cX3_addsCaption 69 = .ok (.iadd, 1) := by decide +kernel
theorem dX3_addsCaption_70 : decode cX3_addsCaption 70 = .ok (.iastore, 1) := by decide +kernel
theorem dX3_addsCaption_71 : decode cX3_addsCaption 71 = .ok (.iload 5, 2) := by decide +kernel
theorem dX3_addsCaption_73 : decode cX3_addsCaption 73 = .ok (.ireturn, 1) := by decide +kernel
set_option maxRecDepth 20000 in
theorem ggX3_addText_X3_textFault : GoodIn wsX3_addText wsX3_textFault := goodIn_r _ [5, 6, 7, 8, 9, 4, 10, 11, 12, 13, 14, 15, 16, 30, 31, 32, 33, 34, 35, 36, 37, 38, 39, 40, 41, 42, 43] (by decide +kernel) (by decide +kernel)
set_option maxRecDepth 20000 in
theorem gX3_addText_X3_textFault : GoodIn wsX3_addText (wsV RX3 67 RX3 yX3_textFault wsX3_textFault) := goodIn_app (goodIn_of _ (by decide +kernel)) ggX3_addText_X3_textFault
set_option maxRecDepth 20000 in
theorem ggX3_addText_X3_know : GoodIn wsX3_addText wsX3_know := goodIn_r _ [20, 21, 22, 7, 30, 31, 32, 33, 34, 35, 36, 37, 38, 39, 40, 41, 42, 43] (by decide +kernel) (by decide +kernel)
set_option maxRecDepth 20000 in
theorem gX3_addText_X3_know : GoodIn wsX3_addText (wsV RX3 71 RX3 yX3_know wsX3_know) := goodIn_app (goodIn_of _ (by decide +kernel)) ggX3_addText_X3_know
set_option maxRecDepth 20000 in
theorem ggX3_addText_X3_addsText : GoodIn wsX3_addText wsX3_addsText := goodIn_r _ [26, 7, 14, 15, 4, 16, 27, 28, 29, 30, 31, 32, 33, 34, 35, 36, 37, 38, 39, 40, 41, 42, 43] (by decide +kernel) (by decide +kernel)
set_option maxRecDepth 20000 in
theorem gX3_addText_X3_addsText : GoodIn wsX3_addText (wsV RX3 74 RX3 yX3_addsText wsX3_addsText) := goodIn_app (goodIn_of _ (by decide +kernel)) ggX3_addText_X3_addsText
theorem dX3_addText_0 : decode cX3_addText 0 = .ok (.aload_n 0, 1) := by decide +kernel
theorem dX3_addText_1 : decode cX3_addText 1 = .ok (.iload_n 1, 1) := by decide +kernel
theorem dX3_addText_2 : decode cX3_addText 2 = .ok (.iload_n 2, 1) := by decide +kernel
theorem dX3_addText_3 : decode cX3_addText 3 = .ok (.iload_n 3, 1) := by decide +kernel
theorem dX3_addText_4 : decode cX3_addText 4 = .ok (.iload 4, 2) := by decide +kernel
theorem dX3_addText_6 : decode cX3_addText 6 = .ok (.iload 5, 2) := by decide +kernel
theorem dX3_addText_8 : decode cX3_addText 8 = .ok (.invokevirtual 67, 3) := by decide +kernel
theorem dX3_addText_11 : decode cX3_addText 11 = .ok (.istore 6, 2) := by decide +kernel
theorem dX3_addText_13 : decode cX3_addText 13 = .ok (.iload 6, 2) := by decide +kernel
theorem dX3_addText_15 : decode cX3_addText 15 = .ok (.ifCond .ge 6, 3) := by decide +kernel
theorem dX3_addText_18 : decode cX3_addText 18 = .ok (.iload 6, 2) := by decide +kernel
theorem dX3_addText_20 : decode cX3_addText 20 = .ok (.ireturn, 1) := by decide +kernel
theorem dX3_addText_21 : decode cX3_addText 21 = .ok (.aload_n 0, 1) := by decide +kernel
theorem dX3_addText_22 : decode cX3_addText 22 = .ok (.invokevirtual 71, 3) := by decide +kernel
theorem dX3_addText_25 : decode cX3_addText 25 = .ok (.aload_n 0, 1) := by decide +kernel
theorem dX3_addText_26 : decode cX3_addText 26 = .ok (.iload_n 1, 1) := by decide +kernel
theorem dX3_addText_27 : decode cX3_addText 27 = .ok (.iload_n 2, 1) := by decide +kernel
theorem dX3_addText_28 : decode cX3_addText 28 = .ok (.iload_n 3, 1) := by decide +kernel
theorem dX3_addText_29 : decode cX3_addText 29 = .ok (.iload 4, 2) := by decide +kernel
theorem dX3_addText_31 : decode cX3_addText 31 = .ok (.iload 5, 2) := by decide +kernel
theorem dX3_addText_33 : decode cX3_addText 33 = .ok (.invokevirtual 74, 3) := by decide +kernel
theorem dX3_addText_36 : decode cX3_addText 36 = .ok (.ireturn, 1) := by decide +kernel
set_option maxRecDepth 20000 in
theorem ggX3_removeText_X3_isText : GoodIn wsX3_removeText wsX3_isText := goodIn_r _ [6, 1, 7, 8, 5, 9, 10, 11, 12, 13, 14, 15, 25, 26, 27, 28, 29, 30, 31, 32, 33, 34, 35, 36, 37, 38] (by decide +kernel) (by decide +kernel)
set_option maxRecDepth 20000 in
theorem gX3_removeText_X3_isText : GoodIn wsX3_removeText (wsV RX3 51 RX3 yX3_isText wsX3_isText) := goodIn_app (goodIn_of _ (by decide +kernel)) ggX3_removeText_X3_isText
set_option maxRecDepth 20000 in
theorem ggX3_removeText_X3_know : GoodIn wsX3_removeText wsX3_know := goodIn_r _ [19, 20, 21, 1, 25, 26, 27, 28, 29, 30, 31, 32, 33, 34, 35, 36, 37, 38] (by decide +kernel) (by decide +kernel)
set_option maxRecDepth 20000 in
theorem gX3_removeText_X3_know : GoodIn wsX3_removeText (wsV RX3 71 RX3 yX3_know wsX3_know) := goodIn_app (goodIn_of _ (by decide +kernel)) ggX3_removeText_X3_know
set_option maxRecDepth 20000 in
theorem ggX3_removeText_X3_of : GoodIn wsX3_removeText wsX3_of := goodIn_r _ [24, 13, 14, 5, 15] (by decide +kernel) (by decide +kernel)
set_option maxRecDepth 20000 in
theorem gX3_removeText_X3_of : GoodIn wsX3_removeText (va_wsS RX3 39 yX3_of wsX3_of) := goodIn_app (goodIn_of _ (by decide +kernel)) ggX3_removeText_X3_of
set_option maxRecDepth 20000 in
theorem ggX3_removeText_X3_manyAt : GoodIn wsX3_removeText wsX3_manyAt := goodIn_r _ [15] (by decide +kernel) (by decide +kernel)
set_option maxRecDepth 20000 in
theorem gX3_removeText_X3_manyAt : GoodIn wsX3_removeText (va_wsS RX3 35 yX3_manyAt wsX3_manyAt) := goodIn_app (goodIn_of _ (by decide +kernel)) ggX3_removeText_X3_manyAt
theorem dX3_removeText_0 : decode cX3_removeText 0 = .ok (.aload_n 0, 1) := by decide +kernel
theorem dX3_removeText_1 : decode cX3_removeText 1 = .ok (.iload_n 1, 1) := by decide +kernel
theorem dX3_removeText_2 : decode cX3_removeText 2 = .ok (.iload_n 2, 1) := by decide +kernel
theorem dX3_removeText_3 : decode cX3_removeText 3 = .ok (.invokevirtual 51, 3) := by decide +kernel
theorem dX3_removeText_6 : decode cX3_removeText 6 = .ok (.ifCond .ne 5, 3) := by decide +kernel
theorem dX3_removeText_9 : decode cX3_removeText 9 = .ok (.iconst (-1), 1) := by decide +kernel
theorem dX3_removeText_10 : decode cX3_removeText 10 = .ok (.ireturn, 1) := by decide +kernel
theorem dX3_removeText_11 : decode cX3_removeText 11 = .ok (.aload_n 0, 1) := by decide +kernel
theorem dX3_removeText_12 : decode cX3_removeText 12 = .ok (.invokevirtual 71, 3) := by decide +kernel
theorem dX3_removeText_15 : decode cX3_removeText 15 = .ok (.iload_n 1, 1) := by decide +kernel
theorem dX3_removeText_16 : decode cX3_removeText 16 = .ok (.iload_n 2, 1) := by decide +kernel
theorem dX3_removeText_17 : decode cX3_removeText 17 = .ok (.iconst 0, 1) := by decide +kernel
theorem dX3_removeText_18 : decode cX3_removeText 18 = .ok (.invokestatic 39, 3) := by decide +kernel
theorem dX3_removeText_21 : decode cX3_removeText 21 = .ok (.istore_n 3, 1) := by decide +kernel
theorem dX3_removeText_22 : decode cX3_removeText 22 = .ok (.iload_n 3, 1) := by decide +kernel
theorem dX3_removeText_23 : decode cX3_removeText 23 = .ok (.iload_n 1, 1) := by decide +kernel
theorem dX3_removeText_24 : decode cX3_removeText 24 = .ok (.aload_n 0, 1) := by decide +kernel
theorem dX3_removeText_25 : decode cX3_removeText 25 = .ok (.getfield 7, 3) := by decide +kernel
theorem dX3_removeText_28 : decode cX3_removeText 28 = .ok (.iload_n 1, 1) := by decide +kernel
theorem dX3_removeText_29 : decode cX3_removeText 29 = .ok (.invokestatic 35, 3) := by decide +kernel
theorem dX3_removeText_32 : decode cX3_removeText 32 = .ok (.iaload, 1) := by decide +kernel
theorem dX3_removeText_33 : decode cX3_removeText 33 = .ok (.iconst 1, 1) := by decide +kernel
theorem dX3_removeText_34 : decode cX3_removeText 34 = .ok (.isub, 1) := by decide +kernel
theorem dX3_removeText_35 : decode cX3_removeText 35 = .ok (.iconst 0, 1) := by decide +kernel
theorem dX3_removeText_36 : decode cX3_removeText 36 = .ok (.invokestatic 39, 3) := by decide +kernel
theorem dX3_removeText_39 : decode cX3_removeText 39 = .ok (.if_icmp .ge 24, 3) := by decide +kernel
theorem dX3_removeText_42 : decode cX3_removeText 42 = .ok (.aload_n 0, 1) := by decide +kernel
theorem dX3_removeText_43 : decode cX3_removeText 43 = .ok (.getfield 7, 3) := by decide +kernel
theorem dX3_removeText_46 : decode cX3_removeText 46 = .ok (.iload_n 3, 1) := by decide +kernel
theorem dX3_removeText_47 : decode cX3_removeText 47 = .ok (.aload_n 0, 1) := by decide +kernel
theorem dX3_removeText_48 : decode cX3_removeText 48 = .ok (.getfield 7, 3) := by decide +kernel
theorem dX3_removeText_51 : decode cX3_removeText 51 = .ok (.iload_n 3, 1) := by decide +kernel
theorem dX3_removeText_52 : decode cX3_removeText 52 = .ok (.bipush 15, 2) := by decide +kernel
theorem dX3_removeText_54 : decode cX3_removeText 54 = .ok (.iadd, 1) := by decide +kernel
theorem dX3_removeText_55 : decode cX3_removeText 55 = .ok (.iaload, 1) := by decide +kernel
theorem dX3_removeText_56 : decode cX3_removeText 56 = .ok (.iastore, 1) := by decide +kernel
theorem dX3_removeText_57 : decode cX3_removeText 57 = .ok (.iinc 3 1, 3) := by decide +kernel
theorem dX3_removeText_60 : decode cX3_removeText 60 = .ok (.goto (-38), 3) := by decide +kernel
theorem dX3_removeText_63 : decode cX3_removeText 63 = .ok (.aload_n 0, 1) := by decide +kernel
theorem dX3_removeText_64 : decode cX3_removeText 64 = .ok (.getfield 7, 3) := by decide +kernel
theorem dX3_removeText_67 : decode cX3_removeText 67 = .ok (.iload_n 1, 1) := by decide +kernel
theorem dX3_removeText_68 : decode cX3_removeText 68 = .ok (.invokestatic 35, 3) := by decide +kernel
theorem dX3_removeText_71 : decode cX3_removeText 71 = .ok (.dup2, 1) := by decide +kernel
theorem dX3_removeText_72 : decode cX3_removeText 72 = .ok (.iaload, 1) := by decide +kernel
theorem dX3_removeText_73 : decode cX3_removeText 73 = .ok (.iconst 1, 1) := by decide +kernel
theorem dX3_removeText_74 : decode cX3_removeText 74 = .ok (.isub, 1) := by decide +kernel
theorem dX3_removeText_75 : decode cX3_removeText 75 = .ok (.iastore, 1) := by decide +kernel
theorem dX3_removeText_76 : decode cX3_removeText 76 = .ok (.aload_n 0, 1) := by decide +kernel
theorem dX3_removeText_77 : decode cX3_removeText 77 = .ok (.getfield 7, 3) := by decide +kernel
theorem dX3_removeText_80 : decode cX3_removeText 80 = .ok (.iload_n 1, 1) := by decide +kernel
theorem dX3_removeText_81 : decode cX3_removeText 81 = .ok (.invokestatic 35, 3) := by decide +kernel
theorem dX3_removeText_84 : decode cX3_removeText 84 = .ok (.iaload, 1) := by decide +kernel
theorem dX3_removeText_85 : decode cX3_removeText 85 = .ok (.ireturn, 1) := by decide +kernel
set_option maxRecDepth 20000 in
theorem ggX3_setFacts_X3_isText : GoodIn wsX3_setFacts wsX3_isText := goodIn_r _ [7, 2, 8, 9, 6, 10, 11, 12, 13, 14, 15, 16, 29, 30, 31, 32, 33, 34, 35, 36, 37, 38, 39, 40, 41, 42] (by decide +kernel) (by decide +kernel)
set_option maxRecDepth 20000 in
theorem gX3_setFacts_X3_isText : GoodIn wsX3_setFacts (wsV RX3 51 RX3 yX3_isText wsX3_isText) := goodIn_app (goodIn_of _ (by decide +kernel)) ggX3_setFacts_X3_isText
set_option maxRecDepth 20000 in
theorem ggX3_setFacts_X3_in : GoodIn wsX3_setFacts wsX3_in := goodIn_r _ [13] (by decide +kernel) (by decide +kernel)
set_option maxRecDepth 20000 in
theorem gX3_setFacts_X3_in : GoodIn wsX3_setFacts (va_wsS RX3 43 yX3_in wsX3_in) := goodIn_app (goodIn_of _ (by decide +kernel)) ggX3_setFacts_X3_in
set_option maxRecDepth 20000 in
theorem ggX3_setFacts_X3_of : GoodIn wsX3_setFacts wsX3_of := goodIn_r _ [19, 14, 15, 6, 16] (by decide +kernel) (by decide +kernel)
set_option maxRecDepth 20000 in
theorem gX3_setFacts_X3_of : GoodIn wsX3_setFacts (va_wsS RX3 39 yX3_of wsX3_of) := goodIn_app (goodIn_of _ (by decide +kernel)) ggX3_setFacts_X3_of
set_option maxRecDepth 20000 in
theorem ggX3_setFacts_X3_ofCaption : GoodIn wsX3_setFacts wsX3_ofCaption := goodIn_r _ [22, 17, 18, 6, 19, 14, 15, 16] (by decide +kernel) (by decide +kernel)
set_option maxRecDepth 20000 in
theorem gX3_setFacts_X3_ofCaption : GoodIn wsX3_setFacts (va_wsS RX3 63 yX3_ofCaption wsX3_ofCaption) := goodIn_app (goodIn_of _ (by decide +kernel)) ggX3_setFacts_X3_ofCaption
set_option maxRecDepth 20000 in
theorem ggX3_setFacts_X3_know : GoodIn wsX3_setFacts wsX3_know := goodIn_r _ [26, 27, 28, 2, 29, 30, 31, 32, 33, 34, 35, 36, 37, 38, 39, 40, 41, 42] (by decide +kernel) (by decide +kernel)
set_option maxRecDepth 20000 in
theorem gX3_setFacts_X3_know : GoodIn wsX3_setFacts (wsV RX3 71 RX3 yX3_know wsX3_know) := goodIn_app (goodIn_of _ (by decide +kernel)) ggX3_setFacts_X3_know
theorem dX3_setFacts_0 : decode cX3_setFacts 0 = .ok (.aload_n 0, 1) := by decide +kernel
theorem dX3_setFacts_1 : decode cX3_setFacts 1 = .ok (.iload_n 1, 1) := by decide +kernel
theorem dX3_setFacts_2 : decode cX3_setFacts 2 = .ok (.iload_n 2, 1) := by decide +kernel
theorem dX3_setFacts_3 : decode cX3_setFacts 3 = .ok (.invokevirtual 51, 3) := by decide +kernel
theorem dX3_setFacts_6 : decode cX3_setFacts 6 = .ok (.ifCond .ne 5, 3) := by decide +kernel
theorem dX3_setFacts_9 : decode cX3_setFacts 9 = .ok (.iconst (-1), 1) := by decide +kernel
theorem dX3_setFacts_10 : decode cX3_setFacts 10 = .ok (.ireturn, 1) := by decide +kernel
theorem dX3_setFacts_11 : decode cX3_setFacts 11 = .ok (.iload_n 3, 1) := by decide +kernel
theorem dX3_setFacts_12 : decode cX3_setFacts 12 = .ok (.iconst 1, 1) := by decide +kernel
theorem dX3_setFacts_13 : decode cX3_setFacts 13 = .ok (.ldc 62, 2) := by decide +kernel
theorem dX3_setFacts_15 : decode cX3_setFacts 15 = .ok (.invokestatic 43, 3) := by decide +kernel
theorem dX3_setFacts_18 : decode cX3_setFacts 18 = .ok (.ifCond .ne 6, 3) := by decide +kernel
theorem dX3_setFacts_21 : decode cX3_setFacts 21 = .ok (.bipush (-2), 2) := by decide +kernel
theorem dX3_setFacts_23 : decode cX3_setFacts 23 = .ok (.ireturn, 1) := by decide +kernel
theorem dX3_setFacts_24 : decode cX3_setFacts 24 = .ok (.iconst 0, 1) := by decide +kernel
theorem dX3_setFacts_25 : decode cX3_setFacts 25 = .ok (.istore 4, 2) := by decide +kernel
theorem dX3_setFacts_27 : decode cX3_setFacts 27 = .ok (.iload 4, 2) := by decide +kernel
theorem dX3_setFacts_29 : decode cX3_setFacts 29 = .ok (.aload_n 0, 1) := by decide +kernel
theorem dX3_setFacts_30 : decode cX3_setFacts 30 = .ok (.getfield 7, 3) := by decide +kernel
theorem dX3_setFacts_33 : decode cX3_setFacts 33 = .ok (.iload_n 1, 1) := by decide +kernel
theorem dX3_setFacts_34 : decode cX3_setFacts 34 = .ok (.iload_n 2, 1) := by decide +kernel
theorem dX3_setFacts_35 : decode cX3_setFacts 35 = .ok (.iconst 5, 1) := by decide +kernel
theorem dX3_setFacts_36 : decode cX3_setFacts 36 = .ok (.invokestatic 39, 3) := by decide +kernel
theorem dX3_setFacts_39 : decode cX3_setFacts 39 = .ok (.iaload, 1) := by decide +kernel
theorem dX3_setFacts_40 : decode cX3_setFacts 40 = .ok (.if_icmp .ge 32, 3) := by decide +kernel
theorem dX3_setFacts_43 : decode cX3_setFacts 43 = .ok (.aload_n 0, 1) := by decide +kernel
theorem dX3_setFacts_44 : decode cX3_setFacts 44 = .ok (.getfield 7, 3) := by decide +kernel
theorem dX3_setFacts_47 : decode cX3_setFacts 47 = .ok (.iload_n 1, 1) := by decide +kernel
theorem dX3_setFacts_48 : decode cX3_setFacts 48 = .ok (.iload_n 2, 1) := by decide +kernel
theorem dX3_setFacts_49 : decode cX3_setFacts 49 = .ok (.iload 4, 2) := by decide +kernel
theorem dX3_setFacts_51 : decode cX3_setFacts 51 = .ok (.iconst 1, 1) := by decide +kernel
theorem dX3_setFacts_52 : decode cX3_setFacts 52 = .ok (.invokestatic 63, 3) := by decide +kernel
theorem dX3_setFacts_55 : decode cX3_setFacts 55 = .ok (.iaload, 1) := by decide +kernel
theorem dX3_setFacts_56 : decode cX3_setFacts 56 = .ok (.iload_n 3, 1) := by decide +kernel
theorem dX3_setFacts_57 : decode cX3_setFacts 57 = .ok (.iconst (-1), 1) := by decide +kernel
theorem dX3_setFacts_58 : decode cX3_setFacts 58 = .ok (.ixor, 1) := by decide +kernel
theorem dX3_setFacts_59 : decode cX3_setFacts 59 = .ok (.iand, 1) := by decide +kernel
theorem dX3_setFacts_60 : decode cX3_setFacts 60 = .ok (.ifCond .eq 6, 3) := by decide +kernel
theorem dX3_setFacts_63 : decode cX3_setFacts 63 = .ok (.bipush (-4), 2) := by decide +kernel
theorem dX3_setFacts_65 : decode cX3_setFacts 65 = .ok (.ireturn, 1) := by decide +kernel
theorem dX3_setFacts_66 : decode cX3_setFacts 66 = .ok (.iinc 4 1, 3) := by decide +kernel
theorem dX3_setFacts_69 : decode cX3_setFacts 69 = .ok (.goto (-42), 3) := by decide +kernel
theorem dX3_setFacts_72 : decode cX3_setFacts 72 = .ok (.aload_n 0, 1) := by decide +kernel
theorem dX3_setFacts_73 : decode cX3_setFacts 73 = .ok (.getfield 7, 3) := by decide +kernel
theorem dX3_setFacts_76 : decode cX3_setFacts 76 = .ok (.iload_n 1, 1) := by decide +kernel
theorem dX3_setFacts_77 : decode cX3_setFacts 77 = .ok (.iload_n 2, 1) := by decide +kernel
theorem dX3_setFacts_78 : decode cX3_setFacts 78 = .ok (.iconst 3, 1) := by decide +kernel
theorem dX3_setFacts_79 : decode cX3_setFacts 79 = .ok (.invokestatic 39, 3) := by decide +kernel
theorem dX3_setFacts_82 : decode cX3_setFacts 82 = .ok (.iaload, 1) := by decide +kernel
theorem dX3_setFacts_83 : decode cX3_setFacts 83 = .ok (.istore 4, 2) := by decide +kernel
theorem dX3_setFacts_85 : decode cX3_setFacts 85 = .ok (.iload 4, 2) := by decide +kernel
theorem dX3_setFacts_87 : decode cX3_setFacts 87 = .ok (.iload_n 3, 1) := by decide +kernel
theorem dX3_setFacts_88 : decode cX3_setFacts 88 = .ok (.if_icmp .ne 6, 3) := by decide +kernel
theorem dX3_setFacts_91 : decode cX3_setFacts 91 = .ok (.bipush (-5), 2) := by decide +kernel
theorem dX3_setFacts_93 : decode cX3_setFacts 93 = .ok (.ireturn, 1) := by decide +kernel
theorem dX3_setFacts_94 : decode cX3_setFacts 94 = .ok (.aload_n 0, 1) := by decide +kernel
theorem dX3_setFacts_95 : decode cX3_setFacts 95 = .ok (.invokevirtual 71, 3) := by decide +kernel
theorem dX3_setFacts_98 : decode cX3_setFacts 98 = .ok (.aload_n 0, 1) := by decide +kernel
theorem dX3_setFacts_99 : decode cX3_setFacts 99 = .ok (.getfield 7, 3) := by decide +kernel
theorem dX3_setFacts_102 : decode cX3_setFacts 102 = .ok (.iload_n 1, 1) := by decide +kernel
theorem dX3_setFacts_103 : decode cX3_setFacts 103 = .ok (.iload_n 2, 1) := by decide +kernel
theorem dX3_setFacts_104 : decode cX3_setFacts 104 = .ok (.iconst 3, 1) := by decide +kernel
theorem dX3_setFacts_105 : decode cX3_setFacts 105 = .ok (.invokestatic 39, 3) := by decide +kernel
theorem dX3_setFacts_108 : decode cX3_setFacts 108 = .ok (.iload_n 3, 1) := by decide +kernel
theorem dX3_setFacts_109 : decode cX3_setFacts 109 = .ok (.iastore, 1) := by decide +kernel
theorem dX3_setFacts_110 : decode cX3_setFacts 110 = .ok (.iload 4, 2) := by decide +kernel
theorem dX3_setFacts_112 : decode cX3_setFacts 112 = .ok (.ireturn, 1) := by decide +kernel
set_option maxRecDepth 20000 in
theorem ggX3_addCaption_X3_captionFault : GoodIn wsX3_addCaption wsX3_captionFault := goodIn_r _ [5, 6, 7, 8, 9, 10, 4, 11, 12, 13, 14, 15, 16, 17, 18, 19, 20, 21, 22, 23, 37, 38, 39, 40, 41, 42, 43, 44, 45, 46, 47, 48, 49, 50] (by decide +kernel) (by decide +kernel)
set_option maxRecDepth 20000 in
theorem gX3_addCaption_X3_captionFault : GoodIn wsX3_addCaption (wsV RX3 77 RX3 yX3_captionFault wsX3_captionFault) := goodIn_app (goodIn_of _ (by decide +kernel)) ggX3_addCaption_X3_captionFault
set_option maxRecDepth 20000 in
theorem ggX3_addCaption_X3_know : GoodIn wsX3_addCaption wsX3_know := goodIn_r _ [27, 28, 29, 7, 37, 38, 39, 40, 41, 42, 43, 44, 45, 46, 47, 48, 49, 50] (by decide +kernel) (by decide +kernel)
set_option maxRecDepth 20000 in
theorem gX3_addCaption_X3_know : GoodIn wsX3_addCaption (wsV RX3 71 RX3 yX3_know wsX3_know) := goodIn_app (goodIn_of _ (by decide +kernel)) ggX3_addCaption_X3_know
set_option maxRecDepth 20000 in
theorem ggX3_addCaption_X3_addsCaption : GoodIn wsX3_addCaption wsX3_addsCaption := goodIn_r _ [33, 7, 21, 22, 4, 23, 18, 19, 20, 34, 35, 36, 37, 38, 39, 40, 41, 42, 43, 44, 45, 46, 47, 48, 49, 50] (by decide +kernel) (by decide +kernel)
set_option maxRecDepth 20000 in
theorem gX3_addCaption_X3_addsCaption : GoodIn wsX3_addCaption (wsV RX3 80 RX3 yX3_addsCaption wsX3_addsCaption) := goodIn_app (goodIn_of _ (by decide +kernel)) ggX3_addCaption_X3_addsCaption
theorem dX3_addCaption_0 : decode cX3_addCaption 0 = .ok (.aload_n 0, 1) := by decide +kernel
theorem dX3_addCaption_1 : decode cX3_addCaption 1 = .ok (.iload_n 1, 1) := by decide +kernel
theorem dX3_addCaption_2 : decode cX3_addCaption 2 = .ok (.iload_n 2, 1) := by decide +kernel
theorem dX3_addCaption_3 : decode cX3_addCaption 3 = .ok (.iload_n 3, 1) := by decide +kernel
theorem dX3_addCaption_4 : decode cX3_addCaption 4 = .ok (.iload 4, 2) := by decide +kernel
theorem dX3_addCaption_6 : decode cX3_addCaption 6 = .ok (.invokevirtual 77, 3) := by decide +kernel
theorem dX3_addCaption_9 : decode cX3_addCaption 9 = .ok (.istore 5, 2) := by decide +kernel
theorem dX3_addCaption_11 : decode cX3_addCaption 11 = .ok (.iload 5, 2) := by decide +kernel
theorem dX3_addCaption_13 : decode cX3_addCaption 13 = .ok (.ifCond .ge 6, 3) := by decide +kernel
theorem dX3_addCaption_16 : decode cX3_addCaption 16 = .ok (.iload 5, 2) := by decide +kernel
theorem dX3_addCaption_18 : decode cX3_addCaption 18 = .ok (.ireturn, 1) := by decide +kernel
theorem dX3_addCaption_19 : decode cX3_addCaption 19 = .ok (.aload_n 0, 1) := by decide +kernel
theorem dX3_addCaption_20 : decode cX3_addCaption 20 = .ok (.invokevirtual 71, 3) := by decide +kernel
theorem dX3_addCaption_23 : decode cX3_addCaption 23 = .ok (.aload_n 0, 1) := by decide +kernel
theorem dX3_addCaption_24 : decode cX3_addCaption 24 = .ok (.iload_n 1, 1) := by decide +kernel
theorem dX3_addCaption_25 : decode cX3_addCaption 25 = .ok (.iload_n 2, 1) := by decide +kernel
theorem dX3_addCaption_26 : decode cX3_addCaption 26 = .ok (.iload_n 3, 1) := by decide +kernel
theorem dX3_addCaption_27 : decode cX3_addCaption 27 = .ok (.iload 4, 2) := by decide +kernel
theorem dX3_addCaption_29 : decode cX3_addCaption 29 = .ok (.invokevirtual 80, 3) := by decide +kernel
theorem dX3_addCaption_32 : decode cX3_addCaption 32 = .ok (.ireturn, 1) := by decide +kernel
set_option maxRecDepth 20000 in
theorem ggX3_sign_X3_in : GoodIn wsX3_sign wsX3_in := goodIn_r _ [8] (by decide +kernel) (by decide +kernel)
set_option maxRecDepth 20000 in
theorem gX3_sign_X3_in : GoodIn wsX3_sign (va_wsS RX3 43 yX3_in wsX3_in) := goodIn_app (goodIn_of _ (by decide +kernel)) ggX3_sign_X3_in
theorem dX3_sign_0 : decode cX3_sign 0 = .ok (.aload_n 0, 1) := by decide +kernel
theorem dX3_sign_1 : decode cX3_sign 1 = .ok (.getfield 83, 3) := by decide +kernel
theorem dX3_sign_4 : decode cX3_sign 4 = .ok (.aload_n 0, 1) := by decide +kernel
theorem dX3_sign_5 : decode cX3_sign 5 = .ok (.getfield 86, 3) := by decide +kernel
theorem dX3_sign_8 : decode cX3_sign 8 = .ok (.if_icmp .ge 15, 3) := by decide +kernel
theorem dX3_sign_11 : decode cX3_sign 11 = .ok (.aload_n 0, 1) := by decide +kernel
theorem dX3_sign_12 : decode cX3_sign 12 = .ok (.getfield 22, 3) := by decide +kernel
theorem dX3_sign_15 : decode cX3_sign 15 = .ok (.aload_n 0, 1) := by decide +kernel
theorem dX3_sign_16 : decode cX3_sign 16 = .ok (.getfield 83, 3) := by decide +kernel
theorem dX3_sign_19 : decode cX3_sign 19 = .ok (.iaload, 1) := by decide +kernel
theorem dX3_sign_20 : decode cX3_sign 20 = .ok (.goto 4, 3) := by decide +kernel
theorem dX3_sign_23 : decode cX3_sign 23 = .ok (.iconst 0, 1) := by decide +kernel
theorem dX3_sign_24 : decode cX3_sign 24 = .ok (.istore_n 3, 1) := by decide +kernel
theorem dX3_sign_25 : decode cX3_sign 25 = .ok (.aload_n 0, 1) := by decide +kernel
theorem dX3_sign_26 : decode cX3_sign 26 = .ok (.aload_n 0, 1) := by decide +kernel
theorem dX3_sign_27 : decode cX3_sign 27 = .ok (.getfield 89, 3) := by decide +kernel
theorem dX3_sign_30 : decode cX3_sign 30 = .ok (.ifCond .ne 12, 3) := by decide +kernel
theorem dX3_sign_33 : decode cX3_sign 33 = .ok (.iload_n 3, 1) := by decide +kernel
theorem dX3_sign_34 : decode cX3_sign 34 = .ok (.iload_n 1, 1) := by decide +kernel
theorem dX3_sign_35 : decode cX3_sign 35 = .ok (.iload_n 2, 1) := by decide +kernel
theorem dX3_sign_36 : decode cX3_sign 36 = .ok (.invokestatic 43, 3) := by decide +kernel
theorem dX3_sign_39 : decode cX3_sign 39 = .ok (.ifCond .ne 7, 3) := by decide +kernel
theorem dX3_sign_42 : decode cX3_sign 42 = .ok (.iconst 1, 1) := by decide +kernel
theorem dX3_sign_43 : decode cX3_sign 43 = .ok (.goto 4, 3) := by decide +kernel
theorem dX3_sign_46 : decode cX3_sign 46 = .ok (.iconst 0, 1) := by decide +kernel
theorem dX3_sign_47 : decode cX3_sign 47 = .ok (.putfield 89, 3) := by decide +kernel
theorem dX3_sign_50 : decode cX3_sign 50 = .ok (.aload_n 0, 1) := by decide +kernel
theorem dX3_sign_51 : decode cX3_sign 51 = .ok (.dup, 1) := by decide +kernel
theorem dX3_sign_52 : decode cX3_sign 52 = .ok (.getfield 83, 3) := by decide +kernel
theorem dX3_sign_55 : decode cX3_sign 55 = .ok (.aload_n 0, 1) := by decide +kernel
theorem dX3_sign_56 : decode cX3_sign 56 = .ok (.getfield 89, 3) := by decide +kernel
theorem dX3_sign_59 : decode cX3_sign 59 = .ok (.ifCond .eq 7, 3) := by decide +kernel
theorem dX3_sign_62 : decode cX3_sign 62 = .ok (.iconst 0, 1) := by decide +kernel
theorem dX3_sign_63 : decode cX3_sign 63 = .ok (.goto 4, 3) := by decide +kernel
theorem dX3_sign_66 : decode cX3_sign 66 = .ok (.iconst 1, 1) := by decide +kernel
theorem dX3_sign_67 : decode cX3_sign 67 = .ok (.iadd, 1) := by decide +kernel
theorem dX3_sign_68 : decode cX3_sign 68 = .ok (.putfield 83, 3) := by decide +kernel
theorem dX3_sign_71 : decode cX3_sign 71 = .ok (.iload_n 3, 1) := by decide +kernel
theorem dX3_sign_72 : decode cX3_sign 72 = .ok (.ireturn, 1) := by decide +kernel
set_option maxRecDepth 20000 in
theorem ggX3_isNext_X3_in : GoodIn wsX3_isNext wsX3_in := goodIn_r _ [8] (by decide +kernel) (by decide +kernel)
set_option maxRecDepth 20000 in
theorem gX3_isNext_X3_in : GoodIn wsX3_isNext (va_wsS RX3 43 yX3_in wsX3_in) := goodIn_app (goodIn_of _ (by decide +kernel)) ggX3_isNext_X3_in
theorem dX3_isNext_0 : decode cX3_isNext 0 = .ok (.aload_n 0, 1) := by decide +kernel
theorem dX3_isNext_1 : decode cX3_isNext 1 = .ok (.getfield 89, 3) := by decide +kernel
theorem dX3_isNext_4 : decode cX3_isNext 4 = .ok (.ifCond .ne 35, 3) := by decide +kernel
theorem dX3_isNext_7 : decode cX3_isNext 7 = .ok (.aload_n 0, 1) := by decide +kernel
theorem dX3_isNext_8 : decode cX3_isNext 8 = .ok (.getfield 83, 3) := by decide +kernel
theorem dX3_isNext_11 : decode cX3_isNext 11 = .ok (.aload_n 0, 1) := by decide +kernel
theorem dX3_isNext_12 : decode cX3_isNext 12 = .ok (.getfield 86, 3) := by decide +kernel
theorem dX3_isNext_15 : decode cX3_isNext 15 = .ok (.if_icmp .ge 24, 3) := by decide +kernel
theorem dX3_isNext_18 : decode cX3_isNext 18 = .ok (.aload_n 0, 1) := by decide +kernel
theorem dX3_isNext_19 : decode cX3_isNext 19 = .ok (.getfield 22, 3) := by decide +kernel
theorem dX3_isNext_22 : decode cX3_isNext 22 = .ok (.aload_n 0, 1) := by decide +kernel
theorem dX3_isNext_23 : decode cX3_isNext 23 = .ok (.getfield 83, 3) := by decide +kernel
theorem dX3_isNext_26 : decode cX3_isNext 26 = .ok (.iaload, 1) := by decide +kernel
theorem dX3_isNext_27 : decode cX3_isNext 27 = .ok (.iload_n 1, 1) := by decide +kernel
theorem dX3_isNext_28 : decode cX3_isNext 28 = .ok (.iload_n 2, 1) := by decide +kernel
theorem dX3_isNext_29 : decode cX3_isNext 29 = .ok (.invokestatic 43, 3) := by decide +kernel
theorem dX3_isNext_32 : decode cX3_isNext 32 = .ok (.ifCond .eq 7, 3) := by decide +kernel
theorem dX3_isNext_35 : decode cX3_isNext 35 = .ok (.iconst 1, 1) := by decide +kernel
theorem dX3_isNext_36 : decode cX3_isNext 36 = .ok (.goto 4, 3) := by decide +kernel
theorem dX3_isNext_39 : decode cX3_isNext 39 = .ok (.iconst 0, 1) := by decide +kernel
theorem dX3_isNext_40 : decode cX3_isNext 40 = .ok (.ireturn, 1) := by decide +kernel
set_option maxRecDepth 20000 in
theorem ggX3_number_X3_sign : GoodIn wsX3_number wsX3_sign := goodIn_r _ [7, 2, 8, 1, 9, 10, 11, 6, 12, 17, 18, 19, 20, 21, 22, 23, 24, 25, 26, 27, 28, 29, 30] (by decide +kernel) (by decide +kernel)
set_option maxRecDepth 20000 in
theorem gX3_number_X3_sign : GoodIn wsX3_number (wsV RX3 93 RX3 yX3_sign wsX3_sign) := goodIn_app (goodIn_of _ (by decide +kernel)) ggX3_number_X3_sign
set_option maxRecDepth 20000 in
theorem ggX3_number_X3_isNext : GoodIn wsX3_number wsX3_isNext := goodIn_r _ [16, 9, 2, 8, 1, 10, 11, 6, 12, 17, 18, 19, 20, 21, 22, 23, 24, 25, 26, 27, 28, 29, 30] (by decide +kernel) (by decide +kernel)
set_option maxRecDepth 20000 in
theorem gX3_number_X3_isNext : GoodIn wsX3_number (wsV RX3 96 RX3 yX3_isNext wsX3_isNext) := goodIn_app (goodIn_of _ (by decide +kernel)) ggX3_number_X3_isNext
theorem dX3_number_0 : decode cX3_number 0 = .ok (.aload_n 0, 1) := by decide +kernel
theorem dX3_number_1 : decode cX3_number 1 = .ok (.bipush 48, 2) := by decide +kernel
theorem dX3_number_3 : decode cX3_number 3 = .ok (.iload_n 1, 1) := by decide +kernel
theorem dX3_number_4 : decode cX3_number 4 = .ok (.iadd, 1) := by decide +kernel
theorem dX3_number_5 : decode cX3_number 5 = .ok (.bipush 57, 2) := by decide +kernel
theorem dX3_number_7 : decode cX3_number 7 = .ok (.invokevirtual 93, 3) := by decide +kernel
theorem dX3_number_10 : decode cX3_number 10 = .ok (.bipush 48, 2) := by decide +kernel
theorem dX3_number_12 : decode cX3_number 12 = .ok (.isub, 1) := by decide +kernel
theorem dX3_number_13 : decode cX3_number 13 = .ok (.istore_n 3, 1) := by decide +kernel
theorem dX3_number_14 : decode cX3_number 14 = .ok (.iload_n 3, 1) := by decide +kernel
theorem dX3_number_15 : decode cX3_number 15 = .ok (.ifCond .le 55, 3) := by decide +kernel
theorem dX3_number_18 : decode cX3_number 18 = .ok (.aload_n 0, 1) := by decide +kernel
theorem dX3_number_19 : decode cX3_number 19 = .ok (.bipush 48, 2) := by decide +kernel
theorem dX3_number_21 : decode cX3_number 21 = .ok (.bipush 57, 2) := by decide +kernel
theorem dX3_number_23 : decode cX3_number 23 = .ok (.invokevirtual 96, 3) := by decide +kernel
theorem dX3_number_26 : decode cX3_number 26 = .ok (.ifCond .eq 44, 3) := by decide +kernel
theorem dX3_number_29 : decode cX3_number 29 = .ok (.bipush 10, 2) := by decide +kernel
theorem dX3_number_31 : decode cX3_number 31 = .ok (.iload_n 3, 1) := by decide +kernel
theorem dX3_number_32 : decode cX3_number 32 = .ok (.imul, 1) := by decide +kernel
theorem dX3_number_33 : decode cX3_number 33 = .ok (.aload_n 0, 1) := by decide +kernel
theorem dX3_number_34 : decode cX3_number 34 = .ok (.getfield 22, 3) := by decide +kernel
theorem dX3_number_37 : decode cX3_number 37 = .ok (.aload_n 0, 1) := by decide +kernel
theorem dX3_number_38 : decode cX3_number 38 = .ok (.getfield 83, 3) := by decide +kernel
theorem dX3_number_41 : decode cX3_number 41 = .ok (.iaload, 1) := by decide +kernel
theorem dX3_number_42 : decode cX3_number 42 = .ok (.iadd, 1) := by decide +kernel
theorem dX3_number_43 : decode cX3_number 43 = .ok (.bipush 48, 2) := by decide +kernel
theorem dX3_number_45 : decode cX3_number 45 = .ok (.isub, 1) := by decide +kernel
theorem dX3_number_46 : decode cX3_number 46 = .ok (.iload_n 2, 1) := by decide +kernel
theorem dX3_number_47 : decode cX3_number 47 = .ok (.if_icmp .gt 23, 3) := by decide +kernel
theorem dX3_number_50 : decode cX3_number 50 = .ok (.bipush 10, 2) := by decide +kernel
theorem dX3_number_52 : decode cX3_number 52 = .ok (.iload_n 3, 1) := by decide +kernel
theorem dX3_number_53 : decode cX3_number 53 = .ok (.imul, 1) := by decide +kernel
theorem dX3_number_54 : decode cX3_number 54 = .ok (.aload_n 0, 1) := by decide +kernel
theorem dX3_number_55 : decode cX3_number 55 = .ok (.bipush 48, 2) := by decide +kernel
theorem dX3_number_57 : decode cX3_number 57 = .ok (.bipush 57, 2) := by decide +kernel
theorem dX3_number_59 : decode cX3_number 59 = .ok (.invokevirtual 93, 3) := by decide +kernel
theorem dX3_number_62 : decode cX3_number 62 = .ok (.iadd, 1) := by decide +kernel
theorem dX3_number_63 : decode cX3_number 63 = .ok (.bipush 48, 2) := by decide +kernel
theorem dX3_number_65 : decode cX3_number 65 = .ok (.isub, 1) := by decide +kernel
theorem dX3_number_66 : decode cX3_number 66 = .ok (.istore_n 3, 1) := by decide +kernel
theorem dX3_number_67 : decode cX3_number 67 = .ok (.goto (-53), 3) := by decide +kernel
theorem dX3_number_70 : decode cX3_number 70 = .ok (.iload_n 3, 1) := by decide +kernel
theorem dX3_number_71 : decode cX3_number 71 = .ok (.ireturn, 1) := by decide +kernel
set_option maxRecDepth 20000 in
theorem ggX3_letters_X3_isNext : GoodIn wsX3_letters wsX3_isNext := goodIn_r _ [5, 6, 7, 8, 9, 10, 11, 4, 12, 17, 18, 19, 20, 21, 22, 23, 24, 25, 26, 27, 28, 29, 30] (by decide +kernel) (by decide +kernel)
set_option maxRecDepth 20000 in
theorem gX3_letters_X3_isNext : GoodIn wsX3_letters (wsV RX3 96 RX3 yX3_isNext wsX3_isNext) := goodIn_app (goodIn_of _ (by decide +kernel)) ggX3_letters_X3_isNext
set_option maxRecDepth 20000 in
theorem ggX3_letters_X3_sign : GoodIn wsX3_letters wsX3_sign := goodIn_r _ [16, 7, 8, 9, 6, 10, 11, 4, 12, 17, 18, 19, 20, 21, 22, 23, 24, 25, 26, 27, 28, 29, 30] (by decide +kernel) (by decide +kernel)
set_option maxRecDepth 20000 in
theorem gX3_letters_X3_sign : GoodIn wsX3_letters (wsV RX3 93 RX3 yX3_sign wsX3_sign) := goodIn_app (goodIn_of _ (by decide +kernel)) ggX3_letters_X3_sign
theorem dX3_letters_0 : decode cX3_letters 0 = .ok (.iconst 0, 1) := by decide +kernel
theorem dX3_letters_1 : decode cX3_letters 1 = .ok (.istore_n 1, 1) := by decide +kernel
theorem dX3_letters_2 : decode cX3_letters 2 = .ok (.bipush 97, 2) := by decide +kernel
theorem dX3_letters_4 : decode cX3_letters 4 = .ok (.istore_n 2, 1) := by decide +kernel
theorem dX3_letters_5 : decode cX3_letters 5 = .ok (.aload_n 0, 1) := by decide +kernel
theorem dX3_letters_6 : decode cX3_letters 6 = .ok (.iload_n 2, 1) := by decide +kernel
theorem dX3_letters_7 : decode cX3_letters 7 = .ok (.bipush 112, 2) := by decide +kernel
theorem dX3_letters_9 : decode cX3_letters 9 = .ok (.invokevirtual 96, 3) := by decide +kernel
theorem dX3_letters_12 : decode cX3_letters 12 = .ok (.ifCond .eq 27, 3) := by decide +kernel
theorem dX3_letters_15 : decode cX3_letters 15 = .ok (.aload_n 0, 1) := by decide +kernel
theorem dX3_letters_16 : decode cX3_letters 16 = .ok (.iload_n 2, 1) := by decide +kernel
theorem dX3_letters_17 : decode cX3_letters 17 = .ok (.bipush 112, 2) := by decide +kernel
theorem dX3_letters_19 : decode cX3_letters 19 = .ok (.invokevirtual 93, 3) := by decide +kernel
theorem dX3_letters_22 : decode cX3_letters 22 = .ok (.istore_n 3, 1) := by decide +kernel
theorem dX3_letters_23 : decode cX3_letters 23 = .ok (.iload_n 1, 1) := by decide +kernel
theorem dX3_letters_24 : decode cX3_letters 24 = .ok (.iconst 1, 1) := by decide +kernel
theorem dX3_letters_25 : decode cX3_letters 25 = .ok (.iload_n 3, 1) := by decide +kernel
theorem dX3_letters_26 : decode cX3_letters 26 = .ok (.bipush 97, 2) := by decide +kernel
theorem dX3_letters_28 : decode cX3_letters 28 = .ok (.isub, 1) := by decide +kernel
theorem dX3_letters_29 : decode cX3_letters 29 = .ok (.ishl, 1) := by decide +kernel
theorem dX3_letters_30 : decode cX3_letters 30 = .ok (.ior, 1) := by decide +kernel
theorem dX3_letters_31 : decode cX3_letters 31 = .ok (.istore_n 1, 1) := by decide +kernel
theorem dX3_letters_32 : decode cX3_letters 32 = .ok (.iload_n 3, 1) := by decide +kernel
theorem dX3_letters_33 : decode cX3_letters 33 = .ok (.iconst 1, 1) := by decide +kernel
theorem dX3_letters_34 : decode cX3_letters 34 = .ok (.iadd, 1) := by decide +kernel
theorem dX3_letters_35 : decode cX3_letters 35 = .ok (.istore_n 2, 1) := by decide +kernel
theorem dX3_letters_36 : decode cX3_letters 36 = .ok (.goto (-31), 3) := by decide +kernel
theorem dX3_letters_39 : decode cX3_letters 39 = .ok (.iload_n 1, 1) := by decide +kernel
theorem dX3_letters_40 : decode cX3_letters 40 = .ok (.ireturn, 1) := by decide +kernel
set_option maxRecDepth 20000 in
theorem ggX3_entry_X3_sign : GoodIn wsX3_entry wsX3_sign := goodIn_r _ [6, 7, 8, 9, 10, 11, 12, 5, 13, 26, 27, 28, 29, 30, 31, 32, 33, 34, 35, 36, 37, 38, 39] (by decide +kernel) (by decide +kernel)
set_option maxRecDepth 20000 in
theorem gX3_entry_X3_sign : GoodIn wsX3_entry (wsV RX3 93 RX3 yX3_sign wsX3_sign) := goodIn_app (goodIn_of _ (by decide +kernel)) ggX3_entry_X3_sign
set_option maxRecDepth 20000 in
theorem ggX3_entry_X3_isNext : GoodIn wsX3_entry wsX3_isNext := goodIn_r _ [17, 10, 7, 8, 9, 11, 12, 5, 13, 26, 27, 28, 29, 30, 31, 32, 33, 34, 35, 36, 37, 38, 39] (by decide +kernel) (by decide +kernel)
set_option maxRecDepth 20000 in
theorem gX3_entry_X3_isNext : GoodIn wsX3_entry (wsV RX3 96 RX3 yX3_isNext wsX3_isNext) := goodIn_app (goodIn_of _ (by decide +kernel)) ggX3_entry_X3_isNext
set_option maxRecDepth 20000 in
theorem ggX3_entry_X3_number : GoodIn wsX3_entry wsX3_number := goodIn_r _ [21, 9, 7, 2, 3, 4, 5, 6, 8, 10, 11, 12, 13, 14, 15, 16, 17, 26, 27, 28, 29, 30, 31, 32, 33, 34, 35, 36, 37, 38, 39] (by decide +kernel) (by decide +kernel)
set_option maxRecDepth 20000 in
theorem gX3_entry_X3_number : GoodIn wsX3_entry (wsV RX3 99 RX3 yX3_number wsX3_number) := goodIn_app (goodIn_of _ (by decide +kernel)) ggX3_entry_X3_number
set_option maxRecDepth 20000 in
theorem ggX3_entry_X3_letters : GoodIn wsX3_entry wsX3_letters := goodIn_r _ [25, 14, 15, 16, 5, 17, 10, 7, 8, 9, 11, 12, 13, 2, 3, 4, 6, 26, 27, 28, 29, 30, 31, 32, 33, 34, 35, 36, 37, 38, 39] (by decide +kernel) (by decide +kernel)
set_option maxRecDepth 20000 in
theorem gX3_entry_X3_letters : GoodIn wsX3_entry (wsV RX3 102 RX3 yX3_letters wsX3_letters) := goodIn_app (goodIn_of _ (by decide +kernel)) ggX3_entry_X3_letters
theorem dX3_entry_0 : decode cX3_entry 0 = .ok (.aload_n 0, 1) := by decide +kernel
theorem dX3_entry_1 : decode cX3_entry 1 = .ok (.getfield 32, 3) := by decide +kernel
theorem dX3_entry_4 : decode cX3_entry 4 = .ok (.iconst 0, 1) := by decide +kernel
theorem dX3_entry_5 : decode cX3_entry 5 = .ok (.aload_n 0, 1) := by decide +kernel
theorem dX3_entry_6 : decode cX3_entry 6 = .ok (.bipush 48, 2) := by decide +kernel
theorem dX3_entry_8 : decode cX3_entry 8 = .ok (.bipush 55, 2) := by decide +kernel
theorem dX3_entry_10 : decode cX3_entry 10 = .ok (.invokevirtual 93, 3) := by decide +kernel
theorem dX3_entry_13 : decode cX3_entry 13 = .ok (.bipush 48, 2) := by decide +kernel
theorem dX3_entry_15 : decode cX3_entry 15 = .ok (.isub, 1) := by decide +kernel
theorem dX3_entry_16 : decode cX3_entry 16 = .ok (.iastore, 1) := by decide +kernel
theorem dX3_entry_17 : decode cX3_entry 17 = .ok (.aload_n 0, 1) := by decide +kernel
theorem dX3_entry_18 : decode cX3_entry 18 = .ok (.bipush 46, 2) := by decide +kernel
theorem dX3_entry_20 : decode cX3_entry 20 = .ok (.bipush 46, 2) := by decide +kernel
theorem dX3_entry_22 : decode cX3_entry 22 = .ok (.invokevirtual 96, 3) := by decide +kernel
theorem dX3_entry_25 : decode cX3_entry 25 = .ok (.istore_n 1, 1) := by decide +kernel
theorem dX3_entry_26 : decode cX3_entry 26 = .ok (.aload_n 0, 1) := by decide +kernel
theorem dX3_entry_27 : decode cX3_entry 27 = .ok (.iload_n 1, 1) := by decide +kernel
theorem dX3_entry_28 : decode cX3_entry 28 = .ok (.ifCond .eq 8, 3) := by decide +kernel
theorem dX3_entry_31 : decode cX3_entry 31 = .ok (.bipush 46, 2) := by decide +kernel
theorem dX3_entry_33 : decode cX3_entry 33 = .ok (.goto 5, 3) := by decide +kernel
theorem dX3_entry_36 : decode cX3_entry 36 = .ok (.bipush 58, 2) := by decide +kernel
theorem dX3_entry_38 : decode cX3_entry 38 = .ok (.iload_n 1, 1) := by decide +kernel
theorem dX3_entry_39 : decode cX3_entry 39 = .ok (.ifCond .eq 8, 3) := by decide +kernel
theorem dX3_entry_42 : decode cX3_entry 42 = .ok (.bipush 46, 2) := by decide +kernel
theorem dX3_entry_44 : decode cX3_entry 44 = .ok (.goto 5, 3) := by decide +kernel
theorem dX3_entry_47 : decode cX3_entry 47 = .ok (.bipush 58, 2) := by decide +kernel
theorem dX3_entry_49 : decode cX3_entry 49 = .ok (.invokevirtual 93, 3) := by decide +kernel
theorem dX3_entry_52 : decode cX3_entry 52 = .ok (.istore_n 2, 1) := by decide +kernel
theorem dX3_entry_53 : decode cX3_entry 53 = .ok (.aload_n 0, 1) := by decide +kernel
theorem dX3_entry_54 : decode cX3_entry 54 = .ok (.getfield 32, 3) := by decide +kernel
theorem dX3_entry_57 : decode cX3_entry 57 = .ok (.iconst 1, 1) := by decide +kernel
theorem dX3_entry_58 : decode cX3_entry 58 = .ok (.iload_n 1, 1) := by decide +kernel
theorem dX3_entry_59 : decode cX3_entry 59 = .ok (.ifCond .eq 17, 3) := by decide +kernel
theorem dX3_entry_62 : decode cX3_entry 62 = .ok (.aload_n 0, 1) := by decide +kernel
theorem dX3_entry_63 : decode cX3_entry 63 = .ok (.bipush 48, 2) := by decide +kernel
theorem dX3_entry_65 : decode cX3_entry 65 = .ok (.bipush 52, 2) := by decide +kernel
theorem dX3_entry_67 : decode cX3_entry 67 = .ok (.invokevirtual 93, 3) := by decide +kernel
theorem dX3_entry_70 : decode cX3_entry 70 = .ok (.bipush 48, 2) := by decide +kernel
theorem dX3_entry_72 : decode cX3_entry 72 = .ok (.isub, 1) := by decide +kernel
theorem dX3_entry_73 : decode cX3_entry 73 = .ok (.goto 11, 3) := by decide +kernel
theorem dX3_entry_76 : decode cX3_entry 76 = .ok (.aload_n 0, 1) := by decide +kernel
theorem dX3_entry_77 : decode cX3_entry 77 = .ok (.iconst 0, 1) := by decide +kernel
theorem dX3_entry_78 : decode cX3_entry 78 = .ok (.sipush 999, 3) := by decide +kernel
theorem dX3_entry_81 : decode cX3_entry 81 = .ok (.invokevirtual 99, 3) := by decide +kernel
theorem dX3_entry_84 : decode cX3_entry 84 = .ok (.iastore, 1) := by decide +kernel
theorem dX3_entry_85 : decode cX3_entry 85 = .ok (.aload_n 0, 1) := by decide +kernel
theorem dX3_entry_86 : decode cX3_entry 86 = .ok (.iload_n 1, 1) := by decide +kernel
theorem dX3_entry_87 : decode cX3_entry 87 = .ok (.ifCond .eq 8, 3) := by decide +kernel
theorem dX3_entry_90 : decode cX3_entry 90 = .ok (.bipush 43, 2) := by decide +kernel
theorem dX3_entry_92 : decode cX3_entry 92 = .ok (.goto 5, 3) := by decide +kernel
theorem dX3_entry_95 : decode cX3_entry 95 = .ok (.bipush 47, 2) := by decide +kernel
theorem dX3_entry_97 : decode cX3_entry 97 = .ok (.iload_n 1, 1) := by decide +kernel
theorem dX3_entry_98 : decode cX3_entry 98 = .ok (.ifCond .eq 8, 3) := by decide +kernel
theorem dX3_entry_101 : decode cX3_entry 101 = .ok (.bipush 43, 2) := by decide +kernel
theorem dX3_entry_103 : decode cX3_entry 103 = .ok (.goto 5, 3) := by decide +kernel
theorem dX3_entry_106 : decode cX3_entry 106 = .ok (.bipush 47, 2) := by decide +kernel
theorem dX3_entry_108 : decode cX3_entry 108 = .ok (.invokevirtual 93, 3) := by decide +kernel
theorem dX3_entry_111 : decode cX3_entry 111 = .ok (.istore_n 2, 1) := by decide +kernel
theorem dX3_entry_112 : decode cX3_entry 112 = .ok (.aload_n 0, 1) := by decide +kernel
theorem dX3_entry_113 : decode cX3_entry 113 = .ok (.getfield 32, 3) := by decide +kernel
theorem dX3_entry_116 : decode cX3_entry 116 = .ok (.iconst 2, 1) := by decide +kernel
theorem dX3_entry_117 : decode cX3_entry 117 = .ok (.iload_n 1, 1) := by decide +kernel
theorem dX3_entry_118 : decode cX3_entry 118 = .ok (.ifCond .eq 13, 3) := by decide +kernel
theorem dX3_entry_121 : decode cX3_entry 121 = .ok (.aload_n 0, 1) := by decide +kernel
theorem dX3_entry_122 : decode cX3_entry 122 = .ok (.iconst 1, 1) := by decide +kernel
theorem dX3_entry_123 : decode cX3_entry 123 = .ok (.bipush 30, 2) := by decide +kernel
theorem dX3_entry_125 : decode cX3_entry 125 = .ok (.invokevirtual 99, 3) := by decide +kernel
theorem dX3_entry_128 : decode cX3_entry 128 = .ok (.goto 11, 3) := by decide +kernel
theorem dX3_entry_131 : decode cX3_entry 131 = .ok (.aload_n 0, 1) := by decide +kernel
theorem dX3_entry_132 : decode cX3_entry 132 = .ok (.iconst 0, 1) := by decide +kernel
theorem dX3_entry_133 : decode cX3_entry 133 = .ok (.sipush 999, 3) := by decide +kernel
theorem dX3_entry_136 : decode cX3_entry 136 = .ok (.invokevirtual 99, 3) := by decide +kernel
theorem dX3_entry_139 : decode cX3_entry 139 = .ok (.iastore, 1) := by decide +kernel
theorem dX3_entry_140 : decode cX3_entry 140 = .ok (.iload_n 1, 1) := by decide +kernel
theorem dX3_entry_141 : decode cX3_entry 141 = .ok (.ifCond .ne 26, 3) := by decide +kernel
theorem dX3_entry_144 : decode cX3_entry 144 = .ok (.aload_n 0, 1) := by decide +kernel
theorem dX3_entry_145 : decode cX3_entry 145 = .ok (.bipush 47, 2) := by decide +kernel
theorem dX3_entry_147 : decode cX3_entry 147 = .ok (.bipush 47, 2) := by decide +kernel
theorem dX3_entry_149 : decode cX3_entry 149 = .ok (.invokevirtual 93, 3) := by decide +kernel
theorem dX3_entry_152 : decode cX3_entry 152 = .ok (.istore_n 2, 1) := by decide +kernel
theorem dX3_entry_153 : decode cX3_entry 153 = .ok (.aload_n 0, 1) := by decide +kernel
theorem dX3_entry_154 : decode cX3_entry 154 = .ok (.getfield 32, 3) := by decide +kernel
theorem dX3_entry_157 : decode cX3_entry 157 = .ok (.iconst 3, 1) := by decide +kernel
theorem dX3_entry_158 : decode cX3_entry 158 = .ok (.aload_n 0, 1) := by decide +kernel
theorem dX3_entry_159 : decode cX3_entry 159 = .ok (.iconst 0, 1) := by decide +kernel
theorem dX3_entry_160 : decode cX3_entry 160 = .ok (.sipush 999, 3) := by decide +kernel
theorem dX3_entry_163 : decode cX3_entry 163 = .ok (.invokevirtual 99, 3) := by decide +kernel
theorem dX3_entry_166 : decode cX3_entry 166 = .ok (.iastore, 1) := by decide +kernel
theorem dX3_entry_167 : decode cX3_entry 167 = .ok (.aload_n 0, 1) := by decide +kernel
theorem dX3_entry_168 : decode cX3_entry 168 = .ok (.bipush 61, 2) := by decide +kernel
theorem dX3_entry_170 : decode cX3_entry 170 = .ok (.bipush 61, 2) := by decide +kernel
theorem dX3_entry_172 : decode cX3_entry 172 = .ok (.invokevirtual 93, 3) := by decide +kernel
theorem dX3_entry_175 : decode cX3_entry 175 = .ok (.istore_n 2, 1) := by decide +kernel
theorem dX3_entry_176 : decode cX3_entry 176 = .ok (.aload_n 0, 1) := by decide +kernel
theorem dX3_entry_177 : decode cX3_entry 177 = .ok (.getfield 32, 3) := by decide +kernel
theorem dX3_entry_180 : decode cX3_entry 180 = .ok (.iconst 4, 1) := by decide +kernel
theorem dX3_entry_181 : decode cX3_entry 181 = .ok (.aload_n 0, 1) := by decide +kernel
theorem dX3_entry_182 : decode cX3_entry 182 = .ok (.invokevirtual 102, 3) := by decide +kernel
theorem dX3_entry_185 : decode cX3_entry 185 = .ok (.iastore, 1) := by decide +kernel
theorem dX3_entry_186 : decode cX3_entry 186 = .ok (.iload_n 1, 1) := by decide +kernel
theorem dX3_entry_187 : decode cX3_entry 187 = .ok (.ifCond .ne 21, 3) := by decide +kernel
theorem dX3_entry_190 : decode cX3_entry 190 = .ok (.aload_n 0, 1) := by decide +kernel
theorem dX3_entry_191 : decode cX3_entry 191 = .ok (.getfield 32, 3) := by decide +kernel
theorem dX3_entry_194 : decode cX3_entry 194 = .ok (.iconst 4, 1) := by decide +kernel
theorem dX3_entry_195 : decode cX3_entry 195 = .ok (.iaload, 1) := by decide +kernel
theorem dX3_entry_196 : decode cX3_entry 196 = .ok (.ifCond .ne 12, 3) := by decide +kernel
theorem dX3_entry_199 : decode cX3_entry 199 = .ok (.aload_n 0, 1) := by decide +kernel
theorem dX3_entry_200 : decode cX3_entry 200 = .ok (.bipush 97, 2) := by decide +kernel
theorem dX3_entry_202 : decode cX3_entry 202 = .ok (.bipush 112, 2) := by decide +kernel
theorem dX3_entry_204 : decode cX3_entry 204 = .ok (.invokevirtual 93, 3) := by decide +kernel
theorem dX3_entry_207 : decode cX3_entry 207 = .ok (.istore_n 2, 1) := by decide +kernel
theorem dX3_entry_208 : decode cX3_entry 208 = .ok (.iload_n 1, 1) := by decide +kernel
theorem dX3_entry_209 : decode cX3_entry 209 = .ok (.ireturn, 1) := by decide +kernel
set_option maxRecDepth 20000 in
theorem ggX3_go_X3_entry : GoodIn wsX3_go wsX3_entry := goodIn_r _ [10, 4, 11, 12, 13, 9, 14, 1, 5, 15, 2, 16, 17, 18, 19, 20, 21, 22, 23, 24, 25, 26, 27, 28, 29, 30, 65, 66, 67, 68, 69, 70, 71, 72, 73, 74, 75, 76, 77, 78] (by decide +kernel) (by decide +kernel)
set_option maxRecDepth 20000 in
theorem gX3_go_X3_entry : GoodIn wsX3_go (wsV RX3 109 RX3 yX3_entry wsX3_entry) := goodIn_app (goodIn_of _ (by decide +kernel)) ggX3_go_X3_entry
set_option maxRecDepth 20000 in
theorem ggX3_go_X3_captionFault : GoodIn wsX3_go wsX3_captionFault := goodIn_r _ [34, 35, 36, 37, 38, 39, 9, 40, 41, 42, 43, 16, 17, 18, 44, 45, 46, 47, 48, 49, 65, 66, 67, 68, 69, 70, 71, 72, 73, 74, 75, 76, 77, 78] (by decide +kernel) (by decide +kernel)
set_option maxRecDepth 20000 in
theorem gX3_go_X3_captionFault : GoodIn wsX3_go (wsV RX3 77 RX3 yX3_captionFault wsX3_captionFault) := goodIn_app (goodIn_of _ (by decide +kernel)) ggX3_go_X3_captionFault
set_option maxRecDepth 20000 in
theorem ggX3_go_X3_textFault : GoodIn wsX3_go wsX3_textFault := goodIn_r _ [53, 35, 36, 41, 42, 9, 43, 16, 17, 18, 44, 45, 46, 65, 66, 67, 68, 69, 70, 71, 72, 73, 74, 75, 76, 77, 78] (by decide +kernel) (by decide +kernel)
set_option maxRecDepth 20000 in
theorem gX3_go_X3_textFault : GoodIn wsX3_go (wsV RX3 67 RX3 yX3_textFault wsX3_textFault) := goodIn_app (goodIn_of _ (by decide +kernel)) ggX3_go_X3_textFault
set_option maxRecDepth 20000 in
theorem ggX3_go_X3_addsCaption : GoodIn wsX3_go wsX3_addsCaption := goodIn_r _ [57, 36, 47, 48, 9, 49, 44, 45, 46, 58, 59, 60, 65, 66, 67, 68, 69, 70, 71, 72, 73, 74, 75, 76, 77, 78] (by decide +kernel) (by decide +kernel)
set_option maxRecDepth 20000 in
theorem gX3_go_X3_addsCaption : GoodIn wsX3_go (wsV RX3 80 RX3 yX3_addsCaption wsX3_addsCaption) := goodIn_app (goodIn_of _ (by decide +kernel)) ggX3_go_X3_addsCaption
set_option maxRecDepth 20000 in
theorem ggX3_go_X3_addsText : GoodIn wsX3_go wsX3_addsText := goodIn_r _ [64, 36, 44, 45, 9, 46, 47, 48, 49, 65, 66, 67, 68, 69, 70, 71, 72, 73, 74, 75, 76, 77, 78] (by decide +kernel) (by decide +kernel)
set_option maxRecDepth 20000 in
theorem gX3_go_X3_addsText : GoodIn wsX3_go (wsV RX3 74 RX3 yX3_addsText wsX3_addsText) := goodIn_app (goodIn_of _ (by decide +kernel)) ggX3_go_X3_addsText
set_option maxRecDepth 20000 in
theorem ggX3_go_X3_sign : GoodIn wsX3_go wsX3_sign := goodIn_r _ [14, 1, 5, 15, 2, 16, 17, 9, 18, 65, 66, 67, 68, 69, 70, 71, 72, 73, 74, 75, 76, 77, 78] (by decide +kernel) (by decide +kernel)
set_option maxRecDepth 20000 in
theorem gX3_go_X3_sign : GoodIn wsX3_go (wsV RX3 93 RX3 yX3_sign wsX3_sign) := goodIn_app (goodIn_of _ (by decide +kernel)) ggX3_go_X3_sign
theorem dX3_go_0 : decode cX3_go 0 = .ok (.aload_n 0, 1) := by decide +kernel
theorem dX3_go_1 : decode cX3_go 1 = .ok (.iconst 0, 1) := by decide +kernel
theorem dX3_go_2 : decode cX3_go 2 = .ok (.putfield 83, 3) := by decide +kernel
theorem dX3_go_5 : decode cX3_go 5 = .ok (.aload_n 0, 1) := by decide +kernel
theorem dX3_go_6 : decode cX3_go 6 = .ok (.iconst 0, 1) := by decide +kernel
theorem dX3_go_7 : decode cX3_go 7 = .ok (.putfield 89, 3) := by decide +kernel
theorem dX3_go_10 : decode cX3_go 10 = .ok (.aload_n 0, 1) := by decide +kernel
theorem dX3_go_11 : decode cX3_go 11 = .ok (.iconst 0, 1) := by decide +kernel
theorem dX3_go_12 : decode cX3_go 12 = .ok (.putfield 106, 3) := by decide +kernel
theorem dX3_go_15 : decode cX3_go 15 = .ok (.iconst 0, 1) := by decide +kernel
theorem dX3_go_16 : decode cX3_go 16 = .ok (.istore_n 2, 1) := by decide +kernel
theorem dX3_go_17 : decode cX3_go 17 = .ok (.iconst 1, 1) := by decide +kernel
theorem dX3_go_18 : decode cX3_go 18 = .ok (.istore_n 3, 1) := by decide +kernel
theorem dX3_go_19 : decode cX3_go 19 = .ok (.iload_n 3, 1) := by decide +kernel
theorem dX3_go_20 : decode cX3_go 20 = .ok (.ifCond .eq 246, 3) := by decide +kernel
theorem dX3_go_23 : decode cX3_go 23 = .ok (.aload_n 0, 1) := by decide +kernel
theorem dX3_go_24 : decode cX3_go 24 = .ok (.invokevirtual 109, 3) := by decide +kernel
theorem dX3_go_27 : decode cX3_go 27 = .ok (.istore 4, 2) := by decide +kernel
theorem dX3_go_29 : decode cX3_go 29 = .ok (.iload_n 1, 1) := by decide +kernel
theorem dX3_go_30 : decode cX3_go 30 = .ok (.ifCond .eq 77, 3) := by decide +kernel
theorem dX3_go_33 : decode cX3_go 33 = .ok (.aload_n 0, 1) := by decide +kernel
theorem dX3_go_34 : decode cX3_go 34 = .ok (.iload 4, 2) := by decide +kernel
theorem dX3_go_36 : decode cX3_go 36 = .ok (.ifCond .eq 34, 3) := by decide +kernel
theorem dX3_go_39 : decode cX3_go 39 = .ok (.aload_n 0, 1) := by decide +kernel
theorem dX3_go_40 : decode cX3_go 40 = .ok (.aload_n 0, 1) := by decide +kernel
theorem dX3_go_41 : decode cX3_go 41 = .ok (.getfield 32, 3) := by decide +kernel
theorem dX3_go_44 : decode cX3_go 44 = .ok (.iconst 0, 1) := by decide +kernel
theorem dX3_go_45 : decode cX3_go 45 = .ok (.iaload, 1) := by decide +kernel
theorem dX3_go_46 : decode cX3_go 46 = .ok (.aload_n 0, 1) := by decide +kernel
theorem dX3_go_47 : decode cX3_go 47 = .ok (.getfield 32, 3) := by decide +kernel
theorem dX3_go_50 : decode cX3_go 50 = .ok (.iconst 1, 1) := by decide +kernel
theorem dX3_go_51 : decode cX3_go 51 = .ok (.iaload, 1) := by decide +kernel
theorem dX3_go_52 : decode cX3_go 52 = .ok (.aload_n 0, 1) := by decide +kernel
theorem dX3_go_53 : decode cX3_go 53 = .ok (.getfield 32, 3) := by decide +kernel
theorem dX3_go_56 : decode cX3_go 56 = .ok (.iconst 2, 1) := by decide +kernel
theorem dX3_go_57 : decode cX3_go 57 = .ok (.iaload, 1) := by decide +kernel
theorem dX3_go_58 : decode cX3_go 58 = .ok (.aload_n 0, 1) := by decide +kernel
theorem dX3_go_59 : decode cX3_go 59 = .ok (.getfield 32, 3) := by decide +kernel
theorem dX3_go_62 : decode cX3_go 62 = .ok (.iconst 4, 1) := by decide +kernel
theorem dX3_go_63 : decode cX3_go 63 = .ok (.iaload, 1) := by decide +kernel
theorem dX3_go_64 : decode cX3_go 64 = .ok (.invokevirtual 77, 3) := by decide +kernel
theorem dX3_go_67 : decode cX3_go 67 = .ok (.goto 37, 3) := by decide +kernel
theorem dX3_go_70 : decode cX3_go 70 = .ok (.aload_n 0, 1) := by decide +kernel
theorem dX3_go_71 : decode cX3_go 71 = .ok (.aload_n 0, 1) := by decide +kernel
theorem dX3_go_72 : decode cX3_go 72 = .ok (.getfield 32, 3) := by decide +kernel
theorem dX3_go_75 : decode cX3_go 75 = .ok (.iconst 0, 1) := by decide +kernel
theorem dX3_go_76 : decode cX3_go 76 = .ok (.iaload, 1) := by decide +kernel
theorem dX3_go_77 : decode cX3_go 77 = .ok (.aload_n 0, 1) := by decide +kernel
theorem dX3_go_78 : decode cX3_go 78 = .ok (.getfield 32, 3) := by decide +kernel
theorem dX3_go_81 : decode cX3_go 81 = .ok (.iconst 1, 1) := by decide +kernel
theorem dX3_go_82 : decode cX3_go 82 = .ok (.iaload, 1) := by decide +kernel
theorem dX3_go_83 : decode cX3_go 83 = .ok (.aload_n 0, 1) := by decide +kernel
theorem dX3_go_84 : decode cX3_go 84 = .ok (.getfield 32, 3) := by decide +kernel
theorem dX3_go_87 : decode cX3_go 87 = .ok (.iconst 2, 1) := by decide +kernel
theorem dX3_go_88 : decode cX3_go 88 = .ok (.iaload, 1) := by decide +kernel
theorem dX3_go_89 : decode cX3_go 89 = .ok (.aload_n 0, 1) := by decide +kernel
theorem dX3_go_90 : decode cX3_go 90 = .ok (.getfield 32, 3) := by decide +kernel
theorem dX3_go_93 : decode cX3_go 93 = .ok (.iconst 3, 1) := by decide +kernel
theorem dX3_go_94 : decode cX3_go 94 = .ok (.iaload, 1) := by decide +kernel
theorem dX3_go_95 : decode cX3_go 95 = .ok (.aload_n 0, 1) := by decide +kernel
theorem dX3_go_96 : decode cX3_go 96 = .ok (.getfield 32, 3) := by decide +kernel
theorem dX3_go_99 : decode cX3_go 99 = .ok (.iconst 4, 1) := by decide +kernel
theorem dX3_go_100 : decode cX3_go 100 = .ok (.iaload, 1) := by decide +kernel
theorem dX3_go_101 : decode cX3_go 101 = .ok (.invokevirtual 67, 3) := by decide +kernel
theorem dX3_go_104 : decode cX3_go 104 = .ok (.putfield 106, 3) := by decide +kernel
theorem dX3_go_107 : decode cX3_go 107 = .ok (.iload_n 1, 1) := by decide +kernel
theorem dX3_go_108 : decode cX3_go 108 = .ok (.ifCond .eq 82, 3) := by decide +kernel
theorem dX3_go_111 : decode cX3_go 111 = .ok (.aload_n 0, 1) := by decide +kernel
theorem dX3_go_112 : decode cX3_go 112 = .ok (.getfield 106, 3) := by decide +kernel
theorem dX3_go_115 : decode cX3_go 115 = .ok (.ifCond .ne 75, 3) := by decide +kernel
theorem dX3_go_118 : decode cX3_go 118 = .ok (.iload 4, 2) := by decide +kernel
theorem dX3_go_120 : decode cX3_go 120 = .ok (.ifCond .eq 34, 3) := by decide +kernel
theorem dX3_go_123 : decode cX3_go 123 = .ok (.aload_n 0, 1) := by decide +kernel
theorem dX3_go_124 : decode cX3_go 124 = .ok (.aload_n 0, 1) := by decide +kernel
theorem dX3_go_125 : decode cX3_go 125 = .ok (.getfield 32, 3) := by decide +kernel
theorem dX3_go_128 : decode cX3_go 128 = .ok (.iconst 0, 1) := by decide +kernel
theorem dX3_go_129 : decode cX3_go 129 = .ok (.iaload, 1) := by decide +kernel
theorem dX3_go_130 : decode cX3_go 130 = .ok (.aload_n 0, 1) := by decide +kernel
theorem dX3_go_131 : decode cX3_go 131 = .ok (.getfield 32, 3) := by decide +kernel
theorem dX3_go_134 : decode cX3_go 134 = .ok (.iconst 1, 1) := by decide +kernel
theorem dX3_go_135 : decode cX3_go 135 = .ok (.iaload, 1) := by decide +kernel
theorem dX3_go_136 : decode cX3_go 136 = .ok (.aload_n 0, 1) := by decide +kernel
theorem dX3_go_137 : decode cX3_go 137 = .ok (.getfield 32, 3) := by decide +kernel
theorem dX3_go_140 : decode cX3_go 140 = .ok (.iconst 2, 1) := by decide +kernel
theorem dX3_go_141 : decode cX3_go 141 = .ok (.iaload, 1) := by decide +kernel
theorem dX3_go_142 : decode cX3_go 142 = .ok (.aload_n 0, 1) := by decide +kernel
theorem dX3_go_143 : decode cX3_go 143 = .ok (.getfield 32, 3) := by decide +kernel
theorem dX3_go_146 : decode cX3_go 146 = .ok (.iconst 4, 1) := by decide +kernel
theorem dX3_go_147 : decode cX3_go 147 = .ok (.iaload, 1) := by decide +kernel
theorem dX3_go_148 : decode cX3_go 148 = .ok (.invokevirtual 80, 3) := by decide +kernel
theorem dX3_go_151 : decode cX3_go 151 = .ok (.goto 37, 3) := by decide +kernel
theorem dX3_go_154 : decode cX3_go 154 = .ok (.aload_n 0, 1) := by decide +kernel
theorem dX3_go_155 : decode cX3_go 155 = .ok (.aload_n 0, 1) := by decide +kernel
theorem dX3_go_156 : decode cX3_go 156 = .ok (.getfield 32, 3) := by decide +kernel
theorem dX3_go_159 : decode cX3_go 159 = .ok (.iconst 0, 1) := by decide +kernel
theorem dX3_go_160 : decode cX3_go 160 = .ok (.iaload, 1) := by decide +kernel
theorem dX3_go_161 : decode cX3_go 161 = .ok (.aload_n 0, 1) := by decide +kernel
theorem dX3_go_162 : decode cX3_go 162 = .ok (.getfield 32, 3) := by decide +kernel
theorem dX3_go_165 : decode cX3_go 165 = .ok (.iconst 1, 1) := by decide +kernel
theorem dX3_go_166 : decode cX3_go 166 = .ok (.iaload, 1) := by decide +kernel
theorem dX3_go_167 : decode cX3_go 167 = .ok (.aload_n 0, 1) := by decide +kernel
theorem dX3_go_168 : decode cX3_go 168 = .ok (.getfield 32, 3) := by decide +kernel
theorem dX3_go_171 : decode cX3_go 171 = .ok (.iconst 2, 1) := by decide +kernel
theorem dX3_go_172 : decode cX3_go 172 = .ok (.iaload, 1) := by decide +kernel
theorem dX3_go_173 : decode cX3_go 173 = .ok (.aload_n 0, 1) := by decide +kernel
theorem dX3_go_174 : decode cX3_go 174 = .ok (.getfield 32, 3) := by decide +kernel
theorem dX3_go_177 : decode cX3_go 177 = .ok (.iconst 3, 1) := by decide +kernel
theorem dX3_go_178 : decode cX3_go 178 = .ok (.iaload, 1) := by decide +kernel
theorem dX3_go_179 : decode cX3_go 179 = .ok (.aload_n 0, 1) := by decide +kernel
theorem dX3_go_180 : decode cX3_go 180 = .ok (.getfield 32, 3) := by decide +kernel
theorem dX3_go_183 : decode cX3_go 183 = .ok (.iconst 4, 1) := by decide +kernel
theorem dX3_go_184 : decode cX3_go 184 = .ok (.iaload, 1) := by decide +kernel
theorem dX3_go_185 : decode cX3_go 185 = .ok (.invokevirtual 74, 3) := by decide +kernel
theorem dX3_go_188 : decode cX3_go 188 = .ok (.istore 5, 2) := by decide +kernel
theorem dX3_go_190 : decode cX3_go 190 = .ok (.iload_n 2, 1) := by decide +kernel
theorem dX3_go_191 : decode cX3_go 191 = .ok (.aload_n 0, 1) := by decide +kernel
theorem dX3_go_192 : decode cX3_go 192 = .ok (.getfield 106, 3) := by decide +kernel
theorem dX3_go_195 : decode cX3_go 195 = .ok (.ifCond .ne 7, 3) := by decide +kernel
theorem dX3_go_198 : decode cX3_go 198 = .ok (.iconst 1, 1) := by decide +kernel
theorem dX3_go_199 : decode cX3_go 199 = .ok (.goto 4, 3) := by decide +kernel
theorem dX3_go_202 : decode cX3_go 202 = .ok (.iconst 0, 1) := by decide +kernel
theorem dX3_go_203 : decode cX3_go 203 = .ok (.iadd, 1) := by decide +kernel
theorem dX3_go_204 : decode cX3_go 204 = .ok (.istore_n 2, 1) := by decide +kernel
theorem dX3_go_205 : decode cX3_go 205 = .ok (.aload_n 0, 1) := by decide +kernel
theorem dX3_go_206 : decode cX3_go 206 = .ok (.getfield 89, 3) := by decide +kernel
theorem dX3_go_209 : decode cX3_go 209 = .ok (.ifCond .ne 25, 3) := by decide +kernel
theorem dX3_go_212 : decode cX3_go 212 = .ok (.aload_n 0, 1) := by decide +kernel
theorem dX3_go_213 : decode cX3_go 213 = .ok (.getfield 106, 3) := by decide +kernel
theorem dX3_go_216 : decode cX3_go 216 = .ok (.ifCond .ne 18, 3) := by decide +kernel
theorem dX3_go_219 : decode cX3_go 219 = .ok (.aload_n 0, 1) := by decide +kernel
theorem dX3_go_220 : decode cX3_go 220 = .ok (.getfield 83, 3) := by decide +kernel
theorem dX3_go_223 : decode cX3_go 223 = .ok (.aload_n 0, 1) := by decide +kernel
theorem dX3_go_224 : decode cX3_go 224 = .ok (.getfield 86, 3) := by decide +kernel
theorem dX3_go_227 : decode cX3_go 227 = .ok (.if_icmp .ge 7, 3) := by decide +kernel
theorem dX3_go_230 : decode cX3_go 230 = .ok (.iconst 1, 1) := by decide +kernel
theorem dX3_go_231 : decode cX3_go 231 = .ok (.goto 4, 3) := by decide +kernel
theorem dX3_go_234 : decode cX3_go 234 = .ok (.iconst 0, 1) := by decide +kernel
theorem dX3_go_235 : decode cX3_go 235 = .ok (.istore_n 3, 1) := by decide +kernel
theorem dX3_go_236 : decode cX3_go 236 = .ok (.iload_n 3, 1) := by decide +kernel
theorem dX3_go_237 : decode cX3_go 237 = .ok (.ifCond .eq 26, 3) := by decide +kernel
theorem dX3_go_240 : decode cX3_go 240 = .ok (.aload_n 0, 1) := by decide +kernel
theorem dX3_go_241 : decode cX3_go 241 = .ok (.bipush 59, 2) := by decide +kernel
theorem dX3_go_243 : decode cX3_go 243 = .ok (.bipush 59, 2) := by decide +kernel
theorem dX3_go_245 : decode cX3_go 245 = .ok (.invokevirtual 93, 3) := by decide +kernel
theorem dX3_go_248 : decode cX3_go 248 = .ok (.istore 5, 2) := by decide +kernel
theorem dX3_go_250 : decode cX3_go 250 = .ok (.aload_n 0, 1) := by decide +kernel
theorem dX3_go_251 : decode cX3_go 251 = .ok (.getfield 89, 3) := by decide +kernel
theorem dX3_go_254 : decode cX3_go 254 = .ok (.ifCond .ne 7, 3) := by decide +kernel
theorem dX3_go_257 : decode cX3_go 257 = .ok (.iconst 1, 1) := by decide +kernel
theorem dX3_go_258 : decode cX3_go 258 = .ok (.goto 4, 3) := by decide +kernel
theorem dX3_go_261 : decode cX3_go 261 = .ok (.iconst 0, 1) := by decide +kernel
theorem dX3_go_262 : decode cX3_go 262 = .ok (.istore_n 3, 1) := by decide +kernel
theorem dX3_go_263 : decode cX3_go 263 = .ok (.goto (-244), 3) := by decide +kernel
theorem dX3_go_266 : decode cX3_go 266 = .ok (.iload_n 2, 1) := by decide +kernel
theorem dX3_go_267 : decode cX3_go 267 = .ok (.ireturn, 1) := by decide +kernel
theorem dX3_putBack_0 : decode cX3_putBack 0 = .ok (.iconst 0, 1) := by decide +kernel
theorem dX3_putBack_1 : decode cX3_putBack 1 = .ok (.istore_n 1, 1) := by decide +kernel
theorem dX3_putBack_2 : decode cX3_putBack 2 = .ok (.iload_n 1, 1) := by decide +kernel
theorem dX3_putBack_3 : decode cX3_putBack 3 = .ok (.sipush 618, 3) := by decide +kernel
theorem dX3_putBack_6 : decode cX3_putBack 6 = .ok (.if_icmp .ge 21, 3) := by decide +kernel
theorem dX3_putBack_9 : decode cX3_putBack 9 = .ok (.aload_n 0, 1) := by decide +kernel
theorem dX3_putBack_10 : decode cX3_putBack 10 = .ok (.getfield 7, 3) := by decide +kernel
theorem dX3_putBack_13 : decode cX3_putBack 13 = .ok (.iload_n 1, 1) := by decide +kernel
theorem dX3_putBack_14 : decode cX3_putBack 14 = .ok (.aload_n 0, 1) := by decide +kernel
theorem dX3_putBack_15 : decode cX3_putBack 15 = .ok (.getfield 13, 3) := by decide +kernel
theorem dX3_putBack_18 : decode cX3_putBack 18 = .ok (.iload_n 1, 1) := by decide +kernel
theorem dX3_putBack_19 : decode cX3_putBack 19 = .ok (.iaload, 1) := by decide +kernel
theorem dX3_putBack_20 : decode cX3_putBack 20 = .ok (.iastore, 1) := by decide +kernel
theorem dX3_putBack_21 : decode cX3_putBack 21 = .ok (.iinc 1 1, 3) := by decide +kernel
theorem dX3_putBack_24 : decode cX3_putBack 24 = .ok (.goto (-22), 3) := by decide +kernel
theorem dX3_putBack_27 : decode cX3_putBack 27 = .ok (.return_, 1) := by decide +kernel
set_option maxRecDepth 20000 in
theorem ggX3_readEntries_X3_go : GoodIn wsX3_readEntries wsX3_go := goodIn_r _ [12, 2, 1, 5, 13, 14, 15, 16, 17, 11, 18, 19, 20, 21, 22, 23, 24, 25, 26, 27, 28, 29, 30, 31, 32, 33, 34, 35, 36, 37, 38, 39, 40, 41, 42, 43, 4, 44, 45, 46, 47, 48, 49, 50, 51, 52, 53, 54, 55, 56, 57, 58, 59, 60, 61, 62, 63, 64, 65, 66, 67, 68, 69, 70, 71, 82, 83, 84, 85, 86, 87, 88, 89, 90, 91, 92, 93, 94, 95] (by decide +kernel) (by decide +kernel)
set_option maxRecDepth 20000 in
theorem gX3_readEntries_X3_go : GoodIn wsX3_readEntries (wsV RX3 113 RX3 yX3_go wsX3_go) := goodIn_app (goodIn_of _ (by decide +kernel)) ggX3_readEntries_X3_go
set_option maxRecDepth 20000 in
theorem ggX3_readEntries_X3_putBack : GoodIn wsX3_readEntries wsX3_putBack := goodIn_r _ [75, 4, 3, 82, 83, 84, 85, 86, 87, 88, 89, 90, 91, 92, 93, 94, 95] (by decide +kernel) (by decide +kernel)
set_option maxRecDepth 20000 in
theorem gX3_readEntries_X3_putBack : GoodIn wsX3_readEntries (wsV RX3 117 RX3 yX3_putBack wsX3_putBack) := goodIn_app (goodIn_of _ (by decide +kernel)) ggX3_readEntries_X3_putBack
set_option maxRecDepth 20000 in
theorem ggX3_readEntries_X3_know : GoodIn wsX3_readEntries wsX3_know := goodIn_r _ [79, 80, 81, 4, 82, 83, 84, 85, 86, 87, 88, 89, 90, 91, 92, 93, 94, 95] (by decide +kernel) (by decide +kernel)
set_option maxRecDepth 20000 in
theorem gX3_readEntries_X3_know : GoodIn wsX3_readEntries (wsV RX3 71 RX3 yX3_know wsX3_know) := goodIn_app (goodIn_of _ (by decide +kernel)) ggX3_readEntries_X3_know
theorem dX3_readEntries_0 : decode cX3_readEntries 0 = .ok (.aload_n 0, 1) := by decide +kernel
theorem dX3_readEntries_1 : decode cX3_readEntries 1 = .ok (.iconst 0, 1) := by decide +kernel
theorem dX3_readEntries_2 : decode cX3_readEntries 2 = .ok (.invokevirtual 113, 3) := by decide +kernel
theorem dX3_readEntries_5 : decode cX3_readEntries 5 = .ok (.istore_n 1, 1) := by decide +kernel
theorem dX3_readEntries_6 : decode cX3_readEntries 6 = .ok (.aload_n 0, 1) := by decide +kernel
theorem dX3_readEntries_7 : decode cX3_readEntries 7 = .ok (.getfield 89, 3) := by decide +kernel
theorem dX3_readEntries_10 : decode cX3_readEntries 10 = .ok (.ifCond .eq 11, 3) := by decide +kernel
theorem dX3_readEntries_13 : decode cX3_readEntries 13 = .ok (.bipush (-100), 2) := by decide +kernel
theorem dX3_readEntries_15 : decode cX3_readEntries 15 = .ok (.aload_n 0, 1) := by decide +kernel
theorem dX3_readEntries_16 : decode cX3_readEntries 16 = .ok (.getfield 83, 3) := by decide +kernel
theorem dX3_readEntries_19 : decode cX3_readEntries 19 = .ok (.isub, 1) := by decide +kernel
theorem dX3_readEntries_20 : decode cX3_readEntries 20 = .ok (.ireturn, 1) := by decide +kernel
theorem dX3_readEntries_21 : decode cX3_readEntries 21 = .ok (.iconst 0, 1) := by decide +kernel
theorem dX3_readEntries_22 : decode cX3_readEntries 22 = .ok (.istore_n 2, 1) := by decide +kernel
theorem dX3_readEntries_23 : decode cX3_readEntries 23 = .ok (.iload_n 2, 1) := by decide +kernel
theorem dX3_readEntries_24 : decode cX3_readEntries 24 = .ok (.sipush 618, 3) := by decide +kernel
theorem dX3_readEntries_27 : decode cX3_readEntries 27 = .ok (.if_icmp .ge 21, 3) := by decide +kernel
theorem dX3_readEntries_30 : decode cX3_readEntries 30 = .ok (.aload_n 0, 1) := by decide +kernel
theorem dX3_readEntries_31 : decode cX3_readEntries 31 = .ok (.getfield 13, 3) := by decide +kernel
theorem dX3_readEntries_34 : decode cX3_readEntries 34 = .ok (.iload_n 2, 1) := by decide +kernel
theorem dX3_readEntries_35 : decode cX3_readEntries 35 = .ok (.aload_n 0, 1) := by decide +kernel
theorem dX3_readEntries_36 : decode cX3_readEntries 36 = .ok (.getfield 7, 3) := by decide +kernel
theorem dX3_readEntries_39 : decode cX3_readEntries 39 = .ok (.iload_n 2, 1) := by decide +kernel
theorem dX3_readEntries_40 : decode cX3_readEntries 40 = .ok (.iaload, 1) := by decide +kernel
theorem dX3_readEntries_41 : decode cX3_readEntries 41 = .ok (.iastore, 1) := by decide +kernel
theorem dX3_readEntries_42 : decode cX3_readEntries 42 = .ok (.iinc 2 1, 3) := by decide +kernel
theorem dX3_readEntries_45 : decode cX3_readEntries 45 = .ok (.goto (-22), 3) := by decide +kernel
theorem dX3_readEntries_48 : decode cX3_readEntries 48 = .ok (.aload_n 0, 1) := by decide +kernel
theorem dX3_readEntries_49 : decode cX3_readEntries 49 = .ok (.iconst 1, 1) := by decide +kernel
theorem dX3_readEntries_50 : decode cX3_readEntries 50 = .ok (.invokevirtual 113, 3) := by decide +kernel
theorem dX3_readEntries_53 : decode cX3_readEntries 53 = .ok (.istore_n 1, 1) := by decide +kernel
theorem dX3_readEntries_54 : decode cX3_readEntries 54 = .ok (.aload_n 0, 1) := by decide +kernel
theorem dX3_readEntries_55 : decode cX3_readEntries 55 = .ok (.invokevirtual 117, 3) := by decide +kernel
theorem dX3_readEntries_58 : decode cX3_readEntries 58 = .ok (.aload_n 0, 1) := by decide +kernel
theorem dX3_readEntries_59 : decode cX3_readEntries 59 = .ok (.getfield 106, 3) := by decide +kernel
theorem dX3_readEntries_62 : decode cX3_readEntries 62 = .ok (.ifCond .ge 19, 3) := by decide +kernel
theorem dX3_readEntries_65 : decode cX3_readEntries 65 = .ok (.aload_n 0, 1) := by decide +kernel
theorem dX3_readEntries_66 : decode cX3_readEntries 66 = .ok (.iload_n 1, 1) := by decide +kernel
theorem dX3_readEntries_67 : decode cX3_readEntries 67 = .ok (.putfield 25, 3) := by decide +kernel
theorem dX3_readEntries_70 : decode cX3_readEntries 70 = .ok (.aload_n 0, 1) := by decide +kernel
theorem dX3_readEntries_71 : decode cX3_readEntries 71 = .ok (.aload_n 0, 1) := by decide +kernel
theorem dX3_readEntries_72 : decode cX3_readEntries 72 = .ok (.getfield 106, 3) := by decide +kernel
theorem dX3_readEntries_75 : decode cX3_readEntries 75 = .ok (.putfield 29, 3) := by decide +kernel
theorem dX3_readEntries_78 : decode cX3_readEntries 78 = .ok (.bipush (-4), 2) := by decide +kernel
theorem dX3_readEntries_80 : decode cX3_readEntries 80 = .ok (.ireturn, 1) := by decide +kernel
theorem dX3_readEntries_81 : decode cX3_readEntries 81 = .ok (.aload_n 0, 1) := by decide +kernel
theorem dX3_readEntries_82 : decode cX3_readEntries 82 = .ok (.invokevirtual 71, 3) := by decide +kernel
theorem dX3_readEntries_85 : decode cX3_readEntries 85 = .ok (.aload_n 0, 1) := by decide +kernel
theorem dX3_readEntries_86 : decode cX3_readEntries 86 = .ok (.iconst 1, 1) := by decide +kernel
theorem dX3_readEntries_87 : decode cX3_readEntries 87 = .ok (.invokevirtual 113, 3) := by decide +kernel
theorem dX3_readEntries_90 : decode cX3_readEntries 90 = .ok (.ireturn, 1) := by decide +kernel
set_option maxRecDepth 20000 in
theorem ggX3_refusal_X3_in : GoodIn wsX3_refusal wsX3_in := goodIn_r _ [6] (by decide +kernel) (by decide +kernel)
set_option maxRecDepth 20000 in
theorem gX3_refusal_X3_in : GoodIn wsX3_refusal (va_wsS RX3 43 yX3_in wsX3_in) := goodIn_app (goodIn_of _ (by decide +kernel)) ggX3_refusal_X3_in
theorem dX3_refusal_0 : decode cX3_refusal 0 = .ok (.iload_n 1, 1) := by decide +kernel
theorem dX3_refusal_1 : decode cX3_refusal 1 = .ok (.iconst 0, 1) := by decide +kernel
theorem dX3_refusal_2 : decode cX3_refusal 2 = .ok (.iconst 1, 1) := by decide +kernel
theorem dX3_refusal_3 : decode cX3_refusal 3 = .ok (.invokestatic 43, 3) := by decide +kernel
theorem dX3_refusal_6 : decode cX3_refusal 6 = .ok (.ifCond .ne 8, 3) := by decide +kernel
theorem dX3_refusal_9 : decode cX3_refusal 9 = .ok (.bipush (-2), 2) := by decide +kernel
theorem dX3_refusal_11 : decode cX3_refusal 11 = .ok (.goto 18, 3) := by decide +kernel
theorem dX3_refusal_14 : decode cX3_refusal 14 = .ok (.iload_n 1, 1) := by decide +kernel
theorem dX3_refusal_15 : decode cX3_refusal 15 = .ok (.ifCond .ne 10, 3) := by decide +kernel
theorem dX3_refusal_18 : decode cX3_refusal 18 = .ok (.aload_n 0, 1) := by decide +kernel
theorem dX3_refusal_19 : decode cX3_refusal 19 = .ok (.getfield 25, 3) := by decide +kernel
theorem dX3_refusal_22 : decode cX3_refusal 22 = .ok (.goto 7, 3) := by decide +kernel
theorem dX3_refusal_25 : decode cX3_refusal 25 = .ok (.aload_n 0, 1) := by decide +kernel
theorem dX3_refusal_26 : decode cX3_refusal 26 = .ok (.getfield 29, 3) := by decide +kernel
theorem dX3_refusal_29 : decode cX3_refusal 29 = .ok (.ireturn, 1) := by decide +kernel
theorem dX3_type_0 : decode cX3_type 0 = .ok (.aload_n 0, 1) := by decide +kernel
theorem dX3_type_1 : decode cX3_type 1 = .ok (.getfield 86, 3) := by decide +kernel
theorem dX3_type_4 : decode cX3_type 4 = .ok (.bipush 60, 2) := by decide +kernel
theorem dX3_type_6 : decode cX3_type 6 = .ok (.if_icmp .ne 6, 3) := by decide +kernel
theorem dX3_type_9 : decode cX3_type 9 = .ok (.bipush (-3), 2) := by decide +kernel
theorem dX3_type_11 : decode cX3_type 11 = .ok (.ireturn, 1) := by decide +kernel
theorem dX3_type_12 : decode cX3_type 12 = .ok (.aload_n 0, 1) := by decide +kernel
theorem dX3_type_13 : decode cX3_type 13 = .ok (.getfield 22, 3) := by decide +kernel
theorem dX3_type_16 : decode cX3_type 16 = .ok (.aload_n 0, 1) := by decide +kernel
theorem dX3_type_17 : decode cX3_type 17 = .ok (.getfield 86, 3) := by decide +kernel
theorem dX3_type_20 : decode cX3_type 20 = .ok (.iload_n 1, 1) := by decide +kernel
theorem dX3_type_21 : decode cX3_type 21 = .ok (.iastore, 1) := by decide +kernel
theorem dX3_type_22 : decode cX3_type 22 = .ok (.aload_n 0, 1) := by decide +kernel
theorem dX3_type_23 : decode cX3_type 23 = .ok (.dup, 1) := by decide +kernel
theorem dX3_type_24 : decode cX3_type 24 = .ok (.getfield 86, 3) := by decide +kernel
theorem dX3_type_27 : decode cX3_type 27 = .ok (.iconst 1, 1) := by decide +kernel
theorem dX3_type_28 : decode cX3_type 28 = .ok (.iadd, 1) := by decide +kernel
theorem dX3_type_29 : decode cX3_type 29 = .ok (.putfield 86, 3) := by decide +kernel
theorem dX3_type_32 : decode cX3_type 32 = .ok (.aload_n 0, 1) := by decide +kernel
theorem dX3_type_33 : decode cX3_type 33 = .ok (.getfield 86, 3) := by decide +kernel
theorem dX3_type_36 : decode cX3_type 36 = .ok (.ireturn, 1) := by decide +kernel
theorem dX3_clearPad_0 : decode cX3_clearPad 0 = .ok (.aload_n 0, 1) := by decide +kernel
theorem dX3_clearPad_1 : decode cX3_clearPad 1 = .ok (.getfield 86, 3) := by decide +kernel
theorem dX3_clearPad_4 : decode cX3_clearPad 4 = .ok (.istore_n 1, 1) := by decide +kernel
theorem dX3_clearPad_5 : decode cX3_clearPad 5 = .ok (.aload_n 0, 1) := by decide +kernel
theorem dX3_clearPad_6 : decode cX3_clearPad 6 = .ok (.iconst 0, 1) := by decide +kernel
theorem dX3_clearPad_7 : decode cX3_clearPad 7 = .ok (.putfield 86, 3) := by decide +kernel
theorem dX3_clearPad_10 : decode cX3_clearPad 10 = .ok (.iload_n 1, 1) := by decide +kernel
theorem dX3_clearPad_11 : decode cX3_clearPad 11 = .ok (.ireturn, 1) := by decide +kernel
theorem dX3_seconds_0 : decode cX3_seconds 0 = .ok (.bipush 60, 2) := by decide +kernel
theorem dX3_seconds_2 : decode cX3_seconds 2 = .ok (.iload_n 0, 1) := by decide +kernel
theorem dX3_seconds_3 : decode cX3_seconds 3 = .ok (.imul, 1) := by decide +kernel
theorem dX3_seconds_4 : decode cX3_seconds 4 = .ok (.iload_n 1, 1) := by decide +kernel
theorem dX3_seconds_5 : decode cX3_seconds 5 = .ok (.iadd, 1) := by decide +kernel
theorem dX3_seconds_6 : decode cX3_seconds 6 = .ok (.iconst 1, 1) := by decide +kernel
theorem dX3_seconds_7 : decode cX3_seconds 7 = .ok (.isub, 1) := by decide +kernel
theorem dX3_seconds_8 : decode cX3_seconds 8 = .ok (.iload_n 1, 1) := by decide +kernel
theorem dX3_seconds_9 : decode cX3_seconds 9 = .ok (.idiv, 1) := by decide +kernel
theorem dX3_seconds_10 : decode cX3_seconds 10 = .ok (.ireturn, 1) := by decide +kernel
set_option maxRecDepth 20000 in
theorem ggX3_shownNow_X3_shownTo : GoodIn wsX3_shownNow wsX3_shownTo := goodIn_r _ [6, 1, 7, 8, 5, 9, 10, 11, 12, 13, 14, 15, 16, 17, 18, 19, 20, 21, 22, 23, 24, 25, 26, 27, 28, 29, 30] (by decide +kernel) (by decide +kernel)
set_option maxRecDepth 20000 in
theorem gX3_shownNow_X3_shownTo : GoodIn wsX3_shownNow (wsV RX3 120 RX3 yX3_shownTo wsX3_shownTo) := goodIn_app (goodIn_of _ (by decide +kernel)) ggX3_shownNow_X3_shownTo
theorem dX3_shownNow_0 : decode cX3_shownNow 0 = .ok (.aload_n 0, 1) := by decide +kernel
theorem dX3_shownNow_1 : decode cX3_shownNow 1 = .ok (.getfield 7, 3) := by decide +kernel
theorem dX3_shownNow_4 : decode cX3_shownNow 4 = .ok (.iconst 2, 1) := by decide +kernel
theorem dX3_shownNow_5 : decode cX3_shownNow 5 = .ok (.iaload, 1) := by decide +kernel
theorem dX3_shownNow_6 : decode cX3_shownNow 6 = .ok (.ifCond .ne 8, 3) := by decide +kernel
theorem dX3_shownNow_9 : decode cX3_shownNow 9 = .ok (.bipush (-5), 2) := by decide +kernel
theorem dX3_shownNow_11 : decode cX3_shownNow 11 = .ok (.goto 19, 3) := by decide +kernel
theorem dX3_shownNow_14 : decode cX3_shownNow 14 = .ok (.aload_n 0, 1) := by decide +kernel
theorem dX3_shownNow_15 : decode cX3_shownNow 15 = .ok (.aload_n 0, 1) := by decide +kernel
theorem dX3_shownNow_16 : decode cX3_shownNow 16 = .ok (.getfield 7, 3) := by decide +kernel
theorem dX3_shownNow_19 : decode cX3_shownNow 19 = .ok (.iconst 0, 1) := by decide +kernel
theorem dX3_shownNow_20 : decode cX3_shownNow 20 = .ok (.iaload, 1) := by decide +kernel
theorem dX3_shownNow_21 : decode cX3_shownNow 21 = .ok (.aload_n 0, 1) := by decide +kernel
theorem dX3_shownNow_22 : decode cX3_shownNow 22 = .ok (.getfield 7, 3) := by decide +kernel
theorem dX3_shownNow_25 : decode cX3_shownNow 25 = .ok (.iconst 3, 1) := by decide +kernel
theorem dX3_shownNow_26 : decode cX3_shownNow 26 = .ok (.iaload, 1) := by decide +kernel
theorem dX3_shownNow_27 : decode cX3_shownNow 27 = .ok (.invokevirtual 120, 3) := by decide +kernel
theorem dX3_shownNow_30 : decode cX3_shownNow 30 = .ok (.ireturn, 1) := by decide +kernel
set_option maxRecDepth 20000 in
theorem ggX3_enter_X3_in : GoodIn wsX3_enter wsX3_in := goodIn_r _ [5] (by decide +kernel) (by decide +kernel)
set_option maxRecDepth 20000 in
theorem gX3_enter_X3_in : GoodIn wsX3_enter (va_wsS RX3 43 yX3_in wsX3_in) := goodIn_app (goodIn_of _ (by decide +kernel)) ggX3_enter_X3_in
set_option maxRecDepth 20000 in
theorem ggX3_enter_X3_know : GoodIn wsX3_enter wsX3_know := goodIn_r _ [9, 10, 11, 1, 30, 31, 32, 33, 34, 35, 36, 37, 38, 39, 40, 41, 42, 43] (by decide +kernel) (by decide +kernel)
set_option maxRecDepth 20000 in
theorem gX3_enter_X3_know : GoodIn wsX3_enter (wsV RX3 71 RX3 yX3_know wsX3_know) := goodIn_app (goodIn_of _ (by decide +kernel)) ggX3_enter_X3_know
set_option maxRecDepth 20000 in
theorem ggX3_enter_X3_shownNow : GoodIn wsX3_enter wsX3_shownNow := goodIn_r _ [15, 1, 16, 17, 18, 4, 19, 20, 21, 22, 23, 24, 25, 26, 27, 28, 29, 30, 31, 32, 33, 34, 35, 36, 37, 38, 39, 40, 41, 42, 43] (by decide +kernel) (by decide +kernel)
set_option maxRecDepth 20000 in
theorem gX3_enter_X3_shownNow : GoodIn wsX3_enter (wsV RX3 123 RX3 yX3_shownNow wsX3_shownNow) := goodIn_app (goodIn_of _ (by decide +kernel)) ggX3_enter_X3_shownNow
theorem dX3_enter_0 : decode cX3_enter 0 = .ok (.iload_n 1, 1) := by decide +kernel
theorem dX3_enter_1 : decode cX3_enter 1 = .ok (.iconst 4, 1) := by decide +kernel
theorem dX3_enter_2 : decode cX3_enter 2 = .ok (.bipush 99, 2) := by decide +kernel
theorem dX3_enter_4 : decode cX3_enter 4 = .ok (.invokestatic 43, 3) := by decide +kernel
theorem dX3_enter_7 : decode cX3_enter 7 = .ok (.ifCond .eq 26, 3) := by decide +kernel
theorem dX3_enter_10 : decode cX3_enter 10 = .ok (.iload_n 2, 1) := by decide +kernel
theorem dX3_enter_11 : decode cX3_enter 11 = .ok (.bipush 30, 2) := by decide +kernel
theorem dX3_enter_13 : decode cX3_enter 13 = .ok (.sipush 400, 3) := by decide +kernel
theorem dX3_enter_16 : decode cX3_enter 16 = .ok (.invokestatic 43, 3) := by decide +kernel
theorem dX3_enter_19 : decode cX3_enter 19 = .ok (.ifCond .eq 14, 3) := by decide +kernel
theorem dX3_enter_22 : decode cX3_enter 22 = .ok (.iload_n 3, 1) := by decide +kernel
theorem dX3_enter_23 : decode cX3_enter 23 = .ok (.iconst 1, 1) := by decide +kernel
theorem dX3_enter_24 : decode cX3_enter 24 = .ok (.sipush 9999, 3) := by decide +kernel
theorem dX3_enter_27 : decode cX3_enter 27 = .ok (.invokestatic 43, 3) := by decide +kernel
theorem dX3_enter_30 : decode cX3_enter 30 = .ok (.ifCond .ne 6, 3) := by decide +kernel
theorem dX3_enter_33 : decode cX3_enter 33 = .ok (.bipush (-2), 2) := by decide +kernel
theorem dX3_enter_35 : decode cX3_enter 35 = .ok (.ireturn, 1) := by decide +kernel
theorem dX3_enter_36 : decode cX3_enter 36 = .ok (.aload_n 0, 1) := by decide +kernel
theorem dX3_enter_37 : decode cX3_enter 37 = .ok (.invokevirtual 71, 3) := by decide +kernel
theorem dX3_enter_40 : decode cX3_enter 40 = .ok (.aload_n 0, 1) := by decide +kernel
theorem dX3_enter_41 : decode cX3_enter 41 = .ok (.getfield 7, 3) := by decide +kernel
theorem dX3_enter_44 : decode cX3_enter 44 = .ok (.iconst 2, 1) := by decide +kernel
theorem dX3_enter_45 : decode cX3_enter 45 = .ok (.iconst 1, 1) := by decide +kernel
theorem dX3_enter_46 : decode cX3_enter 46 = .ok (.iastore, 1) := by decide +kernel
theorem dX3_enter_47 : decode cX3_enter 47 = .ok (.aload_n 0, 1) := by decide +kernel
theorem dX3_enter_48 : decode cX3_enter 48 = .ok (.getfield 7, 3) := by decide +kernel
theorem dX3_enter_51 : decode cX3_enter 51 = .ok (.iconst 3, 1) := by decide +kernel
theorem dX3_enter_52 : decode cX3_enter 52 = .ok (.iload_n 1, 1) := by decide +kernel
theorem dX3_enter_53 : decode cX3_enter 53 = .ok (.iastore, 1) := by decide +kernel
theorem dX3_enter_54 : decode cX3_enter 54 = .ok (.aload_n 0, 1) := by decide +kernel
theorem dX3_enter_55 : decode cX3_enter 55 = .ok (.getfield 7, 3) := by decide +kernel
theorem dX3_enter_58 : decode cX3_enter 58 = .ok (.iconst 4, 1) := by decide +kernel
theorem dX3_enter_59 : decode cX3_enter 59 = .ok (.iload_n 2, 1) := by decide +kernel
theorem dX3_enter_60 : decode cX3_enter 60 = .ok (.iastore, 1) := by decide +kernel
theorem dX3_enter_61 : decode cX3_enter 61 = .ok (.aload_n 0, 1) := by decide +kernel
theorem dX3_enter_62 : decode cX3_enter 62 = .ok (.getfield 7, 3) := by decide +kernel
theorem dX3_enter_65 : decode cX3_enter 65 = .ok (.iconst 5, 1) := by decide +kernel
theorem dX3_enter_66 : decode cX3_enter 66 = .ok (.iload_n 3, 1) := by decide +kernel
theorem dX3_enter_67 : decode cX3_enter 67 = .ok (.iastore, 1) := by decide +kernel
theorem dX3_enter_68 : decode cX3_enter 68 = .ok (.aload_n 0, 1) := by decide +kernel
theorem dX3_enter_69 : decode cX3_enter 69 = .ok (.getfield 7, 3) := by decide +kernel
theorem dX3_enter_72 : decode cX3_enter 72 = .ok (.bipush 6, 2) := by decide +kernel
theorem dX3_enter_74 : decode cX3_enter 74 = .ok (.iconst 0, 1) := by decide +kernel
theorem dX3_enter_75 : decode cX3_enter 75 = .ok (.iastore, 1) := by decide +kernel
theorem dX3_enter_76 : decode cX3_enter 76 = .ok (.aload_n 0, 1) := by decide +kernel
theorem dX3_enter_77 : decode cX3_enter 77 = .ok (.getfield 7, 3) := by decide +kernel
theorem dX3_enter_80 : decode cX3_enter 80 = .ok (.bipush 7, 2) := by decide +kernel
theorem dX3_enter_82 : decode cX3_enter 82 = .ok (.dup2, 1) := by decide +kernel
theorem dX3_enter_83 : decode cX3_enter 83 = .ok (.iaload, 1) := by decide +kernel
theorem dX3_enter_84 : decode cX3_enter 84 = .ok (.iconst 1, 1) := by decide +kernel
theorem dX3_enter_85 : decode cX3_enter 85 = .ok (.iadd, 1) := by decide +kernel
theorem dX3_enter_86 : decode cX3_enter 86 = .ok (.iastore, 1) := by decide +kernel
theorem dX3_enter_87 : decode cX3_enter 87 = .ok (.aload_n 0, 1) := by decide +kernel
theorem dX3_enter_88 : decode cX3_enter 88 = .ok (.invokevirtual 123, 3) := by decide +kernel
theorem dX3_enter_91 : decode cX3_enter 91 = .ok (.bipush (-5), 2) := by decide +kernel
theorem dX3_enter_93 : decode cX3_enter 93 = .ok (.if_icmp .ne 8, 3) := by decide +kernel
theorem dX3_enter_96 : decode cX3_enter 96 = .ok (.bipush 9, 2) := by decide +kernel
theorem dX3_enter_98 : decode cX3_enter 98 = .ok (.goto 7, 3) := by decide +kernel
theorem dX3_enter_101 : decode cX3_enter 101 = .ok (.aload_n 0, 1) := by decide +kernel
theorem dX3_enter_102 : decode cX3_enter 102 = .ok (.invokevirtual 123, 3) := by decide +kernel
theorem dX3_enter_105 : decode cX3_enter 105 = .ok (.ireturn, 1) := by decide +kernel
set_option maxRecDepth 20000 in
theorem ggX3_canRead_X3_of : GoodIn wsX3_canRead wsX3_of := goodIn_r _ [5, 6, 7, 4, 8] (by decide +kernel) (by decide +kernel)
set_option maxRecDepth 20000 in
theorem gX3_canRead_X3_of : GoodIn wsX3_canRead (va_wsS RX3 39 yX3_of wsX3_of) := goodIn_app (goodIn_of _ (by decide +kernel)) ggX3_canRead_X3_of
set_option maxRecDepth 20000 in
theorem ggX3_canRead_X3_seconds : GoodIn wsX3_canRead wsX3_seconds := goodIn_r _ [11] (by decide +kernel) (by decide +kernel)
set_option maxRecDepth 20000 in
theorem gX3_canRead_X3_seconds : GoodIn wsX3_canRead (va_wsS RX3 126 yX3_seconds wsX3_seconds) := goodIn_app (goodIn_of _ (by decide +kernel)) ggX3_canRead_X3_seconds
theorem dX3_canRead_0 : decode cX3_canRead 0 = .ok (.aload_n 0, 1) := by decide +kernel
theorem dX3_canRead_1 : decode cX3_canRead 1 = .ok (.getfield 7, 3) := by decide +kernel
theorem dX3_canRead_4 : decode cX3_canRead 4 = .ok (.aload_n 0, 1) := by decide +kernel
theorem dX3_canRead_5 : decode cX3_canRead 5 = .ok (.getfield 7, 3) := by decide +kernel
theorem dX3_canRead_8 : decode cX3_canRead 8 = .ok (.iconst 0, 1) := by decide +kernel
theorem dX3_canRead_9 : decode cX3_canRead 9 = .ok (.iaload, 1) := by decide +kernel
theorem dX3_canRead_10 : decode cX3_canRead 10 = .ok (.iload_n 1, 1) := by decide +kernel
theorem dX3_canRead_11 : decode cX3_canRead 11 = .ok (.iconst 3, 1) := by decide +kernel
theorem dX3_canRead_12 : decode cX3_canRead 12 = .ok (.invokestatic 39, 3) := by decide +kernel
theorem dX3_canRead_15 : decode cX3_canRead 15 = .ok (.iaload, 1) := by decide +kernel
theorem dX3_canRead_16 : decode cX3_canRead 16 = .ok (.aload_n 0, 1) := by decide +kernel
theorem dX3_canRead_17 : decode cX3_canRead 17 = .ok (.getfield 7, 3) := by decide +kernel
theorem dX3_canRead_20 : decode cX3_canRead 20 = .ok (.bipush 6, 2) := by decide +kernel
theorem dX3_canRead_22 : decode cX3_canRead 22 = .ok (.iaload, 1) := by decide +kernel
theorem dX3_canRead_23 : decode cX3_canRead 23 = .ok (.iconst (-1), 1) := by decide +kernel
theorem dX3_canRead_24 : decode cX3_canRead 24 = .ok (.ixor, 1) := by decide +kernel
theorem dX3_canRead_25 : decode cX3_canRead 25 = .ok (.iand, 1) := by decide +kernel
theorem dX3_canRead_26 : decode cX3_canRead 26 = .ok (.ifCond .eq 7, 3) := by decide +kernel
theorem dX3_canRead_29 : decode cX3_canRead 29 = .ok (.iconst 1, 1) := by decide +kernel
theorem dX3_canRead_30 : decode cX3_canRead 30 = .ok (.goto 4, 3) := by decide +kernel
theorem dX3_canRead_33 : decode cX3_canRead 33 = .ok (.iconst 0, 1) := by decide +kernel
theorem dX3_canRead_34 : decode cX3_canRead 34 = .ok (.istore_n 2, 1) := by decide +kernel
theorem dX3_canRead_35 : decode cX3_canRead 35 = .ok (.iload_n 2, 1) := by decide +kernel
theorem dX3_canRead_36 : decode cX3_canRead 36 = .ok (.ifCond .eq 41, 3) := by decide +kernel
theorem dX3_canRead_39 : decode cX3_canRead 39 = .ok (.aload_n 0, 1) := by decide +kernel
theorem dX3_canRead_40 : decode cX3_canRead 40 = .ok (.getfield 7, 3) := by decide +kernel
theorem dX3_canRead_43 : decode cX3_canRead 43 = .ok (.aload_n 0, 1) := by decide +kernel
theorem dX3_canRead_44 : decode cX3_canRead 44 = .ok (.getfield 7, 3) := by decide +kernel
theorem dX3_canRead_47 : decode cX3_canRead 47 = .ok (.iconst 0, 1) := by decide +kernel
theorem dX3_canRead_48 : decode cX3_canRead 48 = .ok (.iaload, 1) := by decide +kernel
theorem dX3_canRead_49 : decode cX3_canRead 49 = .ok (.iload_n 1, 1) := by decide +kernel
theorem dX3_canRead_50 : decode cX3_canRead 50 = .ok (.iconst 0, 1) := by decide +kernel
theorem dX3_canRead_51 : decode cX3_canRead 51 = .ok (.invokestatic 39, 3) := by decide +kernel
theorem dX3_canRead_54 : decode cX3_canRead 54 = .ok (.iaload, 1) := by decide +kernel
theorem dX3_canRead_55 : decode cX3_canRead 55 = .ok (.aload_n 0, 1) := by decide +kernel
theorem dX3_canRead_56 : decode cX3_canRead 56 = .ok (.getfield 7, 3) := by decide +kernel
theorem dX3_canRead_59 : decode cX3_canRead 59 = .ok (.iconst 4, 1) := by decide +kernel
theorem dX3_canRead_60 : decode cX3_canRead 60 = .ok (.iaload, 1) := by decide +kernel
theorem dX3_canRead_61 : decode cX3_canRead 61 = .ok (.invokestatic 126, 3) := by decide +kernel
theorem dX3_canRead_64 : decode cX3_canRead 64 = .ok (.aload_n 0, 1) := by decide +kernel
theorem dX3_canRead_65 : decode cX3_canRead 65 = .ok (.getfield 7, 3) := by decide +kernel
theorem dX3_canRead_68 : decode cX3_canRead 68 = .ok (.iconst 5, 1) := by decide +kernel
theorem dX3_canRead_69 : decode cX3_canRead 69 = .ok (.iaload, 1) := by decide +kernel
theorem dX3_canRead_70 : decode cX3_canRead 70 = .ok (.if_icmp .gt 7, 3) := by decide +kernel
theorem dX3_canRead_73 : decode cX3_canRead 73 = .ok (.iconst 1, 1) := by decide +kernel
theorem dX3_canRead_74 : decode cX3_canRead 74 = .ok (.goto 4, 3) := by decide +kernel
theorem dX3_canRead_77 : decode cX3_canRead 77 = .ok (.iconst 0, 1) := by decide +kernel
theorem dX3_canRead_78 : decode cX3_canRead 78 = .ok (.ireturn, 1) := by decide +kernel
set_option maxRecDepth 20000 in
theorem ggX3_reads_X3_of : GoodIn wsX3_reads wsX3_of := goodIn_r _ [5, 6, 7, 4, 8] (by decide +kernel) (by decide +kernel)
set_option maxRecDepth 20000 in
theorem gX3_reads_X3_of : GoodIn wsX3_reads (va_wsS RX3 39 yX3_of wsX3_of) := goodIn_app (goodIn_of _ (by decide +kernel)) ggX3_reads_X3_of
set_option maxRecDepth 20000 in
theorem ggX3_reads_X3_seconds : GoodIn wsX3_reads wsX3_seconds := goodIn_r _ [11] (by decide +kernel) (by decide +kernel)
set_option maxRecDepth 20000 in
theorem gX3_reads_X3_seconds : GoodIn wsX3_reads (va_wsS RX3 126 yX3_seconds wsX3_seconds) := goodIn_app (goodIn_of _ (by decide +kernel)) ggX3_reads_X3_seconds
theorem dX3_reads_0 : decode cX3_reads 0 = .ok (.aload_n 0, 1) := by decide +kernel
theorem dX3_reads_1 : decode cX3_reads 1 = .ok (.getfield 7, 3) := by decide +kernel
theorem dX3_reads_4 : decode cX3_reads 4 = .ok (.iconst 5, 1) := by decide +kernel
theorem dX3_reads_5 : decode cX3_reads 5 = .ok (.dup2, 1) := by decide +kernel
theorem dX3_reads_6 : decode cX3_reads 6 = .ok (.iaload, 1) := by decide +kernel
theorem dX3_reads_7 : decode cX3_reads 7 = .ok (.aload_n 0, 1) := by decide +kernel
theorem dX3_reads_8 : decode cX3_reads 8 = .ok (.getfield 7, 3) := by decide +kernel
theorem dX3_reads_11 : decode cX3_reads 11 = .ok (.aload_n 0, 1) := by decide +kernel
theorem dX3_reads_12 : decode cX3_reads 12 = .ok (.getfield 7, 3) := by decide +kernel
theorem dX3_reads_15 : decode cX3_reads 15 = .ok (.iconst 0, 1) := by decide +kernel
theorem dX3_reads_16 : decode cX3_reads 16 = .ok (.iaload, 1) := by decide +kernel
theorem dX3_reads_17 : decode cX3_reads 17 = .ok (.iload_n 1, 1) := by decide +kernel
theorem dX3_reads_18 : decode cX3_reads 18 = .ok (.iconst 0, 1) := by decide +kernel
theorem dX3_reads_19 : decode cX3_reads 19 = .ok (.invokestatic 39, 3) := by decide +kernel
theorem dX3_reads_22 : decode cX3_reads 22 = .ok (.iaload, 1) := by decide +kernel
theorem dX3_reads_23 : decode cX3_reads 23 = .ok (.aload_n 0, 1) := by decide +kernel
theorem dX3_reads_24 : decode cX3_reads 24 = .ok (.getfield 7, 3) := by decide +kernel
theorem dX3_reads_27 : decode cX3_reads 27 = .ok (.iconst 4, 1) := by decide +kernel
theorem dX3_reads_28 : decode cX3_reads 28 = .ok (.iaload, 1) := by decide +kernel
theorem dX3_reads_29 : decode cX3_reads 29 = .ok (.invokestatic 126, 3) := by decide +kernel
theorem dX3_reads_32 : decode cX3_reads 32 = .ok (.isub, 1) := by decide +kernel
theorem dX3_reads_33 : decode cX3_reads 33 = .ok (.iastore, 1) := by decide +kernel
theorem dX3_reads_34 : decode cX3_reads 34 = .ok (.aload_n 0, 1) := by decide +kernel
theorem dX3_reads_35 : decode cX3_reads 35 = .ok (.getfield 7, 3) := by decide +kernel
theorem dX3_reads_38 : decode cX3_reads 38 = .ok (.bipush 6, 2) := by decide +kernel
theorem dX3_reads_40 : decode cX3_reads 40 = .ok (.dup2, 1) := by decide +kernel
theorem dX3_reads_41 : decode cX3_reads 41 = .ok (.iaload, 1) := by decide +kernel
theorem dX3_reads_42 : decode cX3_reads 42 = .ok (.aload_n 0, 1) := by decide +kernel
theorem dX3_reads_43 : decode cX3_reads 43 = .ok (.getfield 7, 3) := by decide +kernel
theorem dX3_reads_46 : decode cX3_reads 46 = .ok (.aload_n 0, 1) := by decide +kernel
theorem dX3_reads_47 : decode cX3_reads 47 = .ok (.getfield 7, 3) := by decide +kernel
theorem dX3_reads_50 : decode cX3_reads 50 = .ok (.iconst 0, 1) := by decide +kernel
theorem dX3_reads_51 : decode cX3_reads 51 = .ok (.iaload, 1) := by decide +kernel
theorem dX3_reads_52 : decode cX3_reads 52 = .ok (.iload_n 1, 1) := by decide +kernel
theorem dX3_reads_53 : decode cX3_reads 53 = .ok (.iconst 3, 1) := by decide +kernel
theorem dX3_reads_54 : decode cX3_reads 54 = .ok (.invokestatic 39, 3) := by decide +kernel
theorem dX3_reads_57 : decode cX3_reads 57 = .ok (.iaload, 1) := by decide +kernel
theorem dX3_reads_58 : decode cX3_reads 58 = .ok (.ior, 1) := by decide +kernel
theorem dX3_reads_59 : decode cX3_reads 59 = .ok (.iastore, 1) := by decide +kernel
theorem dX3_reads_60 : decode cX3_reads 60 = .ok (.aload_n 0, 1) := by decide +kernel
theorem dX3_reads_61 : decode cX3_reads 61 = .ok (.getfield 7, 3) := by decide +kernel
theorem dX3_reads_64 : decode cX3_reads 64 = .ok (.aload_n 0, 1) := by decide +kernel
theorem dX3_reads_65 : decode cX3_reads 65 = .ok (.getfield 7, 3) := by decide +kernel
theorem dX3_reads_68 : decode cX3_reads 68 = .ok (.iconst 0, 1) := by decide +kernel
theorem dX3_reads_69 : decode cX3_reads 69 = .ok (.iaload, 1) := by decide +kernel
theorem dX3_reads_70 : decode cX3_reads 70 = .ok (.iload_n 1, 1) := by decide +kernel
theorem dX3_reads_71 : decode cX3_reads 71 = .ok (.iconst 4, 1) := by decide +kernel
theorem dX3_reads_72 : decode cX3_reads 72 = .ok (.invokestatic 39, 3) := by decide +kernel
theorem dX3_reads_75 : decode cX3_reads 75 = .ok (.dup2, 1) := by decide +kernel
theorem dX3_reads_76 : decode cX3_reads 76 = .ok (.iaload, 1) := by decide +kernel
theorem dX3_reads_77 : decode cX3_reads 77 = .ok (.iconst 1, 1) := by decide +kernel
theorem dX3_reads_78 : decode cX3_reads 78 = .ok (.iadd, 1) := by decide +kernel
theorem dX3_reads_79 : decode cX3_reads 79 = .ok (.iastore, 1) := by decide +kernel
theorem dX3_reads_80 : decode cX3_reads 80 = .ok (.aload_n 0, 1) := by decide +kernel
theorem dX3_reads_81 : decode cX3_reads 81 = .ok (.getfield 7, 3) := by decide +kernel
theorem dX3_reads_84 : decode cX3_reads 84 = .ok (.bipush 8, 2) := by decide +kernel
theorem dX3_reads_86 : decode cX3_reads 86 = .ok (.dup2, 1) := by decide +kernel
theorem dX3_reads_87 : decode cX3_reads 87 = .ok (.iaload, 1) := by decide +kernel
theorem dX3_reads_88 : decode cX3_reads 88 = .ok (.iconst 1, 1) := by decide +kernel
theorem dX3_reads_89 : decode cX3_reads 89 = .ok (.iadd, 1) := by decide +kernel
theorem dX3_reads_90 : decode cX3_reads 90 = .ok (.iastore, 1) := by decide +kernel
theorem dX3_reads_91 : decode cX3_reads 91 = .ok (.return_, 1) := by decide +kernel
set_option maxRecDepth 20000 in
theorem ggX3_touch_X3_shownNow : GoodIn wsX3_touch wsX3_shownNow := goodIn_r _ [6, 1, 7, 8, 9, 5, 10, 11, 12, 13, 14, 15, 16, 17, 18, 19, 20, 58, 59, 60, 61, 62, 63, 64, 65, 66, 67, 68, 69, 70, 71] (by decide +kernel) (by decide +kernel)
set_option maxRecDepth 20000 in
theorem gX3_touch_X3_shownNow : GoodIn wsX3_touch (wsV RX3 123 RX3 yX3_shownNow wsX3_shownNow) := goodIn_app (goodIn_of _ (by decide +kernel)) ggX3_touch_X3_shownNow
set_option maxRecDepth 20000 in
theorem ggX3_touch_X3_isCaption : GoodIn wsX3_touch wsX3_isCaption := goodIn_r _ [24, 1, 25, 26, 27, 5, 28, 29, 30, 31, 32, 33, 34, 11, 12, 13, 18, 19, 20, 58, 59, 60, 61, 62, 63, 64, 65, 66, 67, 68, 69, 70, 71] (by decide +kernel) (by decide +kernel)
set_option maxRecDepth 20000 in
theorem gX3_touch_X3_isCaption : GoodIn wsX3_touch (wsV RX3 129 RX3 yX3_isCaption wsX3_isCaption) := goodIn_app (goodIn_of _ (by decide +kernel)) ggX3_touch_X3_isCaption
set_option maxRecDepth 20000 in
theorem ggX3_touch_X3_ofCaption : GoodIn wsX3_touch wsX3_ofCaption := goodIn_r _ [37, 18, 19, 5, 20, 11, 12, 13] (by decide +kernel) (by decide +kernel)
set_option maxRecDepth 20000 in
theorem gX3_touch_X3_ofCaption : GoodIn wsX3_touch (va_wsS RX3 63 yX3_ofCaption wsX3_ofCaption) := goodIn_app (goodIn_of _ (by decide +kernel)) ggX3_touch_X3_ofCaption
set_option maxRecDepth 20000 in
theorem ggX3_touch_X3_seconds : GoodIn wsX3_touch wsX3_seconds := goodIn_r _ [40] (by decide +kernel) (by decide +kernel)
set_option maxRecDepth 20000 in
theorem gX3_touch_X3_seconds : GoodIn wsX3_touch (va_wsS RX3 126 yX3_seconds wsX3_seconds) := goodIn_app (goodIn_of _ (by decide +kernel)) ggX3_touch_X3_seconds
set_option maxRecDepth 20000 in
theorem ggX3_touch_X3_know : GoodIn wsX3_touch wsX3_know := goodIn_r _ [44, 45, 46, 1, 58, 59, 60, 61, 62, 63, 64, 65, 66, 67, 68, 69, 70, 71] (by decide +kernel) (by decide +kernel)
set_option maxRecDepth 20000 in
theorem gX3_touch_X3_know : GoodIn wsX3_touch (wsV RX3 71 RX3 yX3_know wsX3_know) := goodIn_app (goodIn_of _ (by decide +kernel)) ggX3_touch_X3_know
set_option maxRecDepth 20000 in
theorem ggX3_touch_X3_bitsOf : GoodIn wsX3_touch wsX3_bitsOf := goodIn_r _ [49] (by decide +kernel) (by decide +kernel)
set_option maxRecDepth 20000 in
theorem gX3_touch_X3_bitsOf : GoodIn wsX3_touch (va_wsS RX3 132 yX3_bitsOf wsX3_bitsOf) := goodIn_app (goodIn_of _ (by decide +kernel)) ggX3_touch_X3_bitsOf
set_option maxRecDepth 20000 in
theorem ggX3_touch_X3_canRead : GoodIn wsX3_touch wsX3_canRead := goodIn_r _ [53, 1, 18, 19, 5, 20, 11, 12, 13, 38, 39, 40, 58, 59, 60, 61, 62, 63, 64, 65, 66, 67, 68, 69, 70, 71] (by decide +kernel) (by decide +kernel)
set_option maxRecDepth 20000 in
theorem gX3_touch_X3_canRead : GoodIn wsX3_touch (wsV RX3 135 RX3 yX3_canRead wsX3_canRead) := goodIn_app (goodIn_of _ (by decide +kernel)) ggX3_touch_X3_canRead
set_option maxRecDepth 20000 in
theorem ggX3_touch_X3_reads : GoodIn wsX3_touch wsX3_reads := goodIn_r _ [57, 1, 18, 19, 5, 20, 11, 12, 13, 38, 39, 40, 58, 59, 60, 61, 62, 63, 64, 65, 66, 67, 68, 69, 70, 71] (by decide +kernel) (by decide +kernel)
set_option maxRecDepth 20000 in
theorem gX3_touch_X3_reads : GoodIn wsX3_touch (wsV RX3 138 RX3 yX3_reads wsX3_reads) := goodIn_app (goodIn_of _ (by decide +kernel)) ggX3_touch_X3_reads
theorem dX3_touch_0 : decode cX3_touch 0 = .ok (.aload_n 0, 1) := by decide +kernel
theorem dX3_touch_1 : decode cX3_touch 1 = .ok (.invokevirtual 123, 3) := by decide +kernel
theorem dX3_touch_4 : decode cX3_touch 4 = .ok (.istore_n 2, 1) := by decide +kernel
theorem dX3_touch_5 : decode cX3_touch 5 = .ok (.iload_n 2, 1) := by decide +kernel
theorem dX3_touch_6 : decode cX3_touch 6 = .ok (.bipush (-5), 2) := by decide +kernel
theorem dX3_touch_8 : decode cX3_touch 8 = .ok (.if_icmp .ne 6, 3) := by decide +kernel
theorem dX3_touch_11 : decode cX3_touch 11 = .ok (.bipush (-4), 2) := by decide +kernel
theorem dX3_touch_13 : decode cX3_touch 13 = .ok (.ireturn, 1) := by decide +kernel
theorem dX3_touch_14 : decode cX3_touch 14 = .ok (.aload_n 0, 1) := by decide +kernel
theorem dX3_touch_15 : decode cX3_touch 15 = .ok (.aload_n 0, 1) := by decide +kernel
theorem dX3_touch_16 : decode cX3_touch 16 = .ok (.getfield 7, 3) := by decide +kernel
theorem dX3_touch_19 : decode cX3_touch 19 = .ok (.iconst 0, 1) := by decide +kernel
theorem dX3_touch_20 : decode cX3_touch 20 = .ok (.iaload, 1) := by decide +kernel
theorem dX3_touch_21 : decode cX3_touch 21 = .ok (.iload_n 2, 1) := by decide +kernel
theorem dX3_touch_22 : decode cX3_touch 22 = .ok (.iload_n 1, 1) := by decide +kernel
theorem dX3_touch_23 : decode cX3_touch 23 = .ok (.invokevirtual 129, 3) := by decide +kernel
theorem dX3_touch_26 : decode cX3_touch 26 = .ok (.ifCond .ne 5, 3) := by decide +kernel
theorem dX3_touch_29 : decode cX3_touch 29 = .ok (.iconst (-1), 1) := by decide +kernel
theorem dX3_touch_30 : decode cX3_touch 30 = .ok (.ireturn, 1) := by decide +kernel
theorem dX3_touch_31 : decode cX3_touch 31 = .ok (.aload_n 0, 1) := by decide +kernel
theorem dX3_touch_32 : decode cX3_touch 32 = .ok (.getfield 7, 3) := by decide +kernel
theorem dX3_touch_35 : decode cX3_touch 35 = .ok (.aload_n 0, 1) := by decide +kernel
theorem dX3_touch_36 : decode cX3_touch 36 = .ok (.getfield 7, 3) := by decide +kernel
theorem dX3_touch_39 : decode cX3_touch 39 = .ok (.iconst 0, 1) := by decide +kernel
theorem dX3_touch_40 : decode cX3_touch 40 = .ok (.iaload, 1) := by decide +kernel
theorem dX3_touch_41 : decode cX3_touch 41 = .ok (.iload_n 2, 1) := by decide +kernel
theorem dX3_touch_42 : decode cX3_touch 42 = .ok (.iload_n 1, 1) := by decide +kernel
theorem dX3_touch_43 : decode cX3_touch 43 = .ok (.iconst 0, 1) := by decide +kernel
theorem dX3_touch_44 : decode cX3_touch 44 = .ok (.invokestatic 63, 3) := by decide +kernel
theorem dX3_touch_47 : decode cX3_touch 47 = .ok (.iaload, 1) := by decide +kernel
theorem dX3_touch_48 : decode cX3_touch 48 = .ok (.aload_n 0, 1) := by decide +kernel
theorem dX3_touch_49 : decode cX3_touch 49 = .ok (.getfield 7, 3) := by decide +kernel
theorem dX3_touch_52 : decode cX3_touch 52 = .ok (.iconst 4, 1) := by decide +kernel
theorem dX3_touch_53 : decode cX3_touch 53 = .ok (.iaload, 1) := by decide +kernel
theorem dX3_touch_54 : decode cX3_touch 54 = .ok (.invokestatic 126, 3) := by decide +kernel
theorem dX3_touch_57 : decode cX3_touch 57 = .ok (.istore_n 3, 1) := by decide +kernel
theorem dX3_touch_58 : decode cX3_touch 58 = .ok (.iload_n 3, 1) := by decide +kernel
theorem dX3_touch_59 : decode cX3_touch 59 = .ok (.aload_n 0, 1) := by decide +kernel
theorem dX3_touch_60 : decode cX3_touch 60 = .ok (.getfield 7, 3) := by decide +kernel
theorem dX3_touch_63 : decode cX3_touch 63 = .ok (.iconst 5, 1) := by decide +kernel
theorem dX3_touch_64 : decode cX3_touch 64 = .ok (.iaload, 1) := by decide +kernel
theorem dX3_touch_65 : decode cX3_touch 65 = .ok (.if_icmp .le 6, 3) := by decide +kernel
theorem dX3_touch_68 : decode cX3_touch 68 = .ok (.bipush (-5), 2) := by decide +kernel
theorem dX3_touch_70 : decode cX3_touch 70 = .ok (.ireturn, 1) := by decide +kernel
theorem dX3_touch_71 : decode cX3_touch 71 = .ok (.aload_n 0, 1) := by decide +kernel
theorem dX3_touch_72 : decode cX3_touch 72 = .ok (.invokevirtual 71, 3) := by decide +kernel
theorem dX3_touch_75 : decode cX3_touch 75 = .ok (.aload_n 0, 1) := by decide +kernel
theorem dX3_touch_76 : decode cX3_touch 76 = .ok (.getfield 7, 3) := by decide +kernel
theorem dX3_touch_79 : decode cX3_touch 79 = .ok (.bipush 6, 2) := by decide +kernel
theorem dX3_touch_81 : decode cX3_touch 81 = .ok (.iaload, 1) := by decide +kernel
theorem dX3_touch_82 : decode cX3_touch 82 = .ok (.invokestatic 132, 3) := by decide +kernel
theorem dX3_touch_85 : decode cX3_touch 85 = .ok (.istore 4, 2) := by decide +kernel
theorem dX3_touch_87 : decode cX3_touch 87 = .ok (.aload_n 0, 1) := by decide +kernel
theorem dX3_touch_88 : decode cX3_touch 88 = .ok (.getfield 7, 3) := by decide +kernel
theorem dX3_touch_91 : decode cX3_touch 91 = .ok (.iconst 5, 1) := by decide +kernel
theorem dX3_touch_92 : decode cX3_touch 92 = .ok (.dup2, 1) := by decide +kernel
theorem dX3_touch_93 : decode cX3_touch 93 = .ok (.iaload, 1) := by decide +kernel
theorem dX3_touch_94 : decode cX3_touch 94 = .ok (.iload_n 3, 1) := by decide +kernel
theorem dX3_touch_95 : decode cX3_touch 95 = .ok (.isub, 1) := by decide +kernel
theorem dX3_touch_96 : decode cX3_touch 96 = .ok (.iastore, 1) := by decide +kernel
theorem dX3_touch_97 : decode cX3_touch 97 = .ok (.aload_n 0, 1) := by decide +kernel
theorem dX3_touch_98 : decode cX3_touch 98 = .ok (.getfield 7, 3) := by decide +kernel
theorem dX3_touch_101 : decode cX3_touch 101 = .ok (.bipush 6, 2) := by decide +kernel
theorem dX3_touch_103 : decode cX3_touch 103 = .ok (.dup2, 1) := by decide +kernel
theorem dX3_touch_104 : decode cX3_touch 104 = .ok (.iaload, 1) := by decide +kernel
theorem dX3_touch_105 : decode cX3_touch 105 = .ok (.aload_n 0, 1) := by decide +kernel
theorem dX3_touch_106 : decode cX3_touch 106 = .ok (.getfield 7, 3) := by decide +kernel
theorem dX3_touch_109 : decode cX3_touch 109 = .ok (.aload_n 0, 1) := by decide +kernel
theorem dX3_touch_110 : decode cX3_touch 110 = .ok (.getfield 7, 3) := by decide +kernel
theorem dX3_touch_113 : decode cX3_touch 113 = .ok (.iconst 0, 1) := by decide +kernel
theorem dX3_touch_114 : decode cX3_touch 114 = .ok (.iaload, 1) := by decide +kernel
theorem dX3_touch_115 : decode cX3_touch 115 = .ok (.iload_n 2, 1) := by decide +kernel
theorem dX3_touch_116 : decode cX3_touch 116 = .ok (.iload_n 1, 1) := by decide +kernel
theorem dX3_touch_117 : decode cX3_touch 117 = .ok (.iconst 1, 1) := by decide +kernel
theorem dX3_touch_118 : decode cX3_touch 118 = .ok (.invokestatic 63, 3) := by decide +kernel
theorem dX3_touch_121 : decode cX3_touch 121 = .ok (.iaload, 1) := by decide +kernel
theorem dX3_touch_122 : decode cX3_touch 122 = .ok (.ior, 1) := by decide +kernel
theorem dX3_touch_123 : decode cX3_touch 123 = .ok (.iastore, 1) := by decide +kernel
theorem dX3_touch_124 : decode cX3_touch 124 = .ok (.aload_n 0, 1) := by decide +kernel
theorem dX3_touch_125 : decode cX3_touch 125 = .ok (.getfield 7, 3) := by decide +kernel
theorem dX3_touch_128 : decode cX3_touch 128 = .ok (.aload_n 0, 1) := by decide +kernel
theorem dX3_touch_129 : decode cX3_touch 129 = .ok (.getfield 7, 3) := by decide +kernel
theorem dX3_touch_132 : decode cX3_touch 132 = .ok (.iconst 0, 1) := by decide +kernel
theorem dX3_touch_133 : decode cX3_touch 133 = .ok (.iaload, 1) := by decide +kernel
theorem dX3_touch_134 : decode cX3_touch 134 = .ok (.iload_n 2, 1) := by decide +kernel
theorem dX3_touch_135 : decode cX3_touch 135 = .ok (.iload_n 1, 1) := by decide +kernel
theorem dX3_touch_136 : decode cX3_touch 136 = .ok (.iconst 2, 1) := by decide +kernel
theorem dX3_touch_137 : decode cX3_touch 137 = .ok (.invokestatic 63, 3) := by decide +kernel
theorem dX3_touch_140 : decode cX3_touch 140 = .ok (.dup2, 1) := by decide +kernel
theorem dX3_touch_141 : decode cX3_touch 141 = .ok (.iaload, 1) := by decide +kernel
theorem dX3_touch_142 : decode cX3_touch 142 = .ok (.iconst 1, 1) := by decide +kernel
theorem dX3_touch_143 : decode cX3_touch 143 = .ok (.iadd, 1) := by decide +kernel
theorem dX3_touch_144 : decode cX3_touch 144 = .ok (.iastore, 1) := by decide +kernel
theorem dX3_touch_145 : decode cX3_touch 145 = .ok (.aload_n 0, 1) := by decide +kernel
theorem dX3_touch_146 : decode cX3_touch 146 = .ok (.getfield 7, 3) := by decide +kernel
theorem dX3_touch_149 : decode cX3_touch 149 = .ok (.bipush 9, 2) := by decide +kernel
theorem dX3_touch_151 : decode cX3_touch 151 = .ok (.dup2, 1) := by decide +kernel
theorem dX3_touch_152 : decode cX3_touch 152 = .ok (.iaload, 1) := by decide +kernel
theorem dX3_touch_153 : decode cX3_touch 153 = .ok (.iconst 1, 1) := by decide +kernel
theorem dX3_touch_154 : decode cX3_touch 154 = .ok (.iadd, 1) := by decide +kernel
theorem dX3_touch_155 : decode cX3_touch 155 = .ok (.iastore, 1) := by decide +kernel
theorem dX3_touch_156 : decode cX3_touch 156 = .ok (.aload_n 0, 1) := by decide +kernel
theorem dX3_touch_157 : decode cX3_touch 157 = .ok (.iload_n 2, 1) := by decide +kernel
theorem dX3_touch_158 : decode cX3_touch 158 = .ok (.invokevirtual 135, 3) := by decide +kernel
theorem dX3_touch_161 : decode cX3_touch 161 = .ok (.ifCond .eq 8, 3) := by decide +kernel
theorem dX3_touch_164 : decode cX3_touch 164 = .ok (.aload_n 0, 1) := by decide +kernel
theorem dX3_touch_165 : decode cX3_touch 165 = .ok (.iload_n 2, 1) := by decide +kernel
theorem dX3_touch_166 : decode cX3_touch 166 = .ok (.invokevirtual 138, 3) := by decide +kernel
theorem dX3_touch_169 : decode cX3_touch 169 = .ok (.aload_n 0, 1) := by decide +kernel
theorem dX3_touch_170 : decode cX3_touch 170 = .ok (.getfield 7, 3) := by decide +kernel
theorem dX3_touch_173 : decode cX3_touch 173 = .ok (.bipush 6, 2) := by decide +kernel
theorem dX3_touch_175 : decode cX3_touch 175 = .ok (.iaload, 1) := by decide +kernel
theorem dX3_touch_176 : decode cX3_touch 176 = .ok (.invokestatic 132, 3) := by decide +kernel
theorem dX3_touch_179 : decode cX3_touch 179 = .ok (.iload 4, 2) := by decide +kernel
theorem dX3_touch_181 : decode cX3_touch 181 = .ok (.isub, 1) := by decide +kernel
theorem dX3_touch_182 : decode cX3_touch 182 = .ok (.ireturn, 1) := by decide +kernel
set_option maxRecDepth 20000 in
theorem ggX3_read_X3_shownNow : GoodIn wsX3_read wsX3_shownNow := goodIn_r _ [6, 1, 7, 8, 9, 5, 10, 11, 12, 13, 14, 15, 16, 17, 18, 19, 20, 41, 42, 43, 44, 45, 46, 47, 48, 49, 50, 51, 52, 53, 54] (by decide +kernel) (by decide +kernel)
set_option maxRecDepth 20000 in
theorem gX3_read_X3_shownNow : GoodIn wsX3_read (wsV RX3 123 RX3 yX3_shownNow wsX3_shownNow) := goodIn_app (goodIn_of _ (by decide +kernel)) ggX3_read_X3_shownNow
set_option maxRecDepth 20000 in
theorem ggX3_read_X3_of : GoodIn wsX3_read wsX3_of := goodIn_r _ [20, 11, 12, 5, 13] (by decide +kernel) (by decide +kernel)
set_option maxRecDepth 20000 in
theorem gX3_read_X3_of : GoodIn wsX3_read (va_wsS RX3 39 yX3_of wsX3_of) := goodIn_app (goodIn_of _ (by decide +kernel)) ggX3_read_X3_of
set_option maxRecDepth 20000 in
theorem ggX3_read_X3_canRead : GoodIn wsX3_read wsX3_canRead := goodIn_r _ [24, 1, 18, 19, 5, 20, 11, 12, 13, 25, 26, 27, 41, 42, 43, 44, 45, 46, 47, 48, 49, 50, 51, 52, 53, 54] (by decide +kernel) (by decide +kernel)
set_option maxRecDepth 20000 in
theorem gX3_read_X3_canRead : GoodIn wsX3_read (wsV RX3 135 RX3 yX3_canRead wsX3_canRead) := goodIn_app (goodIn_of _ (by decide +kernel)) ggX3_read_X3_canRead
set_option maxRecDepth 20000 in
theorem ggX3_read_X3_know : GoodIn wsX3_read wsX3_know := goodIn_r _ [31, 32, 33, 1, 41, 42, 43, 44, 45, 46, 47, 48, 49, 50, 51, 52, 53, 54] (by decide +kernel) (by decide +kernel)
set_option maxRecDepth 20000 in
theorem gX3_read_X3_know : GoodIn wsX3_read (wsV RX3 71 RX3 yX3_know wsX3_know) := goodIn_app (goodIn_of _ (by decide +kernel)) ggX3_read_X3_know
set_option maxRecDepth 20000 in
theorem ggX3_read_X3_bitsOf : GoodIn wsX3_read wsX3_bitsOf := goodIn_r _ [36] (by decide +kernel) (by decide +kernel)
set_option maxRecDepth 20000 in
theorem gX3_read_X3_bitsOf : GoodIn wsX3_read (va_wsS RX3 132 yX3_bitsOf wsX3_bitsOf) := goodIn_app (goodIn_of _ (by decide +kernel)) ggX3_read_X3_bitsOf
set_option maxRecDepth 20000 in
theorem ggX3_read_X3_reads : GoodIn wsX3_read wsX3_reads := goodIn_r _ [40, 1, 18, 19, 5, 20, 11, 12, 13, 25, 26, 27, 41, 42, 43, 44, 45, 46, 47, 48, 49, 50, 51, 52, 53, 54] (by decide +kernel) (by decide +kernel)
set_option maxRecDepth 20000 in
theorem gX3_read_X3_reads : GoodIn wsX3_read (wsV RX3 138 RX3 yX3_reads wsX3_reads) := goodIn_app (goodIn_of _ (by decide +kernel)) ggX3_read_X3_reads
theorem dX3_read_0 : decode cX3_read 0 = .ok (.aload_n 0, 1) := by decide +kernel
theorem dX3_read_1 : decode cX3_read 1 = .ok (.invokevirtual 123, 3) := by decide +kernel
theorem dX3_read_4 : decode cX3_read 4 = .ok (.istore_n 1, 1) := by decide +kernel
theorem dX3_read_5 : decode cX3_read 5 = .ok (.iload_n 1, 1) := by decide +kernel
theorem dX3_read_6 : decode cX3_read 6 = .ok (.bipush (-5), 2) := by decide +kernel
theorem dX3_read_8 : decode cX3_read 8 = .ok (.if_icmp .eq 22, 3) := by decide +kernel
theorem dX3_read_11 : decode cX3_read 11 = .ok (.aload_n 0, 1) := by decide +kernel
theorem dX3_read_12 : decode cX3_read 12 = .ok (.getfield 7, 3) := by decide +kernel
theorem dX3_read_15 : decode cX3_read 15 = .ok (.aload_n 0, 1) := by decide +kernel
theorem dX3_read_16 : decode cX3_read 16 = .ok (.getfield 7, 3) := by decide +kernel
theorem dX3_read_19 : decode cX3_read 19 = .ok (.iconst 0, 1) := by decide +kernel
theorem dX3_read_20 : decode cX3_read 20 = .ok (.iaload, 1) := by decide +kernel
theorem dX3_read_21 : decode cX3_read 21 = .ok (.iload_n 1, 1) := by decide +kernel
theorem dX3_read_22 : decode cX3_read 22 = .ok (.iconst 5, 1) := by decide +kernel
theorem dX3_read_23 : decode cX3_read 23 = .ok (.invokestatic 39, 3) := by decide +kernel
theorem dX3_read_26 : decode cX3_read 26 = .ok (.iaload, 1) := by decide +kernel
theorem dX3_read_27 : decode cX3_read 27 = .ok (.ifCond .le 6, 3) := by decide +kernel
theorem dX3_read_30 : decode cX3_read 30 = .ok (.bipush (-4), 2) := by decide +kernel
theorem dX3_read_32 : decode cX3_read 32 = .ok (.ireturn, 1) := by decide +kernel
theorem dX3_read_33 : decode cX3_read 33 = .ok (.aload_n 0, 1) := by decide +kernel
theorem dX3_read_34 : decode cX3_read 34 = .ok (.iload_n 1, 1) := by decide +kernel
theorem dX3_read_35 : decode cX3_read 35 = .ok (.invokevirtual 135, 3) := by decide +kernel
theorem dX3_read_38 : decode cX3_read 38 = .ok (.ifCond .ne 6, 3) := by decide +kernel
theorem dX3_read_41 : decode cX3_read 41 = .ok (.bipush (-5), 2) := by decide +kernel
theorem dX3_read_43 : decode cX3_read 43 = .ok (.ireturn, 1) := by decide +kernel
theorem dX3_read_44 : decode cX3_read 44 = .ok (.aload_n 0, 1) := by decide +kernel
theorem dX3_read_45 : decode cX3_read 45 = .ok (.invokevirtual 71, 3) := by decide +kernel
theorem dX3_read_48 : decode cX3_read 48 = .ok (.aload_n 0, 1) := by decide +kernel
theorem dX3_read_49 : decode cX3_read 49 = .ok (.getfield 7, 3) := by decide +kernel
theorem dX3_read_52 : decode cX3_read 52 = .ok (.bipush 6, 2) := by decide +kernel
theorem dX3_read_54 : decode cX3_read 54 = .ok (.iaload, 1) := by decide +kernel
theorem dX3_read_55 : decode cX3_read 55 = .ok (.invokestatic 132, 3) := by decide +kernel
theorem dX3_read_58 : decode cX3_read 58 = .ok (.istore_n 2, 1) := by decide +kernel
theorem dX3_read_59 : decode cX3_read 59 = .ok (.aload_n 0, 1) := by decide +kernel
theorem dX3_read_60 : decode cX3_read 60 = .ok (.iload_n 1, 1) := by decide +kernel
theorem dX3_read_61 : decode cX3_read 61 = .ok (.invokevirtual 138, 3) := by decide +kernel
theorem dX3_read_64 : decode cX3_read 64 = .ok (.aload_n 0, 1) := by decide +kernel
theorem dX3_read_65 : decode cX3_read 65 = .ok (.getfield 7, 3) := by decide +kernel
theorem dX3_read_68 : decode cX3_read 68 = .ok (.bipush 6, 2) := by decide +kernel
theorem dX3_read_70 : decode cX3_read 70 = .ok (.iaload, 1) := by decide +kernel
theorem dX3_read_71 : decode cX3_read 71 = .ok (.invokestatic 132, 3) := by decide +kernel
theorem dX3_read_74 : decode cX3_read 74 = .ok (.iload_n 2, 1) := by decide +kernel
theorem dX3_read_75 : decode cX3_read 75 = .ok (.isub, 1) := by decide +kernel
theorem dX3_read_76 : decode cX3_read 76 = .ok (.ireturn, 1) := by decide +kernel
set_option maxRecDepth 20000 in
theorem ggX3_turn_X3_know : GoodIn wsX3_turn wsX3_know := goodIn_r _ [6, 7, 8, 1, 9, 10, 11, 12, 13, 14, 15, 16, 17, 18, 19, 20, 21, 22] (by decide +kernel) (by decide +kernel)
set_option maxRecDepth 20000 in
theorem gX3_turn_X3_know : GoodIn wsX3_turn (wsV RX3 71 RX3 yX3_know wsX3_know) := goodIn_app (goodIn_of _ (by decide +kernel)) ggX3_turn_X3_know
theorem dX3_turn_0 : decode cX3_turn 0 = .ok (.aload_n 0, 1) := by decide +kernel
theorem dX3_turn_1 : decode cX3_turn 1 = .ok (.invokevirtual 71, 3) := by decide +kernel
theorem dX3_turn_4 : decode cX3_turn 4 = .ok (.aload_n 0, 1) := by decide +kernel
theorem dX3_turn_5 : decode cX3_turn 5 = .ok (.getfield 7, 3) := by decide +kernel
theorem dX3_turn_8 : decode cX3_turn 8 = .ok (.iconst 0, 1) := by decide +kernel
theorem dX3_turn_9 : decode cX3_turn 9 = .ok (.aload_n 0, 1) := by decide +kernel
theorem dX3_turn_10 : decode cX3_turn 10 = .ok (.getfield 7, 3) := by decide +kernel
theorem dX3_turn_13 : decode cX3_turn 13 = .ok (.iconst 0, 1) := by decide +kernel
theorem dX3_turn_14 : decode cX3_turn 14 = .ok (.iaload, 1) := by decide +kernel
theorem dX3_turn_15 : decode cX3_turn 15 = .ok (.iload_n 1, 1) := by decide +kernel
theorem dX3_turn_16 : decode cX3_turn 16 = .ok (.ifCond .eq 7, 3) := by decide +kernel
theorem dX3_turn_19 : decode cX3_turn 19 = .ok (.iconst 1, 1) := by decide +kernel
theorem dX3_turn_20 : decode cX3_turn 20 = .ok (.goto 5, 3) := by decide +kernel
theorem dX3_turn_23 : decode cX3_turn 23 = .ok (.bipush 7, 2) := by decide +kernel
theorem dX3_turn_25 : decode cX3_turn 25 = .ok (.iadd, 1) := by decide +kernel
theorem dX3_turn_26 : decode cX3_turn 26 = .ok (.bipush 8, 2) := by decide +kernel
theorem dX3_turn_28 : decode cX3_turn 28 = .ok (.irem, 1) := by decide +kernel
theorem dX3_turn_29 : decode cX3_turn 29 = .ok (.iastore, 1) := by decide +kernel
theorem dX3_turn_30 : decode cX3_turn 30 = .ok (.aload_n 0, 1) := by decide +kernel
theorem dX3_turn_31 : decode cX3_turn 31 = .ok (.getfield 7, 3) := by decide +kernel
theorem dX3_turn_34 : decode cX3_turn 34 = .ok (.iconst 5, 1) := by decide +kernel
theorem dX3_turn_35 : decode cX3_turn 35 = .ok (.aload_n 0, 1) := by decide +kernel
theorem dX3_turn_36 : decode cX3_turn 36 = .ok (.getfield 7, 3) := by decide +kernel
theorem dX3_turn_39 : decode cX3_turn 39 = .ok (.iconst 5, 1) := by decide +kernel
theorem dX3_turn_40 : decode cX3_turn 40 = .ok (.iaload, 1) := by decide +kernel
theorem dX3_turn_41 : decode cX3_turn 41 = .ok (.aload_n 0, 1) := by decide +kernel
theorem dX3_turn_42 : decode cX3_turn 42 = .ok (.getfield 7, 3) := by decide +kernel
theorem dX3_turn_45 : decode cX3_turn 45 = .ok (.iconst 1, 1) := by decide +kernel
theorem dX3_turn_46 : decode cX3_turn 46 = .ok (.iaload, 1) := by decide +kernel
theorem dX3_turn_47 : decode cX3_turn 47 = .ok (.if_icmp .ge 7, 3) := by decide +kernel
theorem dX3_turn_50 : decode cX3_turn 50 = .ok (.iconst 0, 1) := by decide +kernel
theorem dX3_turn_51 : decode cX3_turn 51 = .ok (.goto 16, 3) := by decide +kernel
theorem dX3_turn_54 : decode cX3_turn 54 = .ok (.aload_n 0, 1) := by decide +kernel
theorem dX3_turn_55 : decode cX3_turn 55 = .ok (.getfield 7, 3) := by decide +kernel
theorem dX3_turn_58 : decode cX3_turn 58 = .ok (.iconst 5, 1) := by decide +kernel
theorem dX3_turn_59 : decode cX3_turn 59 = .ok (.iaload, 1) := by decide +kernel
theorem dX3_turn_60 : decode cX3_turn 60 = .ok (.aload_n 0, 1) := by decide +kernel
theorem dX3_turn_61 : decode cX3_turn 61 = .ok (.getfield 7, 3) := by decide +kernel
theorem dX3_turn_64 : decode cX3_turn 64 = .ok (.iconst 1, 1) := by decide +kernel
theorem dX3_turn_65 : decode cX3_turn 65 = .ok (.iaload, 1) := by decide +kernel
theorem dX3_turn_66 : decode cX3_turn 66 = .ok (.isub, 1) := by decide +kernel
theorem dX3_turn_67 : decode cX3_turn 67 = .ok (.iastore, 1) := by decide +kernel
theorem dX3_turn_68 : decode cX3_turn 68 = .ok (.aload_n 0, 1) := by decide +kernel
theorem dX3_turn_69 : decode cX3_turn 69 = .ok (.getfield 7, 3) := by decide +kernel
theorem dX3_turn_72 : decode cX3_turn 72 = .ok (.iconst 0, 1) := by decide +kernel
theorem dX3_turn_73 : decode cX3_turn 73 = .ok (.iaload, 1) := by decide +kernel
theorem dX3_turn_74 : decode cX3_turn 74 = .ok (.ireturn, 1) := by decide +kernel
set_option maxRecDepth 20000 in
theorem ggX3_setTurning_X3_in : GoodIn wsX3_setTurning wsX3_in := goodIn_r _ [5] (by decide +kernel) (by decide +kernel)
set_option maxRecDepth 20000 in
theorem gX3_setTurning_X3_in : GoodIn wsX3_setTurning (va_wsS RX3 43 yX3_in wsX3_in) := goodIn_app (goodIn_of _ (by decide +kernel)) ggX3_setTurning_X3_in
set_option maxRecDepth 20000 in
theorem ggX3_setTurning_X3_know : GoodIn wsX3_setTurning wsX3_know := goodIn_r _ [9, 10, 11, 1, 12, 13, 14, 15, 16, 17, 18, 19, 20, 21, 22, 23, 24, 25] (by decide +kernel) (by decide +kernel)
set_option maxRecDepth 20000 in
theorem gX3_setTurning_X3_know : GoodIn wsX3_setTurning (wsV RX3 71 RX3 yX3_know wsX3_know) := goodIn_app (goodIn_of _ (by decide +kernel)) ggX3_setTurning_X3_know
theorem dX3_setTurning_0 : decode cX3_setTurning 0 = .ok (.iload_n 1, 1) := by decide +kernel
theorem dX3_setTurning_1 : decode cX3_setTurning 1 = .ok (.iconst 0, 1) := by decide +kernel
theorem dX3_setTurning_2 : decode cX3_setTurning 2 = .ok (.bipush 60, 2) := by decide +kernel
theorem dX3_setTurning_4 : decode cX3_setTurning 4 = .ok (.invokestatic 43, 3) := by decide +kernel
theorem dX3_setTurning_7 : decode cX3_setTurning 7 = .ok (.ifCond .ne 6, 3) := by decide +kernel
theorem dX3_setTurning_10 : decode cX3_setTurning 10 = .ok (.bipush (-2), 2) := by decide +kernel
theorem dX3_setTurning_12 : decode cX3_setTurning 12 = .ok (.ireturn, 1) := by decide +kernel
theorem dX3_setTurning_13 : decode cX3_setTurning 13 = .ok (.aload_n 0, 1) := by decide +kernel
theorem dX3_setTurning_14 : decode cX3_setTurning 14 = .ok (.getfield 7, 3) := by decide +kernel
theorem dX3_setTurning_17 : decode cX3_setTurning 17 = .ok (.iconst 1, 1) := by decide +kernel
theorem dX3_setTurning_18 : decode cX3_setTurning 18 = .ok (.iaload, 1) := by decide +kernel
theorem dX3_setTurning_19 : decode cX3_setTurning 19 = .ok (.istore_n 2, 1) := by decide +kernel
theorem dX3_setTurning_20 : decode cX3_setTurning 20 = .ok (.iload_n 2, 1) := by decide +kernel
theorem dX3_setTurning_21 : decode cX3_setTurning 21 = .ok (.iload_n 1, 1) := by decide +kernel
theorem dX3_setTurning_22 : decode cX3_setTurning 22 = .ok (.if_icmp .ne 6, 3) := by decide +kernel
theorem dX3_setTurning_25 : decode cX3_setTurning 25 = .ok (.bipush (-5), 2) := by decide +kernel
theorem dX3_setTurning_27 : decode cX3_setTurning 27 = .ok (.ireturn, 1) := by decide +kernel
theorem dX3_setTurning_28 : decode cX3_setTurning 28 = .ok (.aload_n 0, 1) := by decide +kernel
theorem dX3_setTurning_29 : decode cX3_setTurning 29 = .ok (.invokevirtual 71, 3) := by decide +kernel
theorem dX3_setTurning_32 : decode cX3_setTurning 32 = .ok (.aload_n 0, 1) := by decide +kernel
theorem dX3_setTurning_33 : decode cX3_setTurning 33 = .ok (.getfield 7, 3) := by decide +kernel
theorem dX3_setTurning_36 : decode cX3_setTurning 36 = .ok (.iconst 1, 1) := by decide +kernel
theorem dX3_setTurning_37 : decode cX3_setTurning 37 = .ok (.iload_n 1, 1) := by decide +kernel
theorem dX3_setTurning_38 : decode cX3_setTurning 38 = .ok (.iastore, 1) := by decide +kernel
theorem dX3_setTurning_39 : decode cX3_setTurning 39 = .ok (.iload_n 2, 1) := by decide +kernel
theorem dX3_setTurning_40 : decode cX3_setTurning 40 = .ok (.ireturn, 1) := by decide +kernel
set_option maxRecDepth 20000 in
theorem ggX3_texts_X3_manyAt : GoodIn wsX3_texts wsX3_manyAt := goodIn_r _ [5] (by decide +kernel) (by decide +kernel)
set_option maxRecDepth 20000 in
theorem gX3_texts_X3_manyAt : GoodIn wsX3_texts (va_wsS RX3 35 yX3_manyAt wsX3_manyAt) := goodIn_app (goodIn_of _ (by decide +kernel)) ggX3_texts_X3_manyAt
theorem dX3_texts_0 : decode cX3_texts 0 = .ok (.iconst 0, 1) := by decide +kernel
theorem dX3_texts_1 : decode cX3_texts 1 = .ok (.istore_n 1, 1) := by decide +kernel
theorem dX3_texts_2 : decode cX3_texts 2 = .ok (.iconst 0, 1) := by decide +kernel
theorem dX3_texts_3 : decode cX3_texts 3 = .ok (.istore_n 2, 1) := by decide +kernel
theorem dX3_texts_4 : decode cX3_texts 4 = .ok (.iload_n 2, 1) := by decide +kernel
theorem dX3_texts_5 : decode cX3_texts 5 = .ok (.bipush 8, 2) := by decide +kernel
theorem dX3_texts_7 : decode cX3_texts 7 = .ok (.if_icmp .ge 21, 3) := by decide +kernel
theorem dX3_texts_10 : decode cX3_texts 10 = .ok (.iload_n 1, 1) := by decide +kernel
theorem dX3_texts_11 : decode cX3_texts 11 = .ok (.aload_n 0, 1) := by decide +kernel
theorem dX3_texts_12 : decode cX3_texts 12 = .ok (.getfield 7, 3) := by decide +kernel
theorem dX3_texts_15 : decode cX3_texts 15 = .ok (.iload_n 2, 1) := by decide +kernel
theorem dX3_texts_16 : decode cX3_texts 16 = .ok (.invokestatic 35, 3) := by decide +kernel
theorem dX3_texts_19 : decode cX3_texts 19 = .ok (.iaload, 1) := by decide +kernel
theorem dX3_texts_20 : decode cX3_texts 20 = .ok (.iadd, 1) := by decide +kernel
theorem dX3_texts_21 : decode cX3_texts 21 = .ok (.istore_n 1, 1) := by decide +kernel
theorem dX3_texts_22 : decode cX3_texts 22 = .ok (.iinc 2 1, 3) := by decide +kernel
theorem dX3_texts_25 : decode cX3_texts 25 = .ok (.goto (-21), 3) := by decide +kernel
theorem dX3_texts_28 : decode cX3_texts 28 = .ok (.iload_n 1, 1) := by decide +kernel
theorem dX3_texts_29 : decode cX3_texts 29 = .ok (.ireturn, 1) := by decide +kernel
theorem dX3_undo_0 : decode cX3_undo 0 = .ok (.aload_n 0, 1) := by decide +kernel
theorem dX3_undo_1 : decode cX3_undo 1 = .ok (.getfield 55, 3) := by decide +kernel
theorem dX3_undo_4 : decode cX3_undo 4 = .ok (.ifCond .ne 6, 3) := by decide +kernel
theorem dX3_undo_7 : decode cX3_undo 7 = .ok (.bipush (-5), 2) := by decide +kernel
theorem dX3_undo_9 : decode cX3_undo 9 = .ok (.ireturn, 1) := by decide +kernel
theorem dX3_undo_10 : decode cX3_undo 10 = .ok (.aload_n 0, 1) := by decide +kernel
theorem dX3_undo_11 : decode cX3_undo 11 = .ok (.dup, 1) := by decide +kernel
theorem dX3_undo_12 : decode cX3_undo 12 = .ok (.getfield 55, 3) := by decide +kernel
theorem dX3_undo_15 : decode cX3_undo 15 = .ok (.iconst 1, 1) := by decide +kernel
theorem dX3_undo_16 : decode cX3_undo 16 = .ok (.isub, 1) := by decide +kernel
theorem dX3_undo_17 : decode cX3_undo 17 = .ok (.putfield 55, 3) := by decide +kernel
theorem dX3_undo_20 : decode cX3_undo 20 = .ok (.iconst 0, 1) := by decide +kernel
theorem dX3_undo_21 : decode cX3_undo 21 = .ok (.istore_n 1, 1) := by decide +kernel
theorem dX3_undo_22 : decode cX3_undo 22 = .ok (.iload_n 1, 1) := by decide +kernel
theorem dX3_undo_23 : decode cX3_undo 23 = .ok (.sipush 618, 3) := by decide +kernel
theorem dX3_undo_26 : decode cX3_undo 26 = .ok (.if_icmp .ge 30, 3) := by decide +kernel
theorem dX3_undo_29 : decode cX3_undo 29 = .ok (.aload_n 0, 1) := by decide +kernel
theorem dX3_undo_30 : decode cX3_undo 30 = .ok (.getfield 7, 3) := by decide +kernel
theorem dX3_undo_33 : decode cX3_undo 33 = .ok (.iload_n 1, 1) := by decide +kernel
theorem dX3_undo_34 : decode cX3_undo 34 = .ok (.aload_n 0, 1) := by decide +kernel
theorem dX3_undo_35 : decode cX3_undo 35 = .ok (.getfield 16, 3) := by decide +kernel
theorem dX3_undo_38 : decode cX3_undo 38 = .ok (.sipush 618, 3) := by decide +kernel
theorem dX3_undo_41 : decode cX3_undo 41 = .ok (.aload_n 0, 1) := by decide +kernel
theorem dX3_undo_42 : decode cX3_undo 42 = .ok (.getfield 55, 3) := by decide +kernel
theorem dX3_undo_45 : decode cX3_undo 45 = .ok (.imul, 1) := by decide +kernel
theorem dX3_undo_46 : decode cX3_undo 46 = .ok (.iload_n 1, 1) := by decide +kernel
theorem dX3_undo_47 : decode cX3_undo 47 = .ok (.iadd, 1) := by decide +kernel
theorem dX3_undo_48 : decode cX3_undo 48 = .ok (.iaload, 1) := by decide +kernel
theorem dX3_undo_49 : decode cX3_undo 49 = .ok (.iastore, 1) := by decide +kernel
theorem dX3_undo_50 : decode cX3_undo 50 = .ok (.iinc 1 1, 3) := by decide +kernel
theorem dX3_undo_53 : decode cX3_undo 53 = .ok (.goto (-31), 3) := by decide +kernel
theorem dX3_undo_56 : decode cX3_undo 56 = .ok (.aload_n 0, 1) := by decide +kernel
theorem dX3_undo_57 : decode cX3_undo 57 = .ok (.getfield 55, 3) := by decide +kernel
theorem dX3_undo_60 : decode cX3_undo 60 = .ok (.ireturn, 1) := by decide +kernel
set_option maxRecDepth 20000 in
theorem ggX3_keep_X3_texts : GoodIn wsX3_keep wsX3_texts := goodIn_r _ [8, 2, 9, 10, 7, 11, 12, 13, 14, 15, 16, 17, 18, 19, 20, 21, 22, 23, 24, 25] (by decide +kernel) (by decide +kernel)
set_option maxRecDepth 20000 in
theorem gX3_keep_X3_texts : GoodIn wsX3_keep (wsV RX3 145 RX3 yX3_texts wsX3_texts) := goodIn_app (goodIn_of _ (by decide +kernel)) ggX3_keep_X3_texts
theorem dX3_keep_0 : decode cX3_keep 0 = .ok (.iconst 0, 1) := by decide +kernel
theorem dX3_keep_1 : decode cX3_keep 1 = .ok (.istore_n 1, 1) := by decide +kernel
theorem dX3_keep_2 : decode cX3_keep 2 = .ok (.iload_n 1, 1) := by decide +kernel
theorem dX3_keep_3 : decode cX3_keep 3 = .ok (.sipush 618, 3) := by decide +kernel
theorem dX3_keep_6 : decode cX3_keep 6 = .ok (.if_icmp .ge 21, 3) := by decide +kernel
theorem dX3_keep_9 : decode cX3_keep 9 = .ok (.aload_n 0, 1) := by decide +kernel
theorem dX3_keep_10 : decode cX3_keep 10 = .ok (.getfield 19, 3) := by decide +kernel
theorem dX3_keep_13 : decode cX3_keep 13 = .ok (.iload_n 1, 1) := by decide +kernel
theorem dX3_keep_14 : decode cX3_keep 14 = .ok (.aload_n 0, 1) := by decide +kernel
theorem dX3_keep_15 : decode cX3_keep 15 = .ok (.getfield 7, 3) := by decide +kernel
theorem dX3_keep_18 : decode cX3_keep 18 = .ok (.iload_n 1, 1) := by decide +kernel
theorem dX3_keep_19 : decode cX3_keep 19 = .ok (.iaload, 1) := by decide +kernel
theorem dX3_keep_20 : decode cX3_keep 20 = .ok (.iastore, 1) := by decide +kernel
theorem dX3_keep_21 : decode cX3_keep 21 = .ok (.iinc 1 1, 3) := by decide +kernel
theorem dX3_keep_24 : decode cX3_keep 24 = .ok (.goto (-22), 3) := by decide +kernel
theorem dX3_keep_27 : decode cX3_keep 27 = .ok (.aload_n 0, 1) := by decide +kernel
theorem dX3_keep_28 : decode cX3_keep 28 = .ok (.iconst 1, 1) := by decide +kernel
theorem dX3_keep_29 : decode cX3_keep 29 = .ok (.putfield 142, 3) := by decide +kernel
theorem dX3_keep_32 : decode cX3_keep 32 = .ok (.aload_n 0, 1) := by decide +kernel
theorem dX3_keep_33 : decode cX3_keep 33 = .ok (.invokevirtual 145, 3) := by decide +kernel
theorem dX3_keep_36 : decode cX3_keep 36 = .ok (.ireturn, 1) := by decide +kernel
set_option maxRecDepth 20000 in
theorem ggX3_restore_X3_know : GoodIn wsX3_restore wsX3_know := goodIn_r _ [8, 9, 10, 2, 18, 19, 20, 21, 22, 23, 24, 25, 26, 27, 28, 29, 30, 31] (by decide +kernel) (by decide +kernel)
set_option maxRecDepth 20000 in
theorem gX3_restore_X3_know : GoodIn wsX3_restore (wsV RX3 71 RX3 yX3_know wsX3_know) := goodIn_app (goodIn_of _ (by decide +kernel)) ggX3_restore_X3_know
set_option maxRecDepth 20000 in
theorem ggX3_restore_X3_texts : GoodIn wsX3_restore wsX3_texts := goodIn_r _ [14, 2, 15, 16, 7, 17, 18, 19, 20, 21, 22, 23, 24, 25, 26, 27, 28, 29, 30, 31] (by decide +kernel) (by decide +kernel)
set_option maxRecDepth 20000 in
theorem gX3_restore_X3_texts : GoodIn wsX3_restore (wsV RX3 145 RX3 yX3_texts wsX3_texts) := goodIn_app (goodIn_of _ (by decide +kernel)) ggX3_restore_X3_texts
theorem dX3_restore_0 : decode cX3_restore 0 = .ok (.aload_n 0, 1) := by decide +kernel
theorem dX3_restore_1 : decode cX3_restore 1 = .ok (.getfield 142, 3) := by decide +kernel
theorem dX3_restore_4 : decode cX3_restore 4 = .ok (.ifCond .ne 6, 3) := by decide +kernel
theorem dX3_restore_7 : decode cX3_restore 7 = .ok (.bipush (-5), 2) := by decide +kernel
theorem dX3_restore_9 : decode cX3_restore 9 = .ok (.ireturn, 1) := by decide +kernel
theorem dX3_restore_10 : decode cX3_restore 10 = .ok (.aload_n 0, 1) := by decide +kernel
theorem dX3_restore_11 : decode cX3_restore 11 = .ok (.invokevirtual 71, 3) := by decide +kernel
theorem dX3_restore_14 : decode cX3_restore 14 = .ok (.iconst 0, 1) := by decide +kernel
theorem dX3_restore_15 : decode cX3_restore 15 = .ok (.istore_n 1, 1) := by decide +kernel
theorem dX3_restore_16 : decode cX3_restore 16 = .ok (.iload_n 1, 1) := by decide +kernel
theorem dX3_restore_17 : decode cX3_restore 17 = .ok (.sipush 618, 3) := by decide +kernel
theorem dX3_restore_20 : decode cX3_restore 20 = .ok (.if_icmp .ge 21, 3) := by decide +kernel
theorem dX3_restore_23 : decode cX3_restore 23 = .ok (.aload_n 0, 1) := by decide +kernel
theorem dX3_restore_24 : decode cX3_restore 24 = .ok (.getfield 7, 3) := by decide +kernel
theorem dX3_restore_27 : decode cX3_restore 27 = .ok (.iload_n 1, 1) := by decide +kernel
theorem dX3_restore_28 : decode cX3_restore 28 = .ok (.aload_n 0, 1) := by decide +kernel
theorem dX3_restore_29 : decode cX3_restore 29 = .ok (.getfield 19, 3) := by decide +kernel
theorem dX3_restore_32 : decode cX3_restore 32 = .ok (.iload_n 1, 1) := by decide +kernel
theorem dX3_restore_33 : decode cX3_restore 33 = .ok (.iaload, 1) := by decide +kernel
theorem dX3_restore_34 : decode cX3_restore 34 = .ok (.iastore, 1) := by decide +kernel
theorem dX3_restore_35 : decode cX3_restore 35 = .ok (.iinc 1 1, 3) := by decide +kernel
theorem dX3_restore_38 : decode cX3_restore 38 = .ok (.goto (-22), 3) := by decide +kernel
theorem dX3_restore_41 : decode cX3_restore 41 = .ok (.aload_n 0, 1) := by decide +kernel
theorem dX3_restore_42 : decode cX3_restore 42 = .ok (.invokevirtual 145, 3) := by decide +kernel
theorem dX3_restore_45 : decode cX3_restore 45 = .ok (.ireturn, 1) := by decide +kernel
set_option maxRecDepth 20000 in
theorem ggX3_text_X3_isText : GoodIn wsX3_text wsX3_isText := goodIn_r _ [6, 1, 7, 8, 5, 9, 10, 11, 12, 13, 14, 15, 23, 24, 25, 26, 27, 28, 29, 30, 31, 32, 33, 34, 35, 36] (by decide +kernel) (by decide +kernel)
set_option maxRecDepth 20000 in
theorem gX3_text_X3_isText : GoodIn wsX3_text (wsV RX3 51 RX3 yX3_isText wsX3_isText) := goodIn_app (goodIn_of _ (by decide +kernel)) ggX3_text_X3_isText
set_option maxRecDepth 20000 in
theorem ggX3_text_X3_of : GoodIn wsX3_text wsX3_of := goodIn_r _ [18, 13, 14, 5, 15] (by decide +kernel) (by decide +kernel)
set_option maxRecDepth 20000 in
theorem gX3_text_X3_of : GoodIn wsX3_text (va_wsS RX3 39 yX3_of wsX3_of) := goodIn_app (goodIn_of _ (by decide +kernel)) ggX3_text_X3_of
set_option maxRecDepth 20000 in
theorem ggX3_text_X3_readingAge : GoodIn wsX3_text wsX3_readingAge := goodIn_r _ [22, 1, 16, 17, 5, 18, 13, 14, 15, 23, 24, 25, 26, 27, 28, 29, 30, 31, 32, 33, 34, 35, 36] (by decide +kernel) (by decide +kernel)
set_option maxRecDepth 20000 in
theorem gX3_text_X3_readingAge : GoodIn wsX3_text (wsV RX3 58 RX3 yX3_readingAge wsX3_readingAge) := goodIn_app (goodIn_of _ (by decide +kernel)) ggX3_text_X3_readingAge
theorem dX3_text_0 : decode cX3_text 0 = .ok (.aload_n 0, 1) := by decide +kernel
theorem dX3_text_1 : decode cX3_text 1 = .ok (.iload_n 1, 1) := by decide +kernel
theorem dX3_text_2 : decode cX3_text 2 = .ok (.iload_n 2, 1) := by decide +kernel
theorem dX3_text_3 : decode cX3_text 3 = .ok (.invokevirtual 51, 3) := by decide +kernel
theorem dX3_text_6 : decode cX3_text 6 = .ok (.ifCond .ne 5, 3) := by decide +kernel
theorem dX3_text_9 : decode cX3_text 9 = .ok (.iconst (-1), 1) := by decide +kernel
theorem dX3_text_10 : decode cX3_text 10 = .ok (.ireturn, 1) := by decide +kernel
theorem dX3_text_11 : decode cX3_text 11 = .ok (.iload_n 3, 1) := by decide +kernel
theorem dX3_text_12 : decode cX3_text 12 = .ok (.tableswitch 87 0 6 #[44, 44, 44, 44, 56, 63, 75], 44) := by decide +kernel
theorem dX3_text_56 : decode cX3_text 56 = .ok (.aload_n 0, 1) := by decide +kernel
theorem dX3_text_57 : decode cX3_text 57 = .ok (.getfield 7, 3) := by decide +kernel
theorem dX3_text_60 : decode cX3_text 60 = .ok (.iload_n 1, 1) := by decide +kernel
theorem dX3_text_61 : decode cX3_text 61 = .ok (.iload_n 2, 1) := by decide +kernel
theorem dX3_text_62 : decode cX3_text 62 = .ok (.iload_n 3, 1) := by decide +kernel
theorem dX3_text_63 : decode cX3_text 63 = .ok (.invokestatic 39, 3) := by decide +kernel
theorem dX3_text_66 : decode cX3_text 66 = .ok (.iaload, 1) := by decide +kernel
theorem dX3_text_67 : decode cX3_text 67 = .ok (.ireturn, 1) := by decide +kernel
theorem dX3_text_68 : decode cX3_text 68 = .ok (.aload_n 0, 1) := by decide +kernel
theorem dX3_text_69 : decode cX3_text 69 = .ok (.iload_n 1, 1) := by decide +kernel
theorem dX3_text_70 : decode cX3_text 70 = .ok (.iload_n 2, 1) := by decide +kernel
theorem dX3_text_71 : decode cX3_text 71 = .ok (.invokevirtual 58, 3) := by decide +kernel
theorem dX3_text_74 : decode cX3_text 74 = .ok (.ireturn, 1) := by decide +kernel
theorem dX3_text_75 : decode cX3_text 75 = .ok (.aload_n 0, 1) := by decide +kernel
theorem dX3_text_76 : decode cX3_text 76 = .ok (.getfield 7, 3) := by decide +kernel
theorem dX3_text_79 : decode cX3_text 79 = .ok (.iload_n 1, 1) := by decide +kernel
theorem dX3_text_80 : decode cX3_text 80 = .ok (.iload_n 2, 1) := by decide +kernel
theorem dX3_text_81 : decode cX3_text 81 = .ok (.iconst 5, 1) := by decide +kernel
theorem dX3_text_82 : decode cX3_text 82 = .ok (.invokestatic 39, 3) := by decide +kernel
theorem dX3_text_85 : decode cX3_text 85 = .ok (.iaload, 1) := by decide +kernel
theorem dX3_text_86 : decode cX3_text 86 = .ok (.ireturn, 1) := by decide +kernel
theorem dX3_text_87 : decode cX3_text 87 = .ok (.aload_n 0, 1) := by decide +kernel
theorem dX3_text_88 : decode cX3_text 88 = .ok (.getfield 7, 3) := by decide +kernel
theorem dX3_text_91 : decode cX3_text 91 = .ok (.iload_n 1, 1) := by decide +kernel
theorem dX3_text_92 : decode cX3_text 92 = .ok (.iload_n 2, 1) := by decide +kernel
theorem dX3_text_93 : decode cX3_text 93 = .ok (.iconst 4, 1) := by decide +kernel
theorem dX3_text_94 : decode cX3_text 94 = .ok (.invokestatic 39, 3) := by decide +kernel
theorem dX3_text_97 : decode cX3_text 97 = .ok (.iaload, 1) := by decide +kernel
theorem dX3_text_98 : decode cX3_text 98 = .ok (.ireturn, 1) := by decide +kernel
theorem dX3_text_99 : decode cX3_text 99 = .ok (.bipush (-2), 2) := by decide +kernel
theorem dX3_text_101 : decode cX3_text 101 = .ok (.ireturn, 1) := by decide +kernel
set_option maxRecDepth 20000 in
theorem ggX3_caption_X3_isCaption : GoodIn wsX3_caption wsX3_isCaption := goodIn_r _ [6, 1, 7, 8, 9, 5, 10, 11, 12, 13, 14, 15, 16, 17, 18, 19, 20, 21, 22, 26, 27, 28, 29, 30, 31, 32, 33, 34, 35, 36, 37, 38, 39] (by decide +kernel) (by decide +kernel)
set_option maxRecDepth 20000 in
theorem gX3_caption_X3_isCaption : GoodIn wsX3_caption (wsV RX3 129 RX3 yX3_isCaption wsX3_isCaption) := goodIn_app (goodIn_of _ (by decide +kernel)) ggX3_caption_X3_isCaption
set_option maxRecDepth 20000 in
theorem ggX3_caption_X3_in : GoodIn wsX3_caption wsX3_in := goodIn_r _ [16] (by decide +kernel) (by decide +kernel)
set_option maxRecDepth 20000 in
theorem gX3_caption_X3_in : GoodIn wsX3_caption (va_wsS RX3 43 yX3_in wsX3_in) := goodIn_app (goodIn_of _ (by decide +kernel)) ggX3_caption_X3_in
set_option maxRecDepth 20000 in
theorem ggX3_caption_X3_ofCaption : GoodIn wsX3_caption wsX3_ofCaption := goodIn_r _ [25, 20, 21, 5, 22, 17, 18, 19] (by decide +kernel) (by decide +kernel)
set_option maxRecDepth 20000 in
theorem gX3_caption_X3_ofCaption : GoodIn wsX3_caption (va_wsS RX3 63 yX3_ofCaption wsX3_ofCaption) := goodIn_app (goodIn_of _ (by decide +kernel)) ggX3_caption_X3_ofCaption
theorem dX3_caption_0 : decode cX3_caption 0 = .ok (.aload_n 0, 1) := by decide +kernel
theorem dX3_caption_1 : decode cX3_caption 1 = .ok (.iload_n 1, 1) := by decide +kernel
theorem dX3_caption_2 : decode cX3_caption 2 = .ok (.iload_n 2, 1) := by decide +kernel
theorem dX3_caption_3 : decode cX3_caption 3 = .ok (.iload_n 3, 1) := by decide +kernel
theorem dX3_caption_4 : decode cX3_caption 4 = .ok (.invokevirtual 129, 3) := by decide +kernel
theorem dX3_caption_7 : decode cX3_caption 7 = .ok (.ifCond .ne 5, 3) := by decide +kernel
theorem dX3_caption_10 : decode cX3_caption 10 = .ok (.iconst (-1), 1) := by decide +kernel
theorem dX3_caption_11 : decode cX3_caption 11 = .ok (.ireturn, 1) := by decide +kernel
theorem dX3_caption_12 : decode cX3_caption 12 = .ok (.iload 4, 2) := by decide +kernel
theorem dX3_caption_14 : decode cX3_caption 14 = .ok (.iconst 0, 1) := by decide +kernel
theorem dX3_caption_15 : decode cX3_caption 15 = .ok (.iconst 2, 1) := by decide +kernel
theorem dX3_caption_16 : decode cX3_caption 16 = .ok (.invokestatic 43, 3) := by decide +kernel
theorem dX3_caption_19 : decode cX3_caption 19 = .ok (.ifCond .eq 19, 3) := by decide +kernel
theorem dX3_caption_22 : decode cX3_caption 22 = .ok (.aload_n 0, 1) := by decide +kernel
theorem dX3_caption_23 : decode cX3_caption 23 = .ok (.getfield 7, 3) := by decide +kernel
theorem dX3_caption_26 : decode cX3_caption 26 = .ok (.iload_n 1, 1) := by decide +kernel
theorem dX3_caption_27 : decode cX3_caption 27 = .ok (.iload_n 2, 1) := by decide +kernel
theorem dX3_caption_28 : decode cX3_caption 28 = .ok (.iload_n 3, 1) := by decide +kernel
theorem dX3_caption_29 : decode cX3_caption 29 = .ok (.iload 4, 2) := by decide +kernel
theorem dX3_caption_31 : decode cX3_caption 31 = .ok (.invokestatic 63, 3) := by decide +kernel
theorem dX3_caption_34 : decode cX3_caption 34 = .ok (.iaload, 1) := by decide +kernel
theorem dX3_caption_35 : decode cX3_caption 35 = .ok (.goto 5, 3) := by decide +kernel
theorem dX3_caption_38 : decode cX3_caption 38 = .ok (.bipush (-2), 2) := by decide +kernel
theorem dX3_caption_40 : decode cX3_caption 40 = .ok (.ireturn, 1) := by decide +kernel
set_option maxRecDepth 20000 in
theorem ggX3_visitor_X3_in : GoodIn wsX3_visitor wsX3_in := goodIn_r _ [5] (by decide +kernel) (by decide +kernel)
set_option maxRecDepth 20000 in
theorem gX3_visitor_X3_in : GoodIn wsX3_visitor (va_wsS RX3 43 yX3_in wsX3_in) := goodIn_app (goodIn_of _ (by decide +kernel)) ggX3_visitor_X3_in
set_option maxRecDepth 20000 in
theorem ggX3_visitor_X3_bitsOf : GoodIn wsX3_visitor wsX3_bitsOf := goodIn_r _ [8] (by decide +kernel) (by decide +kernel)
set_option maxRecDepth 20000 in
theorem gX3_visitor_X3_bitsOf : GoodIn wsX3_visitor (va_wsS RX3 132 yX3_bitsOf wsX3_bitsOf) := goodIn_app (goodIn_of _ (by decide +kernel)) ggX3_visitor_X3_bitsOf
set_option maxRecDepth 20000 in
theorem ggX3_visitor_X3_shownNow : GoodIn wsX3_visitor wsX3_shownNow := goodIn_r _ [12, 1, 13, 14, 15, 4, 16, 17, 18, 19, 20, 21, 22, 23, 24, 25, 26, 27, 28, 29, 30, 31, 32, 33, 34, 35, 36, 37, 38, 39, 40] (by decide +kernel) (by decide +kernel)
set_option maxRecDepth 20000 in
theorem gX3_visitor_X3_shownNow : GoodIn wsX3_visitor (wsV RX3 123 RX3 yX3_shownNow wsX3_shownNow) := goodIn_app (goodIn_of _ (by decide +kernel)) ggX3_visitor_X3_shownNow
theorem dX3_visitor_0 : decode cX3_visitor 0 = .ok (.iload_n 1, 1) := by decide +kernel
theorem dX3_visitor_1 : decode cX3_visitor 1 = .ok (.iconst 0, 1) := by decide +kernel
theorem dX3_visitor_2 : decode cX3_visitor 2 = .ok (.iconst 5, 1) := by decide +kernel
theorem dX3_visitor_3 : decode cX3_visitor 3 = .ok (.invokestatic 43, 3) := by decide +kernel
theorem dX3_visitor_6 : decode cX3_visitor 6 = .ok (.ifCond .ne 6, 3) := by decide +kernel
theorem dX3_visitor_9 : decode cX3_visitor 9 = .ok (.bipush (-2), 2) := by decide +kernel
theorem dX3_visitor_11 : decode cX3_visitor 11 = .ok (.ireturn, 1) := by decide +kernel
theorem dX3_visitor_12 : decode cX3_visitor 12 = .ok (.aload_n 0, 1) := by decide +kernel
theorem dX3_visitor_13 : decode cX3_visitor 13 = .ok (.getfield 7, 3) := by decide +kernel
theorem dX3_visitor_16 : decode cX3_visitor 16 = .ok (.iconst 2, 1) := by decide +kernel
theorem dX3_visitor_17 : decode cX3_visitor 17 = .ok (.iaload, 1) := by decide +kernel
theorem dX3_visitor_18 : decode cX3_visitor 18 = .ok (.ifCond .ne 6, 3) := by decide +kernel
theorem dX3_visitor_21 : decode cX3_visitor 21 = .ok (.bipush (-5), 2) := by decide +kernel
theorem dX3_visitor_23 : decode cX3_visitor 23 = .ok (.ireturn, 1) := by decide +kernel
theorem dX3_visitor_24 : decode cX3_visitor 24 = .ok (.iload_n 1, 1) := by decide +kernel
theorem dX3_visitor_25 : decode cX3_visitor 25 = .ok (.iconst 4, 1) := by decide +kernel
theorem dX3_visitor_26 : decode cX3_visitor 26 = .ok (.if_icmp .ge 14, 3) := by decide +kernel
theorem dX3_visitor_29 : decode cX3_visitor 29 = .ok (.aload_n 0, 1) := by decide +kernel
theorem dX3_visitor_30 : decode cX3_visitor 30 = .ok (.getfield 7, 3) := by decide +kernel
theorem dX3_visitor_33 : decode cX3_visitor 33 = .ok (.iconst 3, 1) := by decide +kernel
theorem dX3_visitor_34 : decode cX3_visitor 34 = .ok (.iload_n 1, 1) := by decide +kernel
theorem dX3_visitor_35 : decode cX3_visitor 35 = .ok (.iadd, 1) := by decide +kernel
theorem dX3_visitor_36 : decode cX3_visitor 36 = .ok (.iaload, 1) := by decide +kernel
theorem dX3_visitor_37 : decode cX3_visitor 37 = .ok (.goto 25, 3) := by decide +kernel
theorem dX3_visitor_40 : decode cX3_visitor 40 = .ok (.iload_n 1, 1) := by decide +kernel
theorem dX3_visitor_41 : decode cX3_visitor 41 = .ok (.iconst 4, 1) := by decide +kernel
theorem dX3_visitor_42 : decode cX3_visitor 42 = .ok (.if_icmp .ne 16, 3) := by decide +kernel
theorem dX3_visitor_45 : decode cX3_visitor 45 = .ok (.aload_n 0, 1) := by decide +kernel
theorem dX3_visitor_46 : decode cX3_visitor 46 = .ok (.getfield 7, 3) := by decide +kernel
theorem dX3_visitor_49 : decode cX3_visitor 49 = .ok (.bipush 6, 2) := by decide +kernel
theorem dX3_visitor_51 : decode cX3_visitor 51 = .ok (.iaload, 1) := by decide +kernel
theorem dX3_visitor_52 : decode cX3_visitor 52 = .ok (.invokestatic 132, 3) := by decide +kernel
theorem dX3_visitor_55 : decode cX3_visitor 55 = .ok (.goto 7, 3) := by decide +kernel
theorem dX3_visitor_58 : decode cX3_visitor 58 = .ok (.aload_n 0, 1) := by decide +kernel
theorem dX3_visitor_59 : decode cX3_visitor 59 = .ok (.invokevirtual 123, 3) := by decide +kernel
theorem dX3_visitor_62 : decode cX3_visitor 62 = .ok (.ireturn, 1) := by decide +kernel
set_option maxRecDepth 20000 in
theorem ggX3_shown_X3_isExhibit : GoodIn wsX3_shown wsX3_isExhibit := goodIn_r _ [4, 5, 6, 3, 7] (by decide +kernel) (by decide +kernel)
set_option maxRecDepth 20000 in
theorem gX3_shown_X3_isExhibit : GoodIn wsX3_shown (va_wsS RX3 47 yX3_isExhibit wsX3_isExhibit) := goodIn_app (goodIn_of _ (by decide +kernel)) ggX3_shown_X3_isExhibit
set_option maxRecDepth 20000 in
theorem ggX3_shown_X3_in : GoodIn wsX3_shown wsX3_in := goodIn_r _ [7] (by decide +kernel) (by decide +kernel)
set_option maxRecDepth 20000 in
theorem gX3_shown_X3_in : GoodIn wsX3_shown (va_wsS RX3 43 yX3_in wsX3_in) := goodIn_app (goodIn_of _ (by decide +kernel)) ggX3_shown_X3_in
set_option maxRecDepth 20000 in
theorem ggX3_shown_X3_shownTo : GoodIn wsX3_shown wsX3_shownTo := goodIn_r _ [11, 12, 13, 14, 3, 15, 16, 17, 18, 19, 20, 21, 22, 23, 24, 25, 26, 27, 28, 29, 30, 31, 32, 33, 34, 35, 36] (by decide +kernel) (by decide +kernel)
set_option maxRecDepth 20000 in
theorem gX3_shown_X3_shownTo : GoodIn wsX3_shown (wsV RX3 120 RX3 yX3_shownTo wsX3_shownTo) := goodIn_app (goodIn_of _ (by decide +kernel)) ggX3_shown_X3_shownTo
theorem dX3_shown_0 : decode cX3_shown 0 = .ok (.iload_n 1, 1) := by decide +kernel
theorem dX3_shown_1 : decode cX3_shown 1 = .ok (.invokestatic 47, 3) := by decide +kernel
theorem dX3_shown_4 : decode cX3_shown 4 = .ok (.ifCond .ne 5, 3) := by decide +kernel
theorem dX3_shown_7 : decode cX3_shown 7 = .ok (.iconst (-1), 1) := by decide +kernel
theorem dX3_shown_8 : decode cX3_shown 8 = .ok (.ireturn, 1) := by decide +kernel
theorem dX3_shown_9 : decode cX3_shown 9 = .ok (.iload_n 2, 1) := by decide +kernel
theorem dX3_shown_10 : decode cX3_shown 10 = .ok (.iconst 4, 1) := by decide +kernel
theorem dX3_shown_11 : decode cX3_shown 11 = .ok (.bipush 99, 2) := by decide +kernel
theorem dX3_shown_13 : decode cX3_shown 13 = .ok (.invokestatic 43, 3) := by decide +kernel
theorem dX3_shown_16 : decode cX3_shown 16 = .ok (.ifCond .eq 12, 3) := by decide +kernel
theorem dX3_shown_19 : decode cX3_shown 19 = .ok (.aload_n 0, 1) := by decide +kernel
theorem dX3_shown_20 : decode cX3_shown 20 = .ok (.iload_n 1, 1) := by decide +kernel
theorem dX3_shown_21 : decode cX3_shown 21 = .ok (.iload_n 2, 1) := by decide +kernel
theorem dX3_shown_22 : decode cX3_shown 22 = .ok (.invokevirtual 120, 3) := by decide +kernel
theorem dX3_shown_25 : decode cX3_shown 25 = .ok (.goto 5, 3) := by decide +kernel
theorem dX3_shown_28 : decode cX3_shown 28 = .ok (.bipush (-2), 2) := by decide +kernel
theorem dX3_shown_30 : decode cX3_shown 30 = .ok (.ireturn, 1) := by decide +kernel
set_option maxRecDepth 20000 in
theorem ggX3_allFacts_X3_manyAt : GoodIn wsX3_allFacts wsX3_manyAt := goodIn_r _ [5] (by decide +kernel) (by decide +kernel)
set_option maxRecDepth 20000 in
theorem gX3_allFacts_X3_manyAt : GoodIn wsX3_allFacts (va_wsS RX3 35 yX3_manyAt wsX3_manyAt) := goodIn_app (goodIn_of _ (by decide +kernel)) ggX3_allFacts_X3_manyAt
set_option maxRecDepth 20000 in
theorem ggX3_allFacts_X3_of : GoodIn wsX3_allFacts wsX3_of := goodIn_r _ [8, 2, 3, 4, 5] (by decide +kernel) (by decide +kernel)
set_option maxRecDepth 20000 in
theorem gX3_allFacts_X3_of : GoodIn wsX3_allFacts (va_wsS RX3 39 yX3_of wsX3_of) := goodIn_app (goodIn_of _ (by decide +kernel)) ggX3_allFacts_X3_of
theorem dX3_allFacts_0 : decode cX3_allFacts 0 = .ok (.iconst 0, 1) := by decide +kernel
theorem dX3_allFacts_1 : decode cX3_allFacts 1 = .ok (.istore_n 1, 1) := by decide +kernel
theorem dX3_allFacts_2 : decode cX3_allFacts 2 = .ok (.iconst 0, 1) := by decide +kernel
theorem dX3_allFacts_3 : decode cX3_allFacts 3 = .ok (.istore_n 2, 1) := by decide +kernel
theorem dX3_allFacts_4 : decode cX3_allFacts 4 = .ok (.iload_n 2, 1) := by decide +kernel
theorem dX3_allFacts_5 : decode cX3_allFacts 5 = .ok (.bipush 8, 2) := by decide +kernel
theorem dX3_allFacts_7 : decode cX3_allFacts 7 = .ok (.if_icmp .ge 44, 3) := by decide +kernel
theorem dX3_allFacts_10 : decode cX3_allFacts 10 = .ok (.iconst 0, 1) := by decide +kernel
theorem dX3_allFacts_11 : decode cX3_allFacts 11 = .ok (.istore_n 3, 1) := by decide +kernel
theorem dX3_allFacts_12 : decode cX3_allFacts 12 = .ok (.iload_n 3, 1) := by decide +kernel
theorem dX3_allFacts_13 : decode cX3_allFacts 13 = .ok (.aload_n 0, 1) := by decide +kernel
theorem dX3_allFacts_14 : decode cX3_allFacts 14 = .ok (.getfield 7, 3) := by decide +kernel
theorem dX3_allFacts_17 : decode cX3_allFacts 17 = .ok (.iload_n 2, 1) := by decide +kernel
theorem dX3_allFacts_18 : decode cX3_allFacts 18 = .ok (.invokestatic 35, 3) := by decide +kernel
theorem dX3_allFacts_21 : decode cX3_allFacts 21 = .ok (.iaload, 1) := by decide +kernel
theorem dX3_allFacts_22 : decode cX3_allFacts 22 = .ok (.if_icmp .ge 23, 3) := by decide +kernel
theorem dX3_allFacts_25 : decode cX3_allFacts 25 = .ok (.iload_n 1, 1) := by decide +kernel
theorem dX3_allFacts_26 : decode cX3_allFacts 26 = .ok (.aload_n 0, 1) := by decide +kernel
theorem dX3_allFacts_27 : decode cX3_allFacts 27 = .ok (.getfield 7, 3) := by decide +kernel
theorem dX3_allFacts_30 : decode cX3_allFacts 30 = .ok (.iload_n 2, 1) := by decide +kernel
theorem dX3_allFacts_31 : decode cX3_allFacts 31 = .ok (.iload_n 3, 1) := by decide +kernel
theorem dX3_allFacts_32 : decode cX3_allFacts 32 = .ok (.iconst 3, 1) := by decide +kernel
theorem dX3_allFacts_33 : decode cX3_allFacts 33 = .ok (.invokestatic 39, 3) := by decide +kernel
theorem dX3_allFacts_36 : decode cX3_allFacts 36 = .ok (.iaload, 1) := by decide +kernel
theorem dX3_allFacts_37 : decode cX3_allFacts 37 = .ok (.ior, 1) := by decide +kernel
theorem dX3_allFacts_38 : decode cX3_allFacts 38 = .ok (.istore_n 1, 1) := by decide +kernel
theorem dX3_allFacts_39 : decode cX3_allFacts 39 = .ok (.iinc 3 1, 3) := by decide +kernel
theorem dX3_allFacts_42 : decode cX3_allFacts 42 = .ok (.goto (-30), 3) := by decide +kernel
theorem dX3_allFacts_45 : decode cX3_allFacts 45 = .ok (.iinc 2 1, 3) := by decide +kernel
theorem dX3_allFacts_48 : decode cX3_allFacts 48 = .ok (.goto (-44), 3) := by decide +kernel
theorem dX3_allFacts_51 : decode cX3_allFacts 51 = .ok (.iload_n 1, 1) := by decide +kernel
theorem dX3_allFacts_52 : decode cX3_allFacts 52 = .ok (.ireturn, 1) := by decide +kernel
set_option maxRecDepth 20000 in
theorem ggX3_unmet_X3_in : GoodIn wsX3_unmet wsX3_in := goodIn_r _ [5] (by decide +kernel) (by decide +kernel)
set_option maxRecDepth 20000 in
theorem gX3_unmet_X3_in : GoodIn wsX3_unmet (va_wsS RX3 43 yX3_in wsX3_in) := goodIn_app (goodIn_of _ (by decide +kernel)) ggX3_unmet_X3_in
set_option maxRecDepth 20000 in
theorem ggX3_unmet_X3_shownTo : GoodIn wsX3_unmet wsX3_shownTo := goodIn_r _ [9, 1, 10, 11, 4, 12, 13, 14, 15, 16, 17, 18, 19, 24, 25, 26, 27, 28, 29, 30, 31, 32, 33, 34, 35, 36, 37] (by decide +kernel) (by decide +kernel)
set_option maxRecDepth 20000 in
theorem gX3_unmet_X3_shownTo : GoodIn wsX3_unmet (wsV RX3 120 RX3 yX3_shownTo wsX3_shownTo) := goodIn_app (goodIn_of _ (by decide +kernel)) ggX3_unmet_X3_shownTo
set_option maxRecDepth 20000 in
theorem ggX3_unmet_X3_of : GoodIn wsX3_unmet wsX3_of := goodIn_r _ [19, 10, 11, 4, 12] (by decide +kernel) (by decide +kernel)
set_option maxRecDepth 20000 in
theorem gX3_unmet_X3_of : GoodIn wsX3_unmet (va_wsS RX3 39 yX3_of wsX3_of) := goodIn_app (goodIn_of _ (by decide +kernel)) ggX3_unmet_X3_of
set_option maxRecDepth 20000 in
theorem ggX3_unmet_X3_allFacts : GoodIn wsX3_unmet wsX3_allFacts := goodIn_r _ [23, 1, 10, 11, 4, 12, 17, 18, 19, 24, 25, 26, 27, 28, 29, 30, 31, 32, 33, 34, 35, 36, 37] (by decide +kernel) (by decide +kernel)
set_option maxRecDepth 20000 in
theorem gX3_unmet_X3_allFacts : GoodIn wsX3_unmet (wsV RX3 148 RX3 yX3_allFacts wsX3_allFacts) := goodIn_app (goodIn_of _ (by decide +kernel)) ggX3_unmet_X3_allFacts
theorem dX3_unmet_0 : decode cX3_unmet 0 = .ok (.iload_n 1, 1) := by decide +kernel
theorem dX3_unmet_1 : decode cX3_unmet 1 = .ok (.iconst 4, 1) := by decide +kernel
theorem dX3_unmet_2 : decode cX3_unmet 2 = .ok (.bipush 99, 2) := by decide +kernel
theorem dX3_unmet_4 : decode cX3_unmet 4 = .ok (.invokestatic 43, 3) := by decide +kernel
theorem dX3_unmet_7 : decode cX3_unmet 7 = .ok (.ifCond .ne 6, 3) := by decide +kernel
theorem dX3_unmet_10 : decode cX3_unmet 10 = .ok (.bipush (-2), 2) := by decide +kernel
theorem dX3_unmet_12 : decode cX3_unmet 12 = .ok (.ireturn, 1) := by decide +kernel
theorem dX3_unmet_13 : decode cX3_unmet 13 = .ok (.iconst 0, 1) := by decide +kernel
theorem dX3_unmet_14 : decode cX3_unmet 14 = .ok (.istore_n 2, 1) := by decide +kernel
theorem dX3_unmet_15 : decode cX3_unmet 15 = .ok (.iconst 0, 1) := by decide +kernel
theorem dX3_unmet_16 : decode cX3_unmet 16 = .ok (.istore_n 3, 1) := by decide +kernel
theorem dX3_unmet_17 : decode cX3_unmet 17 = .ok (.iload_n 3, 1) := by decide +kernel
theorem dX3_unmet_18 : decode cX3_unmet 18 = .ok (.bipush 8, 2) := by decide +kernel
theorem dX3_unmet_20 : decode cX3_unmet 20 = .ok (.if_icmp .ge 43, 3) := by decide +kernel
theorem dX3_unmet_23 : decode cX3_unmet 23 = .ok (.aload_n 0, 1) := by decide +kernel
theorem dX3_unmet_24 : decode cX3_unmet 24 = .ok (.iload_n 3, 1) := by decide +kernel
theorem dX3_unmet_25 : decode cX3_unmet 25 = .ok (.iload_n 1, 1) := by decide +kernel
theorem dX3_unmet_26 : decode cX3_unmet 26 = .ok (.invokevirtual 120, 3) := by decide +kernel
theorem dX3_unmet_29 : decode cX3_unmet 29 = .ok (.istore 4, 2) := by decide +kernel
theorem dX3_unmet_31 : decode cX3_unmet 31 = .ok (.iload_n 2, 1) := by decide +kernel
theorem dX3_unmet_32 : decode cX3_unmet 32 = .ok (.iload 4, 2) := by decide +kernel
theorem dX3_unmet_34 : decode cX3_unmet 34 = .ok (.bipush (-5), 2) := by decide +kernel
theorem dX3_unmet_36 : decode cX3_unmet 36 = .ok (.if_icmp .ne 7, 3) := by decide +kernel
theorem dX3_unmet_39 : decode cX3_unmet 39 = .ok (.iconst 0, 1) := by decide +kernel
theorem dX3_unmet_40 : decode cX3_unmet 40 = .ok (.goto 15, 3) := by decide +kernel
theorem dX3_unmet_43 : decode cX3_unmet 43 = .ok (.aload_n 0, 1) := by decide +kernel
theorem dX3_unmet_44 : decode cX3_unmet 44 = .ok (.getfield 7, 3) := by decide +kernel
theorem dX3_unmet_47 : decode cX3_unmet 47 = .ok (.iload_n 3, 1) := by decide +kernel
theorem dX3_unmet_48 : decode cX3_unmet 48 = .ok (.iload 4, 2) := by decide +kernel
theorem dX3_unmet_50 : decode cX3_unmet 50 = .ok (.iconst 3, 1) := by decide +kernel
theorem dX3_unmet_51 : decode cX3_unmet 51 = .ok (.invokestatic 39, 3) := by decide +kernel
theorem dX3_unmet_54 : decode cX3_unmet 54 = .ok (.iaload, 1) := by decide +kernel
theorem dX3_unmet_55 : decode cX3_unmet 55 = .ok (.ior, 1) := by decide +kernel
theorem dX3_unmet_56 : decode cX3_unmet 56 = .ok (.istore_n 2, 1) := by decide +kernel
theorem dX3_unmet_57 : decode cX3_unmet 57 = .ok (.iinc 3 1, 3) := by decide +kernel
theorem dX3_unmet_60 : decode cX3_unmet 60 = .ok (.goto (-43), 3) := by decide +kernel
theorem dX3_unmet_63 : decode cX3_unmet 63 = .ok (.aload_n 0, 1) := by decide +kernel
theorem dX3_unmet_64 : decode cX3_unmet 64 = .ok (.invokevirtual 148, 3) := by decide +kernel
theorem dX3_unmet_67 : decode cX3_unmet 67 = .ok (.iload_n 2, 1) := by decide +kernel
theorem dX3_unmet_68 : decode cX3_unmet 68 = .ok (.iconst (-1), 1) := by decide +kernel
theorem dX3_unmet_69 : decode cX3_unmet 69 = .ok (.ixor, 1) := by decide +kernel
theorem dX3_unmet_70 : decode cX3_unmet 70 = .ok (.iand, 1) := by decide +kernel
theorem dX3_unmet_71 : decode cX3_unmet 71 = .ok (.ireturn, 1) := by decide +kernel
set_option maxRecDepth 20000 in
theorem ggX3_round_X3_in : GoodIn wsX3_round wsX3_in := goodIn_r _ [5] (by decide +kernel) (by decide +kernel)
set_option maxRecDepth 20000 in
theorem gX3_round_X3_in : GoodIn wsX3_round (va_wsS RX3 43 yX3_in wsX3_in) := goodIn_app (goodIn_of _ (by decide +kernel)) ggX3_round_X3_in
set_option maxRecDepth 20000 in
theorem ggX3_round_X3_shownTo : GoodIn wsX3_round wsX3_shownTo := goodIn_r _ [9, 1, 10, 11, 4, 12, 13, 14, 15, 16, 17, 18, 19, 23, 24, 25, 26, 27, 28, 29, 30, 31, 32, 33, 34, 35, 36] (by decide +kernel) (by decide +kernel)
set_option maxRecDepth 20000 in
theorem gX3_round_X3_shownTo : GoodIn wsX3_round (wsV RX3 120 RX3 yX3_shownTo wsX3_shownTo) := goodIn_app (goodIn_of _ (by decide +kernel)) ggX3_round_X3_shownTo
set_option maxRecDepth 20000 in
theorem ggX3_round_X3_of : GoodIn wsX3_round wsX3_of := goodIn_r _ [19, 10, 11, 4, 12] (by decide +kernel) (by decide +kernel)
set_option maxRecDepth 20000 in
theorem gX3_round_X3_of : GoodIn wsX3_round (va_wsS RX3 39 yX3_of wsX3_of) := goodIn_app (goodIn_of _ (by decide +kernel)) ggX3_round_X3_of
set_option maxRecDepth 20000 in
theorem ggX3_round_X3_seconds : GoodIn wsX3_round wsX3_seconds := goodIn_r _ [22] (by decide +kernel) (by decide +kernel)
set_option maxRecDepth 20000 in
theorem gX3_round_X3_seconds : GoodIn wsX3_round (va_wsS RX3 126 yX3_seconds wsX3_seconds) := goodIn_app (goodIn_of _ (by decide +kernel)) ggX3_round_X3_seconds
theorem dX3_round_0 : decode cX3_round 0 = .ok (.iload_n 1, 1) := by decide +kernel
theorem dX3_round_1 : decode cX3_round 1 = .ok (.iconst 4, 1) := by decide +kernel
theorem dX3_round_2 : decode cX3_round 2 = .ok (.bipush 99, 2) := by decide +kernel
theorem dX3_round_4 : decode cX3_round 4 = .ok (.invokestatic 43, 3) := by decide +kernel
theorem dX3_round_7 : decode cX3_round 7 = .ok (.ifCond .eq 26, 3) := by decide +kernel
theorem dX3_round_10 : decode cX3_round 10 = .ok (.iload_n 2, 1) := by decide +kernel
theorem dX3_round_11 : decode cX3_round 11 = .ok (.bipush 30, 2) := by decide +kernel
theorem dX3_round_13 : decode cX3_round 13 = .ok (.sipush 400, 3) := by decide +kernel
theorem dX3_round_16 : decode cX3_round 16 = .ok (.invokestatic 43, 3) := by decide +kernel
theorem dX3_round_19 : decode cX3_round 19 = .ok (.ifCond .eq 14, 3) := by decide +kernel
theorem dX3_round_22 : decode cX3_round 22 = .ok (.iload_n 3, 1) := by decide +kernel
theorem dX3_round_23 : decode cX3_round 23 = .ok (.iconst 1, 1) := by decide +kernel
theorem dX3_round_24 : decode cX3_round 24 = .ok (.sipush 9999, 3) := by decide +kernel
theorem dX3_round_27 : decode cX3_round 27 = .ok (.invokestatic 43, 3) := by decide +kernel
theorem dX3_round_30 : decode cX3_round 30 = .ok (.ifCond .ne 6, 3) := by decide +kernel
theorem dX3_round_33 : decode cX3_round 33 = .ok (.bipush (-2), 2) := by decide +kernel
theorem dX3_round_35 : decode cX3_round 35 = .ok (.ireturn, 1) := by decide +kernel
theorem dX3_round_36 : decode cX3_round 36 = .ok (.iload_n 3, 1) := by decide +kernel
theorem dX3_round_37 : decode cX3_round 37 = .ok (.istore 4, 2) := by decide +kernel
theorem dX3_round_39 : decode cX3_round 39 = .ok (.iconst 0, 1) := by decide +kernel
theorem dX3_round_40 : decode cX3_round 40 = .ok (.istore 5, 2) := by decide +kernel
theorem dX3_round_42 : decode cX3_round 42 = .ok (.iconst 0, 1) := by decide +kernel
theorem dX3_round_43 : decode cX3_round 43 = .ok (.istore 6, 2) := by decide +kernel
theorem dX3_round_45 : decode cX3_round 45 = .ok (.iload 6, 2) := by decide +kernel
theorem dX3_round_47 : decode cX3_round 47 = .ok (.bipush 8, 2) := by decide +kernel
theorem dX3_round_49 : decode cX3_round 49 = .ok (.if_icmp .ge 145, 3) := by decide +kernel
theorem dX3_round_52 : decode cX3_round 52 = .ok (.aload_n 0, 1) := by decide +kernel
theorem dX3_round_53 : decode cX3_round 53 = .ok (.getfield 7, 3) := by decide +kernel
theorem dX3_round_56 : decode cX3_round 56 = .ok (.iconst 0, 1) := by decide +kernel
theorem dX3_round_57 : decode cX3_round 57 = .ok (.iaload, 1) := by decide +kernel
theorem dX3_round_58 : decode cX3_round 58 = .ok (.iload 6, 2) := by decide +kernel
theorem dX3_round_60 : decode cX3_round 60 = .ok (.iadd, 1) := by decide +kernel
theorem dX3_round_61 : decode cX3_round 61 = .ok (.bipush 8, 2) := by decide +kernel
theorem dX3_round_63 : decode cX3_round 63 = .ok (.irem, 1) := by decide +kernel
theorem dX3_round_64 : decode cX3_round 64 = .ok (.istore 7, 2) := by decide +kernel
theorem dX3_round_66 : decode cX3_round 66 = .ok (.aload_n 0, 1) := by decide +kernel
theorem dX3_round_67 : decode cX3_round 67 = .ok (.iload 7, 2) := by decide +kernel
theorem dX3_round_69 : decode cX3_round 69 = .ok (.iload_n 1, 1) := by decide +kernel
theorem dX3_round_70 : decode cX3_round 70 = .ok (.invokevirtual 120, 3) := by decide +kernel
theorem dX3_round_73 : decode cX3_round 73 = .ok (.istore 8, 2) := by decide +kernel
theorem dX3_round_75 : decode cX3_round 75 = .ok (.iload 8, 2) := by decide +kernel
theorem dX3_round_77 : decode cX3_round 77 = .ok (.bipush (-5), 2) := by decide +kernel
theorem dX3_round_79 : decode cX3_round 79 = .ok (.if_icmp .ne 7, 3) := by decide +kernel
theorem dX3_round_82 : decode cX3_round 82 = .ok (.iconst 0, 1) := by decide +kernel
theorem dX3_round_83 : decode cX3_round 83 = .ok (.goto 16, 3) := by decide +kernel
theorem dX3_round_86 : decode cX3_round 86 = .ok (.aload_n 0, 1) := by decide +kernel
theorem dX3_round_87 : decode cX3_round 87 = .ok (.getfield 7, 3) := by decide +kernel
theorem dX3_round_90 : decode cX3_round 90 = .ok (.iload 7, 2) := by decide +kernel
theorem dX3_round_92 : decode cX3_round 92 = .ok (.iload 8, 2) := by decide +kernel
theorem dX3_round_94 : decode cX3_round 94 = .ok (.iconst 3, 1) := by decide +kernel
theorem dX3_round_95 : decode cX3_round 95 = .ok (.invokestatic 39, 3) := by decide +kernel
theorem dX3_round_98 : decode cX3_round 98 = .ok (.iaload, 1) := by decide +kernel
theorem dX3_round_99 : decode cX3_round 99 = .ok (.istore 9, 2) := by decide +kernel
theorem dX3_round_101 : decode cX3_round 101 = .ok (.iload 8, 2) := by decide +kernel
theorem dX3_round_103 : decode cX3_round 103 = .ok (.bipush (-5), 2) := by decide +kernel
theorem dX3_round_105 : decode cX3_round 105 = .ok (.if_icmp .ne 7, 3) := by decide +kernel
theorem dX3_round_108 : decode cX3_round 108 = .ok (.iconst 0, 1) := by decide +kernel
theorem dX3_round_109 : decode cX3_round 109 = .ok (.goto 20, 3) := by decide +kernel
theorem dX3_round_112 : decode cX3_round 112 = .ok (.aload_n 0, 1) := by decide +kernel
theorem dX3_round_113 : decode cX3_round 113 = .ok (.getfield 7, 3) := by decide +kernel
theorem dX3_round_116 : decode cX3_round 116 = .ok (.iload 7, 2) := by decide +kernel
theorem dX3_round_118 : decode cX3_round 118 = .ok (.iload 8, 2) := by decide +kernel
theorem dX3_round_120 : decode cX3_round 120 = .ok (.iconst 0, 1) := by decide +kernel
theorem dX3_round_121 : decode cX3_round 121 = .ok (.invokestatic 39, 3) := by decide +kernel
theorem dX3_round_124 : decode cX3_round 124 = .ok (.iaload, 1) := by decide +kernel
theorem dX3_round_125 : decode cX3_round 125 = .ok (.iload_n 2, 1) := by decide +kernel
theorem dX3_round_126 : decode cX3_round 126 = .ok (.invokestatic 126, 3) := by decide +kernel
theorem dX3_round_129 : decode cX3_round 129 = .ok (.istore 10, 2) := by decide +kernel
theorem dX3_round_131 : decode cX3_round 131 = .ok (.iload 9, 2) := by decide +kernel
theorem dX3_round_133 : decode cX3_round 133 = .ok (.iload 5, 2) := by decide +kernel
theorem dX3_round_135 : decode cX3_round 135 = .ok (.iconst (-1), 1) := by decide +kernel
theorem dX3_round_136 : decode cX3_round 136 = .ok (.ixor, 1) := by decide +kernel
theorem dX3_round_137 : decode cX3_round 137 = .ok (.iand, 1) := by decide +kernel
theorem dX3_round_138 : decode cX3_round 138 = .ok (.ifCond .eq 24, 3) := by decide +kernel
theorem dX3_round_141 : decode cX3_round 141 = .ok (.iload 10, 2) := by decide +kernel
theorem dX3_round_143 : decode cX3_round 143 = .ok (.iload 4, 2) := by decide +kernel
theorem dX3_round_145 : decode cX3_round 145 = .ok (.if_icmp .gt 17, 3) := by decide +kernel
theorem dX3_round_148 : decode cX3_round 148 = .ok (.iload 4, 2) := by decide +kernel
theorem dX3_round_150 : decode cX3_round 150 = .ok (.iload 10, 2) := by decide +kernel
theorem dX3_round_152 : decode cX3_round 152 = .ok (.isub, 1) := by decide +kernel
theorem dX3_round_153 : decode cX3_round 153 = .ok (.istore 4, 2) := by decide +kernel
theorem dX3_round_155 : decode cX3_round 155 = .ok (.iload 5, 2) := by decide +kernel
theorem dX3_round_157 : decode cX3_round 157 = .ok (.iload 9, 2) := by decide +kernel
theorem dX3_round_159 : decode cX3_round 159 = .ok (.ior, 1) := by decide +kernel
theorem dX3_round_160 : decode cX3_round 160 = .ok (.istore 5, 2) := by decide +kernel
theorem dX3_round_162 : decode cX3_round 162 = .ok (.iload 4, 2) := by decide +kernel
theorem dX3_round_164 : decode cX3_round 164 = .ok (.aload_n 0, 1) := by decide +kernel
theorem dX3_round_165 : decode cX3_round 165 = .ok (.getfield 7, 3) := by decide +kernel
theorem dX3_round_168 : decode cX3_round 168 = .ok (.iconst 1, 1) := by decide +kernel
theorem dX3_round_169 : decode cX3_round 169 = .ok (.iaload, 1) := by decide +kernel
theorem dX3_round_170 : decode cX3_round 170 = .ok (.if_icmp .ge 7, 3) := by decide +kernel
theorem dX3_round_173 : decode cX3_round 173 = .ok (.iconst 0, 1) := by decide +kernel
theorem dX3_round_174 : decode cX3_round 174 = .ok (.goto 12, 3) := by decide +kernel
theorem dX3_round_177 : decode cX3_round 177 = .ok (.iload 4, 2) := by decide +kernel
theorem dX3_round_179 : decode cX3_round 179 = .ok (.aload_n 0, 1) := by decide +kernel
theorem dX3_round_180 : decode cX3_round 180 = .ok (.getfield 7, 3) := by decide +kernel
theorem dX3_round_183 : decode cX3_round 183 = .ok (.iconst 1, 1) := by decide +kernel
theorem dX3_round_184 : decode cX3_round 184 = .ok (.iaload, 1) := by decide +kernel
theorem dX3_round_185 : decode cX3_round 185 = .ok (.isub, 1) := by decide +kernel
theorem dX3_round_186 : decode cX3_round 186 = .ok (.istore 4, 2) := by decide +kernel
theorem dX3_round_188 : decode cX3_round 188 = .ok (.iinc 6 1, 3) := by decide +kernel
theorem dX3_round_191 : decode cX3_round 191 = .ok (.goto (-146), 3) := by decide +kernel
theorem dX3_round_194 : decode cX3_round 194 = .ok (.iload 5, 2) := by decide +kernel
theorem dX3_round_196 : decode cX3_round 196 = .ok (.ireturn, 1) := by decide +kernel
set_option maxRecDepth 20000 in
theorem ggX3_ages_X3_isText : GoodIn wsX3_ages wsX3_isText := goodIn_r _ [5, 6, 7, 8, 4, 9, 10, 11, 12, 13, 14, 15, 27, 28, 29, 30, 31, 32, 33, 34, 35, 36, 37, 38, 39, 40] (by decide +kernel) (by decide +kernel)
set_option maxRecDepth 20000 in
theorem gX3_ages_X3_isText : GoodIn wsX3_ages (wsV RX3 51 RX3 yX3_isText wsX3_isText) := goodIn_app (goodIn_of _ (by decide +kernel)) ggX3_ages_X3_isText
set_option maxRecDepth 20000 in
theorem ggX3_ages_X3_in : GoodIn wsX3_ages wsX3_in := goodIn_r _ [12] (by decide +kernel) (by decide +kernel)
set_option maxRecDepth 20000 in
theorem gX3_ages_X3_in : GoodIn wsX3_ages (va_wsS RX3 43 yX3_in wsX3_in) := goodIn_app (goodIn_of _ (by decide +kernel)) ggX3_ages_X3_in
set_option maxRecDepth 20000 in
theorem ggX3_ages_X3_shownTo : GoodIn wsX3_ages wsX3_shownTo := goodIn_r _ [19, 6, 13, 14, 4, 15, 20, 21, 22, 23, 24, 25, 26, 27, 28, 29, 30, 31, 32, 33, 34, 35, 36, 37, 38, 39, 40] (by decide +kernel) (by decide +kernel)
set_option maxRecDepth 20000 in
theorem gX3_ages_X3_shownTo : GoodIn wsX3_ages (wsV RX3 120 RX3 yX3_shownTo wsX3_shownTo) := goodIn_app (goodIn_of _ (by decide +kernel)) ggX3_ages_X3_shownTo
theorem dX3_ages_0 : decode cX3_ages 0 = .ok (.aload_n 0, 1) := by decide +kernel
theorem dX3_ages_1 : decode cX3_ages 1 = .ok (.iload_n 1, 1) := by decide +kernel
theorem dX3_ages_2 : decode cX3_ages 2 = .ok (.iload_n 2, 1) := by decide +kernel
theorem dX3_ages_3 : decode cX3_ages 3 = .ok (.invokevirtual 51, 3) := by decide +kernel
theorem dX3_ages_6 : decode cX3_ages 6 = .ok (.ifCond .ne 5, 3) := by decide +kernel
theorem dX3_ages_9 : decode cX3_ages 9 = .ok (.iconst (-1), 1) := by decide +kernel
theorem dX3_ages_10 : decode cX3_ages 10 = .ok (.ireturn, 1) := by decide +kernel
theorem dX3_ages_11 : decode cX3_ages 11 = .ok (.iload_n 3, 1) := by decide +kernel
theorem dX3_ages_12 : decode cX3_ages 12 = .ok (.iconst 0, 1) := by decide +kernel
theorem dX3_ages_13 : decode cX3_ages 13 = .ok (.iconst 2, 1) := by decide +kernel
theorem dX3_ages_14 : decode cX3_ages 14 = .ok (.invokestatic 43, 3) := by decide +kernel
theorem dX3_ages_17 : decode cX3_ages 17 = .ok (.ifCond .ne 6, 3) := by decide +kernel
theorem dX3_ages_20 : decode cX3_ages 20 = .ok (.bipush (-2), 2) := by decide +kernel
theorem dX3_ages_22 : decode cX3_ages 22 = .ok (.ireturn, 1) := by decide +kernel
theorem dX3_ages_23 : decode cX3_ages 23 = .ok (.bipush (-5), 2) := by decide +kernel
theorem dX3_ages_25 : decode cX3_ages 25 = .ok (.istore 4, 2) := by decide +kernel
theorem dX3_ages_27 : decode cX3_ages 27 = .ok (.bipush (-5), 2) := by decide +kernel
theorem dX3_ages_29 : decode cX3_ages 29 = .ok (.istore 5, 2) := by decide +kernel
theorem dX3_ages_31 : decode cX3_ages 31 = .ok (.iconst 0, 1) := by decide +kernel
theorem dX3_ages_32 : decode cX3_ages 32 = .ok (.istore 6, 2) := by decide +kernel
theorem dX3_ages_34 : decode cX3_ages 34 = .ok (.iconst 4, 1) := by decide +kernel
theorem dX3_ages_35 : decode cX3_ages 35 = .ok (.istore 7, 2) := by decide +kernel
theorem dX3_ages_37 : decode cX3_ages 37 = .ok (.iload 7, 2) := by decide +kernel
theorem dX3_ages_39 : decode cX3_ages 39 = .ok (.bipush 99, 2) := by decide +kernel
theorem dX3_ages_41 : decode cX3_ages 41 = .ok (.if_icmp .gt 41, 3) := by decide +kernel
theorem dX3_ages_44 : decode cX3_ages 44 = .ok (.aload_n 0, 1) := by decide +kernel
theorem dX3_ages_45 : decode cX3_ages 45 = .ok (.iload_n 1, 1) := by decide +kernel
theorem dX3_ages_46 : decode cX3_ages 46 = .ok (.iload 7, 2) := by decide +kernel
theorem dX3_ages_48 : decode cX3_ages 48 = .ok (.invokevirtual 120, 3) := by decide +kernel
theorem dX3_ages_51 : decode cX3_ages 51 = .ok (.iload_n 2, 1) := by decide +kernel
theorem dX3_ages_52 : decode cX3_ages 52 = .ok (.if_icmp .ne 24, 3) := by decide +kernel
theorem dX3_ages_55 : decode cX3_ages 55 = .ok (.iload 6, 2) := by decide +kernel
theorem dX3_ages_57 : decode cX3_ages 57 = .ok (.ifCond .ne 8, 3) := by decide +kernel
theorem dX3_ages_60 : decode cX3_ages 60 = .ok (.iload 7, 2) := by decide +kernel
theorem dX3_ages_62 : decode cX3_ages 62 = .ok (.goto 5, 3) := by decide +kernel
theorem dX3_ages_65 : decode cX3_ages 65 = .ok (.iload 4, 2) := by decide +kernel
theorem dX3_ages_67 : decode cX3_ages 67 = .ok (.istore 4, 2) := by decide +kernel
theorem dX3_ages_69 : decode cX3_ages 69 = .ok (.iload 7, 2) := by decide +kernel
theorem dX3_ages_71 : decode cX3_ages 71 = .ok (.istore 5, 2) := by decide +kernel
theorem dX3_ages_73 : decode cX3_ages 73 = .ok (.iinc 6 1, 3) := by decide +kernel
theorem dX3_ages_76 : decode cX3_ages 76 = .ok (.iinc 7 1, 3) := by decide +kernel
theorem dX3_ages_79 : decode cX3_ages 79 = .ok (.goto (-42), 3) := by decide +kernel
theorem dX3_ages_82 : decode cX3_ages 82 = .ok (.iload_n 3, 1) := by decide +kernel
theorem dX3_ages_83 : decode cX3_ages 83 = .ok (.ifCond .ne 8, 3) := by decide +kernel
theorem dX3_ages_86 : decode cX3_ages 86 = .ok (.iload 4, 2) := by decide +kernel
theorem dX3_ages_88 : decode cX3_ages 88 = .ok (.goto 15, 3) := by decide +kernel
theorem dX3_ages_91 : decode cX3_ages 91 = .ok (.iload_n 3, 1) := by decide +kernel
theorem dX3_ages_92 : decode cX3_ages 92 = .ok (.iconst 1, 1) := by decide +kernel
theorem dX3_ages_93 : decode cX3_ages 93 = .ok (.if_icmp .ne 8, 3) := by decide +kernel
theorem dX3_ages_96 : decode cX3_ages 96 = .ok (.iload 5, 2) := by decide +kernel
theorem dX3_ages_98 : decode cX3_ages 98 = .ok (.goto 5, 3) := by decide +kernel
theorem dX3_ages_101 : decode cX3_ages 101 = .ok (.iload 6, 2) := by decide +kernel
theorem dX3_ages_103 : decode cX3_ages 103 = .ok (.ireturn, 1) := by decide +kernel
set_option maxRecDepth 20000 in
theorem ggX3_sum_X3_manyAt : GoodIn wsX3_sum wsX3_manyAt := goodIn_r _ [5] (by decide +kernel) (by decide +kernel)
set_option maxRecDepth 20000 in
theorem gX3_sum_X3_manyAt : GoodIn wsX3_sum (va_wsS RX3 35 yX3_manyAt wsX3_manyAt) := goodIn_app (goodIn_of _ (by decide +kernel)) ggX3_sum_X3_manyAt
set_option maxRecDepth 20000 in
theorem ggX3_sum_X3_of : GoodIn wsX3_sum wsX3_of := goodIn_r _ [8, 2, 3, 4, 5] (by decide +kernel) (by decide +kernel)
set_option maxRecDepth 20000 in
theorem gX3_sum_X3_of : GoodIn wsX3_sum (va_wsS RX3 39 yX3_of wsX3_of) := goodIn_app (goodIn_of _ (by decide +kernel)) ggX3_sum_X3_of
theorem dX3_sum_0 : decode cX3_sum 0 = .ok (.iconst 0, 1) := by decide +kernel
theorem dX3_sum_1 : decode cX3_sum 1 = .ok (.istore_n 2, 1) := by decide +kernel
theorem dX3_sum_2 : decode cX3_sum 2 = .ok (.iconst 0, 1) := by decide +kernel
theorem dX3_sum_3 : decode cX3_sum 3 = .ok (.istore_n 3, 1) := by decide +kernel
theorem dX3_sum_4 : decode cX3_sum 4 = .ok (.iload_n 3, 1) := by decide +kernel
theorem dX3_sum_5 : decode cX3_sum 5 = .ok (.bipush 8, 2) := by decide +kernel
theorem dX3_sum_7 : decode cX3_sum 7 = .ok (.if_icmp .ge 75, 3) := by decide +kernel
theorem dX3_sum_10 : decode cX3_sum 10 = .ok (.iconst 0, 1) := by decide +kernel
theorem dX3_sum_11 : decode cX3_sum 11 = .ok (.istore 4, 2) := by decide +kernel
theorem dX3_sum_13 : decode cX3_sum 13 = .ok (.iload 4, 2) := by decide +kernel
theorem dX3_sum_15 : decode cX3_sum 15 = .ok (.aload_n 0, 1) := by decide +kernel
theorem dX3_sum_16 : decode cX3_sum 16 = .ok (.getfield 7, 3) := by decide +kernel
theorem dX3_sum_19 : decode cX3_sum 19 = .ok (.iload_n 3, 1) := by decide +kernel
theorem dX3_sum_20 : decode cX3_sum 20 = .ok (.invokestatic 35, 3) := by decide +kernel
theorem dX3_sum_23 : decode cX3_sum 23 = .ok (.iaload, 1) := by decide +kernel
theorem dX3_sum_24 : decode cX3_sum 24 = .ok (.if_icmp .ge 52, 3) := by decide +kernel
theorem dX3_sum_27 : decode cX3_sum 27 = .ok (.iload_n 2, 1) := by decide +kernel
theorem dX3_sum_28 : decode cX3_sum 28 = .ok (.iload_n 1, 1) := by decide +kernel
theorem dX3_sum_29 : decode cX3_sum 29 = .ok (.iconst 1, 1) := by decide +kernel
theorem dX3_sum_30 : decode cX3_sum 30 = .ok (.if_icmp .ne 18, 3) := by decide +kernel
theorem dX3_sum_33 : decode cX3_sum 33 = .ok (.aload_n 0, 1) := by decide +kernel
theorem dX3_sum_34 : decode cX3_sum 34 = .ok (.getfield 7, 3) := by decide +kernel
theorem dX3_sum_37 : decode cX3_sum 37 = .ok (.iload_n 3, 1) := by decide +kernel
theorem dX3_sum_38 : decode cX3_sum 38 = .ok (.iload 4, 2) := by decide +kernel
theorem dX3_sum_40 : decode cX3_sum 40 = .ok (.iconst 5, 1) := by decide +kernel
theorem dX3_sum_41 : decode cX3_sum 41 = .ok (.invokestatic 39, 3) := by decide +kernel
theorem dX3_sum_44 : decode cX3_sum 44 = .ok (.iaload, 1) := by decide +kernel
theorem dX3_sum_45 : decode cX3_sum 45 = .ok (.goto 23, 3) := by decide +kernel
theorem dX3_sum_48 : decode cX3_sum 48 = .ok (.aload_n 0, 1) := by decide +kernel
theorem dX3_sum_49 : decode cX3_sum 49 = .ok (.getfield 7, 3) := by decide +kernel
theorem dX3_sum_52 : decode cX3_sum 52 = .ok (.iload_n 3, 1) := by decide +kernel
theorem dX3_sum_53 : decode cX3_sum 53 = .ok (.iload 4, 2) := by decide +kernel
theorem dX3_sum_55 : decode cX3_sum 55 = .ok (.iconst 4, 1) := by decide +kernel
theorem dX3_sum_56 : decode cX3_sum 56 = .ok (.invokestatic 39, 3) := by decide +kernel
theorem dX3_sum_59 : decode cX3_sum 59 = .ok (.iaload, 1) := by decide +kernel
theorem dX3_sum_60 : decode cX3_sum 60 = .ok (.ifCond .ne 7, 3) := by decide +kernel
theorem dX3_sum_63 : decode cX3_sum 63 = .ok (.iconst 1, 1) := by decide +kernel
theorem dX3_sum_64 : decode cX3_sum 64 = .ok (.goto 4, 3) := by decide +kernel
theorem dX3_sum_67 : decode cX3_sum 67 = .ok (.iconst 0, 1) := by decide +kernel
theorem dX3_sum_68 : decode cX3_sum 68 = .ok (.iadd, 1) := by decide +kernel
theorem dX3_sum_69 : decode cX3_sum 69 = .ok (.istore_n 2, 1) := by decide +kernel
theorem dX3_sum_70 : decode cX3_sum 70 = .ok (.iinc 4 1, 3) := by decide +kernel
theorem dX3_sum_73 : decode cX3_sum 73 = .ok (.goto (-60), 3) := by decide +kernel
theorem dX3_sum_76 : decode cX3_sum 76 = .ok (.iinc 3 1, 3) := by decide +kernel
theorem dX3_sum_79 : decode cX3_sum 79 = .ok (.goto (-75), 3) := by decide +kernel
theorem dX3_sum_82 : decode cX3_sum 82 = .ok (.iload_n 2, 1) := by decide +kernel
theorem dX3_sum_83 : decode cX3_sum 83 = .ok (.ireturn, 1) := by decide +kernel
set_option maxRecDepth 20000 in
theorem ggX3_count_X3_texts : GoodIn wsX3_count wsX3_texts := goodIn_r _ [8, 1, 9, 10, 7, 11, 26, 27, 28, 29, 30, 31, 32, 33, 34, 35, 36, 37, 38, 39] (by decide +kernel) (by decide +kernel)
set_option maxRecDepth 20000 in
theorem gX3_count_X3_texts : GoodIn wsX3_count (wsV RX3 145 RX3 yX3_texts wsX3_texts) := goodIn_app (goodIn_of _ (by decide +kernel)) ggX3_count_X3_texts
set_option maxRecDepth 20000 in
theorem ggX3_count_X3_sum : GoodIn wsX3_count wsX3_sum := goodIn_r _ [15, 1, 9, 10, 7, 11, 16, 17, 18, 26, 27, 28, 29, 30, 31, 32, 33, 34, 35, 36, 37, 38, 39] (by decide +kernel) (by decide +kernel)
set_option maxRecDepth 20000 in
theorem gX3_count_X3_sum : GoodIn wsX3_count (wsV RX3 151 RX3 yX3_sum wsX3_sum) := goodIn_app (goodIn_of _ (by decide +kernel)) ggX3_count_X3_sum
set_option maxRecDepth 20000 in
theorem ggX3_count_X3_allFacts : GoodIn wsX3_count wsX3_allFacts := goodIn_r _ [22, 1, 9, 10, 7, 11, 16, 17, 18, 26, 27, 28, 29, 30, 31, 32, 33, 34, 35, 36, 37, 38, 39] (by decide +kernel) (by decide +kernel)
set_option maxRecDepth 20000 in
theorem gX3_count_X3_allFacts : GoodIn wsX3_count (wsV RX3 148 RX3 yX3_allFacts wsX3_allFacts) := goodIn_app (goodIn_of _ (by decide +kernel)) ggX3_count_X3_allFacts
set_option maxRecDepth 20000 in
theorem ggX3_count_X3_bitsOf : GoodIn wsX3_count wsX3_bitsOf := goodIn_r _ [25] (by decide +kernel) (by decide +kernel)
set_option maxRecDepth 20000 in
theorem gX3_count_X3_bitsOf : GoodIn wsX3_count (va_wsS RX3 132 yX3_bitsOf wsX3_bitsOf) := goodIn_app (goodIn_of _ (by decide +kernel)) ggX3_count_X3_bitsOf
theorem dX3_count_0 : decode cX3_count 0 = .ok (.iload_n 1, 1) := by decide +kernel
theorem dX3_count_1 : decode cX3_count 1 = .ok (.tableswitch 126 0 10 #[59, 64, 70, 77, 84, 92, 100, 64, 108, 116, 121], 59) := by decide +kernel
theorem dX3_count_60 : decode cX3_count 60 = .ok (.aload_n 0, 1) := by decide +kernel
theorem dX3_count_61 : decode cX3_count 61 = .ok (.invokevirtual 145, 3) := by decide +kernel
theorem dX3_count_64 : decode cX3_count 64 = .ok (.ireturn, 1) := by decide +kernel
theorem dX3_count_65 : decode cX3_count 65 = .ok (.aload_n 0, 1) := by decide +kernel
theorem dX3_count_66 : decode cX3_count 66 = .ok (.iload_n 1, 1) := by decide +kernel
theorem dX3_count_67 : decode cX3_count 67 = .ok (.invokevirtual 151, 3) := by decide +kernel
theorem dX3_count_70 : decode cX3_count 70 = .ok (.ireturn, 1) := by decide +kernel
theorem dX3_count_71 : decode cX3_count 71 = .ok (.aload_n 0, 1) := by decide +kernel
theorem dX3_count_72 : decode cX3_count 72 = .ok (.getfield 7, 3) := by decide +kernel
theorem dX3_count_75 : decode cX3_count 75 = .ok (.iconst 0, 1) := by decide +kernel
theorem dX3_count_76 : decode cX3_count 76 = .ok (.iaload, 1) := by decide +kernel
theorem dX3_count_77 : decode cX3_count 77 = .ok (.ireturn, 1) := by decide +kernel
theorem dX3_count_78 : decode cX3_count 78 = .ok (.aload_n 0, 1) := by decide +kernel
theorem dX3_count_79 : decode cX3_count 79 = .ok (.getfield 7, 3) := by decide +kernel
theorem dX3_count_82 : decode cX3_count 82 = .ok (.iconst 1, 1) := by decide +kernel
theorem dX3_count_83 : decode cX3_count 83 = .ok (.iaload, 1) := by decide +kernel
theorem dX3_count_84 : decode cX3_count 84 = .ok (.ireturn, 1) := by decide +kernel
theorem dX3_count_85 : decode cX3_count 85 = .ok (.aload_n 0, 1) := by decide +kernel
theorem dX3_count_86 : decode cX3_count 86 = .ok (.getfield 7, 3) := by decide +kernel
theorem dX3_count_89 : decode cX3_count 89 = .ok (.bipush 7, 2) := by decide +kernel
theorem dX3_count_91 : decode cX3_count 91 = .ok (.iaload, 1) := by decide +kernel
theorem dX3_count_92 : decode cX3_count 92 = .ok (.ireturn, 1) := by decide +kernel
theorem dX3_count_93 : decode cX3_count 93 = .ok (.aload_n 0, 1) := by decide +kernel
theorem dX3_count_94 : decode cX3_count 94 = .ok (.getfield 7, 3) := by decide +kernel
theorem dX3_count_97 : decode cX3_count 97 = .ok (.bipush 8, 2) := by decide +kernel
theorem dX3_count_99 : decode cX3_count 99 = .ok (.iaload, 1) := by decide +kernel
theorem dX3_count_100 : decode cX3_count 100 = .ok (.ireturn, 1) := by decide +kernel
theorem dX3_count_101 : decode cX3_count 101 = .ok (.aload_n 0, 1) := by decide +kernel
theorem dX3_count_102 : decode cX3_count 102 = .ok (.getfield 7, 3) := by decide +kernel
theorem dX3_count_105 : decode cX3_count 105 = .ok (.bipush 9, 2) := by decide +kernel
theorem dX3_count_107 : decode cX3_count 107 = .ok (.iaload, 1) := by decide +kernel
theorem dX3_count_108 : decode cX3_count 108 = .ok (.ireturn, 1) := by decide +kernel
theorem dX3_count_109 : decode cX3_count 109 = .ok (.aload_n 0, 1) := by decide +kernel
theorem dX3_count_110 : decode cX3_count 110 = .ok (.invokevirtual 148, 3) := by decide +kernel
theorem dX3_count_113 : decode cX3_count 113 = .ok (.invokestatic 132, 3) := by decide +kernel
theorem dX3_count_116 : decode cX3_count 116 = .ok (.ireturn, 1) := by decide +kernel
theorem dX3_count_117 : decode cX3_count 117 = .ok (.aload_n 0, 1) := by decide +kernel
theorem dX3_count_118 : decode cX3_count 118 = .ok (.getfield 55, 3) := by decide +kernel
theorem dX3_count_121 : decode cX3_count 121 = .ok (.ireturn, 1) := by decide +kernel
theorem dX3_count_122 : decode cX3_count 122 = .ok (.aload_n 0, 1) := by decide +kernel
theorem dX3_count_123 : decode cX3_count 123 = .ok (.getfield 86, 3) := by decide +kernel
theorem dX3_count_126 : decode cX3_count 126 = .ok (.ireturn, 1) := by decide +kernel
theorem dX3_count_127 : decode cX3_count 127 = .ok (.bipush (-2), 2) := by decide +kernel
theorem dX3_count_129 : decode cX3_count 129 = .ok (.ireturn, 1) := by decide +kernel
theorem dJ6_bitCount_0f7a4_0 : decode cJ6_bitCount_0f7a4 0 = .ok (.iload_n 0, 1) := by decide +kernel
theorem dJ6_bitCount_0f7a4_1 : decode cJ6_bitCount_0f7a4 1 = .ok (.iload_n 0, 1) := by decide +kernel
theorem dJ6_bitCount_0f7a4_2 : decode cJ6_bitCount_0f7a4 2 = .ok (.iconst 1, 1) := by decide +kernel
theorem dJ6_bitCount_0f7a4_3 : decode cJ6_bitCount_0f7a4 3 = .ok (.iushr, 1) := by decide +kernel
theorem dJ6_bitCount_0f7a4_4 : decode cJ6_bitCount_0f7a4 4 = .ok (.ldc_w 265, 3) := by decide +kernel
theorem dJ6_bitCount_0f7a4_7 : decode cJ6_bitCount_0f7a4 7 = .ok (.iand, 1) := by decide +kernel
theorem dJ6_bitCount_0f7a4_8 : decode cJ6_bitCount_0f7a4 8 = .ok (.isub, 1) := by decide +kernel
theorem dJ6_bitCount_0f7a4_9 : decode cJ6_bitCount_0f7a4 9 = .ok (.istore_n 0, 1) := by decide +kernel
theorem dJ6_bitCount_0f7a4_10 : decode cJ6_bitCount_0f7a4 10 = .ok (.iload_n 0, 1) := by decide +kernel
theorem dJ6_bitCount_0f7a4_11 : decode cJ6_bitCount_0f7a4 11 = .ok (.ldc_w 266, 3) := by decide +kernel
theorem dJ6_bitCount_0f7a4_14 : decode cJ6_bitCount_0f7a4 14 = .ok (.iand, 1) := by decide +kernel
theorem dJ6_bitCount_0f7a4_15 : decode cJ6_bitCount_0f7a4 15 = .ok (.iload_n 0, 1) := by decide +kernel
theorem dJ6_bitCount_0f7a4_16 : decode cJ6_bitCount_0f7a4 16 = .ok (.iconst 2, 1) := by decide +kernel
theorem dJ6_bitCount_0f7a4_17 : decode cJ6_bitCount_0f7a4 17 = .ok (.iushr, 1) := by decide +kernel
theorem dJ6_bitCount_0f7a4_18 : decode cJ6_bitCount_0f7a4 18 = .ok (.ldc_w 266, 3) := by decide +kernel
theorem dJ6_bitCount_0f7a4_21 : decode cJ6_bitCount_0f7a4 21 = .ok (.iand, 1) := by decide +kernel
theorem dJ6_bitCount_0f7a4_22 : decode cJ6_bitCount_0f7a4 22 = .ok (.iadd, 1) := by decide +kernel
theorem dJ6_bitCount_0f7a4_23 : decode cJ6_bitCount_0f7a4 23 = .ok (.istore_n 0, 1) := by decide +kernel
theorem dJ6_bitCount_0f7a4_24 : decode cJ6_bitCount_0f7a4 24 = .ok (.iload_n 0, 1) := by decide +kernel
theorem dJ6_bitCount_0f7a4_25 : decode cJ6_bitCount_0f7a4 25 = .ok (.iload_n 0, 1) := by decide +kernel
theorem dJ6_bitCount_0f7a4_26 : decode cJ6_bitCount_0f7a4 26 = .ok (.iconst 4, 1) := by decide +kernel
theorem dJ6_bitCount_0f7a4_27 : decode cJ6_bitCount_0f7a4 27 = .ok (.iushr, 1) := by decide +kernel
theorem dJ6_bitCount_0f7a4_28 : decode cJ6_bitCount_0f7a4 28 = .ok (.iadd, 1) := by decide +kernel
theorem dJ6_bitCount_0f7a4_29 : decode cJ6_bitCount_0f7a4 29 = .ok (.ldc_w 267, 3) := by decide +kernel
theorem dJ6_bitCount_0f7a4_32 : decode cJ6_bitCount_0f7a4 32 = .ok (.iand, 1) := by decide +kernel
theorem dJ6_bitCount_0f7a4_33 : decode cJ6_bitCount_0f7a4 33 = .ok (.istore_n 0, 1) := by decide +kernel
theorem dJ6_bitCount_0f7a4_34 : decode cJ6_bitCount_0f7a4 34 = .ok (.iload_n 0, 1) := by decide +kernel
theorem dJ6_bitCount_0f7a4_35 : decode cJ6_bitCount_0f7a4 35 = .ok (.iload_n 0, 1) := by decide +kernel
theorem dJ6_bitCount_0f7a4_36 : decode cJ6_bitCount_0f7a4 36 = .ok (.bipush 8, 2) := by decide +kernel
theorem dJ6_bitCount_0f7a4_38 : decode cJ6_bitCount_0f7a4 38 = .ok (.iushr, 1) := by decide +kernel
theorem dJ6_bitCount_0f7a4_39 : decode cJ6_bitCount_0f7a4 39 = .ok (.iadd, 1) := by decide +kernel
theorem dJ6_bitCount_0f7a4_40 : decode cJ6_bitCount_0f7a4 40 = .ok (.istore_n 0, 1) := by decide +kernel
theorem dJ6_bitCount_0f7a4_41 : decode cJ6_bitCount_0f7a4 41 = .ok (.iload_n 0, 1) := by decide +kernel
theorem dJ6_bitCount_0f7a4_42 : decode cJ6_bitCount_0f7a4 42 = .ok (.iload_n 0, 1) := by decide +kernel
theorem dJ6_bitCount_0f7a4_43 : decode cJ6_bitCount_0f7a4 43 = .ok (.bipush 16, 2) := by decide +kernel
theorem dJ6_bitCount_0f7a4_45 : decode cJ6_bitCount_0f7a4 45 = .ok (.iushr, 1) := by decide +kernel
theorem dJ6_bitCount_0f7a4_46 : decode cJ6_bitCount_0f7a4 46 = .ok (.iadd, 1) := by decide +kernel
theorem dJ6_bitCount_0f7a4_47 : decode cJ6_bitCount_0f7a4 47 = .ok (.istore_n 0, 1) := by decide +kernel
theorem dJ6_bitCount_0f7a4_48 : decode cJ6_bitCount_0f7a4 48 = .ok (.iload_n 0, 1) := by decide +kernel
theorem dJ6_bitCount_0f7a4_49 : decode cJ6_bitCount_0f7a4 49 = .ok (.bipush 63, 2) := by decide +kernel
theorem dJ6_bitCount_0f7a4_51 : decode cJ6_bitCount_0f7a4 51 = .ok (.iand, 1) := by decide +kernel
theorem dJ6_bitCount_0f7a4_52 : decode cJ6_bitCount_0f7a4 52 = .ok (.ireturn, 1) := by decide +kernel
theorem dJ9_floorMod_7cf53_0 : decode cJ9_floorMod_7cf53 0 = .ok (.iload_n 0, 1) := by decide +kernel
theorem dJ9_floorMod_7cf53_1 : decode cJ9_floorMod_7cf53 1 = .ok (.iload_n 1, 1) := by decide +kernel
theorem dJ9_floorMod_7cf53_2 : decode cJ9_floorMod_7cf53 2 = .ok (.irem, 1) := by decide +kernel
theorem dJ9_floorMod_7cf53_3 : decode cJ9_floorMod_7cf53 3 = .ok (.istore_n 2, 1) := by decide +kernel
theorem dJ9_floorMod_7cf53_4 : decode cJ9_floorMod_7cf53 4 = .ok (.iload_n 0, 1) := by decide +kernel
theorem dJ9_floorMod_7cf53_5 : decode cJ9_floorMod_7cf53 5 = .ok (.iload_n 1, 1) := by decide +kernel
theorem dJ9_floorMod_7cf53_6 : decode cJ9_floorMod_7cf53 6 = .ok (.ixor, 1) := by decide +kernel
theorem dJ9_floorMod_7cf53_7 : decode cJ9_floorMod_7cf53 7 = .ok (.ifCond .ge 11, 3) := by decide +kernel
theorem dJ9_floorMod_7cf53_10 : decode cJ9_floorMod_7cf53 10 = .ok (.iload_n 2, 1) := by decide +kernel
theorem dJ9_floorMod_7cf53_11 : decode cJ9_floorMod_7cf53 11 = .ok (.ifCond .eq 7, 3) := by decide +kernel
theorem dJ9_floorMod_7cf53_14 : decode cJ9_floorMod_7cf53 14 = .ok (.iload_n 2, 1) := by decide +kernel
theorem dJ9_floorMod_7cf53_15 : decode cJ9_floorMod_7cf53 15 = .ok (.iload_n 1, 1) := by decide +kernel
theorem dJ9_floorMod_7cf53_16 : decode cJ9_floorMod_7cf53 16 = .ok (.iadd, 1) := by decide +kernel
theorem dJ9_floorMod_7cf53_17 : decode cJ9_floorMod_7cf53 17 = .ok (.ireturn, 1) := by decide +kernel
theorem dJ9_floorMod_7cf53_18 : decode cJ9_floorMod_7cf53 18 = .ok (.iload_n 2, 1) := by decide +kernel
theorem dJ9_floorMod_7cf53_19 : decode cJ9_floorMod_7cf53 19 = .ok (.ireturn, 1) := by decide +kernel
theorem dJ9_max_7cf53_0 : decode cJ9_max_7cf53 0 = .ok (.iload_n 0, 1) := by decide +kernel
theorem dJ9_max_7cf53_1 : decode cJ9_max_7cf53 1 = .ok (.iload_n 1, 1) := by decide +kernel
theorem dJ9_max_7cf53_2 : decode cJ9_max_7cf53 2 = .ok (.if_icmp .lt 7, 3) := by decide +kernel
theorem dJ9_max_7cf53_5 : decode cJ9_max_7cf53 5 = .ok (.iload_n 0, 1) := by decide +kernel
theorem dJ9_max_7cf53_6 : decode cJ9_max_7cf53 6 = .ok (.goto 4, 3) := by decide +kernel
theorem dJ9_max_7cf53_9 : decode cJ9_max_7cf53 9 = .ok (.iload_n 1, 1) := by decide +kernel
theorem dJ9_max_7cf53_10 : decode cJ9_max_7cf53 10 = .ok (.ireturn, 1) := by decide +kernel
theorem dJ9_min_7cf53_0 : decode cJ9_min_7cf53 0 = .ok (.iload_n 0, 1) := by decide +kernel
theorem dJ9_min_7cf53_1 : decode cJ9_min_7cf53 1 = .ok (.iload_n 1, 1) := by decide +kernel
theorem dJ9_min_7cf53_2 : decode cJ9_min_7cf53 2 = .ok (.if_icmp .gt 7, 3) := by decide +kernel
theorem dJ9_min_7cf53_5 : decode cJ9_min_7cf53 5 = .ok (.iload_n 0, 1) := by decide +kernel
theorem dJ9_min_7cf53_6 : decode cJ9_min_7cf53 6 = .ok (.goto 4, 3) := by decide +kernel
theorem dJ9_min_7cf53_9 : decode cJ9_min_7cf53 9 = .ok (.iload_n 1, 1) := by decide +kernel
theorem dJ9_min_7cf53_10 : decode cJ9_min_7cf53 10 = .ok (.ireturn, 1) := by decide +kernel
abbrev vwCl : List vw_C := [(RX0, TX0, 10), (RX1, TX1, 12), (RX2, TX2, 10), (RX3, TX3, 14)]
/-! ===== END printed: names ===== -/
