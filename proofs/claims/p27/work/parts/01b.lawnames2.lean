def wsL_law_r1 : List Cond := [Cond.classLink RL 20 RX2, Cond.instantiable RX2 10, Cond.initialized RX2, Cond.constant RL 83 (65534), Cond.methodLink RL 78 yX2_init, Cond.instanceMethod yX2_init, Cond.code yX2_init cX2_init 2 none, Cond.methodLink RX2 3 objectInit, Cond.instanceMethod objectInit, Cond.code objectInit ⟨#[0xb1]⟩ 1 none, Cond.classLink RX2 9 RX1, Cond.instantiable RX1 12, Cond.initialized RX1, Cond.fieldLink RX2 12 "ExhibitTexts" "now" "LExhibitTexts$State;", Cond.fieldLink RX2 16 "ExhibitTexts" "trial" "LExhibitTexts$State;", Cond.fieldLink RX2 19 "ExhibitTexts" "snapshot" "LExhibitTexts$State;", Cond.fieldLink RX2 22 "ExhibitTexts" "history" "[LExhibitTexts$State;", Cond.classLink RX2 26 RX0, Cond.instantiable RX0 10, Cond.initialized RX0, Cond.fieldLink RX2 29 "ExhibitTexts" "pad" "LExhibitTexts$Pad;", Cond.instanceMethod yX1_init, Cond.code yX1_init cX1_init 1 none, Cond.methodLink RX1 3 objectInit]
def wsL_law_r2 : List Cond := [Cond.arrayClass .int, Cond.fieldLink RX1 9 "ExhibitTexts$State" "sizes" "[I", Cond.fieldLink RX1 15 "ExhibitTexts$State" "cells" "[I", Cond.fieldLink RX1 18 "ExhibitTexts$State" "turning" "I", Cond.instanceMethod yX0_init, Cond.code yX0_init cX0_init 1 none, Cond.methodLink RX0 3 objectInit, Cond.arrayClass .char, Cond.fieldLink RX0 9 "ExhibitTexts$Pad" "characters" "[C", Cond.methodLink RL 79 yL_cell, Cond.static yL_cell, Cond.initialized RL, Cond.code yL_cell cL_cell 2 (some .int), Cond.methodLink RL 19 yX2_addText, Cond.instanceMethod yX2_addText, Cond.selects RX2 yX2_addText yX2_addText, Cond.code yX2_addText cX2_addText 6 (some .int), Cond.methodLink RX2 33 yX2_attempt, Cond.instanceMethod yX2_attempt, Cond.selects RX2 yX2_attempt yX2_attempt, Cond.code yX2_attempt cX2_attempt 1 (some (.object "ExhibitTexts$State")), Cond.methodLink RX2 101 yX1_copyFrom, Cond.instanceMethod yX1_copyFrom, Cond.selects RX1 yX1_copyFrom yX1_copyFrom]
def wsL_law_r3 : List Cond := [Cond.code yX1_copyFrom cX1_copyFrom 2 none, Cond.methodLink RX1 22 arraycopyName, Cond.native arraycopyName, Cond.static arraycopyName, Cond.initialized "java/lang/System", Cond.fieldLink RX1 28 "ExhibitTexts$State" "standsAt" "I", Cond.fieldLink RX1 31 "ExhibitTexts$State" "visitors" "I", Cond.fieldLink RX1 34 "ExhibitTexts$State" "textsRead" "I", Cond.fieldLink RX1 37 "ExhibitTexts$State" "captionsRead" "I", Cond.fieldLink RX1 40 "ExhibitTexts$State" "hasVisitor" "Z", Cond.fieldLink RX1 44 "ExhibitTexts$State" "age" "I", Cond.fieldLink RX1 47 "ExhibitTexts$State" "pace" "I", Cond.fieldLink RX1 50 "ExhibitTexts$State" "seconds" "I", Cond.fieldLink RX1 53 "ExhibitTexts$State" "learned" "I", Cond.methodLink RX2 37 yX1_putText, Cond.instanceMethod yX1_putText, Cond.selects RX1 yX1_putText yX1_putText, Cond.code yX1_putText cX1_putText 8 (some .int), Cond.constant RX1 64 (65535), Cond.static yX2_isExhibit, Cond.code yX2_isExhibit cX2_isExhibit 1 (some .boolean), Cond.static yX2_isText, Cond.code yX2_isText cX2_isText 3 (some .boolean), Cond.methodLink RX2 41 yX2_settle]
def wsL_law_r4 : List Cond := [Cond.instanceMethod yX2_settle, Cond.selects RX2 yX2_settle yX2_settle, Cond.code yX2_settle cX2_settle 4 (some .int), Cond.fieldLink RX2 98 "ExhibitTexts" "nextInHistory" "I", Cond.fieldLink RX2 95 "ExhibitTexts" "statesInHistory" "I", Cond.methodLink RX2 183 Lib.Math.min.name, Cond.static Lib.Math.min.name, Cond.initialized "java/lang/Math", Cond.code Lib.Math.min.name Lib.Math.min.code 2 (some .int), Cond.methodLink RL 84 yX2_visitor, Cond.instanceMethod yX2_visitor, Cond.selects RX2 yX2_visitor yX2_visitor, Cond.code yX2_visitor cX2_visitor 2 (some .int), Cond.fieldLink RX2 122 "ExhibitTexts$State" "hasVisitor" "Z", Cond.fieldLink RX2 125 "ExhibitTexts$State" "age" "I", Cond.fieldLink RX2 128 "ExhibitTexts$State" "pace" "I", Cond.fieldLink RX2 131 "ExhibitTexts$State" "seconds" "I", Cond.fieldLink RX2 134 "ExhibitTexts$State" "learned" "I", Cond.fieldLink RX2 142 "ExhibitTexts$State" "standsAt" "I", Cond.methodLink RX2 137 yJ6_bitCount_0f7a4, Cond.static yJ6_bitCount_0f7a4, Cond.initialized RJ6, Cond.code yJ6_bitCount_0f7a4 cJ6_bitCount_0f7a4 1 (some .int), Cond.constant RJ6 265 (1431655765)]
def wsL_law_r5 : List Cond := [Cond.constant RJ6 266 (858993459), Cond.constant RJ6 267 (252645135), Cond.methodLink RX2 145 yX1_textFor, Cond.instanceMethod yX1_textFor, Cond.selects RX1 yX1_textFor yX1_textFor, Cond.code yX1_textFor cX1_textFor 6 (some .int), Cond.methodLink RX1 106 yX1_fitsBetter, Cond.instanceMethod yX1_fitsBetter, Cond.selects RX1 yX1_fitsBetter yX1_fitsBetter, Cond.code yX1_fitsBetter cX1_fitsBetter 6 (some .boolean), Cond.methodLink RL 69 yX2_count, Cond.instanceMethod yX2_count, Cond.selects RX2 yX2_count yX2_count, Cond.code yX2_count cX2_count 2 (some .int), Cond.fieldLink RX2 168 "ExhibitTexts$State" "turning" "I", Cond.fieldLink RX2 171 "ExhibitTexts$State" "visitors" "I", Cond.fieldLink RX2 174 "ExhibitTexts$State" "textsRead" "I", Cond.fieldLink RX2 177 "ExhibitTexts$State" "captionsRead" "I", Cond.fieldLink RX2 92 "ExhibitTexts$Pad" "length" "I", Cond.methodLink RX2 109 yX1_countTexts, Cond.instanceMethod yX1_countTexts, Cond.selects RX1 yX1_countTexts yX1_countTexts, Cond.code yX1_countTexts cX1_countTexts 3 (some .int), Cond.methodLink RX2 165 yX1_countCaptions]
def wsL_law_r6 : List Cond := [Cond.instanceMethod yX1_countCaptions, Cond.selects RX1 yX1_countCaptions yX1_countCaptions, Cond.code yX1_countCaptions cX1_countCaptions 4 (some .int), Cond.methodLink RX2 180 yX1_countNeverRead, Cond.instanceMethod yX1_countNeverRead, Cond.selects RX1 yX1_countNeverRead yX1_countNeverRead, Cond.code yX1_countNeverRead cX1_countNeverRead 4 (some .int), Cond.methodLink RX2 155 yX1_allFacts, Cond.instanceMethod yX1_allFacts, Cond.selects RX1 yX1_allFacts yX1_allFacts, Cond.code yX1_allFacts cX1_allFacts 4 (some .int), Cond.methodLink RL 32 yX2_text, Cond.instanceMethod yX2_text, Cond.selects RX2 yX2_text yX2_text, Cond.code yX2_text cX2_text 5 (some .int), Cond.fieldLink RX2 115 "ExhibitTexts$State" "cells" "[I", Cond.methodLink RX2 112 yX1_rowOf, Cond.instanceMethod yX1_rowOf, Cond.selects RX1 yX1_rowOf yX1_rowOf, Cond.code yX1_rowOf cX1_rowOf 3 (some .int), Cond.methodLink RL 87 yL_does, Cond.static yL_does, Cond.code yL_does cL_does 9 (some .int), Cond.constant RL 18 (65535)]
def wsL_law_r7 : List Cond := [Cond.methodLink RL 8 yL_low, Cond.static yL_low, Cond.code yL_low cL_low 2 (some .int), Cond.constant RL 7 (2147483647), Cond.methodLink RL 14 yL_manyAt, Cond.static yL_manyAt, Cond.code yL_manyAt cL_manyAt 3 (some .int), Cond.methodLink RL 25 yX2_removeText, Cond.instanceMethod yX2_removeText, Cond.selects RX2 yX2_removeText yX2_removeText, Cond.code yX2_removeText cX2_removeText 3 (some .int), Cond.methodLink RX2 45 yX1_dropText, Cond.instanceMethod yX1_dropText, Cond.selects RX1 yX1_dropText yX1_dropText, Cond.code yX1_dropText cX1_dropText 5 (some .int), Cond.methodLink RX1 65 yX1_rowOf, Cond.methodLink RL 28 yX2_setFacts, Cond.instanceMethod yX2_setFacts, Cond.selects RX2 yX2_setFacts yX2_setFacts, Cond.code yX2_setFacts cX2_setFacts 4 (some .int), Cond.methodLink RX2 49 yX1_changeFacts, Cond.instanceMethod yX1_changeFacts, Cond.selects RX1 yX1_changeFacts yX1_changeFacts, Cond.code yX1_changeFacts cX1_changeFacts 6 (some .int)]
def wsL_law_r8 : List Cond := [Cond.methodLink RX1 69 yX1_captionFacts, Cond.instanceMethod yX1_captionFacts, Cond.selects RX1 yX1_captionFacts yX1_captionFacts, Cond.code yX1_captionFacts cX1_captionFacts 4 (some .int), Cond.methodLink RL 35 yX2_addCaption, Cond.instanceMethod yX2_addCaption, Cond.selects RX2 yX2_addCaption yX2_addCaption, Cond.code yX2_addCaption cX2_addCaption 5 (some .int), Cond.methodLink RX2 53 yX1_putCaption, Cond.instanceMethod yX1_putCaption, Cond.selects RX1 yX1_putCaption yX1_putCaption, Cond.code yX1_putCaption cX1_putCaption 8 (some .int), Cond.methodLink RL 39 yX2_enter, Cond.instanceMethod yX2_enter, Cond.selects RX2 yX2_enter yX2_enter, Cond.code yX2_enter cX2_enter 4 (some .int), Cond.methodLink RX2 72 yX1_admit, Cond.instanceMethod yX1_admit, Cond.selects RX1 yX1_admit yX1_admit, Cond.code yX1_admit cX1_admit 5 (some .int), Cond.static yX2_isAge, Cond.code yX2_isAge cX2_isAge 1 (some .boolean), Cond.methodLink RX1 76 yX1_textFor, Cond.methodLink RL 42 yX2_touch]
def wsL_law_r9 : List Cond := [Cond.instanceMethod yX2_touch, Cond.selects RX2 yX2_touch yX2_touch, Cond.code yX2_touch cX2_touch 2 (some .int), Cond.methodLink RX2 75 yX1_touchCaption, Cond.instanceMethod yX1_touchCaption, Cond.selects RX1 yX1_touchCaption yX1_touchCaption, Cond.code yX1_touchCaption cX1_touchCaption 6 (some .int), Cond.methodLink RX1 79 yX1_shownRow, Cond.instanceMethod yX1_shownRow, Cond.selects RX1 yX1_shownRow yX1_shownRow, Cond.code yX1_shownRow cX1_shownRow 2 (some .int), Cond.methodLink RX1 83 yX1_captionOf, Cond.instanceMethod yX1_captionOf, Cond.selects RX1 yX1_captionOf yX1_captionOf, Cond.code yX1_captionOf cX1_captionOf 3 (some .int), Cond.methodLink RX1 86 yX1_timeFor, Cond.instanceMethod yX1_timeFor, Cond.selects RX1 yX1_timeFor yX1_timeFor, Cond.code yX1_timeFor cX1_timeFor 3 (some .int), Cond.methodLink RX1 103 Lib.Math.max.name, Cond.static Lib.Math.max.name, Cond.code Lib.Math.max.name Lib.Math.max.code 2 (some .int), Cond.methodLink RX1 89 yX1_readShown, Cond.instanceMethod yX1_readShown]
def wsL_law_r10 : List Cond := [Cond.selects RX1 yX1_readShown yX1_readShown, Cond.code yX1_readShown cX1_readShown 3 (some .boolean), Cond.methodLink RX1 93 yJ6_bitCount_0f7a4, Cond.methodLink RL 46 yX2_read, Cond.instanceMethod yX2_read, Cond.selects RX2 yX2_read yX2_read, Cond.code yX2_read cX2_read 1 (some .int), Cond.methodLink RX2 78 yX1_readUntouched, Cond.instanceMethod yX1_readUntouched, Cond.selects RX1 yX1_readUntouched yX1_readUntouched, Cond.code yX1_readUntouched cX1_readUntouched 3 (some .int), Cond.methodLink RL 50 yX2_setTurning, Cond.instanceMethod yX2_setTurning, Cond.selects RX2 yX2_setTurning yX2_setTurning, Cond.code yX2_setTurning cX2_setTurning 2 (some .int), Cond.methodLink RX2 85 yX1_changeTurning, Cond.instanceMethod yX1_changeTurning, Cond.selects RX1 yX1_changeTurning yX1_changeTurning, Cond.code yX1_changeTurning cX1_changeTurning 3 (some .int), Cond.methodLink RL 53 yX2_turn, Cond.instanceMethod yX2_turn, Cond.selects RX2 yX2_turn yX2_turn, Cond.code yX2_turn cX2_turn 2 (some .int), Cond.methodLink RX2 81 yX1_turnRing]
def wsL_law_r11 : List Cond := [Cond.instanceMethod yX1_turnRing, Cond.selects RX1 yX1_turnRing yX1_turnRing, Cond.code yX1_turnRing cX1_turnRing 2 (some .int), Cond.methodLink RX1 98 yJ9_floorMod_7cf53, Cond.static yJ9_floorMod_7cf53, Cond.initialized RJ9, Cond.code yJ9_floorMod_7cf53 cJ9_floorMod_7cf53 3 (some .int), Cond.methodLink RL 72 yL_bits, Cond.static yL_bits, Cond.code yL_bits cL_bits 3 (some .int), Cond.methodLink RL 90 yL_areTextsSo, Cond.static yL_areTextsSo, Cond.code yL_areTextsSo cL_areTextsSo 16 (some .boolean), Cond.methodLink RL 57 yX2_shown, Cond.instanceMethod yX2_shown, Cond.selects RX2 yX2_shown yX2_shown, Cond.code yX2_shown cX2_shown 3 (some .int), Cond.methodLink RX2 148 yX2_isExhibit, Cond.methodLink RX2 152 yX2_isAge, Cond.methodLink RL 60 yX2_ages, Cond.instanceMethod yX2_ages, Cond.selects RX2 yX2_ages yX2_ages, Cond.code yX2_ages cX2_ages 8 (some .int), Cond.methodLink RL 63 yX2_caption]
def wsL_law_r12 : List Cond := [Cond.instanceMethod yX2_caption, Cond.selects RX2 yX2_caption yX2_caption, Cond.code yX2_caption cX2_caption 7 (some .int), Cond.methodLink RX2 119 yX1_captionOf, Cond.methodLink RL 66 yX2_unmet, Cond.instanceMethod yX2_unmet, Cond.selects RX2 yX2_unmet yX2_unmet, Cond.code yX2_unmet cX2_unmet 2 (some .int), Cond.methodLink RX2 158 yX1_factsFor, Cond.instanceMethod yX1_factsFor, Cond.selects RX1 yX1_factsFor yX1_factsFor, Cond.code yX1_factsFor cX1_factsFor 5 (some .int), Cond.methodLink RL 75 yX2_round, Cond.instanceMethod yX2_round, Cond.selects RX2 yX2_round yX2_round, Cond.code yX2_round cX2_round 7 (some .int), Cond.methodLink RX2 161 yX1_readShown]
def wsL_law : List Cond := (wsL_law_r1 ++ (wsL_law_r2 ++ (wsL_law_r3 ++ (wsL_law_r4 ++ (wsL_law_r5 ++ (wsL_law_r6 ++ (wsL_law_r7 ++ (wsL_law_r8 ++ (wsL_law_r9 ++ (wsL_law_r10 ++ (wsL_law_r11 ++ wsL_law_r12))))))))))) ++ wsX20 ++ wsX10 ++ wsX00 ++ ([] : List Cond)
set_option maxRecDepth 20000 in
theorem wsL_law_r1_ok : GoodIn lw_tbl wsL_law_r1 := goodIn_p wsL_law_r1 [17, 20, 25] (by decide +kernel) (by decide +kernel)
set_option maxRecDepth 20000 in
theorem wsL_law_r2_ok : GoodIn lw_tbl wsL_law_r2 := goodIn_p wsL_law_r2 [81, 216, 138, 142] (by decide +kernel) (by decide +kernel)
set_option maxRecDepth 20000 in
theorem wsL_law_r3_ok : GoodIn lw_tbl wsL_law_r3 := goodIn_p wsL_law_r3 [146, 153, 156, 159] (by decide +kernel) (by decide +kernel)
set_option maxRecDepth 20000 in
theorem wsL_law_r4_ok : GoodIn lw_tbl wsL_law_r4 := goodIn_p wsL_law_r4 [164, 167, 179, 182] (by decide +kernel) (by decide +kernel)
set_option maxRecDepth 20000 in
theorem wsL_law_r5_ok : GoodIn lw_tbl wsL_law_r5 := goodIn_p wsL_law_r5 [189, 193, 197, 201] (by decide +kernel) (by decide +kernel)
set_option maxRecDepth 20000 in
theorem wsL_law_r6_ok : GoodIn lw_tbl wsL_law_r6 := goodIn_p wsL_law_r6 [205, 209, 213, 171, 175, 223] (by decide +kernel) (by decide +kernel)
set_option maxRecDepth 20000 in
theorem wsL_law_r7_ok : GoodIn lw_tbl wsL_law_r7 := goodIn_p wsL_law_r7 [219, 226, 231, 235, 240, 244] (by decide +kernel) (by decide +kernel)
set_option maxRecDepth 20000 in
theorem wsL_law_r8_ok : GoodIn lw_tbl wsL_law_r8 := goodIn_p wsL_law_r8 [248, 252, 256, 260, 264, 267] (by decide +kernel) (by decide +kernel)
set_option maxRecDepth 20000 in
theorem wsL_law_r9_ok : GoodIn lw_tbl wsL_law_r9 := goodIn_p wsL_law_r9 [272, 276, 280, 284, 288, 291] (by decide +kernel) (by decide +kernel)
set_option maxRecDepth 20000 in
theorem wsL_law_r10_ok : GoodIn lw_tbl wsL_law_r10 := goodIn_p wsL_law_r10 [295, 300, 304, 308, 312, 316] (by decide +kernel) (by decide +kernel)
set_option maxRecDepth 20000 in
theorem wsL_law_r11_ok : GoodIn lw_tbl wsL_law_r11 := goodIn_p wsL_law_r11 [320, 323, 326, 329, 333, 339] (by decide +kernel) (by decide +kernel)
set_option maxRecDepth 20000 in
theorem wsL_law_r12_ok : GoodIn lw_tbl wsL_law_r12 := goodIn_p wsL_law_r12 [343, 348, 352, 356] (by decide +kernel) (by decide +kernel)
theorem wsX20_okL : GoodIn lw_tbl wsX20 := goodIn_of _ (by decide +kernel)
theorem wsX10_okL : GoodIn lw_tbl wsX10 := goodIn_of _ (by decide +kernel)
theorem wsX00_okL : GoodIn lw_tbl wsX00 := goodIn_of _ (by decide +kernel)
theorem wsL_law_in : ∀ w ∈ wsL_law, w ∈ lw_tbl := fun w h => ((goodIn_app (goodIn_app (goodIn_app (goodIn_app (goodIn_app wsL_law_r1_ok (goodIn_app wsL_law_r2_ok (goodIn_app wsL_law_r3_ok (goodIn_app wsL_law_r4_ok (goodIn_app wsL_law_r5_ok (goodIn_app wsL_law_r6_ok (goodIn_app wsL_law_r7_ok (goodIn_app wsL_law_r8_ok (goodIn_app wsL_law_r9_ok (goodIn_app wsL_law_r10_ok (goodIn_app wsL_law_r11_ok (wsL_law_r12_ok)))))))))))) wsX20_okL) wsX10_okL) wsX00_okL) (fun w h => absurd h List.not_mem_nil)) w h).1
theorem inlX0 : ∀ w ∈ wsX00, w ∈ wsL_law := fun _ h => List.mem_append_left _ (List.mem_append_right _ h)
theorem inX0 : ∀ w ∈ wsX00, w ∈ lw_tbl := fun w h => wsL_law_in w (inlX0 w h)
theorem inlX1 : ∀ w ∈ wsX10, w ∈ wsL_law := fun _ h => List.mem_append_left _ (List.mem_append_left _ (List.mem_append_right _ h))
theorem inX1 : ∀ w ∈ wsX10, w ∈ lw_tbl := fun w h => wsL_law_in w (inlX1 w h)
theorem inlX2 : ∀ w ∈ wsX20, w ∈ wsL_law := fun _ h => List.mem_append_left _ (List.mem_append_left _ (List.mem_append_left _ (List.mem_append_right _ h)))
theorem inX2 : ∀ w ∈ wsX20, w ∈ lw_tbl := fun w h => wsL_law_in w (inlX2 w h)
theorem dL_law_0 : decode cL_law 0 = .ok (.new 20, 3) := by decide +kernel
theorem dL_law_3 : decode cL_law 3 = .ok (.dup, 1) := by decide +kernel
theorem dL_law_4 : decode cL_law 4 = .ok (.invokespecial 78, 3) := by decide +kernel
theorem dL_law_7 : decode cL_law 7 = .ok (.astore_n 1, 1) := by decide +kernel
theorem dL_law_8 : decode cL_law 8 = .ok (.iconst 0, 1) := by decide +kernel
theorem dL_law_9 : decode cL_law 9 = .ok (.istore_n 2, 1) := by decide +kernel
theorem dL_law_10 : decode cL_law 10 = .ok (.iload_n 2, 1) := by decide +kernel
theorem dL_law_11 : decode cL_law 11 = .ok (.iconst 4, 1) := by decide +kernel
theorem dL_law_12 : decode cL_law 12 = .ok (.if_icmp .ge 40, 3) := by decide +kernel
theorem dL_law_15 : decode cL_law 15 = .ok (.aload_n 1, 1) := by decide +kernel
theorem dL_law_16 : decode cL_law 16 = .ok (.iload_n 2, 1) := by decide +kernel
theorem dL_law_17 : decode cL_law 17 = .ok (.iconst 1, 1) := by decide +kernel
theorem dL_law_18 : decode cL_law 18 = .ok (.iand, 1) := by decide +kernel
theorem dL_law_19 : decode cL_law 19 = .ok (.bipush 60, 2) := by decide +kernel
theorem dL_law_21 : decode cL_law 21 = .ok (.bipush 20, 2) := by decide +kernel
theorem dL_law_23 : decode cL_law 23 = .ok (.iload_n 2, 1) := by decide +kernel
theorem dL_law_24 : decode cL_law 24 = .ok (.imul, 1) := by decide +kernel
theorem dL_law_25 : decode cL_law 25 = .ok (.iadd, 1) := by decide +kernel
theorem dL_law_26 : decode cL_law 26 = .ok (.iconst 5, 1) := by decide +kernel
theorem dL_law_27 : decode cL_law 27 = .ok (.iload_n 2, 1) := by decide +kernel
theorem dL_law_28 : decode cL_law 28 = .ok (.iadd, 1) := by decide +kernel
theorem dL_law_29 : decode cL_law 29 = .ok (.iconst 2, 1) := by decide +kernel
theorem dL_law_30 : decode cL_law 30 = .ok (.iload_n 2, 1) := by decide +kernel
theorem dL_law_31 : decode cL_law 31 = .ok (.imul, 1) := by decide +kernel
theorem dL_law_32 : decode cL_law 32 = .ok (.iconst 1, 1) := by decide +kernel
theorem dL_law_33 : decode cL_law 33 = .ok (.aload_n 0, 1) := by decide +kernel
theorem dL_law_34 : decode cL_law 34 = .ok (.iload_n 2, 1) := by decide +kernel
theorem dL_law_35 : decode cL_law 35 = .ok (.invokestatic 79, 3) := by decide +kernel
theorem dL_law_38 : decode cL_law 38 = .ok (.ldc 83, 2) := by decide +kernel
theorem dL_law_40 : decode cL_law 40 = .ok (.iand, 1) := by decide +kernel
theorem dL_law_41 : decode cL_law 41 = .ok (.iadd, 1) := by decide +kernel
theorem dL_law_42 : decode cL_law 42 = .ok (.invokevirtual 19, 3) := by decide +kernel
theorem dL_law_45 : decode cL_law 45 = .ok (.istore_n 3, 1) := by decide +kernel
theorem dL_law_46 : decode cL_law 46 = .ok (.iinc 2 1, 3) := by decide +kernel
theorem dL_law_49 : decode cL_law 49 = .ok (.goto (-39), 3) := by decide +kernel
theorem dL_law_52 : decode cL_law 52 = .ok (.iconst 4, 1) := by decide +kernel
theorem dL_law_53 : decode cL_law 53 = .ok (.istore_n 2, 1) := by decide +kernel
theorem dL_law_54 : decode cL_law 54 = .ok (.iload_n 2, 1) := by decide +kernel
theorem dL_law_55 : decode cL_law 55 = .ok (.bipush 52, 2) := by decide +kernel
theorem dL_law_57 : decode cL_law 57 = .ok (.if_icmp .ge 333, 3) := by decide +kernel
theorem dL_law_60 : decode cL_law 60 = .ok (.aload_n 0, 1) := by decide +kernel
theorem dL_law_61 : decode cL_law 61 = .ok (.iload_n 2, 1) := by decide +kernel
theorem dL_law_62 : decode cL_law 62 = .ok (.invokestatic 79, 3) := by decide +kernel
theorem dL_law_65 : decode cL_law 65 = .ok (.istore_n 3, 1) := by decide +kernel
theorem dL_law_66 : decode cL_law 66 = .ok (.aload_n 1, 1) := by decide +kernel
theorem dL_law_67 : decode cL_law 67 = .ok (.iconst 0, 1) := by decide +kernel
theorem dL_law_68 : decode cL_law 68 = .ok (.invokevirtual 84, 3) := by decide +kernel
theorem dL_law_71 : decode cL_law 71 = .ok (.ifCond .le 7, 3) := by decide +kernel
theorem dL_law_74 : decode cL_law 74 = .ok (.iconst 1, 1) := by decide +kernel
theorem dL_law_75 : decode cL_law 75 = .ok (.goto 4, 3) := by decide +kernel
theorem dL_law_78 : decode cL_law 78 = .ok (.iconst 0, 1) := by decide +kernel
theorem dL_law_79 : decode cL_law 79 = .ok (.istore 4, 2) := by decide +kernel
theorem dL_law_81 : decode cL_law 81 = .ok (.iload 4, 2) := by decide +kernel
theorem dL_law_83 : decode cL_law 83 = .ok (.ifCond .eq 11, 3) := by decide +kernel
theorem dL_law_86 : decode cL_law 86 = .ok (.aload_n 1, 1) := by decide +kernel
theorem dL_law_87 : decode cL_law 87 = .ok (.iconst 3, 1) := by decide +kernel
theorem dL_law_88 : decode cL_law 88 = .ok (.invokevirtual 84, 3) := by decide +kernel
theorem dL_law_91 : decode cL_law 91 = .ok (.goto 4, 3) := by decide +kernel
theorem dL_law_94 : decode cL_law 94 = .ok (.iconst 0, 1) := by decide +kernel
theorem dL_law_95 : decode cL_law 95 = .ok (.istore 5, 2) := by decide +kernel
theorem dL_law_97 : decode cL_law 97 = .ok (.iload 4, 2) := by decide +kernel
theorem dL_law_99 : decode cL_law 99 = .ok (.ifCond .eq 11, 3) := by decide +kernel
theorem dL_law_102 : decode cL_law 102 = .ok (.aload_n 1, 1) := by decide +kernel
theorem dL_law_103 : decode cL_law 103 = .ok (.iconst 2, 1) := by decide +kernel
theorem dL_law_104 : decode cL_law 104 = .ok (.invokevirtual 84, 3) := by decide +kernel
theorem dL_law_107 : decode cL_law 107 = .ok (.goto 4, 3) := by decide +kernel
theorem dL_law_110 : decode cL_law 110 = .ok (.iconst 0, 1) := by decide +kernel
theorem dL_law_111 : decode cL_law 111 = .ok (.istore 6, 2) := by decide +kernel
theorem dL_law_113 : decode cL_law 113 = .ok (.aload_n 1, 1) := by decide +kernel
theorem dL_law_114 : decode cL_law 114 = .ok (.iconst 5, 1) := by decide +kernel
theorem dL_law_115 : decode cL_law 115 = .ok (.invokevirtual 69, 3) := by decide +kernel
theorem dL_law_118 : decode cL_law 118 = .ok (.istore 7, 2) := by decide +kernel
theorem dL_law_120 : decode cL_law 120 = .ok (.iload 4, 2) := by decide +kernel
theorem dL_law_122 : decode cL_law 122 = .ok (.ifCond .eq 11, 3) := by decide +kernel
theorem dL_law_125 : decode cL_law 125 = .ok (.aload_n 1, 1) := by decide +kernel
theorem dL_law_126 : decode cL_law 126 = .ok (.iconst 5, 1) := by decide +kernel
theorem dL_law_127 : decode cL_law 127 = .ok (.invokevirtual 84, 3) := by decide +kernel
theorem dL_law_130 : decode cL_law 130 = .ok (.goto 5, 3) := by decide +kernel
theorem dL_law_133 : decode cL_law 133 = .ok (.bipush (-5), 2) := by decide +kernel
theorem dL_law_135 : decode cL_law 135 = .ok (.istore 8, 2) := by decide +kernel
theorem dL_law_137 : decode cL_law 137 = .ok (.iload 8, 2) := by decide +kernel
theorem dL_law_139 : decode cL_law 139 = .ok (.ifCond .lt 18, 3) := by decide +kernel
theorem dL_law_142 : decode cL_law 142 = .ok (.aload_n 1, 1) := by decide +kernel
theorem dL_law_143 : decode cL_law 143 = .ok (.aload_n 1, 1) := by decide +kernel
theorem dL_law_144 : decode cL_law 144 = .ok (.iconst 2, 1) := by decide +kernel
theorem dL_law_145 : decode cL_law 145 = .ok (.invokevirtual 69, 3) := by decide +kernel
theorem dL_law_148 : decode cL_law 148 = .ok (.iload 8, 2) := by decide +kernel
theorem dL_law_150 : decode cL_law 150 = .ok (.iconst 3, 1) := by decide +kernel
theorem dL_law_151 : decode cL_law 151 = .ok (.invokevirtual 32, 3) := by decide +kernel
theorem dL_law_154 : decode cL_law 154 = .ok (.goto 4, 3) := by decide +kernel
theorem dL_law_157 : decode cL_law 157 = .ok (.iconst 0, 1) := by decide +kernel
theorem dL_law_158 : decode cL_law 158 = .ok (.istore 9, 2) := by decide +kernel
theorem dL_law_160 : decode cL_law 160 = .ok (.aload_n 1, 1) := by decide +kernel
theorem dL_law_161 : decode cL_law 161 = .ok (.iload_n 3, 1) := by decide +kernel
theorem dL_law_162 : decode cL_law 162 = .ok (.invokestatic 87, 3) := by decide +kernel
theorem dL_law_165 : decode cL_law 165 = .ok (.istore 10, 2) := by decide +kernel
theorem dL_law_167 : decode cL_law 167 = .ok (.iload_n 3, 1) := by decide +kernel
theorem dL_law_168 : decode cL_law 168 = .ok (.bipush 15, 2) := by decide +kernel
theorem dL_law_170 : decode cL_law 170 = .ok (.iand, 1) := by decide +kernel
theorem dL_law_171 : decode cL_law 171 = .ok (.istore 11, 2) := by decide +kernel
theorem dL_law_173 : decode cL_law 173 = .ok (.iload 10, 2) := by decide +kernel
theorem dL_law_175 : decode cL_law 175 = .ok (.bipush (-5), 2) := by decide +kernel
theorem dL_law_177 : decode cL_law 177 = .ok (.if_icmp .lt 7, 3) := by decide +kernel
theorem dL_law_180 : decode cL_law 180 = .ok (.iconst 1, 1) := by decide +kernel
theorem dL_law_181 : decode cL_law 181 = .ok (.goto 4, 3) := by decide +kernel
theorem dL_law_184 : decode cL_law 184 = .ok (.iconst 0, 1) := by decide +kernel
theorem dL_law_185 : decode cL_law 185 = .ok (.istore 12, 2) := by decide +kernel
theorem dL_law_187 : decode cL_law 187 = .ok (.iload 4, 2) := by decide +kernel
theorem dL_law_189 : decode cL_law 189 = .ok (.ifCond .eq 162, 3) := by decide +kernel
theorem dL_law_192 : decode cL_law 192 = .ok (.iload 11, 2) := by decide +kernel
theorem dL_law_194 : decode cL_law 194 = .ok (.bipush 6, 2) := by decide +kernel
theorem dL_law_196 : decode cL_law 196 = .ok (.if_icmp .eq 155, 3) := by decide +kernel
theorem dL_law_199 : decode cL_law 199 = .ok (.aload_n 1, 1) := by decide +kernel
theorem dL_law_200 : decode cL_law 200 = .ok (.iconst 3, 1) := by decide +kernel
theorem dL_law_201 : decode cL_law 201 = .ok (.invokevirtual 84, 3) := by decide +kernel
theorem dL_law_204 : decode cL_law 204 = .ok (.istore 13, 2) := by decide +kernel
theorem dL_law_206 : decode cL_law 206 = .ok (.iload 12, 2) := by decide +kernel
theorem dL_law_208 : decode cL_law 208 = .ok (.ifCond .eq 63, 3) := by decide +kernel
theorem dL_law_211 : decode cL_law 211 = .ok (.iload 5, 2) := by decide +kernel
theorem dL_law_213 : decode cL_law 213 = .ok (.iload 13, 2) := by decide +kernel
theorem dL_law_215 : decode cL_law 215 = .ok (.iconst (-1), 1) := by decide +kernel
theorem dL_law_216 : decode cL_law 216 = .ok (.ixor, 1) := by decide +kernel
theorem dL_law_217 : decode cL_law 217 = .ok (.iand, 1) := by decide +kernel
theorem dL_law_218 : decode cL_law 218 = .ok (.ifCond .ne 53, 3) := by decide +kernel
theorem dL_law_221 : decode cL_law 221 = .ok (.aload_n 1, 1) := by decide +kernel
theorem dL_law_222 : decode cL_law 222 = .ok (.iconst 2, 1) := by decide +kernel
theorem dL_law_223 : decode cL_law 223 = .ok (.invokevirtual 84, 3) := by decide +kernel
theorem dL_law_226 : decode cL_law 226 = .ok (.iload 6, 2) := by decide +kernel
theorem dL_law_228 : decode cL_law 228 = .ok (.if_icmp .gt 43, 3) := by decide +kernel
theorem dL_law_231 : decode cL_law 231 = .ok (.aload_n 1, 1) := by decide +kernel
theorem dL_law_232 : decode cL_law 232 = .ok (.iconst 2, 1) := by decide +kernel
theorem dL_law_233 : decode cL_law 233 = .ok (.invokevirtual 84, 3) := by decide +kernel
theorem dL_law_236 : decode cL_law 236 = .ok (.ifCond .lt 35, 3) := by decide +kernel
theorem dL_law_239 : decode cL_law 239 = .ok (.iload 13, 2) := by decide +kernel
theorem dL_law_241 : decode cL_law 241 = .ok (.iload 5, 2) := by decide +kernel
theorem dL_law_243 : decode cL_law 243 = .ok (.iconst (-1), 1) := by decide +kernel
theorem dL_law_244 : decode cL_law 244 = .ok (.ixor, 1) := by decide +kernel
theorem dL_law_245 : decode cL_law 245 = .ok (.iand, 1) := by decide +kernel
theorem dL_law_246 : decode cL_law 246 = .ok (.iload 9, 2) := by decide +kernel
theorem dL_law_248 : decode cL_law 248 = .ok (.iconst (-1), 1) := by decide +kernel
theorem dL_law_249 : decode cL_law 249 = .ok (.ixor, 1) := by decide +kernel
theorem dL_law_250 : decode cL_law 250 = .ok (.iand, 1) := by decide +kernel
theorem dL_law_251 : decode cL_law 251 = .ok (.ifCond .ne 20, 3) := by decide +kernel
theorem dL_law_254 : decode cL_law 254 = .ok (.aload_n 1, 1) := by decide +kernel
theorem dL_law_255 : decode cL_law 255 = .ok (.iconst 4, 1) := by decide +kernel
theorem dL_law_256 : decode cL_law 256 = .ok (.invokevirtual 84, 3) := by decide +kernel
theorem dL_law_259 : decode cL_law 259 = .ok (.iload 13, 2) := by decide +kernel
theorem dL_law_261 : decode cL_law 261 = .ok (.invokestatic 72, 3) := by decide +kernel
theorem dL_law_264 : decode cL_law 264 = .ok (.if_icmp .ne 7, 3) := by decide +kernel
theorem dL_law_267 : decode cL_law 267 = .ok (.iconst 1, 1) := by decide +kernel
theorem dL_law_268 : decode cL_law 268 = .ok (.goto 4, 3) := by decide +kernel
theorem dL_law_271 : decode cL_law 271 = .ok (.iconst 0, 1) := by decide +kernel
theorem dL_law_272 : decode cL_law 272 = .ok (.istore 12, 2) := by decide +kernel
theorem dL_law_274 : decode cL_law 274 = .ok (.iload 12, 2) := by decide +kernel
theorem dL_law_276 : decode cL_law 276 = .ok (.ifCond .eq 72, 3) := by decide +kernel
theorem dL_law_279 : decode cL_law 279 = .ok (.aload_n 1, 1) := by decide +kernel
theorem dL_law_280 : decode cL_law 280 = .ok (.iconst 5, 1) := by decide +kernel
theorem dL_law_281 : decode cL_law 281 = .ok (.invokevirtual 69, 3) := by decide +kernel
theorem dL_law_284 : decode cL_law 284 = .ok (.iload 7, 2) := by decide +kernel
theorem dL_law_286 : decode cL_law 286 = .ok (.if_icmp .eq 23, 3) := by decide +kernel
theorem dL_law_289 : decode cL_law 289 = .ok (.iload 9, 2) := by decide +kernel
theorem dL_law_291 : decode cL_law 291 = .ok (.iload 5, 2) := by decide +kernel
theorem dL_law_293 : decode cL_law 293 = .ok (.iconst (-1), 1) := by decide +kernel
theorem dL_law_294 : decode cL_law 294 = .ok (.ixor, 1) := by decide +kernel
theorem dL_law_295 : decode cL_law 295 = .ok (.iand, 1) := by decide +kernel
theorem dL_law_296 : decode cL_law 296 = .ok (.ifCond .eq 52, 3) := by decide +kernel
theorem dL_law_299 : decode cL_law 299 = .ok (.iload 13, 2) := by decide +kernel
theorem dL_law_301 : decode cL_law 301 = .ok (.iload 9, 2) := by decide +kernel
theorem dL_law_303 : decode cL_law 303 = .ok (.iand, 1) := by decide +kernel
theorem dL_law_304 : decode cL_law 304 = .ok (.iload 9, 2) := by decide +kernel
theorem dL_law_306 : decode cL_law 306 = .ok (.if_icmp .ne 42, 3) := by decide +kernel
theorem dL_law_309 : decode cL_law 309 = .ok (.iload 11, 2) := by decide +kernel
theorem dL_law_311 : decode cL_law 311 = .ok (.bipush 7, 2) := by decide +kernel
theorem dL_law_313 : decode cL_law 313 = .ok (.if_icmp .lt 31, 3) := by decide +kernel
theorem dL_law_316 : decode cL_law 316 = .ok (.iload 11, 2) := by decide +kernel
theorem dL_law_318 : decode cL_law 318 = .ok (.bipush 10, 2) := by decide +kernel
theorem dL_law_320 : decode cL_law 320 = .ok (.if_icmp .gt 24, 3) := by decide +kernel
theorem dL_law_323 : decode cL_law 323 = .ok (.iload 10, 2) := by decide +kernel
theorem dL_law_325 : decode cL_law 325 = .ok (.ifCond .lt 19, 3) := by decide +kernel
theorem dL_law_328 : decode cL_law 328 = .ok (.iload 13, 2) := by decide +kernel
theorem dL_law_330 : decode cL_law 330 = .ok (.invokestatic 72, 3) := by decide +kernel
theorem dL_law_333 : decode cL_law 333 = .ok (.iload 5, 2) := by decide +kernel
theorem dL_law_335 : decode cL_law 335 = .ok (.invokestatic 72, 3) := by decide +kernel
theorem dL_law_338 : decode cL_law 338 = .ok (.iload 10, 2) := by decide +kernel
theorem dL_law_340 : decode cL_law 340 = .ok (.iadd, 1) := by decide +kernel
theorem dL_law_341 : decode cL_law 341 = .ok (.if_icmp .ne 7, 3) := by decide +kernel
theorem dL_law_344 : decode cL_law 344 = .ok (.iconst 1, 1) := by decide +kernel
theorem dL_law_345 : decode cL_law 345 = .ok (.goto 4, 3) := by decide +kernel
theorem dL_law_348 : decode cL_law 348 = .ok (.iconst 0, 1) := by decide +kernel
theorem dL_law_349 : decode cL_law 349 = .ok (.istore 12, 2) := by decide +kernel
theorem dL_law_351 : decode cL_law 351 = .ok (.iload 12, 2) := by decide +kernel
theorem dL_law_353 : decode cL_law 353 = .ok (.ifCond .eq 29, 3) := by decide +kernel
theorem dL_law_356 : decode cL_law 356 = .ok (.iload_n 2, 1) := by decide +kernel
theorem dL_law_357 : decode cL_law 357 = .ok (.bipush 6, 2) := by decide +kernel
theorem dL_law_359 : decode cL_law 359 = .ok (.irem, 1) := by decide +kernel
theorem dL_law_360 : decode cL_law 360 = .ok (.iconst 1, 1) := by decide +kernel
theorem dL_law_361 : decode cL_law 361 = .ok (.if_icmp .ne 23, 3) := by decide +kernel
theorem dL_law_364 : decode cL_law 364 = .ok (.aload_n 1, 1) := by decide +kernel
theorem dL_law_365 : decode cL_law 365 = .ok (.iconst 4, 1) := by decide +kernel
theorem dL_law_366 : decode cL_law 366 = .ok (.iload_n 3, 1) := by decide +kernel
theorem dL_law_367 : decode cL_law 367 = .ok (.bipush 6, 2) := by decide +kernel
theorem dL_law_369 : decode cL_law 369 = .ok (.ishr, 1) := by decide +kernel
theorem dL_law_370 : decode cL_law 370 = .ok (.bipush 96, 2) := by decide +kernel
theorem dL_law_372 : decode cL_law 372 = .ok (.invokestatic 8, 3) := by decide +kernel
theorem dL_law_375 : decode cL_law 375 = .ok (.iadd, 1) := by decide +kernel
theorem dL_law_376 : decode cL_law 376 = .ok (.invokestatic 90, 3) := by decide +kernel
theorem dL_law_379 : decode cL_law 379 = .ok (.ifCond .ne 5, 3) := by decide +kernel
theorem dL_law_382 : decode cL_law 382 = .ok (.iconst 0, 1) := by decide +kernel
theorem dL_law_383 : decode cL_law 383 = .ok (.ireturn, 1) := by decide +kernel
theorem dL_law_384 : decode cL_law 384 = .ok (.iinc 2 1, 3) := by decide +kernel
theorem dL_law_387 : decode cL_law 387 = .ok (.goto (-333), 3) := by decide +kernel
theorem dL_law_390 : decode cL_law 390 = .ok (.iconst 1, 1) := by decide +kernel
theorem dL_law_391 : decode cL_law 391 = .ok (.ireturn, 1) := by decide +kernel
