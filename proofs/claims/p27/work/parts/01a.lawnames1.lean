def wsL_cell : List Cond := .code yL_cell cL_cell 2 (some .int) :: ([])
def wsL_low : List Cond := .code yL_low cL_low 2 (some .int) :: ([.constant RL 7 (2147483647)])
def wsL_manyAt : List Cond := .code yL_manyAt cL_manyAt 3 (some .int) :: ([.methodLink RL 32 yX2_text, .instanceMethod yX2_text, .selects RX2 yX2_text yX2_text, .initialized RX2, .code yX2_text cX2_text 5 (some .int), .fieldLink RX2 12 "ExhibitTexts" "now" "LExhibitTexts$State;", .fieldLink RX2 115 "ExhibitTexts$State" "cells" "[I", .methodLink RX2 112 yX1_rowOf, .instanceMethod yX1_rowOf, .selects RX1 yX1_rowOf yX1_rowOf, .initialized RX1, .code yX1_rowOf cX1_rowOf 3 (some .int), .fieldLink RX1 9 "ExhibitTexts$State" "sizes" "[I", .static yX2_isExhibit, .code yX2_isExhibit cX2_isExhibit 1 (some .boolean)] ++ wsX20 ++ wsX10)
def wsL_does_r1 : List Cond := [Cond.constant RL 18 (65535), Cond.methodLink RL 8 yL_low, Cond.static yL_low, Cond.initialized RL, Cond.code yL_low cL_low 2 (some .int), Cond.constant RL 7 (2147483647), Cond.methodLink RL 14 yL_manyAt, Cond.static yL_manyAt, Cond.code yL_manyAt cL_manyAt 3 (some .int), Cond.methodLink RL 32 yX2_text, Cond.instanceMethod yX2_text, Cond.selects RX2 yX2_text yX2_text, Cond.initialized RX2, Cond.code yX2_text cX2_text 5 (some .int), Cond.fieldLink RX2 12 "ExhibitTexts" "now" "LExhibitTexts$State;", Cond.fieldLink RX2 115 "ExhibitTexts$State" "cells" "[I", Cond.methodLink RX2 112 yX1_rowOf, Cond.instanceMethod yX1_rowOf, Cond.selects RX1 yX1_rowOf yX1_rowOf, Cond.initialized RX1, Cond.code yX1_rowOf cX1_rowOf 3 (some .int), Cond.fieldLink RX1 9 "ExhibitTexts$State" "sizes" "[I", Cond.static yX2_isExhibit, Cond.code yX2_isExhibit cX2_isExhibit 1 (some .boolean)]
def wsL_does_r2 : List Cond := [Cond.methodLink RL 19 yX2_addText, Cond.instanceMethod yX2_addText, Cond.selects RX2 yX2_addText yX2_addText, Cond.code yX2_addText cX2_addText 6 (some .int), Cond.methodLink RX2 33 yX2_attempt, Cond.instanceMethod yX2_attempt, Cond.selects RX2 yX2_attempt yX2_attempt, Cond.code yX2_attempt cX2_attempt 1 (some (.object "ExhibitTexts$State")), Cond.fieldLink RX2 16 "ExhibitTexts" "trial" "LExhibitTexts$State;", Cond.methodLink RX2 101 yX1_copyFrom, Cond.instanceMethod yX1_copyFrom, Cond.selects RX1 yX1_copyFrom yX1_copyFrom, Cond.code yX1_copyFrom cX1_copyFrom 2 none, Cond.methodLink RX1 22 arraycopyName, Cond.native arraycopyName, Cond.static arraycopyName, Cond.initialized "java/lang/System", Cond.fieldLink RX1 15 "ExhibitTexts$State" "cells" "[I", Cond.fieldLink RX1 28 "ExhibitTexts$State" "standsAt" "I", Cond.fieldLink RX1 18 "ExhibitTexts$State" "turning" "I", Cond.fieldLink RX1 31 "ExhibitTexts$State" "visitors" "I", Cond.fieldLink RX1 34 "ExhibitTexts$State" "textsRead" "I", Cond.fieldLink RX1 37 "ExhibitTexts$State" "captionsRead" "I", Cond.fieldLink RX1 40 "ExhibitTexts$State" "hasVisitor" "Z"]
def wsL_does_r3 : List Cond := [Cond.fieldLink RX1 44 "ExhibitTexts$State" "age" "I", Cond.fieldLink RX1 47 "ExhibitTexts$State" "pace" "I", Cond.fieldLink RX1 50 "ExhibitTexts$State" "seconds" "I", Cond.fieldLink RX1 53 "ExhibitTexts$State" "learned" "I", Cond.methodLink RX2 37 yX1_putText, Cond.instanceMethod yX1_putText, Cond.selects RX1 yX1_putText yX1_putText, Cond.code yX1_putText cX1_putText 8 (some .int), Cond.constant RX1 64 (65535), Cond.static yX2_isText, Cond.code yX2_isText cX2_isText 3 (some .boolean), Cond.methodLink RX2 41 yX2_settle, Cond.instanceMethod yX2_settle, Cond.selects RX2 yX2_settle yX2_settle, Cond.code yX2_settle cX2_settle 4 (some .int), Cond.fieldLink RX2 98 "ExhibitTexts" "nextInHistory" "I", Cond.fieldLink RX2 22 "ExhibitTexts" "history" "[LExhibitTexts$State;", Cond.fieldLink RX2 95 "ExhibitTexts" "statesInHistory" "I", Cond.methodLink RX2 183 Lib.Math.min.name, Cond.static Lib.Math.min.name, Cond.initialized "java/lang/Math", Cond.code Lib.Math.min.name Lib.Math.min.code 2 (some .int), Cond.methodLink RL 25 yX2_removeText, Cond.instanceMethod yX2_removeText]
def wsL_does_r4 : List Cond := [Cond.selects RX2 yX2_removeText yX2_removeText, Cond.code yX2_removeText cX2_removeText 3 (some .int), Cond.methodLink RX2 45 yX1_dropText, Cond.instanceMethod yX1_dropText, Cond.selects RX1 yX1_dropText yX1_dropText, Cond.code yX1_dropText cX1_dropText 5 (some .int), Cond.methodLink RX1 65 yX1_rowOf, Cond.methodLink RL 28 yX2_setFacts, Cond.instanceMethod yX2_setFacts, Cond.selects RX2 yX2_setFacts yX2_setFacts, Cond.code yX2_setFacts cX2_setFacts 4 (some .int), Cond.methodLink RX2 49 yX1_changeFacts, Cond.instanceMethod yX1_changeFacts, Cond.selects RX1 yX1_changeFacts yX1_changeFacts, Cond.code yX1_changeFacts cX1_changeFacts 6 (some .int), Cond.methodLink RX1 69 yX1_captionFacts, Cond.instanceMethod yX1_captionFacts, Cond.selects RX1 yX1_captionFacts yX1_captionFacts, Cond.code yX1_captionFacts cX1_captionFacts 4 (some .int), Cond.methodLink RL 35 yX2_addCaption, Cond.instanceMethod yX2_addCaption, Cond.selects RX2 yX2_addCaption yX2_addCaption, Cond.code yX2_addCaption cX2_addCaption 5 (some .int), Cond.methodLink RX2 53 yX1_putCaption]
def wsL_does_r5 : List Cond := [Cond.instanceMethod yX1_putCaption, Cond.selects RX1 yX1_putCaption yX1_putCaption, Cond.code yX1_putCaption cX1_putCaption 8 (some .int), Cond.methodLink RL 39 yX2_enter, Cond.instanceMethod yX2_enter, Cond.selects RX2 yX2_enter yX2_enter, Cond.code yX2_enter cX2_enter 4 (some .int), Cond.methodLink RX2 72 yX1_admit, Cond.instanceMethod yX1_admit, Cond.selects RX1 yX1_admit yX1_admit, Cond.code yX1_admit cX1_admit 5 (some .int), Cond.static yX2_isAge, Cond.code yX2_isAge cX2_isAge 1 (some .boolean), Cond.methodLink RX1 76 yX1_textFor, Cond.instanceMethod yX1_textFor, Cond.selects RX1 yX1_textFor yX1_textFor, Cond.code yX1_textFor cX1_textFor 6 (some .int), Cond.methodLink RX1 106 yX1_fitsBetter, Cond.instanceMethod yX1_fitsBetter, Cond.selects RX1 yX1_fitsBetter yX1_fitsBetter, Cond.code yX1_fitsBetter cX1_fitsBetter 6 (some .boolean), Cond.methodLink RL 42 yX2_touch, Cond.instanceMethod yX2_touch, Cond.selects RX2 yX2_touch yX2_touch]
def wsL_does_r6 : List Cond := [Cond.code yX2_touch cX2_touch 2 (some .int), Cond.methodLink RX2 75 yX1_touchCaption, Cond.instanceMethod yX1_touchCaption, Cond.selects RX1 yX1_touchCaption yX1_touchCaption, Cond.code yX1_touchCaption cX1_touchCaption 6 (some .int), Cond.methodLink RX1 79 yX1_shownRow, Cond.instanceMethod yX1_shownRow, Cond.selects RX1 yX1_shownRow yX1_shownRow, Cond.code yX1_shownRow cX1_shownRow 2 (some .int), Cond.methodLink RX1 83 yX1_captionOf, Cond.instanceMethod yX1_captionOf, Cond.selects RX1 yX1_captionOf yX1_captionOf, Cond.code yX1_captionOf cX1_captionOf 3 (some .int), Cond.methodLink RX1 86 yX1_timeFor, Cond.instanceMethod yX1_timeFor, Cond.selects RX1 yX1_timeFor yX1_timeFor, Cond.code yX1_timeFor cX1_timeFor 3 (some .int), Cond.methodLink RX1 103 Lib.Math.max.name, Cond.static Lib.Math.max.name, Cond.code Lib.Math.max.name Lib.Math.max.code 2 (some .int), Cond.methodLink RX1 89 yX1_readShown, Cond.instanceMethod yX1_readShown, Cond.selects RX1 yX1_readShown yX1_readShown, Cond.code yX1_readShown cX1_readShown 3 (some .boolean)]
def wsL_does_r7 : List Cond := [Cond.methodLink RX1 93 yJ6_bitCount_0f7a4, Cond.static yJ6_bitCount_0f7a4, Cond.initialized RJ6, Cond.code yJ6_bitCount_0f7a4 cJ6_bitCount_0f7a4 1 (some .int), Cond.constant RJ6 265 (1431655765), Cond.constant RJ6 266 (858993459), Cond.constant RJ6 267 (252645135), Cond.methodLink RL 46 yX2_read, Cond.instanceMethod yX2_read, Cond.selects RX2 yX2_read yX2_read, Cond.code yX2_read cX2_read 1 (some .int), Cond.methodLink RX2 78 yX1_readUntouched, Cond.instanceMethod yX1_readUntouched, Cond.selects RX1 yX1_readUntouched yX1_readUntouched, Cond.code yX1_readUntouched cX1_readUntouched 3 (some .int), Cond.methodLink RL 50 yX2_setTurning, Cond.instanceMethod yX2_setTurning, Cond.selects RX2 yX2_setTurning yX2_setTurning, Cond.code yX2_setTurning cX2_setTurning 2 (some .int), Cond.methodLink RX2 85 yX1_changeTurning, Cond.instanceMethod yX1_changeTurning, Cond.selects RX1 yX1_changeTurning yX1_changeTurning, Cond.code yX1_changeTurning cX1_changeTurning 3 (some .int), Cond.methodLink RL 53 yX2_turn]
def wsL_does_r8 : List Cond := [Cond.instanceMethod yX2_turn, Cond.selects RX2 yX2_turn yX2_turn, Cond.code yX2_turn cX2_turn 2 (some .int), Cond.methodLink RX2 81 yX1_turnRing, Cond.instanceMethod yX1_turnRing, Cond.selects RX1 yX1_turnRing yX1_turnRing, Cond.code yX1_turnRing cX1_turnRing 2 (some .int), Cond.methodLink RX1 98 yJ9_floorMod_7cf53, Cond.static yJ9_floorMod_7cf53, Cond.initialized RJ9, Cond.code yJ9_floorMod_7cf53 cJ9_floorMod_7cf53 3 (some .int)]
def wsL_does : List Cond := .code yL_does cL_does 9 (some .int) :: ((wsL_does_r1 ++ (wsL_does_r2 ++ (wsL_does_r3 ++ (wsL_does_r4 ++ (wsL_does_r5 ++ (wsL_does_r6 ++ (wsL_does_r7 ++ wsL_does_r8))))))) ++ wsX20 ++ wsX10)
def wsL_bits : List Cond := .code yL_bits cL_bits 3 (some .int) :: ([])
def wsL_areTextsSo_r1 : List Cond := [Cond.methodLink RL 14 yL_manyAt, Cond.static yL_manyAt, Cond.initialized RL, Cond.code yL_manyAt cL_manyAt 3 (some .int), Cond.methodLink RL 32 yX2_text, Cond.instanceMethod yX2_text, Cond.selects RX2 yX2_text yX2_text, Cond.initialized RX2, Cond.code yX2_text cX2_text 5 (some .int), Cond.fieldLink RX2 12 "ExhibitTexts" "now" "LExhibitTexts$State;", Cond.fieldLink RX2 115 "ExhibitTexts$State" "cells" "[I", Cond.methodLink RX2 112 yX1_rowOf, Cond.instanceMethod yX1_rowOf, Cond.selects RX1 yX1_rowOf yX1_rowOf, Cond.initialized RX1, Cond.code yX1_rowOf cX1_rowOf 3 (some .int), Cond.fieldLink RX1 9 "ExhibitTexts$State" "sizes" "[I", Cond.static yX2_isExhibit, Cond.code yX2_isExhibit cX2_isExhibit 1 (some .boolean), Cond.methodLink RL 57 yX2_shown, Cond.instanceMethod yX2_shown, Cond.selects RX2 yX2_shown yX2_shown, Cond.code yX2_shown cX2_shown 3 (some .int), Cond.methodLink RX2 148 yX2_isExhibit]
def wsL_areTextsSo_r2 : List Cond := [Cond.methodLink RX2 152 yX2_isAge, Cond.static yX2_isAge, Cond.code yX2_isAge cX2_isAge 1 (some .boolean), Cond.methodLink RX2 145 yX1_textFor, Cond.instanceMethod yX1_textFor, Cond.selects RX1 yX1_textFor yX1_textFor, Cond.code yX1_textFor cX1_textFor 6 (some .int), Cond.methodLink RX1 106 yX1_fitsBetter, Cond.instanceMethod yX1_fitsBetter, Cond.selects RX1 yX1_fitsBetter yX1_fitsBetter, Cond.code yX1_fitsBetter cX1_fitsBetter 6 (some .boolean), Cond.fieldLink RX1 15 "ExhibitTexts$State" "cells" "[I", Cond.methodLink RL 60 yX2_ages, Cond.instanceMethod yX2_ages, Cond.selects RX2 yX2_ages yX2_ages, Cond.code yX2_ages cX2_ages 8 (some .int), Cond.methodLink RL 63 yX2_caption, Cond.instanceMethod yX2_caption, Cond.selects RX2 yX2_caption yX2_caption, Cond.code yX2_caption cX2_caption 7 (some .int), Cond.methodLink RX2 119 yX1_captionOf, Cond.instanceMethod yX1_captionOf, Cond.selects RX1 yX1_captionOf yX1_captionOf, Cond.code yX1_captionOf cX1_captionOf 3 (some .int)]
def wsL_areTextsSo_r3 : List Cond := [Cond.methodLink RL 66 yX2_unmet, Cond.instanceMethod yX2_unmet, Cond.selects RX2 yX2_unmet yX2_unmet, Cond.code yX2_unmet cX2_unmet 2 (some .int), Cond.methodLink RX2 155 yX1_allFacts, Cond.instanceMethod yX1_allFacts, Cond.selects RX1 yX1_allFacts yX1_allFacts, Cond.code yX1_allFacts cX1_allFacts 4 (some .int), Cond.methodLink RX2 158 yX1_factsFor, Cond.instanceMethod yX1_factsFor, Cond.selects RX1 yX1_factsFor yX1_factsFor, Cond.code yX1_factsFor cX1_factsFor 5 (some .int), Cond.methodLink RX1 76 yX1_textFor, Cond.methodLink RX1 65 yX1_rowOf, Cond.methodLink RL 69 yX2_count, Cond.instanceMethod yX2_count, Cond.selects RX2 yX2_count yX2_count, Cond.code yX2_count cX2_count 2 (some .int), Cond.fieldLink RX2 142 "ExhibitTexts$State" "standsAt" "I", Cond.fieldLink RX2 168 "ExhibitTexts$State" "turning" "I", Cond.fieldLink RX2 171 "ExhibitTexts$State" "visitors" "I", Cond.fieldLink RX2 174 "ExhibitTexts$State" "textsRead" "I", Cond.fieldLink RX2 177 "ExhibitTexts$State" "captionsRead" "I", Cond.fieldLink RX2 95 "ExhibitTexts" "statesInHistory" "I"]
def wsL_areTextsSo_r4 : List Cond := [Cond.fieldLink RX2 29 "ExhibitTexts" "pad" "LExhibitTexts$Pad;", Cond.fieldLink RX2 92 "ExhibitTexts$Pad" "length" "I", Cond.methodLink RX2 109 yX1_countTexts, Cond.instanceMethod yX1_countTexts, Cond.selects RX1 yX1_countTexts yX1_countTexts, Cond.code yX1_countTexts cX1_countTexts 3 (some .int), Cond.methodLink RX2 165 yX1_countCaptions, Cond.instanceMethod yX1_countCaptions, Cond.selects RX1 yX1_countCaptions yX1_countCaptions, Cond.code yX1_countCaptions cX1_countCaptions 4 (some .int), Cond.methodLink RX2 180 yX1_countNeverRead, Cond.instanceMethod yX1_countNeverRead, Cond.selects RX1 yX1_countNeverRead yX1_countNeverRead, Cond.code yX1_countNeverRead cX1_countNeverRead 4 (some .int), Cond.methodLink RX2 137 yJ6_bitCount_0f7a4, Cond.static yJ6_bitCount_0f7a4, Cond.initialized RJ6, Cond.code yJ6_bitCount_0f7a4 cJ6_bitCount_0f7a4 1 (some .int), Cond.constant RJ6 265 (1431655765), Cond.constant RJ6 266 (858993459), Cond.constant RJ6 267 (252645135), Cond.methodLink RL 72 yL_bits, Cond.static yL_bits, Cond.code yL_bits cL_bits 3 (some .int)]
def wsL_areTextsSo_r5 : List Cond := [Cond.methodLink RL 75 yX2_round, Cond.instanceMethod yX2_round, Cond.selects RX2 yX2_round yX2_round, Cond.code yX2_round cX2_round 7 (some .int), Cond.fieldLink RX2 134 "ExhibitTexts$State" "learned" "I", Cond.methodLink RX2 33 yX2_attempt, Cond.instanceMethod yX2_attempt, Cond.selects RX2 yX2_attempt yX2_attempt, Cond.code yX2_attempt cX2_attempt 1 (some (.object "ExhibitTexts$State")), Cond.fieldLink RX2 16 "ExhibitTexts" "trial" "LExhibitTexts$State;", Cond.methodLink RX2 101 yX1_copyFrom, Cond.instanceMethod yX1_copyFrom, Cond.selects RX1 yX1_copyFrom yX1_copyFrom, Cond.code yX1_copyFrom cX1_copyFrom 2 none, Cond.methodLink RX1 22 arraycopyName, Cond.native arraycopyName, Cond.static arraycopyName, Cond.initialized "java/lang/System", Cond.fieldLink RX1 28 "ExhibitTexts$State" "standsAt" "I", Cond.fieldLink RX1 18 "ExhibitTexts$State" "turning" "I", Cond.fieldLink RX1 31 "ExhibitTexts$State" "visitors" "I", Cond.fieldLink RX1 34 "ExhibitTexts$State" "textsRead" "I", Cond.fieldLink RX1 37 "ExhibitTexts$State" "captionsRead" "I", Cond.fieldLink RX1 40 "ExhibitTexts$State" "hasVisitor" "Z"]
def wsL_areTextsSo_r6 : List Cond := [Cond.fieldLink RX1 44 "ExhibitTexts$State" "age" "I", Cond.fieldLink RX1 47 "ExhibitTexts$State" "pace" "I", Cond.fieldLink RX1 50 "ExhibitTexts$State" "seconds" "I", Cond.fieldLink RX1 53 "ExhibitTexts$State" "learned" "I", Cond.methodLink RX2 72 yX1_admit, Cond.instanceMethod yX1_admit, Cond.selects RX1 yX1_admit yX1_admit, Cond.code yX1_admit cX1_admit 5 (some .int), Cond.methodLink RX2 161 yX1_readShown, Cond.instanceMethod yX1_readShown, Cond.selects RX1 yX1_readShown yX1_readShown, Cond.code yX1_readShown cX1_readShown 3 (some .boolean), Cond.methodLink RX1 79 yX1_shownRow, Cond.instanceMethod yX1_shownRow, Cond.selects RX1 yX1_shownRow yX1_shownRow, Cond.code yX1_shownRow cX1_shownRow 2 (some .int), Cond.methodLink RX1 86 yX1_timeFor, Cond.instanceMethod yX1_timeFor, Cond.selects RX1 yX1_timeFor yX1_timeFor, Cond.code yX1_timeFor cX1_timeFor 3 (some .int), Cond.methodLink RX1 103 Lib.Math.max.name, Cond.static Lib.Math.max.name, Cond.initialized "java/lang/Math", Cond.code Lib.Math.max.name Lib.Math.max.code 2 (some .int)]
def wsL_areTextsSo_r7 : List Cond := [Cond.methodLink RX2 81 yX1_turnRing, Cond.instanceMethod yX1_turnRing, Cond.selects RX1 yX1_turnRing yX1_turnRing, Cond.code yX1_turnRing cX1_turnRing 2 (some .int), Cond.methodLink RX1 98 yJ9_floorMod_7cf53, Cond.static yJ9_floorMod_7cf53, Cond.initialized RJ9, Cond.code yJ9_floorMod_7cf53 cJ9_floorMod_7cf53 3 (some .int)]
def wsL_areTextsSo : List Cond := .code yL_areTextsSo cL_areTextsSo 16 (some .boolean) :: ((wsL_areTextsSo_r1 ++ (wsL_areTextsSo_r2 ++ (wsL_areTextsSo_r3 ++ (wsL_areTextsSo_r4 ++ (wsL_areTextsSo_r5 ++ (wsL_areTextsSo_r6 ++ wsL_areTextsSo_r7)))))) ++ wsX20 ++ wsX10 ++ wsX00)
theorem dL_cell_0 : decode cL_cell 0 = .ok (.iload_n 1, 1) := by decide +kernel
theorem dL_cell_1 : decode cL_cell 1 = .ok (.aload_n 0, 1) := by decide +kernel
theorem dL_cell_2 : decode cL_cell 2 = .ok (.arraylength, 1) := by decide +kernel
theorem dL_cell_3 : decode cL_cell 3 = .ok (.if_icmp .ge 9, 3) := by decide +kernel
theorem dL_cell_6 : decode cL_cell 6 = .ok (.aload_n 0, 1) := by decide +kernel
theorem dL_cell_7 : decode cL_cell 7 = .ok (.iload_n 1, 1) := by decide +kernel
theorem dL_cell_8 : decode cL_cell 8 = .ok (.iaload, 1) := by decide +kernel
theorem dL_cell_9 : decode cL_cell 9 = .ok (.goto 15, 3) := by decide +kernel
theorem dL_cell_12 : decode cL_cell 12 = .ok (.sipush 7919, 3) := by decide +kernel
theorem dL_cell_15 : decode cL_cell 15 = .ok (.iload_n 1, 1) := by decide +kernel
theorem dL_cell_16 : decode cL_cell 16 = .ok (.iconst 3, 1) := by decide +kernel
theorem dL_cell_17 : decode cL_cell 17 = .ok (.iadd, 1) := by decide +kernel
theorem dL_cell_18 : decode cL_cell 18 = .ok (.imul, 1) := by decide +kernel
theorem dL_cell_19 : decode cL_cell 19 = .ok (.iload_n 1, 1) := by decide +kernel
theorem dL_cell_20 : decode cL_cell 20 = .ok (.bipush 11, 2) := by decide +kernel
theorem dL_cell_22 : decode cL_cell 22 = .ok (.iadd, 1) := by decide +kernel
theorem dL_cell_23 : decode cL_cell 23 = .ok (.imul, 1) := by decide +kernel
theorem dL_cell_24 : decode cL_cell 24 = .ok (.ireturn, 1) := by decide +kernel
theorem dL_low_0 : decode cL_low 0 = .ok (.iload_n 0, 1) := by decide +kernel
theorem dL_low_1 : decode cL_low 1 = .ok (.ldc 7, 2) := by decide +kernel
theorem dL_low_3 : decode cL_low 3 = .ok (.iand, 1) := by decide +kernel
theorem dL_low_4 : decode cL_low 4 = .ok (.iload_n 1, 1) := by decide +kernel
theorem dL_low_5 : decode cL_low 5 = .ok (.irem, 1) := by decide +kernel
theorem dL_low_6 : decode cL_low 6 = .ok (.ireturn, 1) := by decide +kernel
set_option maxRecDepth 20000 in
theorem ggL_does_L_low : GoodIn wsL_does wsL_low := goodIn_r _ [5, 6] (by decide +kernel) (by decide +kernel)
set_option maxRecDepth 20000 in
theorem gL_does_L_low : GoodIn wsL_does (va_wsS RL 8 yL_low wsL_low) := goodIn_app (goodIn_of _ (by decide +kernel)) ggL_does_L_low
set_option maxRecDepth 20000 in
theorem ggL_does_L_manyAt : GoodIn wsL_does wsL_manyAt := goodIn_r _ [9, 10, 11, 12, 13, 14, 15, 16, 17, 18, 19, 20, 21, 22, 23, 24, 180, 181, 182, 183, 184, 185, 186, 187, 188, 189, 190, 191, 192, 193, 194, 195, 196, 197, 198, 199, 200, 201] (by decide +kernel) (by decide +kernel)
set_option maxRecDepth 20000 in
theorem gL_does_L_manyAt : GoodIn wsL_does (va_wsS RL 14 yL_manyAt wsL_manyAt) := goodIn_app (goodIn_of _ (by decide +kernel)) ggL_does_L_manyAt
set_option maxRecDepth 20000 in
theorem ggL_does_X2_addText : GoodIn wsL_does wsX2_addText := goodIn_r _ [28, 29, 30, 31, 13, 32, 33, 15, 34, 35, 36, 20, 37, 22, 38, 39, 40, 41, 42, 43, 44, 45, 46, 47, 48, 49, 50, 51, 52, 53, 54, 55, 56, 57, 23, 24, 58, 59, 60, 61, 62, 63, 64, 65, 66, 67, 68, 69, 70, 180, 181, 182, 183, 184, 185, 186, 187, 188, 189, 190, 191, 192, 193, 194, 195, 196, 197, 198, 199, 200, 201] (by decide +kernel) (by decide +kernel)
set_option maxRecDepth 20000 in
theorem gL_does_X2_addText : GoodIn wsL_does (wsV RL 19 RX2 yX2_addText wsX2_addText) := goodIn_app (goodIn_of _ (by decide +kernel)) ggL_does_X2_addText
set_option maxRecDepth 20000 in
theorem ggL_does_X2_removeText : GoodIn wsL_does wsX2_removeText := goodIn_r _ [74, 29, 30, 31, 13, 32, 33, 15, 34, 35, 36, 20, 37, 22, 38, 39, 40, 41, 42, 43, 44, 45, 46, 47, 48, 49, 50, 51, 52, 75, 76, 77, 78, 79, 18, 19, 21, 23, 24, 60, 61, 62, 63, 64, 65, 66, 67, 68, 69, 70, 180, 181, 182, 183, 184, 185, 186, 187, 188, 189, 190, 191, 192, 193, 194, 195, 196, 197, 198, 199, 200, 201] (by decide +kernel) (by decide +kernel)
set_option maxRecDepth 20000 in
theorem gL_does_X2_removeText : GoodIn wsL_does (wsV RL 25 RX2 yX2_removeText wsX2_removeText) := goodIn_app (goodIn_of _ (by decide +kernel)) ggL_does_X2_removeText
set_option maxRecDepth 20000 in
theorem ggL_does_X2_setFacts : GoodIn wsL_does wsX2_setFacts := goodIn_r _ [83, 29, 30, 31, 13, 32, 33, 15, 34, 35, 36, 20, 37, 22, 38, 39, 40, 41, 42, 43, 44, 45, 46, 47, 48, 49, 50, 51, 52, 84, 85, 86, 87, 57, 79, 18, 19, 21, 23, 24, 88, 89, 90, 91, 60, 61, 62, 63, 64, 65, 66, 67, 68, 69, 70, 180, 181, 182, 183, 184, 185, 186, 187, 188, 189, 190, 191, 192, 193, 194, 195, 196, 197, 198, 199, 200, 201] (by decide +kernel) (by decide +kernel)
set_option maxRecDepth 20000 in
theorem gL_does_X2_setFacts : GoodIn wsL_does (wsV RL 28 RX2 yX2_setFacts wsX2_setFacts) := goodIn_app (goodIn_of _ (by decide +kernel)) ggL_does_X2_setFacts
set_option maxRecDepth 20000 in
theorem ggL_does_X2_text : GoodIn wsL_does wsX2_text := goodIn_r _ [14, 15, 16, 17, 18, 19, 20, 21, 22, 23, 13, 24, 180, 181, 182, 183, 184, 185, 186, 187, 188, 189, 190, 191, 192, 193, 194, 195, 196, 197, 198, 199, 200, 201] (by decide +kernel) (by decide +kernel)
set_option maxRecDepth 20000 in
theorem gL_does_X2_text : GoodIn wsL_does (wsV RL 32 RX2 yX2_text wsX2_text) := goodIn_app (goodIn_of _ (by decide +kernel)) ggL_does_X2_text
set_option maxRecDepth 20000 in
theorem ggL_does_X2_addCaption : GoodIn wsL_does wsX2_addCaption := goodIn_r _ [95, 29, 30, 31, 13, 32, 33, 15, 34, 35, 36, 20, 37, 22, 38, 39, 40, 41, 42, 43, 44, 45, 46, 47, 48, 49, 50, 51, 52, 96, 97, 98, 99, 57, 79, 18, 19, 21, 23, 24, 60, 61, 62, 63, 64, 65, 66, 67, 68, 69, 70, 180, 181, 182, 183, 184, 185, 186, 187, 188, 189, 190, 191, 192, 193, 194, 195, 196, 197, 198, 199, 200, 201] (by decide +kernel) (by decide +kernel)
set_option maxRecDepth 20000 in
theorem gL_does_X2_addCaption : GoodIn wsL_does (wsV RL 35 RX2 yX2_addCaption wsX2_addCaption) := goodIn_app (goodIn_of _ (by decide +kernel)) ggL_does_X2_addCaption
set_option maxRecDepth 20000 in
theorem ggL_does_X2_enter : GoodIn wsL_does wsX2_enter := goodIn_r _ [103, 29, 30, 31, 13, 32, 33, 15, 34, 35, 36, 20, 37, 22, 38, 39, 40, 41, 42, 43, 44, 45, 46, 47, 48, 49, 50, 51, 52, 104, 105, 106, 107, 108, 109, 110, 111, 112, 113, 23, 24, 114, 115, 116, 117, 60, 61, 62, 63, 64, 65, 66, 67, 68, 69, 70, 180, 181, 182, 183, 184, 185, 186, 187, 188, 189, 190, 191, 192, 193, 194, 195, 196, 197, 198, 199, 200, 201] (by decide +kernel) (by decide +kernel)
set_option maxRecDepth 20000 in
theorem gL_does_X2_enter : GoodIn wsL_does (wsV RL 39 RX2 yX2_enter wsX2_enter) := goodIn_app (goodIn_of _ (by decide +kernel)) ggL_does_X2_enter
set_option maxRecDepth 20000 in
theorem ggL_does_X2_touch : GoodIn wsL_does wsX2_touch := goodIn_r _ [121, 29, 30, 31, 13, 32, 33, 15, 34, 35, 36, 20, 37, 22, 38, 39, 40, 41, 42, 43, 44, 45, 46, 47, 48, 49, 50, 51, 52, 122, 123, 124, 125, 126, 127, 128, 129, 110, 111, 112, 113, 23, 24, 114, 115, 116, 117, 79, 18, 19, 21, 130, 131, 132, 133, 134, 135, 136, 137, 138, 139, 69, 140, 141, 142, 143, 144, 145, 146, 147, 148, 149, 150, 151, 60, 61, 62, 63, 64, 65, 66, 67, 68, 70, 180, 181, 182, 183, 184, 185, 186, 187, 188, 189, 190, 191, 192, 193, 194, 195, 196, 197, 198, 199, 200, 201] (by decide +kernel) (by decide +kernel)
set_option maxRecDepth 20000 in
theorem gL_does_X2_touch : GoodIn wsL_does (wsV RL 42 RX2 yX2_touch wsX2_touch) := goodIn_app (goodIn_of _ (by decide +kernel)) ggL_does_X2_touch
set_option maxRecDepth 20000 in
theorem ggL_does_X2_read : GoodIn wsL_does wsX2_read := goodIn_r _ [155, 29, 30, 31, 13, 32, 33, 15, 34, 35, 36, 20, 37, 22, 38, 39, 40, 41, 42, 43, 44, 45, 46, 47, 48, 49, 50, 51, 52, 156, 157, 158, 159, 126, 127, 128, 129, 110, 111, 112, 113, 23, 24, 114, 115, 116, 117, 79, 18, 19, 21, 141, 142, 143, 144, 134, 135, 136, 137, 138, 139, 69, 140, 145, 146, 147, 148, 149, 150, 151, 60, 61, 62, 63, 64, 65, 66, 67, 68, 70, 180, 181, 182, 183, 184, 185, 186, 187, 188, 189, 190, 191, 192, 193, 194, 195, 196, 197, 198, 199, 200, 201] (by decide +kernel) (by decide +kernel)
set_option maxRecDepth 20000 in
theorem gL_does_X2_read : GoodIn wsL_does (wsV RL 46 RX2 yX2_read wsX2_read) := goodIn_app (goodIn_of _ (by decide +kernel)) ggL_does_X2_read
set_option maxRecDepth 20000 in
theorem ggL_does_X2_setTurning : GoodIn wsL_does wsX2_setTurning := goodIn_r _ [163, 29, 30, 31, 13, 32, 33, 15, 34, 35, 36, 20, 37, 22, 38, 39, 40, 41, 42, 43, 44, 45, 46, 47, 48, 49, 50, 51, 52, 164, 165, 166, 167, 60, 61, 62, 63, 64, 65, 66, 67, 68, 69, 70, 180, 181, 182, 183, 184, 185, 186, 187, 188, 189, 190, 191, 192, 193, 194, 195, 196, 197, 198, 199, 200, 201] (by decide +kernel) (by decide +kernel)
set_option maxRecDepth 20000 in
theorem gL_does_X2_setTurning : GoodIn wsL_does (wsV RL 50 RX2 yX2_setTurning wsX2_setTurning) := goodIn_app (goodIn_of _ (by decide +kernel)) ggL_does_X2_setTurning
set_option maxRecDepth 20000 in
theorem ggL_does_X2_turn : GoodIn wsL_does wsX2_turn := goodIn_r _ [171, 29, 30, 31, 13, 32, 33, 15, 34, 35, 36, 20, 37, 22, 38, 39, 40, 41, 42, 43, 44, 45, 46, 47, 48, 49, 50, 51, 52, 172, 173, 174, 175, 138, 139, 69, 140, 176, 177, 178, 179, 60, 61, 62, 63, 64, 65, 66, 67, 68, 70, 180, 181, 182, 183, 184, 185, 186, 187, 188, 189, 190, 191, 192, 193, 194, 195, 196, 197, 198, 199, 200, 201] (by decide +kernel) (by decide +kernel)
set_option maxRecDepth 20000 in
theorem gL_does_X2_turn : GoodIn wsL_does (wsV RL 53 RX2 yX2_turn wsX2_turn) := goodIn_app (goodIn_of _ (by decide +kernel)) ggL_does_X2_turn
theorem dL_does_0 : decode cL_does 0 = .ok (.iload_n 1, 1) := by decide +kernel
theorem dL_does_1 : decode cL_does 1 = .ok (.iconst 4, 1) := by decide +kernel
theorem dL_does_2 : decode cL_does 2 = .ok (.ishr, 1) := by decide +kernel
theorem dL_does_3 : decode cL_does 3 = .ok (.iconst 4, 1) := by decide +kernel
theorem dL_does_4 : decode cL_does 4 = .ok (.invokestatic 8, 3) := by decide +kernel
theorem dL_does_7 : decode cL_does 7 = .ok (.istore_n 2, 1) := by decide +kernel
theorem dL_does_8 : decode cL_does 8 = .ok (.aload_n 0, 1) := by decide +kernel
theorem dL_does_9 : decode cL_does 9 = .ok (.iload_n 2, 1) := by decide +kernel
theorem dL_does_10 : decode cL_does 10 = .ok (.invokestatic 14, 3) := by decide +kernel
theorem dL_does_13 : decode cL_does 13 = .ok (.istore_n 3, 1) := by decide +kernel
theorem dL_does_14 : decode cL_does 14 = .ok (.iload_n 3, 1) := by decide +kernel
theorem dL_does_15 : decode cL_does 15 = .ok (.ifCond .ne 7, 3) := by decide +kernel
theorem dL_does_18 : decode cL_does 18 = .ok (.iconst 0, 1) := by decide +kernel
theorem dL_does_19 : decode cL_does 19 = .ok (.goto 11, 3) := by decide +kernel
theorem dL_does_22 : decode cL_does 22 = .ok (.iload_n 1, 1) := by decide +kernel
theorem dL_does_23 : decode cL_does 23 = .ok (.bipush 6, 2) := by decide +kernel
theorem dL_does_25 : decode cL_does 25 = .ok (.ishr, 1) := by decide +kernel
theorem dL_does_26 : decode cL_does 26 = .ok (.iload_n 3, 1) := by decide +kernel
theorem dL_does_27 : decode cL_does 27 = .ok (.invokestatic 8, 3) := by decide +kernel
theorem dL_does_30 : decode cL_does 30 = .ok (.istore 4, 2) := by decide +kernel
theorem dL_does_32 : decode cL_does 32 = .ok (.iload_n 1, 1) := by decide +kernel
theorem dL_does_33 : decode cL_does 33 = .ok (.bipush 9, 2) := by decide +kernel
theorem dL_does_35 : decode cL_does 35 = .ok (.ishr, 1) := by decide +kernel
theorem dL_does_36 : decode cL_does 36 = .ok (.ldc 18, 2) := by decide +kernel
theorem dL_does_38 : decode cL_does 38 = .ok (.iand, 1) := by decide +kernel
theorem dL_does_39 : decode cL_does 39 = .ok (.istore 5, 2) := by decide +kernel
theorem dL_does_41 : decode cL_does 41 = .ok (.iload_n 1, 1) := by decide +kernel
theorem dL_does_42 : decode cL_does 42 = .ok (.bipush 15, 2) := by decide +kernel
theorem dL_does_44 : decode cL_does 44 = .ok (.iand, 1) := by decide +kernel
theorem dL_does_45 : decode cL_does 45 = .ok (.tableswitch 298 0 11 #[63, 63, 63, 135, 173, 173, 229, 268, 268, 280, 280, 285], 63) := by decide +kernel
theorem dL_does_108 : decode cL_does 108 = .ok (.iconst 1, 1) := by decide +kernel
theorem dL_does_109 : decode cL_does 109 = .ok (.iload_n 1, 1) := by decide +kernel
theorem dL_does_110 : decode cL_does 110 = .ok (.iconst 5, 1) := by decide +kernel
theorem dL_does_111 : decode cL_does 111 = .ok (.ishr, 1) := by decide +kernel
theorem dL_does_112 : decode cL_does 112 = .ok (.sipush 300, 3) := by decide +kernel
theorem dL_does_115 : decode cL_does 115 = .ok (.invokestatic 8, 3) := by decide +kernel
theorem dL_does_118 : decode cL_does 118 = .ok (.iadd, 1) := by decide +kernel
theorem dL_does_119 : decode cL_does 119 = .ok (.istore 6, 2) := by decide +kernel
theorem dL_does_121 : decode cL_does 121 = .ok (.iload 6, 2) := by decide +kernel
theorem dL_does_123 : decode cL_does 123 = .ok (.bipush 50, 2) := by decide +kernel
theorem dL_does_125 : decode cL_does 125 = .ok (.if_icmp .ge 8, 3) := by decide +kernel
theorem dL_does_128 : decode cL_does 128 = .ok (.iload 6, 2) := by decide +kernel
theorem dL_does_130 : decode cL_does 130 = .ok (.goto 5, 3) := by decide +kernel
theorem dL_does_133 : decode cL_does 133 = .ok (.bipush 50, 2) := by decide +kernel
theorem dL_does_135 : decode cL_does 135 = .ok (.istore 7, 2) := by decide +kernel
theorem dL_does_137 : decode cL_does 137 = .ok (.aload_n 0, 1) := by decide +kernel
theorem dL_does_138 : decode cL_does 138 = .ok (.iload_n 2, 1) := by decide +kernel
theorem dL_does_139 : decode cL_does 139 = .ok (.iload 6, 2) := by decide +kernel
theorem dL_does_141 : decode cL_does 141 = .ok (.iconst 1, 1) := by decide +kernel
theorem dL_does_142 : decode cL_does 142 = .ok (.iload_n 1, 1) := by decide +kernel
theorem dL_does_143 : decode cL_does 143 = .ok (.bipush 7, 2) := by decide +kernel
theorem dL_does_145 : decode cL_does 145 = .ok (.ishr, 1) := by decide +kernel
theorem dL_does_146 : decode cL_does 146 = .ok (.iload 7, 2) := by decide +kernel
theorem dL_does_148 : decode cL_does 148 = .ok (.invokestatic 8, 3) := by decide +kernel
theorem dL_does_151 : decode cL_does 151 = .ok (.iadd, 1) := by decide +kernel
theorem dL_does_152 : decode cL_does 152 = .ok (.iload_n 1, 1) := by decide +kernel
theorem dL_does_153 : decode cL_does 153 = .ok (.bipush 11, 2) := by decide +kernel
theorem dL_does_155 : decode cL_does 155 = .ok (.ishr, 1) := by decide +kernel
theorem dL_does_156 : decode cL_does 156 = .ok (.iload 6, 2) := by decide +kernel
theorem dL_does_158 : decode cL_does 158 = .ok (.iconst 3, 1) := by decide +kernel
theorem dL_does_159 : decode cL_does 159 = .ok (.idiv, 1) := by decide +kernel
theorem dL_does_160 : decode cL_does 160 = .ok (.iconst 1, 1) := by decide +kernel
theorem dL_does_161 : decode cL_does 161 = .ok (.iadd, 1) := by decide +kernel
theorem dL_does_162 : decode cL_does 162 = .ok (.invokestatic 8, 3) := by decide +kernel
theorem dL_does_165 : decode cL_does 165 = .ok (.iload 5, 2) := by decide +kernel
theorem dL_does_167 : decode cL_does 167 = .ok (.ifCond .ne 7, 3) := by decide +kernel
theorem dL_does_170 : decode cL_does 170 = .ok (.iconst 1, 1) := by decide +kernel
theorem dL_does_171 : decode cL_does 171 = .ok (.goto 5, 3) := by decide +kernel
theorem dL_does_174 : decode cL_does 174 = .ok (.iload 5, 2) := by decide +kernel
theorem dL_does_176 : decode cL_does 176 = .ok (.invokevirtual 19, 3) := by decide +kernel
theorem dL_does_179 : decode cL_does 179 = .ok (.ireturn, 1) := by decide +kernel
theorem dL_does_180 : decode cL_does 180 = .ok (.iload_n 1, 1) := by decide +kernel
theorem dL_does_181 : decode cL_does 181 = .ok (.bipush 8, 2) := by decide +kernel
theorem dL_does_183 : decode cL_does 183 = .ok (.ishr, 1) := by decide +kernel
theorem dL_does_184 : decode cL_does 184 = .ok (.iconst 3, 1) := by decide +kernel
theorem dL_does_185 : decode cL_does 185 = .ok (.iand, 1) := by decide +kernel
theorem dL_does_186 : decode cL_does 186 = .ok (.ifCond .ne 13, 3) := by decide +kernel
theorem dL_does_189 : decode cL_does 189 = .ok (.aload_n 0, 1) := by decide +kernel
theorem dL_does_190 : decode cL_does 190 = .ok (.iload_n 2, 1) := by decide +kernel
theorem dL_does_191 : decode cL_does 191 = .ok (.iload 4, 2) := by decide +kernel
theorem dL_does_193 : decode cL_does 193 = .ok (.invokevirtual 25, 3) := by decide +kernel
theorem dL_does_196 : decode cL_does 196 = .ok (.goto 21, 3) := by decide +kernel
theorem dL_does_199 : decode cL_does 199 = .ok (.aload_n 0, 1) := by decide +kernel
theorem dL_does_200 : decode cL_does 200 = .ok (.iload_n 2, 1) := by decide +kernel
theorem dL_does_201 : decode cL_does 201 = .ok (.iload 4, 2) := by decide +kernel
theorem dL_does_203 : decode cL_does 203 = .ok (.iload 5, 2) := by decide +kernel
theorem dL_does_205 : decode cL_does 205 = .ok (.ifCond .ne 7, 3) := by decide +kernel
theorem dL_does_208 : decode cL_does 208 = .ok (.iconst 3, 1) := by decide +kernel
theorem dL_does_209 : decode cL_does 209 = .ok (.goto 5, 3) := by decide +kernel
theorem dL_does_212 : decode cL_does 212 = .ok (.iload 5, 2) := by decide +kernel
theorem dL_does_214 : decode cL_does 214 = .ok (.invokevirtual 28, 3) := by decide +kernel
theorem dL_does_217 : decode cL_does 217 = .ok (.ireturn, 1) := by decide +kernel
theorem dL_does_218 : decode cL_does 218 = .ok (.iload_n 3, 1) := by decide +kernel
theorem dL_does_219 : decode cL_does 219 = .ok (.ifCond .ne 7, 3) := by decide +kernel
theorem dL_does_222 : decode cL_does 222 = .ok (.iconst 0, 1) := by decide +kernel
theorem dL_does_223 : decode cL_does 223 = .ok (.goto 11, 3) := by decide +kernel
theorem dL_does_226 : decode cL_does 226 = .ok (.aload_n 0, 1) := by decide +kernel
theorem dL_does_227 : decode cL_does 227 = .ok (.iload_n 2, 1) := by decide +kernel
theorem dL_does_228 : decode cL_does 228 = .ok (.iload 4, 2) := by decide +kernel
theorem dL_does_230 : decode cL_does 230 = .ok (.iconst 3, 1) := by decide +kernel
theorem dL_does_231 : decode cL_does 231 = .ok (.invokevirtual 32, 3) := by decide +kernel
theorem dL_does_234 : decode cL_does 234 = .ok (.istore 8, 2) := by decide +kernel
theorem dL_does_236 : decode cL_does 236 = .ok (.aload_n 0, 1) := by decide +kernel
theorem dL_does_237 : decode cL_does 237 = .ok (.iload_n 2, 1) := by decide +kernel
theorem dL_does_238 : decode cL_does 238 = .ok (.iload 4, 2) := by decide +kernel
theorem dL_does_240 : decode cL_does 240 = .ok (.iconst 1, 1) := by decide +kernel
theorem dL_does_241 : decode cL_does 241 = .ok (.iload_n 1, 1) := by decide +kernel
theorem dL_does_242 : decode cL_does 242 = .ok (.bipush 8, 2) := by decide +kernel
theorem dL_does_244 : decode cL_does 244 = .ok (.ishr, 1) := by decide +kernel
theorem dL_does_245 : decode cL_does 245 = .ok (.bipush 30, 2) := by decide +kernel
theorem dL_does_247 : decode cL_does 247 = .ok (.invokestatic 8, 3) := by decide +kernel
theorem dL_does_250 : decode cL_does 250 = .ok (.iadd, 1) := by decide +kernel
theorem dL_does_251 : decode cL_does 251 = .ok (.iload_n 1, 1) := by decide +kernel
theorem dL_does_252 : decode cL_does 252 = .ok (.bipush 7, 2) := by decide +kernel
theorem dL_does_254 : decode cL_does 254 = .ok (.ishr, 1) := by decide +kernel
theorem dL_does_255 : decode cL_does 255 = .ok (.iconst 1, 1) := by decide +kernel
theorem dL_does_256 : decode cL_does 256 = .ok (.iand, 1) := by decide +kernel
theorem dL_does_257 : decode cL_does 257 = .ok (.ifCond .ne 11, 3) := by decide +kernel
theorem dL_does_260 : decode cL_does 260 = .ok (.iload 8, 2) := by decide +kernel
theorem dL_does_262 : decode cL_does 262 = .ok (.iload 5, 2) := by decide +kernel
theorem dL_does_264 : decode cL_does 264 = .ok (.iand, 1) := by decide +kernel
theorem dL_does_265 : decode cL_does 265 = .ok (.goto 5, 3) := by decide +kernel
theorem dL_does_268 : decode cL_does 268 = .ok (.iload 5, 2) := by decide +kernel
theorem dL_does_270 : decode cL_does 270 = .ok (.invokevirtual 35, 3) := by decide +kernel
theorem dL_does_273 : decode cL_does 273 = .ok (.ireturn, 1) := by decide +kernel
theorem dL_does_274 : decode cL_does 274 = .ok (.aload_n 0, 1) := by decide +kernel
theorem dL_does_275 : decode cL_does 275 = .ok (.iconst 4, 1) := by decide +kernel
theorem dL_does_276 : decode cL_does 276 = .ok (.iload_n 1, 1) := by decide +kernel
theorem dL_does_277 : decode cL_does 277 = .ok (.iconst 4, 1) := by decide +kernel
theorem dL_does_278 : decode cL_does 278 = .ok (.ishr, 1) := by decide +kernel
theorem dL_does_279 : decode cL_does 279 = .ok (.bipush 30, 2) := by decide +kernel
theorem dL_does_281 : decode cL_does 281 = .ok (.invokestatic 8, 3) := by decide +kernel
theorem dL_does_284 : decode cL_does 284 = .ok (.iadd, 1) := by decide +kernel
theorem dL_does_285 : decode cL_does 285 = .ok (.bipush 30, 2) := by decide +kernel
theorem dL_does_287 : decode cL_does 287 = .ok (.iload_n 1, 1) := by decide +kernel
theorem dL_does_288 : decode cL_does 288 = .ok (.bipush 9, 2) := by decide +kernel
theorem dL_does_290 : decode cL_does 290 = .ok (.ishr, 1) := by decide +kernel
theorem dL_does_291 : decode cL_does 291 = .ok (.sipush 371, 3) := by decide +kernel
theorem dL_does_294 : decode cL_does 294 = .ok (.invokestatic 8, 3) := by decide +kernel
theorem dL_does_297 : decode cL_does 297 = .ok (.iadd, 1) := by decide +kernel
theorem dL_does_298 : decode cL_does 298 = .ok (.iconst 1, 1) := by decide +kernel
theorem dL_does_299 : decode cL_does 299 = .ok (.iload_n 1, 1) := by decide +kernel
theorem dL_does_300 : decode cL_does 300 = .ok (.iconst 5, 1) := by decide +kernel
theorem dL_does_301 : decode cL_does 301 = .ok (.ishr, 1) := by decide +kernel
theorem dL_does_302 : decode cL_does 302 = .ok (.sipush 1000, 3) := by decide +kernel
theorem dL_does_305 : decode cL_does 305 = .ok (.invokestatic 8, 3) := by decide +kernel
theorem dL_does_308 : decode cL_does 308 = .ok (.iadd, 1) := by decide +kernel
theorem dL_does_309 : decode cL_does 309 = .ok (.invokevirtual 39, 3) := by decide +kernel
theorem dL_does_312 : decode cL_does 312 = .ok (.ireturn, 1) := by decide +kernel
theorem dL_does_313 : decode cL_does 313 = .ok (.aload_n 0, 1) := by decide +kernel
theorem dL_does_314 : decode cL_does 314 = .ok (.iload_n 1, 1) := by decide +kernel
theorem dL_does_315 : decode cL_does 315 = .ok (.iconst 4, 1) := by decide +kernel
theorem dL_does_316 : decode cL_does 316 = .ok (.ishr, 1) := by decide +kernel
theorem dL_does_317 : decode cL_does 317 = .ok (.iconst 3, 1) := by decide +kernel
theorem dL_does_318 : decode cL_does 318 = .ok (.invokestatic 8, 3) := by decide +kernel
theorem dL_does_321 : decode cL_does 321 = .ok (.invokevirtual 42, 3) := by decide +kernel
theorem dL_does_324 : decode cL_does 324 = .ok (.ireturn, 1) := by decide +kernel
theorem dL_does_325 : decode cL_does 325 = .ok (.aload_n 0, 1) := by decide +kernel
theorem dL_does_326 : decode cL_does 326 = .ok (.invokevirtual 46, 3) := by decide +kernel
theorem dL_does_329 : decode cL_does 329 = .ok (.ireturn, 1) := by decide +kernel
theorem dL_does_330 : decode cL_does 330 = .ok (.aload_n 0, 1) := by decide +kernel
theorem dL_does_331 : decode cL_does 331 = .ok (.iload_n 1, 1) := by decide +kernel
theorem dL_does_332 : decode cL_does 332 = .ok (.iconst 4, 1) := by decide +kernel
theorem dL_does_333 : decode cL_does 333 = .ok (.ishr, 1) := by decide +kernel
theorem dL_does_334 : decode cL_does 334 = .ok (.bipush 61, 2) := by decide +kernel
theorem dL_does_336 : decode cL_does 336 = .ok (.invokestatic 8, 3) := by decide +kernel
theorem dL_does_339 : decode cL_does 339 = .ok (.invokevirtual 50, 3) := by decide +kernel
theorem dL_does_342 : decode cL_does 342 = .ok (.ireturn, 1) := by decide +kernel
theorem dL_does_343 : decode cL_does 343 = .ok (.aload_n 0, 1) := by decide +kernel
theorem dL_does_344 : decode cL_does 344 = .ok (.iload_n 1, 1) := by decide +kernel
theorem dL_does_345 : decode cL_does 345 = .ok (.iconst 4, 1) := by decide +kernel
theorem dL_does_346 : decode cL_does 346 = .ok (.ishr, 1) := by decide +kernel
theorem dL_does_347 : decode cL_does 347 = .ok (.iconst 1, 1) := by decide +kernel
theorem dL_does_348 : decode cL_does 348 = .ok (.iand, 1) := by decide +kernel
theorem dL_does_349 : decode cL_does 349 = .ok (.ifCond .ne 7, 3) := by decide +kernel
theorem dL_does_352 : decode cL_does 352 = .ok (.iconst 1, 1) := by decide +kernel
theorem dL_does_353 : decode cL_does 353 = .ok (.goto 4, 3) := by decide +kernel
theorem dL_does_356 : decode cL_does 356 = .ok (.iconst 0, 1) := by decide +kernel
theorem dL_does_357 : decode cL_does 357 = .ok (.invokevirtual 53, 3) := by decide +kernel
theorem dL_does_360 : decode cL_does 360 = .ok (.ireturn, 1) := by decide +kernel
set_option maxRecDepth 20000 in
theorem ggL_manyAt_X2_text : GoodIn wsL_manyAt wsX2_text := goodIn_r _ [5, 6, 7, 8, 9, 10, 11, 12, 13, 14, 4, 15, 16, 17, 18, 19, 20, 21, 22, 23, 24, 25, 26, 27, 28, 29, 30, 31, 32, 33, 34, 35, 36, 37] (by decide +kernel) (by decide +kernel)
set_option maxRecDepth 20000 in
theorem gL_manyAt_X2_text : GoodIn wsL_manyAt (wsV RL 32 RX2 yX2_text wsX2_text) := goodIn_app (goodIn_of _ (by decide +kernel)) ggL_manyAt_X2_text
theorem dL_manyAt_0 : decode cL_manyAt 0 = .ok (.iconst 0, 1) := by decide +kernel
theorem dL_manyAt_1 : decode cL_manyAt 1 = .ok (.istore_n 2, 1) := by decide +kernel
theorem dL_manyAt_2 : decode cL_manyAt 2 = .ok (.aload_n 0, 1) := by decide +kernel
theorem dL_manyAt_3 : decode cL_manyAt 3 = .ok (.iload_n 1, 1) := by decide +kernel
theorem dL_manyAt_4 : decode cL_manyAt 4 = .ok (.iload_n 2, 1) := by decide +kernel
theorem dL_manyAt_5 : decode cL_manyAt 5 = .ok (.iconst 0, 1) := by decide +kernel
theorem dL_manyAt_6 : decode cL_manyAt 6 = .ok (.invokevirtual 32, 3) := by decide +kernel
theorem dL_manyAt_9 : decode cL_manyAt 9 = .ok (.ifCond .le 9, 3) := by decide +kernel
theorem dL_manyAt_12 : decode cL_manyAt 12 = .ok (.iinc 2 1, 3) := by decide +kernel
theorem dL_manyAt_15 : decode cL_manyAt 15 = .ok (.goto (-13), 3) := by decide +kernel
theorem dL_manyAt_18 : decode cL_manyAt 18 = .ok (.iload_n 2, 1) := by decide +kernel
theorem dL_manyAt_19 : decode cL_manyAt 19 = .ok (.ireturn, 1) := by decide +kernel
theorem dL_bits_0 : decode cL_bits 0 = .ok (.iconst 0, 1) := by decide +kernel
theorem dL_bits_1 : decode cL_bits 1 = .ok (.istore_n 1, 1) := by decide +kernel
theorem dL_bits_2 : decode cL_bits 2 = .ok (.iconst 0, 1) := by decide +kernel
theorem dL_bits_3 : decode cL_bits 3 = .ok (.istore_n 2, 1) := by decide +kernel
theorem dL_bits_4 : decode cL_bits 4 = .ok (.iload_n 2, 1) := by decide +kernel
theorem dL_bits_5 : decode cL_bits 5 = .ok (.bipush 16, 2) := by decide +kernel
theorem dL_bits_7 : decode cL_bits 7 = .ok (.if_icmp .ge 17, 3) := by decide +kernel
theorem dL_bits_10 : decode cL_bits 10 = .ok (.iload_n 1, 1) := by decide +kernel
theorem dL_bits_11 : decode cL_bits 11 = .ok (.iload_n 0, 1) := by decide +kernel
theorem dL_bits_12 : decode cL_bits 12 = .ok (.iload_n 2, 1) := by decide +kernel
theorem dL_bits_13 : decode cL_bits 13 = .ok (.ishr, 1) := by decide +kernel
theorem dL_bits_14 : decode cL_bits 14 = .ok (.iconst 1, 1) := by decide +kernel
theorem dL_bits_15 : decode cL_bits 15 = .ok (.iand, 1) := by decide +kernel
theorem dL_bits_16 : decode cL_bits 16 = .ok (.iadd, 1) := by decide +kernel
theorem dL_bits_17 : decode cL_bits 17 = .ok (.istore_n 1, 1) := by decide +kernel
theorem dL_bits_18 : decode cL_bits 18 = .ok (.iinc 2 1, 3) := by decide +kernel
theorem dL_bits_21 : decode cL_bits 21 = .ok (.goto (-17), 3) := by decide +kernel
theorem dL_bits_24 : decode cL_bits 24 = .ok (.iload_n 1, 1) := by decide +kernel
theorem dL_bits_25 : decode cL_bits 25 = .ok (.ireturn, 1) := by decide +kernel
set_option maxRecDepth 20000 in
theorem ggL_areTextsSo_L_manyAt : GoodIn wsL_areTextsSo wsL_manyAt := goodIn_r _ [4, 5, 6, 7, 8, 9, 10, 11, 12, 13, 14, 15, 16, 17, 18, 19, 153, 154, 155, 156, 157, 158, 159, 160, 161, 162, 163, 164, 165, 166, 167, 168, 169, 170, 171, 172, 173, 174] (by decide +kernel) (by decide +kernel)
set_option maxRecDepth 20000 in
theorem gL_areTextsSo_L_manyAt : GoodIn wsL_areTextsSo (va_wsS RL 14 yL_manyAt wsL_manyAt) := goodIn_app (goodIn_of _ (by decide +kernel)) ggL_areTextsSo_L_manyAt
set_option maxRecDepth 20000 in
theorem ggL_areTextsSo_X2_shown : GoodIn wsL_areTextsSo wsX2_shown := goodIn_r _ [23, 10, 24, 18, 8, 19, 25, 26, 27, 28, 29, 30, 15, 31, 17, 32, 33, 34, 35, 36, 153, 154, 155, 156, 157, 158, 159, 160, 161, 162, 163, 164, 165, 166, 167, 168, 169, 170, 171, 172, 173, 174] (by decide +kernel) (by decide +kernel)
set_option maxRecDepth 20000 in
theorem gL_areTextsSo_X2_shown : GoodIn wsL_areTextsSo (wsV RL 57 RX2 yX2_shown wsX2_shown) := goodIn_app (goodIn_of _ (by decide +kernel)) ggL_areTextsSo_X2_shown
set_option maxRecDepth 20000 in
theorem ggL_areTextsSo_X2_text : GoodIn wsL_areTextsSo wsX2_text := goodIn_r _ [9, 10, 11, 12, 13, 14, 15, 16, 17, 18, 8, 19, 153, 154, 155, 156, 157, 158, 159, 160, 161, 162, 163, 164, 165, 166, 167, 168, 169, 170, 171, 172, 173, 174] (by decide +kernel) (by decide +kernel)
set_option maxRecDepth 20000 in
theorem gL_areTextsSo_X2_text : GoodIn wsL_areTextsSo (wsV RL 32 RX2 yX2_text wsX2_text) := goodIn_app (goodIn_of _ (by decide +kernel)) ggL_areTextsSo_X2_text
set_option maxRecDepth 20000 in
theorem ggL_areTextsSo_X2_ages : GoodIn wsL_areTextsSo wsX2_ages := goodIn_r _ [40, 10, 12, 13, 14, 15, 16, 17, 18, 8, 19, 28, 29, 30, 31, 32, 33, 34, 35, 36, 153, 154, 155, 156, 157, 158, 159, 160, 161, 162, 163, 164, 165, 166, 167, 168, 169, 170, 171, 172, 173, 174] (by decide +kernel) (by decide +kernel)
set_option maxRecDepth 20000 in
theorem gL_areTextsSo_X2_ages : GoodIn wsL_areTextsSo (wsV RL 60 RX2 yX2_ages wsX2_ages) := goodIn_app (goodIn_of _ (by decide +kernel)) ggL_areTextsSo_X2_ages
set_option maxRecDepth 20000 in
theorem ggL_areTextsSo_X2_caption : GoodIn wsL_areTextsSo wsX2_caption := goodIn_r _ [44, 10, 11, 12, 13, 14, 15, 16, 17, 18, 8, 19, 45, 46, 47, 48, 36, 153, 154, 155, 156, 157, 158, 159, 160, 161, 162, 163, 164, 165, 166, 167, 168, 169, 170, 171, 172, 173, 174] (by decide +kernel) (by decide +kernel)
set_option maxRecDepth 20000 in
theorem gL_areTextsSo_X2_caption : GoodIn wsL_areTextsSo (wsV RL 63 RX2 yX2_caption wsX2_caption) := goodIn_app (goodIn_of _ (by decide +kernel)) ggL_areTextsSo_X2_caption
set_option maxRecDepth 20000 in
theorem ggL_areTextsSo_X2_unmet : GoodIn wsL_areTextsSo wsX2_unmet := goodIn_r _ [52, 10, 25, 26, 8, 27, 53, 54, 55, 15, 56, 17, 36, 57, 58, 59, 60, 61, 29, 30, 31, 18, 19, 32, 33, 34, 35, 62, 13, 14, 16, 153, 154, 155, 156, 157, 158, 159, 160, 161, 162, 163, 164, 165, 166, 167, 168, 169, 170, 171, 172, 173, 174] (by decide +kernel) (by decide +kernel)
set_option maxRecDepth 20000 in
theorem gL_areTextsSo_X2_unmet : GoodIn wsL_areTextsSo (wsV RL 66 RX2 yX2_unmet wsX2_unmet) := goodIn_app (goodIn_of _ (by decide +kernel)) ggL_areTextsSo_X2_unmet
set_option maxRecDepth 20000 in
theorem ggL_areTextsSo_X2_count : GoodIn wsL_areTextsSo wsX2_count := goodIn_r _ [66, 10, 67, 68, 69, 70, 71, 72, 73, 74, 75, 76, 77, 15, 78, 17, 79, 80, 81, 82, 36, 83, 84, 85, 86, 53, 54, 55, 56, 87, 88, 89, 90, 91, 92, 93, 153, 154, 155, 156, 157, 158, 159, 160, 161, 162, 163, 164, 165, 166, 167, 168, 169, 170, 171, 172, 173, 174, 175, 176, 177, 178, 179, 180, 181, 182, 183, 184] (by decide +kernel) (by decide +kernel)
set_option maxRecDepth 20000 in
theorem gL_areTextsSo_X2_count : GoodIn wsL_areTextsSo (wsV RL 69 RX2 yX2_count wsX2_count) := goodIn_app (goodIn_of _ (by decide +kernel)) ggL_areTextsSo_X2_count
set_option maxRecDepth 20000 in
theorem ggL_areTextsSo_L_bits : GoodIn wsL_areTextsSo wsL_bits := goodIn_r _ [96] (by decide +kernel) (by decide +kernel)
set_option maxRecDepth 20000 in
theorem gL_areTextsSo_L_bits : GoodIn wsL_areTextsSo (va_wsS RL 72 yL_bits wsL_bits) := goodIn_app (goodIn_of _ (by decide +kernel)) ggL_areTextsSo_L_bits
set_option maxRecDepth 20000 in
theorem ggL_areTextsSo_X2_round : GoodIn wsL_areTextsSo wsX2_round := goodIn_r _ [100, 101, 102, 103, 104, 8, 105, 106, 10, 107, 108, 109, 15, 110, 17, 111, 112, 113, 114, 36, 115, 116, 117, 118, 119, 120, 121, 122, 123, 124, 125, 126, 127, 128, 26, 27, 61, 29, 30, 31, 18, 19, 32, 33, 34, 35, 129, 130, 131, 132, 133, 134, 135, 136, 62, 13, 14, 16, 137, 138, 139, 140, 141, 142, 143, 144, 145, 146, 147, 148, 149, 150, 151, 152, 163, 164, 165, 166, 167, 168, 169, 170, 171, 172, 173, 174, 153, 154, 155, 156, 157, 158, 159, 160, 161, 162] (by decide +kernel) (by decide +kernel)
set_option maxRecDepth 20000 in
theorem gL_areTextsSo_X2_round : GoodIn wsL_areTextsSo (wsV RL 75 RX2 yX2_round wsX2_round) := goodIn_app (goodIn_of _ (by decide +kernel)) ggL_areTextsSo_X2_round
theorem dL_areTextsSo_0 : decode cL_areTextsSo 0 = .ok (.iconst 0, 1) := by decide +kernel
theorem dL_areTextsSo_1 : decode cL_areTextsSo 1 = .ok (.istore_n 2, 1) := by decide +kernel
theorem dL_areTextsSo_2 : decode cL_areTextsSo 2 = .ok (.iconst 0, 1) := by decide +kernel
theorem dL_areTextsSo_3 : decode cL_areTextsSo 3 = .ok (.istore_n 3, 1) := by decide +kernel
theorem dL_areTextsSo_4 : decode cL_areTextsSo 4 = .ok (.iconst 0, 1) := by decide +kernel
theorem dL_areTextsSo_5 : decode cL_areTextsSo 5 = .ok (.istore 4, 2) := by decide +kernel
theorem dL_areTextsSo_7 : decode cL_areTextsSo 7 = .ok (.iconst 0, 1) := by decide +kernel
theorem dL_areTextsSo_8 : decode cL_areTextsSo 8 = .ok (.istore 5, 2) := by decide +kernel
theorem dL_areTextsSo_10 : decode cL_areTextsSo 10 = .ok (.iconst 0, 1) := by decide +kernel
theorem dL_areTextsSo_11 : decode cL_areTextsSo 11 = .ok (.istore 6, 2) := by decide +kernel
theorem dL_areTextsSo_13 : decode cL_areTextsSo 13 = .ok (.iload 6, 2) := by decide +kernel
theorem dL_areTextsSo_15 : decode cL_areTextsSo 15 = .ok (.bipush 8, 2) := by decide +kernel
theorem dL_areTextsSo_17 : decode cL_areTextsSo 17 = .ok (.if_icmp .ge 438, 3) := by decide +kernel
theorem dL_areTextsSo_20 : decode cL_areTextsSo 20 = .ok (.aload_n 0, 1) := by decide +kernel
theorem dL_areTextsSo_21 : decode cL_areTextsSo 21 = .ok (.iload 6, 2) := by decide +kernel
theorem dL_areTextsSo_23 : decode cL_areTextsSo 23 = .ok (.invokestatic 14, 3) := by decide +kernel
theorem dL_areTextsSo_26 : decode cL_areTextsSo 26 = .ok (.istore 7, 2) := by decide +kernel
theorem dL_areTextsSo_28 : decode cL_areTextsSo 28 = .ok (.aload_n 0, 1) := by decide +kernel
theorem dL_areTextsSo_29 : decode cL_areTextsSo 29 = .ok (.iload 6, 2) := by decide +kernel
theorem dL_areTextsSo_31 : decode cL_areTextsSo 31 = .ok (.iload_n 1, 1) := by decide +kernel
theorem dL_areTextsSo_32 : decode cL_areTextsSo 32 = .ok (.invokevirtual 57, 3) := by decide +kernel
theorem dL_areTextsSo_35 : decode cL_areTextsSo 35 = .ok (.istore 8, 2) := by decide +kernel
theorem dL_areTextsSo_37 : decode cL_areTextsSo 37 = .ok (.iconst 0, 1) := by decide +kernel
theorem dL_areTextsSo_38 : decode cL_areTextsSo 38 = .ok (.istore 9, 2) := by decide +kernel
theorem dL_areTextsSo_40 : decode cL_areTextsSo 40 = .ok (.iload 8, 2) := by decide +kernel
theorem dL_areTextsSo_42 : decode cL_areTextsSo 42 = .ok (.bipush (-5), 2) := by decide +kernel
theorem dL_areTextsSo_44 : decode cL_areTextsSo 44 = .ok (.if_icmp .ne 7, 3) := by decide +kernel
theorem dL_areTextsSo_47 : decode cL_areTextsSo 47 = .ok (.iconst 1, 1) := by decide +kernel
theorem dL_areTextsSo_48 : decode cL_areTextsSo 48 = .ok (.goto 4, 3) := by decide +kernel
theorem dL_areTextsSo_51 : decode cL_areTextsSo 51 = .ok (.iconst 0, 1) := by decide +kernel
theorem dL_areTextsSo_52 : decode cL_areTextsSo 52 = .ok (.iload 7, 2) := by decide +kernel
theorem dL_areTextsSo_54 : decode cL_areTextsSo 54 = .ok (.ifCond .ne 7, 3) := by decide +kernel
theorem dL_areTextsSo_57 : decode cL_areTextsSo 57 = .ok (.iconst 1, 1) := by decide +kernel
theorem dL_areTextsSo_58 : decode cL_areTextsSo 58 = .ok (.goto 4, 3) := by decide +kernel
theorem dL_areTextsSo_61 : decode cL_areTextsSo 61 = .ok (.iconst 0, 1) := by decide +kernel
theorem dL_areTextsSo_62 : decode cL_areTextsSo 62 = .ok (.if_icmp .eq 5, 3) := by decide +kernel
theorem dL_areTextsSo_65 : decode cL_areTextsSo 65 = .ok (.iconst 0, 1) := by decide +kernel
theorem dL_areTextsSo_66 : decode cL_areTextsSo 66 = .ok (.ireturn, 1) := by decide +kernel
theorem dL_areTextsSo_67 : decode cL_areTextsSo 67 = .ok (.iload 5, 2) := by decide +kernel
theorem dL_areTextsSo_69 : decode cL_areTextsSo 69 = .ok (.iload 7, 2) := by decide +kernel
theorem dL_areTextsSo_71 : decode cL_areTextsSo 71 = .ok (.ifCond .ne 7, 3) := by decide +kernel
theorem dL_areTextsSo_74 : decode cL_areTextsSo 74 = .ok (.iconst 0, 1) := by decide +kernel
theorem dL_areTextsSo_75 : decode cL_areTextsSo 75 = .ok (.goto 12, 3) := by decide +kernel
theorem dL_areTextsSo_78 : decode cL_areTextsSo 78 = .ok (.aload_n 0, 1) := by decide +kernel
theorem dL_areTextsSo_79 : decode cL_areTextsSo 79 = .ok (.iload 6, 2) := by decide +kernel
theorem dL_areTextsSo_81 : decode cL_areTextsSo 81 = .ok (.iload 8, 2) := by decide +kernel
theorem dL_areTextsSo_83 : decode cL_areTextsSo 83 = .ok (.iconst 3, 1) := by decide +kernel
theorem dL_areTextsSo_84 : decode cL_areTextsSo 84 = .ok (.invokevirtual 32, 3) := by decide +kernel
theorem dL_areTextsSo_87 : decode cL_areTextsSo 87 = .ok (.ior, 1) := by decide +kernel
theorem dL_areTextsSo_88 : decode cL_areTextsSo 88 = .ok (.istore 5, 2) := by decide +kernel
theorem dL_areTextsSo_90 : decode cL_areTextsSo 90 = .ok (.iconst 0, 1) := by decide +kernel
theorem dL_areTextsSo_91 : decode cL_areTextsSo 91 = .ok (.istore 10, 2) := by decide +kernel
theorem dL_areTextsSo_93 : decode cL_areTextsSo 93 = .ok (.iload 10, 2) := by decide +kernel
theorem dL_areTextsSo_95 : decode cL_areTextsSo 95 = .ok (.iload 7, 2) := by decide +kernel
theorem dL_areTextsSo_97 : decode cL_areTextsSo 97 = .ok (.if_icmp .ge 334, 3) := by decide +kernel
theorem dL_areTextsSo_100 : decode cL_areTextsSo 100 = .ok (.aload_n 0, 1) := by decide +kernel
theorem dL_areTextsSo_101 : decode cL_areTextsSo 101 = .ok (.iload 6, 2) := by decide +kernel
theorem dL_areTextsSo_103 : decode cL_areTextsSo 103 = .ok (.iload 10, 2) := by decide +kernel
theorem dL_areTextsSo_105 : decode cL_areTextsSo 105 = .ok (.iconst 0, 1) := by decide +kernel
theorem dL_areTextsSo_106 : decode cL_areTextsSo 106 = .ok (.invokevirtual 32, 3) := by decide +kernel
theorem dL_areTextsSo_109 : decode cL_areTextsSo 109 = .ok (.istore 11, 2) := by decide +kernel
theorem dL_areTextsSo_111 : decode cL_areTextsSo 111 = .ok (.aload_n 0, 1) := by decide +kernel
theorem dL_areTextsSo_112 : decode cL_areTextsSo 112 = .ok (.iload 6, 2) := by decide +kernel
theorem dL_areTextsSo_114 : decode cL_areTextsSo 114 = .ok (.iload 10, 2) := by decide +kernel
theorem dL_areTextsSo_116 : decode cL_areTextsSo 116 = .ok (.iconst 4, 1) := by decide +kernel
theorem dL_areTextsSo_117 : decode cL_areTextsSo 117 = .ok (.invokevirtual 32, 3) := by decide +kernel
theorem dL_areTextsSo_120 : decode cL_areTextsSo 120 = .ok (.istore 12, 2) := by decide +kernel
theorem dL_areTextsSo_122 : decode cL_areTextsSo 122 = .ok (.iload 4, 2) := by decide +kernel
theorem dL_areTextsSo_124 : decode cL_areTextsSo 124 = .ok (.aload_n 0, 1) := by decide +kernel
theorem dL_areTextsSo_125 : decode cL_areTextsSo 125 = .ok (.iload 6, 2) := by decide +kernel
theorem dL_areTextsSo_127 : decode cL_areTextsSo 127 = .ok (.iload 10, 2) := by decide +kernel
theorem dL_areTextsSo_129 : decode cL_areTextsSo 129 = .ok (.iconst 3, 1) := by decide +kernel
theorem dL_areTextsSo_130 : decode cL_areTextsSo 130 = .ok (.invokevirtual 32, 3) := by decide +kernel
theorem dL_areTextsSo_133 : decode cL_areTextsSo 133 = .ok (.ior, 1) := by decide +kernel
theorem dL_areTextsSo_134 : decode cL_areTextsSo 134 = .ok (.istore 4, 2) := by decide +kernel
theorem dL_areTextsSo_136 : decode cL_areTextsSo 136 = .ok (.iload 9, 2) := by decide +kernel
theorem dL_areTextsSo_138 : decode cL_areTextsSo 138 = .ok (.aload_n 0, 1) := by decide +kernel
theorem dL_areTextsSo_139 : decode cL_areTextsSo 139 = .ok (.iload 6, 2) := by decide +kernel
theorem dL_areTextsSo_141 : decode cL_areTextsSo 141 = .ok (.iload 10, 2) := by decide +kernel
theorem dL_areTextsSo_143 : decode cL_areTextsSo 143 = .ok (.iconst 2, 1) := by decide +kernel
theorem dL_areTextsSo_144 : decode cL_areTextsSo 144 = .ok (.invokevirtual 60, 3) := by decide +kernel
theorem dL_areTextsSo_147 : decode cL_areTextsSo 147 = .ok (.iadd, 1) := by decide +kernel
theorem dL_areTextsSo_148 : decode cL_areTextsSo 148 = .ok (.istore 9, 2) := by decide +kernel
theorem dL_areTextsSo_150 : decode cL_areTextsSo 150 = .ok (.aload_n 0, 1) := by decide +kernel
theorem dL_areTextsSo_151 : decode cL_areTextsSo 151 = .ok (.iload 6, 2) := by decide +kernel
theorem dL_areTextsSo_153 : decode cL_areTextsSo 153 = .ok (.iload 8, 2) := by decide +kernel
theorem dL_areTextsSo_155 : decode cL_areTextsSo 155 = .ok (.iconst 4, 1) := by decide +kernel
theorem dL_areTextsSo_156 : decode cL_areTextsSo 156 = .ok (.invokevirtual 32, 3) := by decide +kernel
theorem dL_areTextsSo_159 : decode cL_areTextsSo 159 = .ok (.istore 13, 2) := by decide +kernel
theorem dL_areTextsSo_161 : decode cL_areTextsSo 161 = .ok (.iload 12, 2) := by decide +kernel
theorem dL_areTextsSo_163 : decode cL_areTextsSo 163 = .ok (.iconst 4, 1) := by decide +kernel
theorem dL_areTextsSo_164 : decode cL_areTextsSo 164 = .ok (.iload 11, 2) := by decide +kernel
theorem dL_areTextsSo_166 : decode cL_areTextsSo 166 = .ok (.iconst 2, 1) := by decide +kernel
theorem dL_areTextsSo_167 : decode cL_areTextsSo 167 = .ok (.aload_n 0, 1) := by decide +kernel
theorem dL_areTextsSo_168 : decode cL_areTextsSo 168 = .ok (.iload 6, 2) := by decide +kernel
theorem dL_areTextsSo_170 : decode cL_areTextsSo 170 = .ok (.iload 10, 2) := by decide +kernel
theorem dL_areTextsSo_172 : decode cL_areTextsSo 172 = .ok (.iconst 1, 1) := by decide +kernel
theorem dL_areTextsSo_173 : decode cL_areTextsSo 173 = .ok (.invokevirtual 32, 3) := by decide +kernel
theorem dL_areTextsSo_176 : decode cL_areTextsSo 176 = .ok (.imul, 1) := by decide +kernel
theorem dL_areTextsSo_177 : decode cL_areTextsSo 177 = .ok (.idiv, 1) := by decide +kernel
theorem dL_areTextsSo_178 : decode cL_areTextsSo 178 = .ok (.iadd, 1) := by decide +kernel
theorem dL_areTextsSo_179 : decode cL_areTextsSo 179 = .ok (.bipush 30, 2) := by decide +kernel
theorem dL_areTextsSo_181 : decode cL_areTextsSo 181 = .ok (.aload_n 0, 1) := by decide +kernel
theorem dL_areTextsSo_182 : decode cL_areTextsSo 182 = .ok (.iload 6, 2) := by decide +kernel
theorem dL_areTextsSo_184 : decode cL_areTextsSo 184 = .ok (.iload 10, 2) := by decide +kernel
theorem dL_areTextsSo_186 : decode cL_areTextsSo 186 = .ok (.iconst 2, 1) := by decide +kernel
theorem dL_areTextsSo_187 : decode cL_areTextsSo 187 = .ok (.invokevirtual 32, 3) := by decide +kernel
theorem dL_areTextsSo_190 : decode cL_areTextsSo 190 = .ok (.imul, 1) := by decide +kernel
theorem dL_areTextsSo_191 : decode cL_areTextsSo 191 = .ok (.iload 11, 2) := by decide +kernel
theorem dL_areTextsSo_193 : decode cL_areTextsSo 193 = .ok (.idiv, 1) := by decide +kernel
theorem dL_areTextsSo_194 : decode cL_areTextsSo 194 = .ok (.iadd, 1) := by decide +kernel
theorem dL_areTextsSo_195 : decode cL_areTextsSo 195 = .ok (.if_icmp .ne 36, 3) := by decide +kernel
theorem dL_areTextsSo_198 : decode cL_areTextsSo 198 = .ok (.iload 13, 2) := by decide +kernel
theorem dL_areTextsSo_200 : decode cL_areTextsSo 200 = .ok (.iload_n 1, 1) := by decide +kernel
theorem dL_areTextsSo_201 : decode cL_areTextsSo 201 = .ok (.if_icmp .le 13, 3) := by decide +kernel
theorem dL_areTextsSo_204 : decode cL_areTextsSo 204 = .ok (.iload 12, 2) := by decide +kernel
theorem dL_areTextsSo_206 : decode cL_areTextsSo 206 = .ok (.iload 13, 2) := by decide +kernel
theorem dL_areTextsSo_208 : decode cL_areTextsSo 208 = .ok (.if_icmp .lt 23, 3) := by decide +kernel
theorem dL_areTextsSo_211 : decode cL_areTextsSo 211 = .ok (.goto 16, 3) := by decide +kernel
theorem dL_areTextsSo_214 : decode cL_areTextsSo 214 = .ok (.iload 12, 2) := by decide +kernel
theorem dL_areTextsSo_216 : decode cL_areTextsSo 216 = .ok (.iload_n 1, 1) := by decide +kernel
theorem dL_areTextsSo_217 : decode cL_areTextsSo 217 = .ok (.if_icmp .gt 10, 3) := by decide +kernel
theorem dL_areTextsSo_220 : decode cL_areTextsSo 220 = .ok (.iload 12, 2) := by decide +kernel
theorem dL_areTextsSo_222 : decode cL_areTextsSo 222 = .ok (.iload 13, 2) := by decide +kernel
theorem dL_areTextsSo_224 : decode cL_areTextsSo 224 = .ok (.if_icmp .gt 7, 3) := by decide +kernel
theorem dL_areTextsSo_227 : decode cL_areTextsSo 227 = .ok (.iconst 1, 1) := by decide +kernel
theorem dL_areTextsSo_228 : decode cL_areTextsSo 228 = .ok (.goto 4, 3) := by decide +kernel
theorem dL_areTextsSo_231 : decode cL_areTextsSo 231 = .ok (.iconst 0, 1) := by decide +kernel
theorem dL_areTextsSo_232 : decode cL_areTextsSo 232 = .ok (.istore 14, 2) := by decide +kernel
theorem dL_areTextsSo_234 : decode cL_areTextsSo 234 = .ok (.iconst 0, 1) := by decide +kernel
theorem dL_areTextsSo_235 : decode cL_areTextsSo 235 = .ok (.istore 15, 2) := by decide +kernel
theorem dL_areTextsSo_237 : decode cL_areTextsSo 237 = .ok (.iload 15, 2) := by decide +kernel
theorem dL_areTextsSo_239 : decode cL_areTextsSo 239 = .ok (.aload_n 0, 1) := by decide +kernel
theorem dL_areTextsSo_240 : decode cL_areTextsSo 240 = .ok (.iload 6, 2) := by decide +kernel
theorem dL_areTextsSo_242 : decode cL_areTextsSo 242 = .ok (.iload 10, 2) := by decide +kernel
theorem dL_areTextsSo_244 : decode cL_areTextsSo 244 = .ok (.iconst 5, 1) := by decide +kernel
theorem dL_areTextsSo_245 : decode cL_areTextsSo 245 = .ok (.invokevirtual 32, 3) := by decide +kernel
theorem dL_areTextsSo_248 : decode cL_areTextsSo 248 = .ok (.if_icmp .ge 50, 3) := by decide +kernel
theorem dL_areTextsSo_251 : decode cL_areTextsSo 251 = .ok (.iload 14, 2) := by decide +kernel
theorem dL_areTextsSo_253 : decode cL_areTextsSo 253 = .ok (.ifCond .eq 33, 3) := by decide +kernel
theorem dL_areTextsSo_256 : decode cL_areTextsSo 256 = .ok (.aload_n 0, 1) := by decide +kernel
theorem dL_areTextsSo_257 : decode cL_areTextsSo 257 = .ok (.iload 6, 2) := by decide +kernel
theorem dL_areTextsSo_259 : decode cL_areTextsSo 259 = .ok (.iload 10, 2) := by decide +kernel
theorem dL_areTextsSo_261 : decode cL_areTextsSo 261 = .ok (.iload 15, 2) := by decide +kernel
theorem dL_areTextsSo_263 : decode cL_areTextsSo 263 = .ok (.iconst 1, 1) := by decide +kernel
theorem dL_areTextsSo_264 : decode cL_areTextsSo 264 = .ok (.invokevirtual 63, 3) := by decide +kernel
theorem dL_areTextsSo_267 : decode cL_areTextsSo 267 = .ok (.aload_n 0, 1) := by decide +kernel
theorem dL_areTextsSo_268 : decode cL_areTextsSo 268 = .ok (.iload 6, 2) := by decide +kernel
theorem dL_areTextsSo_270 : decode cL_areTextsSo 270 = .ok (.iload 10, 2) := by decide +kernel
theorem dL_areTextsSo_272 : decode cL_areTextsSo 272 = .ok (.iconst 3, 1) := by decide +kernel
theorem dL_areTextsSo_273 : decode cL_areTextsSo 273 = .ok (.invokevirtual 32, 3) := by decide +kernel
theorem dL_areTextsSo_276 : decode cL_areTextsSo 276 = .ok (.iconst (-1), 1) := by decide +kernel
theorem dL_areTextsSo_277 : decode cL_areTextsSo 277 = .ok (.ixor, 1) := by decide +kernel
theorem dL_areTextsSo_278 : decode cL_areTextsSo 278 = .ok (.iand, 1) := by decide +kernel
theorem dL_areTextsSo_279 : decode cL_areTextsSo 279 = .ok (.ifCond .ne 7, 3) := by decide +kernel
theorem dL_areTextsSo_282 : decode cL_areTextsSo 282 = .ok (.iconst 1, 1) := by decide +kernel
theorem dL_areTextsSo_283 : decode cL_areTextsSo 283 = .ok (.goto 4, 3) := by decide +kernel
theorem dL_areTextsSo_286 : decode cL_areTextsSo 286 = .ok (.iconst 0, 1) := by decide +kernel
theorem dL_areTextsSo_287 : decode cL_areTextsSo 287 = .ok (.istore 14, 2) := by decide +kernel
theorem dL_areTextsSo_289 : decode cL_areTextsSo 289 = .ok (.iinc 3 1, 3) := by decide +kernel
theorem dL_areTextsSo_292 : decode cL_areTextsSo 292 = .ok (.iinc 15 1, 3) := by decide +kernel
theorem dL_areTextsSo_295 : decode cL_areTextsSo 295 = .ok (.goto (-58), 3) := by decide +kernel
theorem dL_areTextsSo_298 : decode cL_areTextsSo 298 = .ok (.iload 8, 2) := by decide +kernel
theorem dL_areTextsSo_300 : decode cL_areTextsSo 300 = .ok (.iload 10, 2) := by decide +kernel
theorem dL_areTextsSo_302 : decode cL_areTextsSo 302 = .ok (.if_icmp .ne 7, 3) := by decide +kernel
theorem dL_areTextsSo_305 : decode cL_areTextsSo 305 = .ok (.iconst 1, 1) := by decide +kernel
theorem dL_areTextsSo_306 : decode cL_areTextsSo 306 = .ok (.goto 4, 3) := by decide +kernel
theorem dL_areTextsSo_309 : decode cL_areTextsSo 309 = .ok (.iconst 0, 1) := by decide +kernel
theorem dL_areTextsSo_310 : decode cL_areTextsSo 310 = .ok (.istore 15, 2) := by decide +kernel
theorem dL_areTextsSo_312 : decode cL_areTextsSo 312 = .ok (.iload 14, 2) := by decide +kernel
theorem dL_areTextsSo_314 : decode cL_areTextsSo 314 = .ok (.ifCond .eq 98, 3) := by decide +kernel
theorem dL_areTextsSo_317 : decode cL_areTextsSo 317 = .ok (.iload 15, 2) := by decide +kernel
theorem dL_areTextsSo_319 : decode cL_areTextsSo 319 = .ok (.ifCond .eq 29, 3) := by decide +kernel
theorem dL_areTextsSo_322 : decode cL_areTextsSo 322 = .ok (.aload_n 0, 1) := by decide +kernel
theorem dL_areTextsSo_323 : decode cL_areTextsSo 323 = .ok (.iload 6, 2) := by decide +kernel
theorem dL_areTextsSo_325 : decode cL_areTextsSo 325 = .ok (.iload 10, 2) := by decide +kernel
theorem dL_areTextsSo_327 : decode cL_areTextsSo 327 = .ok (.iconst 0, 1) := by decide +kernel
theorem dL_areTextsSo_328 : decode cL_areTextsSo 328 = .ok (.invokevirtual 60, 3) := by decide +kernel
theorem dL_areTextsSo_331 : decode cL_areTextsSo 331 = .ok (.iload_n 1, 1) := by decide +kernel
theorem dL_areTextsSo_332 : decode cL_areTextsSo 332 = .ok (.if_icmp .gt 80, 3) := by decide +kernel
theorem dL_areTextsSo_335 : decode cL_areTextsSo 335 = .ok (.aload_n 0, 1) := by decide +kernel
theorem dL_areTextsSo_336 : decode cL_areTextsSo 336 = .ok (.iload 6, 2) := by decide +kernel
theorem dL_areTextsSo_338 : decode cL_areTextsSo 338 = .ok (.iload 10, 2) := by decide +kernel
theorem dL_areTextsSo_340 : decode cL_areTextsSo 340 = .ok (.iconst 1, 1) := by decide +kernel
theorem dL_areTextsSo_341 : decode cL_areTextsSo 341 = .ok (.invokevirtual 60, 3) := by decide +kernel
theorem dL_areTextsSo_344 : decode cL_areTextsSo 344 = .ok (.iload_n 1, 1) := by decide +kernel
theorem dL_areTextsSo_345 : decode cL_areTextsSo 345 = .ok (.if_icmp .lt 67, 3) := by decide +kernel
theorem dL_areTextsSo_348 : decode cL_areTextsSo 348 = .ok (.aload_n 0, 1) := by decide +kernel
theorem dL_areTextsSo_349 : decode cL_areTextsSo 349 = .ok (.iload 6, 2) := by decide +kernel
theorem dL_areTextsSo_351 : decode cL_areTextsSo 351 = .ok (.iload 10, 2) := by decide +kernel
theorem dL_areTextsSo_353 : decode cL_areTextsSo 353 = .ok (.iconst 2, 1) := by decide +kernel
theorem dL_areTextsSo_354 : decode cL_areTextsSo 354 = .ok (.invokevirtual 60, 3) := by decide +kernel
theorem dL_areTextsSo_357 : decode cL_areTextsSo 357 = .ok (.ifCond .le 7, 3) := by decide +kernel
theorem dL_areTextsSo_360 : decode cL_areTextsSo 360 = .ok (.iconst 1, 1) := by decide +kernel
theorem dL_areTextsSo_361 : decode cL_areTextsSo 361 = .ok (.goto 4, 3) := by decide +kernel
theorem dL_areTextsSo_364 : decode cL_areTextsSo 364 = .ok (.iconst 0, 1) := by decide +kernel
theorem dL_areTextsSo_365 : decode cL_areTextsSo 365 = .ok (.aload_n 0, 1) := by decide +kernel
theorem dL_areTextsSo_366 : decode cL_areTextsSo 366 = .ok (.iload 6, 2) := by decide +kernel
theorem dL_areTextsSo_368 : decode cL_areTextsSo 368 = .ok (.iload 10, 2) := by decide +kernel
theorem dL_areTextsSo_370 : decode cL_areTextsSo 370 = .ok (.iconst 0, 1) := by decide +kernel
theorem dL_areTextsSo_371 : decode cL_areTextsSo 371 = .ok (.invokevirtual 60, 3) := by decide +kernel
theorem dL_areTextsSo_374 : decode cL_areTextsSo 374 = .ok (.iconst 4, 1) := by decide +kernel
theorem dL_areTextsSo_375 : decode cL_areTextsSo 375 = .ok (.if_icmp .lt 7, 3) := by decide +kernel
theorem dL_areTextsSo_378 : decode cL_areTextsSo 378 = .ok (.iconst 1, 1) := by decide +kernel
theorem dL_areTextsSo_379 : decode cL_areTextsSo 379 = .ok (.goto 4, 3) := by decide +kernel
theorem dL_areTextsSo_382 : decode cL_areTextsSo 382 = .ok (.iconst 0, 1) := by decide +kernel
theorem dL_areTextsSo_383 : decode cL_areTextsSo 383 = .ok (.if_icmp .ne 29, 3) := by decide +kernel
theorem dL_areTextsSo_386 : decode cL_areTextsSo 386 = .ok (.aload_n 0, 1) := by decide +kernel
theorem dL_areTextsSo_387 : decode cL_areTextsSo 387 = .ok (.iload 6, 2) := by decide +kernel
theorem dL_areTextsSo_389 : decode cL_areTextsSo 389 = .ok (.iload 10, 2) := by decide +kernel
theorem dL_areTextsSo_391 : decode cL_areTextsSo 391 = .ok (.aload_n 0, 1) := by decide +kernel
theorem dL_areTextsSo_392 : decode cL_areTextsSo 392 = .ok (.iload 6, 2) := by decide +kernel
theorem dL_areTextsSo_394 : decode cL_areTextsSo 394 = .ok (.iload 10, 2) := by decide +kernel
theorem dL_areTextsSo_396 : decode cL_areTextsSo 396 = .ok (.iconst 5, 1) := by decide +kernel
theorem dL_areTextsSo_397 : decode cL_areTextsSo 397 = .ok (.invokevirtual 32, 3) := by decide +kernel
theorem dL_areTextsSo_400 : decode cL_areTextsSo 400 = .ok (.iconst 0, 1) := by decide +kernel
theorem dL_areTextsSo_401 : decode cL_areTextsSo 401 = .ok (.invokevirtual 63, 3) := by decide +kernel
theorem dL_areTextsSo_404 : decode cL_areTextsSo 404 = .ok (.iconst (-1), 1) := by decide +kernel
theorem dL_areTextsSo_405 : decode cL_areTextsSo 405 = .ok (.if_icmp .ne 7, 3) := by decide +kernel
theorem dL_areTextsSo_408 : decode cL_areTextsSo 408 = .ok (.iconst 1, 1) := by decide +kernel
theorem dL_areTextsSo_409 : decode cL_areTextsSo 409 = .ok (.goto 4, 3) := by decide +kernel
theorem dL_areTextsSo_412 : decode cL_areTextsSo 412 = .ok (.iconst 0, 1) := by decide +kernel
theorem dL_areTextsSo_413 : decode cL_areTextsSo 413 = .ok (.istore 14, 2) := by decide +kernel
theorem dL_areTextsSo_415 : decode cL_areTextsSo 415 = .ok (.iload 14, 2) := by decide +kernel
theorem dL_areTextsSo_417 : decode cL_areTextsSo 417 = .ok (.ifCond .ne 5, 3) := by decide +kernel
theorem dL_areTextsSo_420 : decode cL_areTextsSo 420 = .ok (.iconst 0, 1) := by decide +kernel
theorem dL_areTextsSo_421 : decode cL_areTextsSo 421 = .ok (.ireturn, 1) := by decide +kernel
theorem dL_areTextsSo_422 : decode cL_areTextsSo 422 = .ok (.iinc 2 1, 3) := by decide +kernel
theorem dL_areTextsSo_425 : decode cL_areTextsSo 425 = .ok (.iinc 10 1, 3) := by decide +kernel
theorem dL_areTextsSo_428 : decode cL_areTextsSo 428 = .ok (.goto (-335), 3) := by decide +kernel
theorem dL_areTextsSo_431 : decode cL_areTextsSo 431 = .ok (.iload 9, 2) := by decide +kernel
theorem dL_areTextsSo_433 : decode cL_areTextsSo 433 = .ok (.iload 7, 2) := by decide +kernel
theorem dL_areTextsSo_435 : decode cL_areTextsSo 435 = .ok (.ifCond .ne 7, 3) := by decide +kernel
theorem dL_areTextsSo_438 : decode cL_areTextsSo 438 = .ok (.iconst 0, 1) := by decide +kernel
theorem dL_areTextsSo_439 : decode cL_areTextsSo 439 = .ok (.goto 5, 3) := by decide +kernel
theorem dL_areTextsSo_442 : decode cL_areTextsSo 442 = .ok (.bipush 96, 2) := by decide +kernel
theorem dL_areTextsSo_444 : decode cL_areTextsSo 444 = .ok (.if_icmp .eq 5, 3) := by decide +kernel
theorem dL_areTextsSo_447 : decode cL_areTextsSo 447 = .ok (.iconst 0, 1) := by decide +kernel
theorem dL_areTextsSo_448 : decode cL_areTextsSo 448 = .ok (.ireturn, 1) := by decide +kernel
theorem dL_areTextsSo_449 : decode cL_areTextsSo 449 = .ok (.iinc 6 1, 3) := by decide +kernel
theorem dL_areTextsSo_452 : decode cL_areTextsSo 452 = .ok (.goto (-439), 3) := by decide +kernel
theorem dL_areTextsSo_455 : decode cL_areTextsSo 455 = .ok (.aload_n 0, 1) := by decide +kernel
theorem dL_areTextsSo_456 : decode cL_areTextsSo 456 = .ok (.iload_n 1, 1) := by decide +kernel
theorem dL_areTextsSo_457 : decode cL_areTextsSo 457 = .ok (.invokevirtual 66, 3) := by decide +kernel
theorem dL_areTextsSo_460 : decode cL_areTextsSo 460 = .ok (.istore 6, 2) := by decide +kernel
theorem dL_areTextsSo_462 : decode cL_areTextsSo 462 = .ok (.iload_n 2, 1) := by decide +kernel
theorem dL_areTextsSo_463 : decode cL_areTextsSo 463 = .ok (.aload_n 0, 1) := by decide +kernel
theorem dL_areTextsSo_464 : decode cL_areTextsSo 464 = .ok (.iconst 0, 1) := by decide +kernel
theorem dL_areTextsSo_465 : decode cL_areTextsSo 465 = .ok (.invokevirtual 69, 3) := by decide +kernel
theorem dL_areTextsSo_468 : decode cL_areTextsSo 468 = .ok (.if_icmp .ne 63, 3) := by decide +kernel
theorem dL_areTextsSo_471 : decode cL_areTextsSo 471 = .ok (.iload_n 3, 1) := by decide +kernel
theorem dL_areTextsSo_472 : decode cL_areTextsSo 472 = .ok (.aload_n 0, 1) := by decide +kernel
theorem dL_areTextsSo_473 : decode cL_areTextsSo 473 = .ok (.iconst 1, 1) := by decide +kernel
theorem dL_areTextsSo_474 : decode cL_areTextsSo 474 = .ok (.invokevirtual 69, 3) := by decide +kernel
theorem dL_areTextsSo_477 : decode cL_areTextsSo 477 = .ok (.if_icmp .ne 54, 3) := by decide +kernel
theorem dL_areTextsSo_480 : decode cL_areTextsSo 480 = .ok (.iload 4, 2) := by decide +kernel
theorem dL_areTextsSo_482 : decode cL_areTextsSo 482 = .ok (.invokestatic 72, 3) := by decide +kernel
theorem dL_areTextsSo_485 : decode cL_areTextsSo 485 = .ok (.aload_n 0, 1) := by decide +kernel
theorem dL_areTextsSo_486 : decode cL_areTextsSo 486 = .ok (.bipush 8, 2) := by decide +kernel
theorem dL_areTextsSo_488 : decode cL_areTextsSo 488 = .ok (.invokevirtual 69, 3) := by decide +kernel
theorem dL_areTextsSo_491 : decode cL_areTextsSo 491 = .ok (.if_icmp .ne 40, 3) := by decide +kernel
theorem dL_areTextsSo_494 : decode cL_areTextsSo 494 = .ok (.iload 6, 2) := by decide +kernel
theorem dL_areTextsSo_496 : decode cL_areTextsSo 496 = .ok (.iload 4, 2) := by decide +kernel
theorem dL_areTextsSo_498 : decode cL_areTextsSo 498 = .ok (.iload 5, 2) := by decide +kernel
theorem dL_areTextsSo_500 : decode cL_areTextsSo 500 = .ok (.iconst (-1), 1) := by decide +kernel
theorem dL_areTextsSo_501 : decode cL_areTextsSo 501 = .ok (.ixor, 1) := by decide +kernel
theorem dL_areTextsSo_502 : decode cL_areTextsSo 502 = .ok (.iand, 1) := by decide +kernel
theorem dL_areTextsSo_503 : decode cL_areTextsSo 503 = .ok (.if_icmp .ne 28, 3) := by decide +kernel
theorem dL_areTextsSo_506 : decode cL_areTextsSo 506 = .ok (.aload_n 0, 1) := by decide +kernel
theorem dL_areTextsSo_507 : decode cL_areTextsSo 507 = .ok (.iload_n 1, 1) := by decide +kernel
theorem dL_areTextsSo_508 : decode cL_areTextsSo 508 = .ok (.bipush 100, 2) := by decide +kernel
theorem dL_areTextsSo_510 : decode cL_areTextsSo 510 = .ok (.sipush 5000, 3) := by decide +kernel
theorem dL_areTextsSo_513 : decode cL_areTextsSo 513 = .ok (.invokevirtual 75, 3) := by decide +kernel
theorem dL_areTextsSo_516 : decode cL_areTextsSo 516 = .ok (.iload 6, 2) := by decide +kernel
theorem dL_areTextsSo_518 : decode cL_areTextsSo 518 = .ok (.iload 4, 2) := by decide +kernel
theorem dL_areTextsSo_520 : decode cL_areTextsSo 520 = .ok (.iconst (-1), 1) := by decide +kernel
theorem dL_areTextsSo_521 : decode cL_areTextsSo 521 = .ok (.ixor, 1) := by decide +kernel
theorem dL_areTextsSo_522 : decode cL_areTextsSo 522 = .ok (.ior, 1) := by decide +kernel
theorem dL_areTextsSo_523 : decode cL_areTextsSo 523 = .ok (.iand, 1) := by decide +kernel
theorem dL_areTextsSo_524 : decode cL_areTextsSo 524 = .ok (.ifCond .ne 7, 3) := by decide +kernel
theorem dL_areTextsSo_527 : decode cL_areTextsSo 527 = .ok (.iconst 1, 1) := by decide +kernel
theorem dL_areTextsSo_528 : decode cL_areTextsSo 528 = .ok (.goto 4, 3) := by decide +kernel
theorem dL_areTextsSo_531 : decode cL_areTextsSo 531 = .ok (.iconst 0, 1) := by decide +kernel
theorem dL_areTextsSo_532 : decode cL_areTextsSo 532 = .ok (.ireturn, 1) := by decide +kernel
