def wsL_law_r1 : List Cond := [Cond.classLink RL 7 RX2, Cond.instantiable RX2 10, Cond.initialized RX2, Cond.classLink RL 10 RX3, Cond.instantiable RX3 14, Cond.initialized RX3, Cond.methodLink RL 9 yX2_init, Cond.instanceMethod yX2_init, Cond.code yX2_init cX2_init 2 none, Cond.methodLink RX2 3 objectInit, Cond.instanceMethod objectInit, Cond.code objectInit ⟨#[0xb1]⟩ 1 none, Cond.classLink RX2 9 RX1, Cond.instantiable RX1 12, Cond.initialized RX1, Cond.fieldLink RX2 12 "ExhibitTexts" "now" "LExhibitTexts$State;", Cond.fieldLink RX2 16 "ExhibitTexts" "trial" "LExhibitTexts$State;", Cond.fieldLink RX2 19 "ExhibitTexts" "snapshot" "LExhibitTexts$State;", Cond.fieldLink RX2 22 "ExhibitTexts" "history" "[LExhibitTexts$State;", Cond.classLink RX2 26 RX0, Cond.instantiable RX0 10, Cond.initialized RX0, Cond.fieldLink RX2 29 "ExhibitTexts" "pad" "LExhibitTexts$Pad;", Cond.instanceMethod yX1_init]
def wsL_law_r2 : List Cond := [Cond.code yX1_init cX1_init 1 none, Cond.methodLink RX1 3 objectInit, Cond.arrayClass .int, Cond.fieldLink RX1 9 "ExhibitTexts$State" "sizes" "[I", Cond.fieldLink RX1 15 "ExhibitTexts$State" "cells" "[I", Cond.fieldLink RX1 18 "ExhibitTexts$State" "turning" "I", Cond.instanceMethod yX0_init, Cond.code yX0_init cX0_init 1 none, Cond.methodLink RX0 3 objectInit, Cond.arrayClass .char, Cond.fieldLink RX0 9 "ExhibitTexts$Pad" "characters" "[C", Cond.methodLink RL 12 yX3_init, Cond.instanceMethod yX3_init, Cond.code yX3_init cX3_init 1 none, Cond.methodLink RX3 1 objectInit, Cond.fieldLink RX3 7 "ExhibitTextsModel" "s" "[I", Cond.fieldLink RX3 13 "ExhibitTextsModel" "aside" "[I", Cond.fieldLink RX3 16 "ExhibitTextsModel" "before" "[I", Cond.fieldLink RX3 19 "ExhibitTextsModel" "kept" "[I", Cond.fieldLink RX3 22 "ExhibitTextsModel" "pad" "[I", Cond.fieldLink RX3 25 "ExhibitTextsModel" "refusedAt" "I", Cond.fieldLink RX3 29 "ExhibitTextsModel" "refusedBy" "I", Cond.fieldLink RX3 32 "ExhibitTextsModel" "told" "[I", Cond.methodLink RL 13 yX2_addText]
def wsL_law_r3 : List Cond := [Cond.instanceMethod yX2_addText, Cond.selects RX2 yX2_addText yX2_addText, Cond.code yX2_addText cX2_addText 6 (some .int), Cond.methodLink RX2 33 yX2_attempt, Cond.instanceMethod yX2_attempt, Cond.selects RX2 yX2_attempt yX2_attempt, Cond.code yX2_attempt cX2_attempt 1 (some (.object "ExhibitTexts$State")), Cond.methodLink RX2 101 yX1_copyFrom, Cond.instanceMethod yX1_copyFrom, Cond.selects RX1 yX1_copyFrom yX1_copyFrom, Cond.code yX1_copyFrom cX1_copyFrom 2 none, Cond.methodLink RX1 22 arraycopyName, Cond.native arraycopyName, Cond.static arraycopyName, Cond.initialized "java/lang/System", Cond.fieldLink RX1 28 "ExhibitTexts$State" "standsAt" "I", Cond.fieldLink RX1 31 "ExhibitTexts$State" "visitors" "I", Cond.fieldLink RX1 34 "ExhibitTexts$State" "textsRead" "I", Cond.fieldLink RX1 37 "ExhibitTexts$State" "captionsRead" "I", Cond.fieldLink RX1 40 "ExhibitTexts$State" "hasVisitor" "Z", Cond.fieldLink RX1 44 "ExhibitTexts$State" "age" "I", Cond.fieldLink RX1 47 "ExhibitTexts$State" "pace" "I", Cond.fieldLink RX1 50 "ExhibitTexts$State" "seconds" "I", Cond.fieldLink RX1 53 "ExhibitTexts$State" "learned" "I"]
def wsL_law_r4 : List Cond := [Cond.methodLink RX2 37 yX1_putText, Cond.instanceMethod yX1_putText, Cond.selects RX1 yX1_putText yX1_putText, Cond.code yX1_putText cX1_putText 8 (some .int), Cond.constant RX1 64 (65535), Cond.static yX2_isExhibit, Cond.code yX2_isExhibit cX2_isExhibit 1 (some .boolean), Cond.static yX2_isText, Cond.code yX2_isText cX2_isText 3 (some .boolean), Cond.methodLink RX2 41 yX2_settle, Cond.instanceMethod yX2_settle, Cond.selects RX2 yX2_settle yX2_settle, Cond.code yX2_settle cX2_settle 4 (some .int), Cond.fieldLink RX2 98 "ExhibitTexts" "nextInHistory" "I", Cond.fieldLink RX2 95 "ExhibitTexts" "statesInHistory" "I", Cond.methodLink RX2 183 Lib.Math.min.name, Cond.static Lib.Math.min.name, Cond.initialized "java/lang/Math", Cond.code Lib.Math.min.name Lib.Math.min.code 2 (some .int), Cond.methodLink RL 17 yX3_addText, Cond.instanceMethod yX3_addText, Cond.selects RX3 yX3_addText yX3_addText, Cond.code yX3_addText cX3_addText 7 (some .int), Cond.methodLink RX3 67 yX3_textFault]
def wsL_law_r5 : List Cond := [Cond.instanceMethod yX3_textFault, Cond.selects RX3 yX3_textFault yX3_textFault, Cond.code yX3_textFault cX3_textFault 6 (some .int), Cond.constant RX3 62 (65535), Cond.methodLink RX3 47 yX3_isExhibit, Cond.static yX3_isExhibit, Cond.code yX3_isExhibit cX3_isExhibit 1 (some .boolean), Cond.methodLink RX3 43 yX3_in, Cond.static yX3_in, Cond.code yX3_in cX3_in 3 (some .boolean), Cond.methodLink RX3 35 yX3_manyAt, Cond.static yX3_manyAt, Cond.code yX3_manyAt cX3_manyAt 1 (some .int), Cond.methodLink RX3 71 yX3_know, Cond.instanceMethod yX3_know, Cond.selects RX3 yX3_know yX3_know, Cond.code yX3_know cX3_know 2 none, Cond.fieldLink RX3 55 "ExhibitTextsModel" "known" "I", Cond.methodLink RX3 74 yX3_addsText, Cond.instanceMethod yX3_addsText, Cond.selects RX3 yX3_addsText yX3_addsText, Cond.code yX3_addsText cX3_addsText 8 (some .int), Cond.methodLink RX3 39 yX3_of, Cond.static yX3_of]
def wsL_law_r6 : List Cond := [Cond.code yX3_of cX3_of 3 (some .int), Cond.methodLink RL 18 yX2_removeText, Cond.instanceMethod yX2_removeText, Cond.selects RX2 yX2_removeText yX2_removeText, Cond.code yX2_removeText cX2_removeText 3 (some .int), Cond.methodLink RX2 45 yX1_dropText, Cond.instanceMethod yX1_dropText, Cond.selects RX1 yX1_dropText yX1_dropText, Cond.code yX1_dropText cX1_dropText 5 (some .int), Cond.methodLink RX1 65 yX1_rowOf, Cond.instanceMethod yX1_rowOf, Cond.selects RX1 yX1_rowOf yX1_rowOf, Cond.code yX1_rowOf cX1_rowOf 3 (some .int), Cond.methodLink RL 22 yX3_removeText, Cond.instanceMethod yX3_removeText, Cond.selects RX3 yX3_removeText yX3_removeText, Cond.code yX3_removeText cX3_removeText 4 (some .int), Cond.methodLink RX3 51 yX3_isText, Cond.instanceMethod yX3_isText, Cond.selects RX3 yX3_isText yX3_isText, Cond.code yX3_isText cX3_isText 3 (some .boolean), Cond.methodLink RL 23 yX2_setFacts, Cond.instanceMethod yX2_setFacts, Cond.selects RX2 yX2_setFacts yX2_setFacts]
def wsL_law_r7 : List Cond := [Cond.code yX2_setFacts cX2_setFacts 4 (some .int), Cond.methodLink RX2 49 yX1_changeFacts, Cond.instanceMethod yX1_changeFacts, Cond.selects RX1 yX1_changeFacts yX1_changeFacts, Cond.code yX1_changeFacts cX1_changeFacts 6 (some .int), Cond.methodLink RX1 69 yX1_captionFacts, Cond.instanceMethod yX1_captionFacts, Cond.selects RX1 yX1_captionFacts yX1_captionFacts, Cond.code yX1_captionFacts cX1_captionFacts 4 (some .int), Cond.methodLink RL 27 yX3_setFacts, Cond.instanceMethod yX3_setFacts, Cond.selects RX3 yX3_setFacts yX3_setFacts, Cond.code yX3_setFacts cX3_setFacts 5 (some .int), Cond.methodLink RX3 63 yX3_ofCaption, Cond.static yX3_ofCaption, Cond.code yX3_ofCaption cX3_ofCaption 4 (some .int), Cond.methodLink RL 28 yX2_addCaption, Cond.instanceMethod yX2_addCaption, Cond.selects RX2 yX2_addCaption yX2_addCaption, Cond.code yX2_addCaption cX2_addCaption 5 (some .int), Cond.methodLink RX2 53 yX1_putCaption, Cond.instanceMethod yX1_putCaption, Cond.selects RX1 yX1_putCaption yX1_putCaption, Cond.code yX1_putCaption cX1_putCaption 8 (some .int)]
def wsL_law_r8 : List Cond := [Cond.methodLink RL 32 yX3_addCaption, Cond.instanceMethod yX3_addCaption, Cond.selects RX3 yX3_addCaption yX3_addCaption, Cond.code yX3_addCaption cX3_addCaption 6 (some .int), Cond.methodLink RX3 77 yX3_captionFault, Cond.instanceMethod yX3_captionFault, Cond.selects RX3 yX3_captionFault yX3_captionFault, Cond.code yX3_captionFault cX3_captionFault 5 (some .int), Cond.methodLink RX3 80 yX3_addsCaption, Cond.instanceMethod yX3_addsCaption, Cond.selects RX3 yX3_addsCaption yX3_addsCaption, Cond.code yX3_addsCaption cX3_addsCaption 6 (some .int), Cond.methodLink RL 33 yX2_readEntries, Cond.instanceMethod yX2_readEntries, Cond.selects RX2 yX2_readEntries yX2_readEntries, Cond.code yX2_readEntries cX2_readEntries 2 (some .int), Cond.methodLink RX2 57 yX0_findFault, Cond.instanceMethod yX0_findFault, Cond.selects RX0 yX0_findFault yX0_findFault, Cond.code yX0_findFault cX0_findFault 2 (some .int), Cond.fieldLink RX0 19 "ExhibitTexts$Pad" "place" "I", Cond.fieldLink RX0 15 "ExhibitTexts$Pad" "length" "I", Cond.methodLink RX0 22 yX0_takeEntry, Cond.instanceMethod yX0_takeEntry]
def wsL_law_r9 : List Cond := [Cond.selects RX0 yX0_takeEntry yX0_takeEntry, Cond.code yX0_takeEntry cX0_takeEntry 1 (some .boolean), Cond.fieldLink RX0 34 "ExhibitTexts$Pad" "exhibit" "I", Cond.fieldLink RX0 37 "ExhibitTexts$Pad" "isCaption" "Z", Cond.methodLink RX0 30 yX0_takeNumber, Cond.instanceMethod yX0_takeNumber, Cond.selects RX0 yX0_takeNumber yX0_takeNumber, Cond.code yX0_takeNumber cX0_takeNumber 6 (some .int), Cond.methodLink RX0 69 yX0_nextDigit, Cond.instanceMethod yX0_nextDigit, Cond.selects RX0 yX0_nextDigit yX0_nextDigit, Cond.code yX0_nextDigit cX0_nextDigit 2 (some .int), Cond.methodLink RX0 66 yX0_nextSign, Cond.instanceMethod yX0_nextSign, Cond.selects RX0 yX0_nextSign yX0_nextSign, Cond.code yX0_nextSign cX0_nextSign 1 (some .int), Cond.methodLink RX0 26 yX0_takeSign, Cond.instanceMethod yX0_takeSign, Cond.selects RX0 yX0_takeSign yX0_takeSign, Cond.code yX0_takeSign cX0_takeSign 2 (some .boolean), Cond.methodLink RX0 41 yX0_takeCaption, Cond.instanceMethod yX0_takeCaption, Cond.selects RX0 yX0_takeCaption yX0_takeCaption, Cond.code yX0_takeCaption cX0_takeCaption 1 (some .boolean)]
def wsL_law_r10 : List Cond := [Cond.fieldLink RX0 63 "ExhibitTexts$Pad" "text" "I", Cond.fieldLink RX0 47 "ExhibitTexts$Pad" "words" "I", Cond.fieldLink RX0 60 "ExhibitTexts$Pad" "facts" "I", Cond.methodLink RX0 56 yX0_takeFacts, Cond.instanceMethod yX0_takeFacts, Cond.selects RX0 yX0_takeFacts yX0_takeFacts, Cond.code yX0_takeFacts cX0_takeFacts 3 (some .int), Cond.methodLink RX0 44 yX0_takeText, Cond.instanceMethod yX0_takeText, Cond.selects RX0 yX0_takeText yX0_takeText, Cond.code yX0_takeText cX0_takeText 1 (some .boolean), Cond.fieldLink RX0 50 "ExhibitTexts$Pad" "sentences" "I", Cond.fieldLink RX0 53 "ExhibitTexts$Pad" "longs" "I", Cond.methodLink RX2 61 yX2_doEntries, Cond.instanceMethod yX2_doEntries, Cond.selects RX2 yX2_doEntries yX2_doEntries, Cond.code yX2_doEntries cX2_doEntries 4 (some .int), Cond.fieldLink RX2 188 "ExhibitTexts$Pad" "place" "I", Cond.fieldLink RX2 69 "ExhibitTexts" "refusedEntry" "I", Cond.fieldLink RX2 65 "ExhibitTexts" "refusedError" "I", Cond.methodLink RX2 191 yX0_takeEntry, Cond.methodLink RX2 194 yX2_doEntry, Cond.instanceMethod yX2_doEntry, Cond.selects RX2 yX2_doEntry yX2_doEntry]
def wsL_law_r11 : List Cond := [Cond.code yX2_doEntry cX2_doEntry 2 (some .int), Cond.fieldLink RX2 201 "ExhibitTexts$Pad" "isCaption" "Z", Cond.fieldLink RX2 204 "ExhibitTexts$Pad" "exhibit" "I", Cond.fieldLink RX2 207 "ExhibitTexts$Pad" "text" "I", Cond.fieldLink RX2 210 "ExhibitTexts$Pad" "words" "I", Cond.fieldLink RX2 213 "ExhibitTexts$Pad" "facts" "I", Cond.fieldLink RX2 216 "ExhibitTexts$Pad" "sentences" "I", Cond.fieldLink RX2 219 "ExhibitTexts$Pad" "longs" "I", Cond.methodLink RX2 197 yX0_takeSign, Cond.methodLink RL 37 yX3_readEntries, Cond.instanceMethod yX3_readEntries, Cond.selects RX3 yX3_readEntries yX3_readEntries, Cond.code yX3_readEntries cX3_readEntries 3 (some .int), Cond.fieldLink RX3 89 "ExhibitTextsModel" "isWrong" "Z", Cond.fieldLink RX3 83 "ExhibitTextsModel" "reading" "I", Cond.fieldLink RX3 106 "ExhibitTextsModel" "fault" "I", Cond.methodLink RX3 113 yX3_go, Cond.instanceMethod yX3_go, Cond.selects RX3 yX3_go yX3_go, Cond.code yX3_go cX3_go 6 (some .int), Cond.fieldLink RX3 86 "ExhibitTextsModel" "typed" "I", Cond.methodLink RX3 109 yX3_entry, Cond.instanceMethod yX3_entry, Cond.selects RX3 yX3_entry yX3_entry]
def wsL_law_r12 : List Cond := [Cond.code yX3_entry cX3_entry 3 (some .boolean), Cond.methodLink RX3 93 yX3_sign, Cond.instanceMethod yX3_sign, Cond.selects RX3 yX3_sign yX3_sign, Cond.code yX3_sign cX3_sign 4 (some .int), Cond.methodLink RX3 96 yX3_isNext, Cond.instanceMethod yX3_isNext, Cond.selects RX3 yX3_isNext yX3_isNext, Cond.code yX3_isNext cX3_isNext 3 (some .boolean), Cond.methodLink RX3 99 yX3_number, Cond.instanceMethod yX3_number, Cond.selects RX3 yX3_number yX3_number, Cond.code yX3_number cX3_number 4 (some .int), Cond.methodLink RX3 102 yX3_letters, Cond.instanceMethod yX3_letters, Cond.selects RX3 yX3_letters yX3_letters, Cond.code yX3_letters cX3_letters 4 (some .int), Cond.methodLink RX3 117 yX3_putBack, Cond.instanceMethod yX3_putBack, Cond.selects RX3 yX3_putBack yX3_putBack, Cond.code yX3_putBack cX3_putBack 2 none, Cond.methodLink RL 38 yX2_refusal, Cond.instanceMethod yX2_refusal, Cond.selects RX2 yX2_refusal yX2_refusal]
def wsL_law_r13 : List Cond := [Cond.code yX2_refusal cX2_refusal 2 (some .int), Cond.methodLink RL 42 yX3_refusal, Cond.instanceMethod yX3_refusal, Cond.selects RX3 yX3_refusal yX3_refusal, Cond.code yX3_refusal cX3_refusal 2 (some .int), Cond.methodLink RL 43 yX2_enter, Cond.instanceMethod yX2_enter, Cond.selects RX2 yX2_enter yX2_enter, Cond.code yX2_enter cX2_enter 4 (some .int), Cond.methodLink RX2 72 yX1_admit, Cond.instanceMethod yX1_admit, Cond.selects RX1 yX1_admit yX1_admit, Cond.code yX1_admit cX1_admit 5 (some .int), Cond.static yX2_isAge, Cond.code yX2_isAge cX2_isAge 1 (some .boolean), Cond.methodLink RX1 76 yX1_textFor, Cond.instanceMethod yX1_textFor, Cond.selects RX1 yX1_textFor yX1_textFor, Cond.code yX1_textFor cX1_textFor 6 (some .int), Cond.methodLink RX1 106 yX1_fitsBetter, Cond.instanceMethod yX1_fitsBetter, Cond.selects RX1 yX1_fitsBetter yX1_fitsBetter, Cond.code yX1_fitsBetter cX1_fitsBetter 6 (some .boolean), Cond.methodLink RL 46 yX3_enter]
def wsL_law_r14 : List Cond := [Cond.instanceMethod yX3_enter, Cond.selects RX3 yX3_enter yX3_enter, Cond.code yX3_enter cX3_enter 4 (some .int), Cond.methodLink RX3 123 yX3_shownNow, Cond.instanceMethod yX3_shownNow, Cond.selects RX3 yX3_shownNow yX3_shownNow, Cond.code yX3_shownNow cX3_shownNow 1 (some .int), Cond.methodLink RX3 120 yX3_shownTo, Cond.instanceMethod yX3_shownTo, Cond.selects RX3 yX3_shownTo yX3_shownTo, Cond.code yX3_shownTo cX3_shownTo 9 (some .int), Cond.methodLink RX3 58 yX3_readingAge, Cond.instanceMethod yX3_readingAge, Cond.selects RX3 yX3_readingAge yX3_readingAge, Cond.code yX3_readingAge cX3_readingAge 4 (some .int), Cond.methodLink RL 47 yX2_touch, Cond.instanceMethod yX2_touch, Cond.selects RX2 yX2_touch yX2_touch, Cond.code yX2_touch cX2_touch 2 (some .int), Cond.methodLink RX2 75 yX1_touchCaption, Cond.instanceMethod yX1_touchCaption, Cond.selects RX1 yX1_touchCaption yX1_touchCaption, Cond.code yX1_touchCaption cX1_touchCaption 6 (some .int), Cond.methodLink RX1 79 yX1_shownRow]
def wsL_law_r15 : List Cond := [Cond.instanceMethod yX1_shownRow, Cond.selects RX1 yX1_shownRow yX1_shownRow, Cond.code yX1_shownRow cX1_shownRow 2 (some .int), Cond.methodLink RX1 83 yX1_captionOf, Cond.instanceMethod yX1_captionOf, Cond.selects RX1 yX1_captionOf yX1_captionOf, Cond.code yX1_captionOf cX1_captionOf 3 (some .int), Cond.methodLink RX1 86 yX1_timeFor, Cond.instanceMethod yX1_timeFor, Cond.selects RX1 yX1_timeFor yX1_timeFor, Cond.code yX1_timeFor cX1_timeFor 3 (some .int), Cond.methodLink RX1 103 Lib.Math.max.name, Cond.static Lib.Math.max.name, Cond.code Lib.Math.max.name Lib.Math.max.code 2 (some .int), Cond.methodLink RX1 89 yX1_readShown, Cond.instanceMethod yX1_readShown, Cond.selects RX1 yX1_readShown yX1_readShown, Cond.code yX1_readShown cX1_readShown 3 (some .boolean), Cond.methodLink RX1 93 yJ6_bitCount_0f7a4, Cond.static yJ6_bitCount_0f7a4, Cond.initialized RJ6, Cond.code yJ6_bitCount_0f7a4 cJ6_bitCount_0f7a4 1 (some .int), Cond.constant RJ6 265 (1431655765), Cond.constant RJ6 266 (858993459)]
def wsL_law_r16 : List Cond := [Cond.constant RJ6 267 (252645135), Cond.methodLink RL 50 yX3_touch, Cond.instanceMethod yX3_touch, Cond.selects RX3 yX3_touch yX3_touch, Cond.code yX3_touch cX3_touch 5 (some .int), Cond.methodLink RX3 129 yX3_isCaption, Cond.instanceMethod yX3_isCaption, Cond.selects RX3 yX3_isCaption yX3_isCaption, Cond.code yX3_isCaption cX3_isCaption 4 (some .boolean), Cond.methodLink RX3 126 yX3_seconds, Cond.static yX3_seconds, Cond.code yX3_seconds cX3_seconds 2 (some .int), Cond.methodLink RX3 132 yX3_bitsOf, Cond.static yX3_bitsOf, Cond.code yX3_bitsOf cX3_bitsOf 3 (some .int), Cond.methodLink RX3 135 yX3_canRead, Cond.instanceMethod yX3_canRead, Cond.selects RX3 yX3_canRead yX3_canRead, Cond.code yX3_canRead cX3_canRead 3 (some .boolean), Cond.methodLink RX3 138 yX3_reads, Cond.instanceMethod yX3_reads, Cond.selects RX3 yX3_reads yX3_reads, Cond.code yX3_reads cX3_reads 2 none, Cond.methodLink RL 51 yX2_read]
def wsL_law_r17 : List Cond := [Cond.instanceMethod yX2_read, Cond.selects RX2 yX2_read yX2_read, Cond.code yX2_read cX2_read 1 (some .int), Cond.methodLink RX2 78 yX1_readUntouched, Cond.instanceMethod yX1_readUntouched, Cond.selects RX1 yX1_readUntouched yX1_readUntouched, Cond.code yX1_readUntouched cX1_readUntouched 3 (some .int), Cond.methodLink RL 54 yX3_read, Cond.instanceMethod yX3_read, Cond.selects RX3 yX3_read yX3_read, Cond.code yX3_read cX3_read 3 (some .int), Cond.methodLink RL 55 yX2_turn, Cond.instanceMethod yX2_turn, Cond.selects RX2 yX2_turn yX2_turn, Cond.code yX2_turn cX2_turn 2 (some .int), Cond.methodLink RX2 81 yX1_turnRing, Cond.instanceMethod yX1_turnRing, Cond.selects RX1 yX1_turnRing yX1_turnRing, Cond.code yX1_turnRing cX1_turnRing 2 (some .int), Cond.methodLink RX1 98 yJ9_floorMod_7cf53, Cond.static yJ9_floorMod_7cf53, Cond.initialized RJ9, Cond.code yJ9_floorMod_7cf53 cJ9_floorMod_7cf53 3 (some .int), Cond.methodLink RL 59 yX3_turn]
def wsL_law_r18 : List Cond := [Cond.instanceMethod yX3_turn, Cond.selects RX3 yX3_turn yX3_turn, Cond.code yX3_turn cX3_turn 2 (some .int), Cond.methodLink RL 60 yX2_setTurning, Cond.instanceMethod yX2_setTurning, Cond.selects RX2 yX2_setTurning yX2_setTurning, Cond.code yX2_setTurning cX2_setTurning 2 (some .int), Cond.methodLink RX2 85 yX1_changeTurning, Cond.instanceMethod yX1_changeTurning, Cond.selects RX1 yX1_changeTurning yX1_changeTurning, Cond.code yX1_changeTurning cX1_changeTurning 3 (some .int), Cond.methodLink RL 63 yX3_setTurning, Cond.instanceMethod yX3_setTurning, Cond.selects RX3 yX3_setTurning yX3_setTurning, Cond.code yX3_setTurning cX3_setTurning 3 (some .int), Cond.methodLink RL 64 yX2_type, Cond.instanceMethod yX2_type, Cond.selects RX2 yX2_type yX2_type, Cond.code yX2_type cX2_type 2 (some .int), Cond.methodLink RX2 88 yX0_append, Cond.instanceMethod yX0_append, Cond.selects RX0 yX0_append yX0_append, Cond.code yX0_append cX0_append 2 (some .int), Cond.methodLink RL 68 yX3_type]
def wsL_law_r19 : List Cond := [Cond.instanceMethod yX3_type, Cond.selects RX3 yX3_type yX3_type, Cond.code yX3_type cX3_type 2 (some .int), Cond.methodLink RL 69 yX2_clearPad, Cond.instanceMethod yX2_clearPad, Cond.selects RX2 yX2_clearPad yX2_clearPad, Cond.code yX2_clearPad cX2_clearPad 2 (some .int), Cond.fieldLink RX2 92 "ExhibitTexts$Pad" "length" "I", Cond.methodLink RL 72 yX3_clearPad, Cond.instanceMethod yX3_clearPad, Cond.selects RX3 yX3_clearPad yX3_clearPad, Cond.code yX3_clearPad cX3_clearPad 2 (some .int), Cond.methodLink RL 73 yX2_undo, Cond.instanceMethod yX2_undo, Cond.selects RX2 yX2_undo yX2_undo, Cond.code yX2_undo cX2_undo 3 (some .int), Cond.methodLink RL 76 yX3_undo, Cond.instanceMethod yX3_undo, Cond.selects RX3 yX3_undo yX3_undo, Cond.code yX3_undo cX3_undo 2 (some .int), Cond.methodLink RL 77 yX2_keep, Cond.instanceMethod yX2_keep, Cond.selects RX2 yX2_keep yX2_keep, Cond.code yX2_keep cX2_keep 1 (some .int)]
def wsL_law_r20 : List Cond := [Cond.fieldLink RX2 105 "ExhibitTexts" "kept" "Z", Cond.methodLink RX2 109 yX1_countTexts, Cond.instanceMethod yX1_countTexts, Cond.selects RX1 yX1_countTexts yX1_countTexts, Cond.code yX1_countTexts cX1_countTexts 3 (some .int), Cond.methodLink RL 80 yX3_keep, Cond.instanceMethod yX3_keep, Cond.selects RX3 yX3_keep yX3_keep, Cond.code yX3_keep cX3_keep 2 (some .int), Cond.fieldLink RX3 142 "ExhibitTextsModel" "isKept" "Z", Cond.methodLink RX3 145 yX3_texts, Cond.instanceMethod yX3_texts, Cond.selects RX3 yX3_texts yX3_texts, Cond.code yX3_texts cX3_texts 3 (some .int), Cond.methodLink RL 81 yX2_restore, Cond.instanceMethod yX2_restore, Cond.selects RX2 yX2_restore yX2_restore, Cond.code yX2_restore cX2_restore 1 (some .int), Cond.methodLink RL 84 yX3_restore, Cond.instanceMethod yX3_restore, Cond.selects RX3 yX3_restore yX3_restore, Cond.code yX3_restore cX3_restore 2 (some .int), Cond.methodLink RL 85 yX2_text, Cond.instanceMethod yX2_text]
def wsL_law_r21 : List Cond := [Cond.selects RX2 yX2_text yX2_text, Cond.code yX2_text cX2_text 5 (some .int), Cond.fieldLink RX2 115 "ExhibitTexts$State" "cells" "[I", Cond.methodLink RX2 112 yX1_rowOf, Cond.methodLink RL 88 yX3_text, Cond.instanceMethod yX3_text, Cond.selects RX3 yX3_text yX3_text, Cond.code yX3_text cX3_text 4 (some .int), Cond.methodLink RL 89 yX2_caption, Cond.instanceMethod yX2_caption, Cond.selects RX2 yX2_caption yX2_caption, Cond.code yX2_caption cX2_caption 7 (some .int), Cond.methodLink RX2 119 yX1_captionOf, Cond.methodLink RL 92 yX3_caption, Cond.instanceMethod yX3_caption, Cond.selects RX3 yX3_caption yX3_caption, Cond.code yX3_caption cX3_caption 5 (some .int), Cond.methodLink RL 93 yX2_visitor, Cond.instanceMethod yX2_visitor, Cond.selects RX2 yX2_visitor yX2_visitor, Cond.code yX2_visitor cX2_visitor 2 (some .int), Cond.fieldLink RX2 122 "ExhibitTexts$State" "hasVisitor" "Z", Cond.fieldLink RX2 125 "ExhibitTexts$State" "age" "I", Cond.fieldLink RX2 128 "ExhibitTexts$State" "pace" "I"]
def wsL_law_r22 : List Cond := [Cond.fieldLink RX2 131 "ExhibitTexts$State" "seconds" "I", Cond.fieldLink RX2 134 "ExhibitTexts$State" "learned" "I", Cond.fieldLink RX2 142 "ExhibitTexts$State" "standsAt" "I", Cond.methodLink RX2 137 yJ6_bitCount_0f7a4, Cond.methodLink RX2 145 yX1_textFor, Cond.methodLink RL 96 yX3_visitor, Cond.instanceMethod yX3_visitor, Cond.selects RX3 yX3_visitor yX3_visitor, Cond.code yX3_visitor cX3_visitor 2 (some .int), Cond.methodLink RL 97 yX2_shown, Cond.instanceMethod yX2_shown, Cond.selects RX2 yX2_shown yX2_shown, Cond.code yX2_shown cX2_shown 3 (some .int), Cond.methodLink RX2 148 yX2_isExhibit, Cond.methodLink RX2 152 yX2_isAge, Cond.methodLink RL 100 yX3_shown, Cond.instanceMethod yX3_shown, Cond.selects RX3 yX3_shown yX3_shown, Cond.code yX3_shown cX3_shown 3 (some .int), Cond.methodLink RL 101 yX2_unmet, Cond.instanceMethod yX2_unmet, Cond.selects RX2 yX2_unmet yX2_unmet, Cond.code yX2_unmet cX2_unmet 2 (some .int), Cond.methodLink RX2 155 yX1_allFacts]
def wsL_law_r23 : List Cond := [Cond.instanceMethod yX1_allFacts, Cond.selects RX1 yX1_allFacts yX1_allFacts, Cond.code yX1_allFacts cX1_allFacts 4 (some .int), Cond.methodLink RX2 158 yX1_factsFor, Cond.instanceMethod yX1_factsFor, Cond.selects RX1 yX1_factsFor yX1_factsFor, Cond.code yX1_factsFor cX1_factsFor 5 (some .int), Cond.methodLink RL 104 yX3_unmet, Cond.instanceMethod yX3_unmet, Cond.selects RX3 yX3_unmet yX3_unmet, Cond.code yX3_unmet cX3_unmet 5 (some .int), Cond.methodLink RX3 148 yX3_allFacts, Cond.instanceMethod yX3_allFacts, Cond.selects RX3 yX3_allFacts yX3_allFacts, Cond.code yX3_allFacts cX3_allFacts 4 (some .int), Cond.methodLink RL 105 yX2_round, Cond.instanceMethod yX2_round, Cond.selects RX2 yX2_round yX2_round, Cond.code yX2_round cX2_round 7 (some .int), Cond.methodLink RX2 161 yX1_readShown, Cond.methodLink RL 108 yX3_round, Cond.instanceMethod yX3_round, Cond.selects RX3 yX3_round yX3_round, Cond.code yX3_round cX3_round 11 (some .int)]
def wsL_law_r24 : List Cond := [Cond.methodLink RL 109 yX2_ages, Cond.instanceMethod yX2_ages, Cond.selects RX2 yX2_ages yX2_ages, Cond.code yX2_ages cX2_ages 8 (some .int), Cond.methodLink RL 112 yX3_ages, Cond.instanceMethod yX3_ages, Cond.selects RX3 yX3_ages yX3_ages, Cond.code yX3_ages cX3_ages 8 (some .int), Cond.methodLink RL 113 yX2_count, Cond.instanceMethod yX2_count, Cond.selects RX2 yX2_count yX2_count, Cond.code yX2_count cX2_count 2 (some .int), Cond.fieldLink RX2 168 "ExhibitTexts$State" "turning" "I", Cond.fieldLink RX2 171 "ExhibitTexts$State" "visitors" "I", Cond.fieldLink RX2 174 "ExhibitTexts$State" "textsRead" "I", Cond.fieldLink RX2 177 "ExhibitTexts$State" "captionsRead" "I", Cond.methodLink RX2 165 yX1_countCaptions, Cond.instanceMethod yX1_countCaptions, Cond.selects RX1 yX1_countCaptions yX1_countCaptions, Cond.code yX1_countCaptions cX1_countCaptions 4 (some .int), Cond.methodLink RX2 180 yX1_countNeverRead, Cond.instanceMethod yX1_countNeverRead, Cond.selects RX1 yX1_countNeverRead yX1_countNeverRead, Cond.code yX1_countNeverRead cX1_countNeverRead 4 (some .int)]
def wsL_law_r25 : List Cond := [Cond.methodLink RL 116 yX3_count, Cond.instanceMethod yX3_count, Cond.selects RX3 yX3_count yX3_count, Cond.code yX3_count cX3_count 2 (some .int), Cond.methodLink RX3 151 yX3_sum, Cond.instanceMethod yX3_sum, Cond.selects RX3 yX3_sum yX3_sum, Cond.code yX3_sum cX3_sum 5 (some .int)]
def wsL_law : List Cond := (wsL_law_r1 ++ (wsL_law_r2 ++ (wsL_law_r3 ++ (wsL_law_r4 ++ (wsL_law_r5 ++ (wsL_law_r6 ++ (wsL_law_r7 ++ (wsL_law_r8 ++ (wsL_law_r9 ++ (wsL_law_r10 ++ (wsL_law_r11 ++ (wsL_law_r12 ++ (wsL_law_r13 ++ (wsL_law_r14 ++ (wsL_law_r15 ++ (wsL_law_r16 ++ (wsL_law_r17 ++ (wsL_law_r18 ++ (wsL_law_r19 ++ (wsL_law_r20 ++ (wsL_law_r21 ++ (wsL_law_r22 ++ (wsL_law_r23 ++ (wsL_law_r24 ++ wsL_law_r25)))))))))))))))))))))))) ++ wsX20 ++ wsX30 ++ wsX10 ++ wsX00 ++ ([] : List Cond)
set_option maxRecDepth 20000 in
theorem wsL_law_r1_ok : GoodIn lw_tbl wsL_law_r1 := goodIn_p wsL_law_r1 [48, 51] (by decide +kernel) (by decide +kernel)
set_option maxRecDepth 20000 in
theorem wsL_law_r2_ok : GoodIn lw_tbl wsL_law_r2 := goodIn_p wsL_law_r2 [56, 112, 471] (by decide +kernel) (by decide +kernel)
set_option maxRecDepth 20000 in
theorem wsL_law_r3_ok : GoodIn lw_tbl wsL_law_r3 := goodIn_p wsL_law_r3 [189, 193, 197] (by decide +kernel) (by decide +kernel)
set_option maxRecDepth 20000 in
theorem wsL_law_r4_ok : GoodIn lw_tbl wsL_law_r4 := goodIn_p wsL_law_r4 [204, 207, 210, 215, 218, 519] (by decide +kernel) (by decide +kernel)
set_option maxRecDepth 20000 in
theorem wsL_law_r5_ok : GoodIn lw_tbl wsL_law_r5 := goodIn_p wsL_law_r5 [523, 526, 529, 533, 537, 541] (by decide +kernel) (by decide +kernel)
set_option maxRecDepth 20000 in
theorem wsL_law_r6_ok : GoodIn lw_tbl wsL_law_r6 := goodIn_p wsL_law_r6 [544, 222, 226, 230, 548, 552] (by decide +kernel) (by decide +kernel)
set_option maxRecDepth 20000 in
theorem wsL_law_r7_ok : GoodIn lw_tbl wsL_law_r7 := goodIn_p wsL_law_r7 [234, 238, 242, 556, 559, 246, 250] (by decide +kernel) (by decide +kernel)
set_option maxRecDepth 20000 in
theorem wsL_law_r8_ok : GoodIn lw_tbl wsL_law_r8 := goodIn_p wsL_law_r8 [563, 567, 571, 254, 258] (by decide +kernel) (by decide +kernel)
set_option maxRecDepth 20000 in
theorem wsL_law_r9_ok : GoodIn lw_tbl wsL_law_r9 := goodIn_p wsL_law_r9 [262, 266, 270, 274, 278, 282] (by decide +kernel) (by decide +kernel)
set_option maxRecDepth 20000 in
theorem wsL_law_r10_ok : GoodIn lw_tbl wsL_law_r10 := goodIn_p wsL_law_r10 [286, 290, 294] (by decide +kernel) (by decide +kernel)
set_option maxRecDepth 20000 in
theorem wsL_law_r11_ok : GoodIn lw_tbl wsL_law_r11 := goodIn_p wsL_law_r11 [299, 575, 579] (by decide +kernel) (by decide +kernel)
set_option maxRecDepth 20000 in
theorem wsL_law_r12_ok : GoodIn lw_tbl wsL_law_r12 := goodIn_p wsL_law_r12 [583, 587, 591, 595, 599, 603] (by decide +kernel) (by decide +kernel)
set_option maxRecDepth 20000 in
theorem wsL_law_r13_ok : GoodIn lw_tbl wsL_law_r13 := goodIn_p wsL_law_r13 [304, 607, 308, 312, 315, 319, 323] (by decide +kernel) (by decide +kernel)
set_option maxRecDepth 20000 in
theorem wsL_law_r14_ok : GoodIn lw_tbl wsL_law_r14 := goodIn_p wsL_law_r14 [619, 623, 627, 631, 327, 331] (by decide +kernel) (by decide +kernel)
set_option maxRecDepth 20000 in
theorem wsL_law_r15_ok : GoodIn lw_tbl wsL_law_r15 := goodIn_p wsL_law_r15 [335, 339, 343, 346, 350, 353] (by decide +kernel) (by decide +kernel)
set_option maxRecDepth 20000 in
theorem wsL_law_r16_ok : GoodIn lw_tbl wsL_law_r16 := goodIn_p wsL_law_r16 [635, 639, 642, 645, 649, 653] (by decide +kernel) (by decide +kernel)
set_option maxRecDepth 20000 in
theorem wsL_law_r17_ok : GoodIn lw_tbl wsL_law_r17 := goodIn_p wsL_law_r17 [360, 364, 657, 368, 372, 375] (by decide +kernel) (by decide +kernel)
set_option maxRecDepth 20000 in
theorem wsL_law_r18_ok : GoodIn lw_tbl wsL_law_r18 := goodIn_p wsL_law_r18 [661, 379, 383, 665, 387, 391] (by decide +kernel) (by decide +kernel)
set_option maxRecDepth 20000 in
theorem wsL_law_r19_ok : GoodIn lw_tbl wsL_law_r19 := goodIn_p wsL_law_r19 [611, 395, 615, 399, 669, 403] (by decide +kernel) (by decide +kernel)
set_option maxRecDepth 20000 in
theorem wsL_law_r20_ok : GoodIn lw_tbl wsL_law_r20 := goodIn_p wsL_law_r20 [407, 673, 677, 411, 681] (by decide +kernel) (by decide +kernel)
set_option maxRecDepth 20000 in
theorem wsL_law_r21_ok : GoodIn lw_tbl wsL_law_r21 := goodIn_p wsL_law_r21 [415, 685, 420, 689, 425] (by decide +kernel) (by decide +kernel)
set_option maxRecDepth 20000 in
theorem wsL_law_r22_ok : GoodIn lw_tbl wsL_law_r22 := goodIn_p wsL_law_r22 [693, 431, 697, 437] (by decide +kernel) (by decide +kernel)
set_option maxRecDepth 20000 in
theorem wsL_law_r23_ok : GoodIn lw_tbl wsL_law_r23 := goodIn_p wsL_law_r23 [441, 445, 701, 705, 449, 709] (by decide +kernel) (by decide +kernel)
set_option maxRecDepth 20000 in
theorem wsL_law_r24_ok : GoodIn lw_tbl wsL_law_r24 := goodIn_p wsL_law_r24 [454, 713, 458, 462, 466] (by decide +kernel) (by decide +kernel)
set_option maxRecDepth 20000 in
theorem wsL_law_r25_ok : GoodIn lw_tbl wsL_law_r25 := goodIn_p wsL_law_r25 [717, 721] (by decide +kernel) (by decide +kernel)
theorem wsX20_okL : GoodIn lw_tbl wsX20 := goodIn_of _ (by decide +kernel)
theorem wsX30_okL : GoodIn lw_tbl wsX30 := goodIn_of _ (by decide +kernel)
theorem wsX10_okL : GoodIn lw_tbl wsX10 := goodIn_of _ (by decide +kernel)
theorem wsX00_okL : GoodIn lw_tbl wsX00 := goodIn_of _ (by decide +kernel)
theorem wsL_law_in : ∀ w ∈ wsL_law, w ∈ lw_tbl := fun w h => ((goodIn_app (goodIn_app (goodIn_app (goodIn_app (goodIn_app (goodIn_app wsL_law_r1_ok (goodIn_app wsL_law_r2_ok (goodIn_app wsL_law_r3_ok (goodIn_app wsL_law_r4_ok (goodIn_app wsL_law_r5_ok (goodIn_app wsL_law_r6_ok (goodIn_app wsL_law_r7_ok (goodIn_app wsL_law_r8_ok (goodIn_app wsL_law_r9_ok (goodIn_app wsL_law_r10_ok (goodIn_app wsL_law_r11_ok (goodIn_app wsL_law_r12_ok (goodIn_app wsL_law_r13_ok (goodIn_app wsL_law_r14_ok (goodIn_app wsL_law_r15_ok (goodIn_app wsL_law_r16_ok (goodIn_app wsL_law_r17_ok (goodIn_app wsL_law_r18_ok (goodIn_app wsL_law_r19_ok (goodIn_app wsL_law_r20_ok (goodIn_app wsL_law_r21_ok (goodIn_app wsL_law_r22_ok (goodIn_app wsL_law_r23_ok (goodIn_app wsL_law_r24_ok (wsL_law_r25_ok))))))))))))))))))))))))) wsX20_okL) wsX30_okL) wsX10_okL) wsX00_okL) (fun w h => absurd h List.not_mem_nil)) w h).1
theorem inlX0 : ∀ w ∈ wsX00, w ∈ wsL_law := fun _ h => List.mem_append_left _ (List.mem_append_right _ h)
theorem inX0 : ∀ w ∈ wsX00, w ∈ lw_tbl := fun w h => wsL_law_in w (inlX0 w h)
theorem inlX1 : ∀ w ∈ wsX10, w ∈ wsL_law := fun _ h => List.mem_append_left _ (List.mem_append_left _ (List.mem_append_right _ h))
theorem inX1 : ∀ w ∈ wsX10, w ∈ lw_tbl := fun w h => wsL_law_in w (inlX1 w h)
theorem inlX2 : ∀ w ∈ wsX20, w ∈ wsL_law := fun _ h => List.mem_append_left _ (List.mem_append_left _ (List.mem_append_left _ (List.mem_append_left _ (List.mem_append_right _ h))))
theorem inX2 : ∀ w ∈ wsX20, w ∈ lw_tbl := fun w h => wsL_law_in w (inlX2 w h)
theorem inlX3 : ∀ w ∈ wsX30, w ∈ wsL_law := fun _ h => List.mem_append_left _ (List.mem_append_left _ (List.mem_append_left _ (List.mem_append_right _ h)))
theorem inX3 : ∀ w ∈ wsX30, w ∈ lw_tbl := fun w h => wsL_law_in w (inlX3 w h)
set_option maxRecDepth 20000 in
theorem ggL_law_X2_init : GoodIn wsL_law wsX2_init := goodIn_r _ [8, 9, 10, 11, 12, 13, 14, 15, 16, 17, 18, 19, 20, 21, 22, 23, 24, 25, 26, 27, 28, 29, 30, 31, 32, 33, 34, 608, 609, 610, 611, 612, 613, 614, 615, 616, 617, 618, 619, 584, 585, 586, 587, 588, 589, 590, 591, 592, 593, 620, 621, 622, 623, 624, 625, 626, 627, 628, 629] (by decide +kernel) (by decide +kernel)
set_option maxRecDepth 20000 in
theorem gL_law_X2_init : GoodIn wsL_law (wsX2_init) := ggL_law_X2_init
set_option maxRecDepth 20000 in
theorem ggL_law_X3_init : GoodIn wsL_law wsX3_init := goodIn_r _ [37, 38, 10, 11, 26, 39, 40, 41, 42, 43, 44, 45, 46, 594, 595, 596, 597, 598, 599, 600, 601, 602, 603, 604, 605, 606, 607] (by decide +kernel) (by decide +kernel)
set_option maxRecDepth 20000 in
theorem gL_law_X3_init : GoodIn wsL_law (wsX3_init) := ggL_law_X3_init
set_option maxRecDepth 20000 in
theorem ggL_law_X2_addText : GoodIn wsL_law wsX2_addText := goodIn_r _ [50, 51, 52, 53, 2, 54, 16, 15, 55, 56, 57, 14, 58, 27, 59, 60, 61, 62, 28, 63, 29, 64, 65, 66, 67, 68, 69, 70, 71, 72, 73, 74, 75, 76, 77, 78, 79, 80, 81, 82, 83, 84, 85, 18, 86, 87, 88, 89, 90, 584, 585, 586, 587, 588, 589, 590, 591, 592, 593, 608, 609, 610, 611, 612, 613, 614, 615, 616, 617, 618, 619] (by decide +kernel) (by decide +kernel)
set_option maxRecDepth 20000 in
theorem gL_law_X2_addText : GoodIn wsL_law (wsV RL 13 RX2 yX2_addText wsX2_addText) := goodIn_app (goodIn_of _ (by decide +kernel)) ggL_law_X2_addText
set_option maxRecDepth 20000 in
theorem ggL_law_X3_addText : GoodIn wsL_law wsX3_addText := goodIn_r _ [94, 95, 96, 97, 5, 98, 99, 39, 100, 101, 102, 103, 104, 105, 106, 107, 108, 109, 110, 111, 112, 113, 41, 114, 115, 116, 117, 118, 119, 120, 594, 595, 596, 597, 598, 599, 600, 601, 602, 603, 604, 605, 606, 607] (by decide +kernel) (by decide +kernel)
set_option maxRecDepth 20000 in
theorem gL_law_X3_addText : GoodIn wsL_law (wsV RL 17 RX3 yX3_addText wsX3_addText) := goodIn_app (goodIn_of _ (by decide +kernel)) ggL_law_X3_addText
set_option maxRecDepth 20000 in
theorem ggL_law_X2_removeText : GoodIn wsL_law wsX2_removeText := goodIn_r _ [124, 51, 52, 53, 2, 54, 16, 15, 55, 56, 57, 14, 58, 27, 59, 60, 61, 62, 28, 63, 29, 64, 65, 66, 67, 68, 69, 70, 71, 125, 126, 127, 128, 129, 130, 131, 132, 77, 78, 81, 82, 83, 84, 85, 18, 86, 87, 88, 89, 90, 584, 585, 586, 587, 588, 589, 590, 591, 592, 593, 608, 609, 610, 611, 612, 613, 614, 615, 616, 617, 618, 619] (by decide +kernel) (by decide +kernel)
set_option maxRecDepth 20000 in
theorem gL_law_X2_removeText : GoodIn wsL_law (wsV RL 18 RX2 yX2_removeText wsX2_removeText) := goodIn_app (goodIn_of _ (by decide +kernel)) ggL_law_X2_removeText
set_option maxRecDepth 20000 in
theorem ggL_law_X3_removeText : GoodIn wsL_law wsX3_removeText := goodIn_r _ [136, 39, 137, 138, 139, 5, 140, 100, 101, 102, 103, 104, 105, 106, 107, 108, 109, 110, 111, 112, 113, 41, 118, 119, 120, 594, 595, 596, 597, 598, 599, 600, 601, 602, 603, 604, 605, 606, 607] (by decide +kernel) (by decide +kernel)
set_option maxRecDepth 20000 in
theorem gL_law_X3_removeText : GoodIn wsL_law (wsV RL 22 RX3 yX3_removeText wsX3_removeText) := goodIn_app (goodIn_of _ (by decide +kernel)) ggL_law_X3_removeText
set_option maxRecDepth 20000 in
theorem ggL_law_X2_setFacts : GoodIn wsL_law wsX2_setFacts := goodIn_r _ [144, 51, 52, 53, 2, 54, 16, 15, 55, 56, 57, 14, 58, 27, 59, 60, 61, 62, 28, 63, 29, 64, 65, 66, 67, 68, 69, 70, 71, 145, 146, 147, 148, 76, 129, 130, 131, 132, 77, 78, 149, 150, 151, 152, 81, 82, 83, 84, 85, 18, 86, 87, 88, 89, 90, 584, 585, 586, 587, 588, 589, 590, 591, 592, 593, 608, 609, 610, 611, 612, 613, 614, 615, 616, 617, 618, 619] (by decide +kernel) (by decide +kernel)
set_option maxRecDepth 20000 in
theorem gL_law_X2_setFacts : GoodIn wsL_law (wsV RL 23 RX2 yX2_setFacts wsX2_setFacts) := goodIn_app (goodIn_of _ (by decide +kernel)) ggL_law_X2_setFacts
set_option maxRecDepth 20000 in
theorem ggL_law_X3_setFacts : GoodIn wsL_law wsX3_setFacts := goodIn_r _ [156, 99, 39, 137, 138, 139, 5, 140, 100, 101, 102, 103, 104, 105, 106, 107, 108, 118, 119, 120, 157, 158, 159, 109, 110, 111, 112, 113, 41, 594, 595, 596, 597, 598, 599, 600, 601, 602, 603, 604, 605, 606, 607] (by decide +kernel) (by decide +kernel)
set_option maxRecDepth 20000 in
theorem gL_law_X3_setFacts : GoodIn wsL_law (wsV RL 27 RX3 yX3_setFacts wsX3_setFacts) := goodIn_app (goodIn_of _ (by decide +kernel)) ggL_law_X3_setFacts
set_option maxRecDepth 20000 in
theorem ggL_law_X2_addCaption : GoodIn wsL_law wsX2_addCaption := goodIn_r _ [163, 51, 52, 53, 2, 54, 16, 15, 55, 56, 57, 14, 58, 27, 59, 60, 61, 62, 28, 63, 29, 64, 65, 66, 67, 68, 69, 70, 71, 164, 165, 166, 167, 76, 129, 130, 131, 132, 77, 78, 81, 82, 83, 84, 85, 18, 86, 87, 88, 89, 90, 584, 585, 586, 587, 588, 589, 590, 591, 592, 593, 608, 609, 610, 611, 612, 613, 614, 615, 616, 617, 618, 619] (by decide +kernel) (by decide +kernel)
set_option maxRecDepth 20000 in
theorem gL_law_X2_addCaption : GoodIn wsL_law (wsV RL 28 RX2 yX2_addCaption wsX2_addCaption) := goodIn_app (goodIn_of _ (by decide +kernel)) ggL_law_X2_addCaption
set_option maxRecDepth 20000 in
theorem ggL_law_X3_addCaption : GoodIn wsL_law wsX3_addCaption := goodIn_r _ [171, 172, 173, 174, 5, 175, 99, 39, 137, 138, 139, 140, 100, 101, 102, 103, 104, 105, 106, 107, 108, 118, 119, 120, 109, 110, 111, 112, 113, 41, 176, 177, 178, 179, 157, 158, 159, 594, 595, 596, 597, 598, 599, 600, 601, 602, 603, 604, 605, 606, 607] (by decide +kernel) (by decide +kernel)
set_option maxRecDepth 20000 in
theorem gL_law_X3_addCaption : GoodIn wsL_law (wsV RL 32 RX3 yX3_addCaption wsX3_addCaption) := goodIn_app (goodIn_of _ (by decide +kernel)) ggL_law_X3_addCaption
set_option maxRecDepth 20000 in
theorem ggL_law_X2_readEntries : GoodIn wsL_law wsX2_readEntries := goodIn_r _ [183, 22, 184, 185, 186, 21, 187, 188, 189, 190, 191, 192, 193, 194, 195, 196, 197, 198, 199, 200, 201, 202, 203, 204, 205, 206, 207, 34, 208, 209, 210, 211, 212, 213, 214, 215, 216, 217, 218, 219, 220, 221, 222, 223, 224, 225, 226, 227, 228, 51, 52, 53, 2, 54, 16, 15, 55, 56, 57, 14, 58, 27, 59, 60, 61, 62, 28, 63, 29, 64, 65, 66, 67, 68, 69, 70, 71, 229, 230, 231, 232, 233, 234, 235, 236, 237, 238, 239, 240, 241, 242, 243, 244, 245, 246, 247, 164, 165, 166, 167, 76, 129, 130, 131, 132, 77, 78, 72, 73, 74, 75, 79, 80, 248, 81, 82, 83, 84, 85, 18, 86, 87, 88, 89, 90, 584, 585, 586, 587, 588, 589, 590, 591, 592, 593, 620, 621, 622, 623, 624, 625, 626, 627, 628, 629, 608, 609, 610, 611, 612, 613, 614, 615, 616, 617, 618, 619] (by decide +kernel) (by decide +kernel)
set_option maxRecDepth 20000 in
theorem gL_law_X2_readEntries : GoodIn wsL_law (wsV RL 33 RX2 yX2_readEntries wsX2_readEntries) := goodIn_app (goodIn_of _ (by decide +kernel)) ggL_law_X2_readEntries
set_option maxRecDepth 20000 in
theorem ggL_law_X3_readEntries : GoodIn wsL_law wsX3_readEntries := goodIn_r _ [252, 253, 254, 40, 39, 255, 44, 45, 256, 257, 258, 5, 259, 46, 260, 261, 262, 263, 264, 265, 266, 267, 268, 43, 103, 104, 105, 269, 270, 271, 272, 273, 274, 275, 276, 277, 278, 279, 280, 172, 173, 174, 175, 99, 137, 138, 139, 140, 100, 101, 102, 106, 107, 108, 118, 119, 120, 95, 96, 97, 98, 176, 177, 178, 179, 157, 158, 159, 114, 115, 116, 117, 281, 282, 283, 284, 109, 110, 111, 112, 113, 41, 594, 595, 596, 597, 598, 599, 600, 601, 602, 603, 604, 605, 606, 607] (by decide +kernel) (by decide +kernel)
set_option maxRecDepth 20000 in
theorem gL_law_X3_readEntries : GoodIn wsL_law (wsV RL 37 RX3 yX3_readEntries wsX3_readEntries) := goodIn_app (goodIn_of _ (by decide +kernel)) ggL_law_X3_readEntries
set_option maxRecDepth 20000 in
theorem ggL_law_X2_refusal : GoodIn wsL_law wsX2_refusal := goodIn_r _ [288, 235, 234, 584, 585, 586, 587, 588, 589, 590, 591, 592, 593] (by decide +kernel) (by decide +kernel)
set_option maxRecDepth 20000 in
theorem gL_law_X2_refusal : GoodIn wsL_law (wsV RL 38 RX2 yX2_refusal wsX2_refusal) := goodIn_app (goodIn_of _ (by decide +kernel)) ggL_law_X2_refusal
set_option maxRecDepth 20000 in
theorem ggL_law_X3_refusal : GoodIn wsL_law wsX3_refusal := goodIn_r _ [292, 44, 45, 103, 104, 5, 105, 594, 595, 596, 597, 598, 599, 600, 601, 602, 603, 604, 605, 606, 607] (by decide +kernel) (by decide +kernel)
set_option maxRecDepth 20000 in
theorem gL_law_X3_refusal : GoodIn wsL_law (wsV RL 42 RX3 yX3_refusal wsX3_refusal) := goodIn_app (goodIn_of _ (by decide +kernel)) ggL_law_X3_refusal
set_option maxRecDepth 20000 in
theorem ggL_law_X2_enter : GoodIn wsL_law wsX2_enter := goodIn_r _ [296, 51, 52, 53, 2, 54, 16, 15, 55, 56, 57, 14, 58, 27, 59, 60, 61, 62, 28, 63, 29, 64, 65, 66, 67, 68, 69, 70, 71, 297, 298, 299, 300, 301, 302, 303, 304, 305, 306, 77, 78, 307, 308, 309, 310, 81, 82, 83, 84, 85, 18, 86, 87, 88, 89, 90, 584, 585, 586, 587, 588, 589, 590, 591, 592, 593, 608, 609, 610, 611, 612, 613, 614, 615, 616, 617, 618, 619] (by decide +kernel) (by decide +kernel)
set_option maxRecDepth 20000 in
theorem gL_law_X2_enter : GoodIn wsL_law (wsV RL 43 RX2 yX2_enter wsX2_enter) := goodIn_app (goodIn_of _ (by decide +kernel)) ggL_law_X2_enter
set_option maxRecDepth 20000 in
theorem ggL_law_X3_enter : GoodIn wsL_law wsX3_enter := goodIn_r _ [314, 39, 103, 104, 5, 105, 109, 110, 111, 112, 113, 41, 315, 316, 317, 318, 319, 320, 321, 322, 106, 107, 108, 323, 324, 325, 326, 118, 119, 120, 594, 595, 596, 597, 598, 599, 600, 601, 602, 603, 604, 605, 606, 607] (by decide +kernel) (by decide +kernel)
set_option maxRecDepth 20000 in
theorem gL_law_X3_enter : GoodIn wsL_law (wsV RL 46 RX3 yX3_enter wsX3_enter) := goodIn_app (goodIn_of _ (by decide +kernel)) ggL_law_X3_enter
set_option maxRecDepth 20000 in
theorem ggL_law_X2_touch : GoodIn wsL_law wsX2_touch := goodIn_r _ [330, 51, 52, 53, 2, 54, 16, 15, 55, 56, 57, 14, 58, 27, 59, 60, 61, 62, 28, 63, 29, 64, 65, 66, 67, 68, 69, 70, 71, 331, 332, 333, 334, 335, 336, 337, 338, 303, 304, 305, 306, 77, 78, 307, 308, 309, 310, 129, 130, 131, 132, 339, 340, 341, 342, 343, 344, 345, 346, 347, 348, 89, 349, 350, 351, 352, 353, 354, 355, 356, 357, 358, 359, 360, 81, 82, 83, 84, 85, 18, 86, 87, 88, 90, 584, 585, 586, 587, 588, 589, 590, 591, 592, 593, 608, 609, 610, 611, 612, 613, 614, 615, 616, 617, 618, 619] (by decide +kernel) (by decide +kernel)
set_option maxRecDepth 20000 in
theorem gL_law_X2_touch : GoodIn wsL_law (wsV RL 47 RX2 yX2_touch wsX2_touch) := goodIn_app (goodIn_of _ (by decide +kernel)) ggL_law_X2_touch
set_option maxRecDepth 20000 in
theorem ggL_law_X3_touch : GoodIn wsL_law wsX3_touch := goodIn_r _ [364, 39, 315, 316, 317, 5, 318, 319, 320, 321, 322, 106, 107, 108, 323, 324, 325, 326, 118, 119, 120, 365, 366, 367, 368, 137, 138, 139, 140, 100, 101, 102, 103, 104, 105, 157, 158, 159, 369, 370, 371, 109, 110, 111, 112, 113, 41, 372, 373, 374, 375, 376, 377, 378, 379, 380, 381, 382, 594, 595, 596, 597, 598, 599, 600, 601, 602, 603, 604, 605, 606, 607] (by decide +kernel) (by decide +kernel)
set_option maxRecDepth 20000 in
theorem gL_law_X3_touch : GoodIn wsL_law (wsV RL 50 RX3 yX3_touch wsX3_touch) := goodIn_app (goodIn_of _ (by decide +kernel)) ggL_law_X3_touch
set_option maxRecDepth 20000 in
theorem ggL_law_X2_read : GoodIn wsL_law wsX2_read := goodIn_r _ [386, 51, 52, 53, 2, 54, 16, 15, 55, 56, 57, 14, 58, 27, 59, 60, 61, 62, 28, 63, 29, 64, 65, 66, 67, 68, 69, 70, 71, 387, 388, 389, 390, 335, 336, 337, 338, 303, 304, 305, 306, 77, 78, 307, 308, 309, 310, 129, 130, 131, 132, 350, 351, 352, 353, 343, 344, 345, 346, 347, 348, 89, 349, 354, 355, 356, 357, 358, 359, 360, 81, 82, 83, 84, 85, 18, 86, 87, 88, 90, 584, 585, 586, 587, 588, 589, 590, 591, 592, 593, 608, 609, 610, 611, 612, 613, 614, 615, 616, 617, 618, 619] (by decide +kernel) (by decide +kernel)
set_option maxRecDepth 20000 in
theorem gL_law_X2_read : GoodIn wsL_law (wsV RL 51 RX2 yX2_read wsX2_read) := goodIn_app (goodIn_of _ (by decide +kernel)) ggL_law_X2_read
set_option maxRecDepth 20000 in
theorem ggL_law_X3_read : GoodIn wsL_law wsX3_read := goodIn_r _ [394, 39, 315, 316, 317, 5, 318, 319, 320, 321, 322, 106, 107, 108, 323, 324, 325, 326, 118, 119, 120, 375, 376, 377, 378, 369, 370, 371, 109, 110, 111, 112, 113, 41, 372, 373, 374, 379, 380, 381, 382, 594, 595, 596, 597, 598, 599, 600, 601, 602, 603, 604, 605, 606, 607] (by decide +kernel) (by decide +kernel)
set_option maxRecDepth 20000 in
theorem gL_law_X3_read : GoodIn wsL_law (wsV RL 54 RX3 yX3_read wsX3_read) := goodIn_app (goodIn_of _ (by decide +kernel)) ggL_law_X3_read
set_option maxRecDepth 20000 in
theorem ggL_law_X2_turn : GoodIn wsL_law wsX2_turn := goodIn_r _ [398, 51, 52, 53, 2, 54, 16, 15, 55, 56, 57, 14, 58, 27, 59, 60, 61, 62, 28, 63, 29, 64, 65, 66, 67, 68, 69, 70, 71, 399, 400, 401, 402, 347, 348, 89, 349, 403, 404, 405, 406, 81, 82, 83, 84, 85, 18, 86, 87, 88, 90, 584, 585, 586, 587, 588, 589, 590, 591, 592, 593, 608, 609, 610, 611, 612, 613, 614, 615, 616, 617, 618, 619] (by decide +kernel) (by decide +kernel)
set_option maxRecDepth 20000 in
theorem gL_law_X2_turn : GoodIn wsL_law (wsV RL 55 RX2 yX2_turn wsX2_turn) := goodIn_app (goodIn_of _ (by decide +kernel)) ggL_law_X2_turn
set_option maxRecDepth 20000 in
theorem ggL_law_X3_turn : GoodIn wsL_law wsX3_turn := goodIn_r _ [410, 39, 109, 110, 111, 5, 112, 113, 41, 594, 595, 596, 597, 598, 599, 600, 601, 602, 603, 604, 605, 606, 607] (by decide +kernel) (by decide +kernel)
set_option maxRecDepth 20000 in
theorem gL_law_X3_turn : GoodIn wsL_law (wsV RL 59 RX3 yX3_turn wsX3_turn) := goodIn_app (goodIn_of _ (by decide +kernel)) ggL_law_X3_turn
set_option maxRecDepth 20000 in
theorem ggL_law_X2_setTurning : GoodIn wsL_law wsX2_setTurning := goodIn_r _ [414, 51, 52, 53, 2, 54, 16, 15, 55, 56, 57, 14, 58, 27, 59, 60, 61, 62, 28, 63, 29, 64, 65, 66, 67, 68, 69, 70, 71, 415, 416, 417, 418, 81, 82, 83, 84, 85, 18, 86, 87, 88, 89, 90, 584, 585, 586, 587, 588, 589, 590, 591, 592, 593, 608, 609, 610, 611, 612, 613, 614, 615, 616, 617, 618, 619] (by decide +kernel) (by decide +kernel)
set_option maxRecDepth 20000 in
theorem gL_law_X2_setTurning : GoodIn wsL_law (wsV RL 60 RX2 yX2_setTurning wsX2_setTurning) := goodIn_app (goodIn_of _ (by decide +kernel)) ggL_law_X2_setTurning
set_option maxRecDepth 20000 in
theorem ggL_law_X3_setTurning : GoodIn wsL_law wsX3_setTurning := goodIn_r _ [422, 39, 103, 104, 5, 105, 109, 110, 111, 112, 113, 41, 594, 595, 596, 597, 598, 599, 600, 601, 602, 603, 604, 605, 606, 607] (by decide +kernel) (by decide +kernel)
set_option maxRecDepth 20000 in
theorem gL_law_X3_setTurning : GoodIn wsL_law (wsV RL 63 RX3 yX3_setTurning wsX3_setTurning) := goodIn_app (goodIn_of _ (by decide +kernel)) ggL_law_X3_setTurning
set_option maxRecDepth 20000 in
theorem ggL_law_X2_type : GoodIn wsL_law wsX2_type := goodIn_r _ [426, 22, 427, 428, 429, 21, 430, 189, 34, 584, 585, 586, 587, 588, 589, 590, 591, 592, 593, 620, 621, 622, 623, 624, 625, 626, 627, 628, 629] (by decide +kernel) (by decide +kernel)
set_option maxRecDepth 20000 in
theorem gL_law_X2_type : GoodIn wsL_law (wsV RL 64 RX2 yX2_type wsX2_type) := goodIn_app (goodIn_of _ (by decide +kernel)) ggL_law_X2_type
set_option maxRecDepth 20000 in
theorem ggL_law_X3_type : GoodIn wsL_law wsX3_type := goodIn_r _ [434, 260, 43, 594, 595, 596, 597, 598, 599, 600, 601, 602, 603, 604, 605, 606, 607] (by decide +kernel) (by decide +kernel)
set_option maxRecDepth 20000 in
theorem gL_law_X3_type : GoodIn wsL_law (wsV RL 68 RX3 yX3_type wsX3_type) := goodIn_app (goodIn_of _ (by decide +kernel)) ggL_law_X3_type
set_option maxRecDepth 20000 in
theorem ggL_law_X2_clearPad : GoodIn wsL_law wsX2_clearPad := goodIn_r _ [438, 22, 439, 584, 585, 586, 587, 588, 589, 590, 591, 592, 593, 620, 621, 622, 623, 624, 625, 626, 627, 628, 629] (by decide +kernel) (by decide +kernel)
set_option maxRecDepth 20000 in
theorem gL_law_X2_clearPad : GoodIn wsL_law (wsV RL 69 RX2 yX2_clearPad wsX2_clearPad) := goodIn_app (goodIn_of _ (by decide +kernel)) ggL_law_X2_clearPad
set_option maxRecDepth 20000 in
theorem ggL_law_X3_clearPad : GoodIn wsL_law wsX3_clearPad := goodIn_r _ [443, 260, 594, 595, 596, 597, 598, 599, 600, 601, 602, 603, 604, 605, 606, 607] (by decide +kernel) (by decide +kernel)
set_option maxRecDepth 20000 in
theorem gL_law_X3_clearPad : GoodIn wsL_law (wsV RL 72 RX3 yX3_clearPad wsX3_clearPad) := goodIn_app (goodIn_of _ (by decide +kernel)) ggL_law_X3_clearPad
set_option maxRecDepth 20000 in
theorem ggL_law_X2_undo : GoodIn wsL_law wsX2_undo := goodIn_r _ [447, 86, 85, 15, 18, 584, 585, 586, 587, 588, 589, 590, 591, 592, 593] (by decide +kernel) (by decide +kernel)
set_option maxRecDepth 20000 in
theorem gL_law_X2_undo : GoodIn wsL_law (wsV RL 73 RX2 yX2_undo wsX2_undo) := goodIn_app (goodIn_of _ (by decide +kernel)) ggL_law_X2_undo
set_option maxRecDepth 20000 in
theorem ggL_law_X3_undo : GoodIn wsL_law wsX3_undo := goodIn_r _ [451, 113, 39, 41, 594, 595, 596, 597, 598, 599, 600, 601, 602, 603, 604, 605, 606, 607] (by decide +kernel) (by decide +kernel)
set_option maxRecDepth 20000 in
theorem gL_law_X3_undo : GoodIn wsL_law (wsV RL 76 RX3 yX3_undo wsX3_undo) := goodIn_app (goodIn_of _ (by decide +kernel)) ggL_law_X3_undo
set_option maxRecDepth 20000 in
theorem ggL_law_X2_keep : GoodIn wsL_law wsX2_keep := goodIn_r _ [455, 17, 15, 456, 55, 56, 57, 14, 58, 27, 59, 60, 61, 62, 28, 63, 29, 64, 65, 66, 67, 68, 69, 70, 71, 457, 458, 459, 460, 584, 585, 586, 587, 588, 589, 590, 591, 592, 593, 608, 609, 610, 611, 612, 613, 614, 615, 616, 617, 618, 619] (by decide +kernel) (by decide +kernel)
set_option maxRecDepth 20000 in
theorem gL_law_X2_keep : GoodIn wsL_law (wsV RL 77 RX2 yX2_keep wsX2_keep) := goodIn_app (goodIn_of _ (by decide +kernel)) ggL_law_X2_keep
set_option maxRecDepth 20000 in
theorem ggL_law_X3_keep : GoodIn wsL_law wsX3_keep := goodIn_r _ [464, 42, 39, 465, 466, 467, 468, 5, 469, 106, 107, 108, 594, 595, 596, 597, 598, 599, 600, 601, 602, 603, 604, 605, 606, 607] (by decide +kernel) (by decide +kernel)
set_option maxRecDepth 20000 in
theorem gL_law_X3_keep : GoodIn wsL_law (wsV RL 80 RX3 yX3_keep wsX3_keep) := goodIn_app (goodIn_of _ (by decide +kernel)) ggL_law_X3_keep
set_option maxRecDepth 20000 in
theorem ggL_law_X2_restore : GoodIn wsL_law wsX2_restore := goodIn_r _ [473, 456, 16, 17, 55, 56, 57, 14, 58, 27, 59, 60, 61, 62, 28, 63, 29, 64, 65, 66, 67, 68, 69, 70, 71, 457, 458, 459, 460, 81, 82, 83, 2, 84, 85, 18, 15, 86, 87, 88, 89, 90, 584, 585, 586, 587, 588, 589, 590, 591, 592, 593, 608, 609, 610, 611, 612, 613, 614, 615, 616, 617, 618, 619] (by decide +kernel) (by decide +kernel)
set_option maxRecDepth 20000 in
theorem gL_law_X2_restore : GoodIn wsL_law (wsV RL 81 RX2 yX2_restore wsX2_restore) := goodIn_app (goodIn_of _ (by decide +kernel)) ggL_law_X2_restore
set_option maxRecDepth 20000 in
theorem ggL_law_X3_restore : GoodIn wsL_law wsX3_restore := goodIn_r _ [477, 465, 39, 42, 109, 110, 111, 5, 112, 113, 41, 466, 467, 468, 469, 106, 107, 108, 594, 595, 596, 597, 598, 599, 600, 601, 602, 603, 604, 605, 606, 607] (by decide +kernel) (by decide +kernel)
set_option maxRecDepth 20000 in
theorem gL_law_X3_restore : GoodIn wsL_law (wsV RL 84 RX3 yX3_restore wsX3_restore) := goodIn_app (goodIn_of _ (by decide +kernel)) ggL_law_X3_restore
set_option maxRecDepth 20000 in
theorem ggL_law_X2_text : GoodIn wsL_law wsX2_text := goodIn_r _ [481, 15, 482, 483, 130, 131, 14, 132, 27, 77, 2, 78, 584, 585, 586, 587, 588, 589, 590, 591, 592, 593, 608, 609, 610, 611, 612, 613, 614, 615, 616, 617, 618, 619] (by decide +kernel) (by decide +kernel)
set_option maxRecDepth 20000 in
theorem gL_law_X2_text : GoodIn wsL_law (wsV RL 85 RX2 yX2_text wsX2_text) := goodIn_app (goodIn_of _ (by decide +kernel)) ggL_law_X2_text
set_option maxRecDepth 20000 in
theorem ggL_law_X3_text : GoodIn wsL_law wsX3_text := goodIn_r _ [487, 39, 137, 138, 139, 5, 140, 100, 101, 102, 103, 104, 105, 106, 107, 108, 118, 119, 120, 323, 324, 325, 326, 594, 595, 596, 597, 598, 599, 600, 601, 602, 603, 604, 605, 606, 607] (by decide +kernel) (by decide +kernel)
set_option maxRecDepth 20000 in
theorem gL_law_X3_text : GoodIn wsL_law (wsV RL 88 RX3 yX3_text wsX3_text) := goodIn_app (goodIn_of _ (by decide +kernel)) ggL_law_X3_text
set_option maxRecDepth 20000 in
theorem ggL_law_X2_caption : GoodIn wsL_law wsX2_caption := goodIn_r _ [491, 15, 482, 483, 130, 131, 14, 132, 27, 77, 2, 78, 492, 340, 341, 342, 28, 584, 585, 586, 587, 588, 589, 590, 591, 592, 593, 608, 609, 610, 611, 612, 613, 614, 615, 616, 617, 618, 619] (by decide +kernel) (by decide +kernel)
set_option maxRecDepth 20000 in
theorem gL_law_X2_caption : GoodIn wsL_law (wsV RL 89 RX2 yX2_caption wsX2_caption) := goodIn_app (goodIn_of _ (by decide +kernel)) ggL_law_X2_caption
set_option maxRecDepth 20000 in
theorem ggL_law_X3_caption : GoodIn wsL_law wsX3_caption := goodIn_r _ [496, 39, 365, 366, 367, 5, 368, 137, 138, 139, 140, 100, 101, 102, 103, 104, 105, 106, 107, 108, 118, 119, 120, 157, 158, 159, 594, 595, 596, 597, 598, 599, 600, 601, 602, 603, 604, 605, 606, 607] (by decide +kernel) (by decide +kernel)
set_option maxRecDepth 20000 in
theorem gL_law_X3_caption : GoodIn wsL_law (wsV RL 92 RX3 yX3_caption wsX3_caption) := goodIn_app (goodIn_of _ (by decide +kernel)) ggL_law_X3_caption
set_option maxRecDepth 20000 in
theorem ggL_law_X2_visitor : GoodIn wsL_law wsX2_visitor := goodIn_r _ [500, 15, 501, 502, 503, 504, 505, 506, 507, 355, 356, 357, 358, 359, 360, 508, 304, 305, 14, 306, 27, 77, 2, 78, 307, 308, 309, 310, 28, 584, 585, 586, 587, 588, 589, 590, 591, 592, 593, 608, 609, 610, 611, 612, 613, 614, 615, 616, 617, 618, 619] (by decide +kernel) (by decide +kernel)
set_option maxRecDepth 20000 in
theorem gL_law_X2_visitor : GoodIn wsL_law (wsV RL 93 RX2 yX2_visitor wsX2_visitor) := goodIn_app (goodIn_of _ (by decide +kernel)) ggL_law_X2_visitor
set_option maxRecDepth 20000 in
theorem ggL_law_X3_visitor : GoodIn wsL_law wsX3_visitor := goodIn_r _ [512, 39, 103, 104, 5, 105, 372, 373, 374, 315, 316, 317, 318, 319, 320, 321, 322, 106, 107, 108, 323, 324, 325, 326, 118, 119, 120, 594, 595, 596, 597, 598, 599, 600, 601, 602, 603, 604, 605, 606, 607] (by decide +kernel) (by decide +kernel)
set_option maxRecDepth 20000 in
theorem gL_law_X3_visitor : GoodIn wsL_law (wsV RL 96 RX3 yX3_visitor wsX3_visitor) := goodIn_app (goodIn_of _ (by decide +kernel)) ggL_law_X3_visitor
set_option maxRecDepth 20000 in
theorem ggL_law_X2_shown : GoodIn wsL_law wsX2_shown := goodIn_r _ [516, 15, 517, 77, 2, 78, 518, 301, 302, 508, 304, 305, 14, 306, 27, 307, 308, 309, 310, 28, 584, 585, 586, 587, 588, 589, 590, 591, 592, 593, 608, 609, 610, 611, 612, 613, 614, 615, 616, 617, 618, 619] (by decide +kernel) (by decide +kernel)
set_option maxRecDepth 20000 in
theorem gL_law_X2_shown : GoodIn wsL_law (wsV RL 97 RX2 yX2_shown wsX2_shown) := goodIn_app (goodIn_of _ (by decide +kernel)) ggL_law_X2_shown
set_option maxRecDepth 20000 in
theorem ggL_law_X3_shown : GoodIn wsL_law wsX3_shown := goodIn_r _ [522, 100, 101, 5, 102, 103, 104, 105, 319, 320, 321, 322, 39, 106, 107, 108, 323, 324, 325, 326, 118, 119, 120, 594, 595, 596, 597, 598, 599, 600, 601, 602, 603, 604, 605, 606, 607] (by decide +kernel) (by decide +kernel)
set_option maxRecDepth 20000 in
theorem gL_law_X3_shown : GoodIn wsL_law (wsV RL 100 RX3 yX3_shown wsX3_shown) := goodIn_app (goodIn_of _ (by decide +kernel)) ggL_law_X3_shown
set_option maxRecDepth 20000 in
theorem ggL_law_X2_unmet : GoodIn wsL_law wsX2_unmet := goodIn_r _ [526, 15, 518, 301, 2, 302, 527, 528, 529, 14, 530, 27, 28, 531, 532, 533, 534, 303, 304, 305, 306, 77, 78, 307, 308, 309, 310, 129, 130, 131, 132, 584, 585, 586, 587, 588, 589, 590, 591, 592, 593, 608, 609, 610, 611, 612, 613, 614, 615, 616, 617, 618, 619] (by decide +kernel) (by decide +kernel)
set_option maxRecDepth 20000 in
theorem gL_law_X2_unmet : GoodIn wsL_law (wsV RL 101 RX2 yX2_unmet wsX2_unmet) := goodIn_app (goodIn_of _ (by decide +kernel)) ggL_law_X2_unmet
set_option maxRecDepth 20000 in
theorem ggL_law_X3_unmet : GoodIn wsL_law wsX3_unmet := goodIn_r _ [538, 39, 103, 104, 5, 105, 319, 320, 321, 322, 106, 107, 108, 323, 324, 325, 326, 118, 119, 120, 539, 540, 541, 542, 594, 595, 596, 597, 598, 599, 600, 601, 602, 603, 604, 605, 606, 607] (by decide +kernel) (by decide +kernel)
set_option maxRecDepth 20000 in
theorem gL_law_X3_unmet : GoodIn wsL_law (wsV RL 104 RX3 yX3_unmet wsX3_unmet) := goodIn_app (goodIn_of _ (by decide +kernel)) ggL_law_X3_unmet
set_option maxRecDepth 20000 in
theorem ggL_law_X2_round : GoodIn wsL_law wsX2_round := goodIn_r _ [546, 505, 51, 52, 53, 2, 54, 16, 15, 55, 56, 57, 14, 58, 27, 59, 60, 61, 62, 28, 63, 29, 64, 65, 66, 67, 68, 69, 70, 71, 297, 298, 299, 300, 301, 302, 303, 304, 305, 306, 77, 78, 307, 308, 309, 310, 547, 351, 352, 353, 335, 336, 337, 338, 129, 130, 131, 132, 343, 344, 345, 346, 347, 348, 89, 349, 399, 400, 401, 402, 403, 404, 405, 406, 608, 609, 610, 611, 612, 613, 614, 615, 616, 617, 618, 619, 584, 585, 586, 587, 588, 589, 590, 591, 592, 593] (by decide +kernel) (by decide +kernel)
set_option maxRecDepth 20000 in
theorem gL_law_X2_round : GoodIn wsL_law (wsV RL 105 RX2 yX2_round wsX2_round) := goodIn_app (goodIn_of _ (by decide +kernel)) ggL_law_X2_round
set_option maxRecDepth 20000 in
theorem ggL_law_X3_round : GoodIn wsL_law wsX3_round := goodIn_r _ [551, 39, 103, 104, 5, 105, 319, 320, 321, 322, 106, 107, 108, 323, 324, 325, 326, 118, 119, 120, 369, 370, 371, 594, 595, 596, 597, 598, 599, 600, 601, 602, 603, 604, 605, 606, 607] (by decide +kernel) (by decide +kernel)
set_option maxRecDepth 20000 in
theorem gL_law_X3_round : GoodIn wsL_law (wsV RL 108 RX3 yX3_round wsX3_round) := goodIn_app (goodIn_of _ (by decide +kernel)) ggL_law_X3_round
set_option maxRecDepth 20000 in
theorem ggL_law_X2_ages : GoodIn wsL_law wsX2_ages := goodIn_r _ [555, 15, 483, 130, 131, 14, 132, 27, 77, 2, 78, 508, 304, 305, 306, 307, 308, 309, 310, 28, 584, 585, 586, 587, 588, 589, 590, 591, 592, 593, 608, 609, 610, 611, 612, 613, 614, 615, 616, 617, 618, 619] (by decide +kernel) (by decide +kernel)
set_option maxRecDepth 20000 in
theorem gL_law_X2_ages : GoodIn wsL_law (wsV RL 109 RX2 yX2_ages wsX2_ages) := goodIn_app (goodIn_of _ (by decide +kernel)) ggL_law_X2_ages
set_option maxRecDepth 20000 in
theorem ggL_law_X3_ages : GoodIn wsL_law wsX3_ages := goodIn_r _ [559, 137, 138, 139, 5, 140, 39, 100, 101, 102, 103, 104, 105, 106, 107, 108, 319, 320, 321, 322, 323, 324, 325, 326, 118, 119, 120, 594, 595, 596, 597, 598, 599, 600, 601, 602, 603, 604, 605, 606, 607] (by decide +kernel) (by decide +kernel)
set_option maxRecDepth 20000 in
theorem gL_law_X3_ages : GoodIn wsL_law (wsV RL 112 RX3 yX3_ages wsX3_ages) := goodIn_app (goodIn_of _ (by decide +kernel)) ggL_law_X3_ages
set_option maxRecDepth 20000 in
theorem ggL_law_X2_count : GoodIn wsL_law wsX2_count := goodIn_r _ [563, 15, 506, 564, 565, 566, 567, 86, 22, 439, 457, 458, 459, 14, 460, 27, 568, 569, 570, 571, 28, 572, 573, 574, 575, 527, 528, 529, 530, 507, 355, 356, 357, 358, 359, 360, 584, 585, 586, 587, 588, 589, 590, 591, 592, 593, 608, 609, 610, 611, 612, 613, 614, 615, 616, 617, 618, 619, 620, 621, 622, 623, 624, 625, 626, 627, 628, 629] (by decide +kernel) (by decide +kernel)
set_option maxRecDepth 20000 in
theorem gL_law_X2_count : GoodIn wsL_law (wsV RL 113 RX2 yX2_count wsX2_count) := goodIn_app (goodIn_of _ (by decide +kernel)) ggL_law_X2_count
set_option maxRecDepth 20000 in
theorem ggL_law_X3_count : GoodIn wsL_law wsX3_count := goodIn_r _ [579, 39, 113, 260, 466, 467, 468, 5, 469, 106, 107, 108, 580, 581, 582, 583, 118, 119, 120, 539, 540, 541, 542, 372, 373, 374, 594, 595, 596, 597, 598, 599, 600, 601, 602, 603, 604, 605, 606, 607] (by decide +kernel) (by decide +kernel)
set_option maxRecDepth 20000 in
theorem gL_law_X3_count : GoodIn wsL_law (wsV RL 116 RX3 yX3_count wsX3_count) := goodIn_app (goodIn_of _ (by decide +kernel)) ggL_law_X3_count
theorem dL_law_0 : decode cL_law 0 = .ok (.new 7, 3) := by decide +kernel
theorem dL_law_3 : decode cL_law 3 = .ok (.dup, 1) := by decide +kernel
theorem dL_law_4 : decode cL_law 4 = .ok (.invokespecial 9, 3) := by decide +kernel
theorem dL_law_7 : decode cL_law 7 = .ok (.astore_n 1, 1) := by decide +kernel
theorem dL_law_8 : decode cL_law 8 = .ok (.new 10, 3) := by decide +kernel
theorem dL_law_11 : decode cL_law 11 = .ok (.dup, 1) := by decide +kernel
theorem dL_law_12 : decode cL_law 12 = .ok (.invokespecial 12, 3) := by decide +kernel
theorem dL_law_15 : decode cL_law 15 = .ok (.astore_n 2, 1) := by decide +kernel
theorem dL_law_16 : decode cL_law 16 = .ok (.iconst 0, 1) := by decide +kernel
theorem dL_law_17 : decode cL_law 17 = .ok (.istore_n 3, 1) := by decide +kernel
theorem dL_law_18 : decode cL_law 18 = .ok (.iload_n 3, 1) := by decide +kernel
theorem dL_law_19 : decode cL_law 19 = .ok (.aload_n 0, 1) := by decide +kernel
theorem dL_law_20 : decode cL_law 20 = .ok (.arraylength, 1) := by decide +kernel
theorem dL_law_21 : decode cL_law 21 = .ok (.bipush 6, 2) := by decide +kernel
theorem dL_law_23 : decode cL_law 23 = .ok (.isub, 1) := by decide +kernel
theorem dL_law_24 : decode cL_law 24 = .ok (.if_icmp .gt 856, 3) := by decide +kernel
theorem dL_law_27 : decode cL_law 27 = .ok (.aload_n 0, 1) := by decide +kernel
theorem dL_law_28 : decode cL_law 28 = .ok (.iload_n 3, 1) := by decide +kernel
theorem dL_law_29 : decode cL_law 29 = .ok (.iaload, 1) := by decide +kernel
theorem dL_law_30 : decode cL_law 30 = .ok (.bipush 31, 2) := by decide +kernel
theorem dL_law_32 : decode cL_law 32 = .ok (.iand, 1) := by decide +kernel
theorem dL_law_33 : decode cL_law 33 = .ok (.tableswitch 841 0 23 #[111, 174, 207, 250, 303, 316, 339, 382, 405, 418, 457, 480, 505, 518, 531, 544, 557, 600, 653, 676, 709, 732, 775, 818], 111) := by decide +kernel
theorem dL_law_144 : decode cL_law 144 = .ok (.aload_n 1, 1) := by decide +kernel
theorem dL_law_145 : decode cL_law 145 = .ok (.aload_n 0, 1) := by decide +kernel
theorem dL_law_146 : decode cL_law 146 = .ok (.iload_n 3, 1) := by decide +kernel
theorem dL_law_147 : decode cL_law 147 = .ok (.iconst 1, 1) := by decide +kernel
theorem dL_law_148 : decode cL_law 148 = .ok (.iadd, 1) := by decide +kernel
theorem dL_law_149 : decode cL_law 149 = .ok (.iaload, 1) := by decide +kernel
theorem dL_law_150 : decode cL_law 150 = .ok (.aload_n 0, 1) := by decide +kernel
theorem dL_law_151 : decode cL_law 151 = .ok (.iload_n 3, 1) := by decide +kernel
theorem dL_law_152 : decode cL_law 152 = .ok (.iconst 2, 1) := by decide +kernel
theorem dL_law_153 : decode cL_law 153 = .ok (.iadd, 1) := by decide +kernel
theorem dL_law_154 : decode cL_law 154 = .ok (.iaload, 1) := by decide +kernel
theorem dL_law_155 : decode cL_law 155 = .ok (.aload_n 0, 1) := by decide +kernel
theorem dL_law_156 : decode cL_law 156 = .ok (.iload_n 3, 1) := by decide +kernel
theorem dL_law_157 : decode cL_law 157 = .ok (.iconst 3, 1) := by decide +kernel
theorem dL_law_158 : decode cL_law 158 = .ok (.iadd, 1) := by decide +kernel
theorem dL_law_159 : decode cL_law 159 = .ok (.iaload, 1) := by decide +kernel
theorem dL_law_160 : decode cL_law 160 = .ok (.aload_n 0, 1) := by decide +kernel
theorem dL_law_161 : decode cL_law 161 = .ok (.iload_n 3, 1) := by decide +kernel
theorem dL_law_162 : decode cL_law 162 = .ok (.iconst 4, 1) := by decide +kernel
theorem dL_law_163 : decode cL_law 163 = .ok (.iadd, 1) := by decide +kernel
theorem dL_law_164 : decode cL_law 164 = .ok (.iaload, 1) := by decide +kernel
theorem dL_law_165 : decode cL_law 165 = .ok (.aload_n 0, 1) := by decide +kernel
theorem dL_law_166 : decode cL_law 166 = .ok (.iload_n 3, 1) := by decide +kernel
theorem dL_law_167 : decode cL_law 167 = .ok (.iconst 5, 1) := by decide +kernel
theorem dL_law_168 : decode cL_law 168 = .ok (.iadd, 1) := by decide +kernel
theorem dL_law_169 : decode cL_law 169 = .ok (.iaload, 1) := by decide +kernel
theorem dL_law_170 : decode cL_law 170 = .ok (.invokevirtual 13, 3) := by decide +kernel
theorem dL_law_173 : decode cL_law 173 = .ok (.aload_n 2, 1) := by decide +kernel
theorem dL_law_174 : decode cL_law 174 = .ok (.aload_n 0, 1) := by decide +kernel
theorem dL_law_175 : decode cL_law 175 = .ok (.iload_n 3, 1) := by decide +kernel
theorem dL_law_176 : decode cL_law 176 = .ok (.iconst 1, 1) := by decide +kernel
theorem dL_law_177 : decode cL_law 177 = .ok (.iadd, 1) := by decide +kernel
theorem dL_law_178 : decode cL_law 178 = .ok (.iaload, 1) := by decide +kernel
theorem dL_law_179 : decode cL_law 179 = .ok (.aload_n 0, 1) := by decide +kernel
theorem dL_law_180 : decode cL_law 180 = .ok (.iload_n 3, 1) := by decide +kernel
theorem dL_law_181 : decode cL_law 181 = .ok (.iconst 2, 1) := by decide +kernel
theorem dL_law_182 : decode cL_law 182 = .ok (.iadd, 1) := by decide +kernel
theorem dL_law_183 : decode cL_law 183 = .ok (.iaload, 1) := by decide +kernel
theorem dL_law_184 : decode cL_law 184 = .ok (.aload_n 0, 1) := by decide +kernel
theorem dL_law_185 : decode cL_law 185 = .ok (.iload_n 3, 1) := by decide +kernel
theorem dL_law_186 : decode cL_law 186 = .ok (.iconst 3, 1) := by decide +kernel
theorem dL_law_187 : decode cL_law 187 = .ok (.iadd, 1) := by decide +kernel
theorem dL_law_188 : decode cL_law 188 = .ok (.iaload, 1) := by decide +kernel
theorem dL_law_189 : decode cL_law 189 = .ok (.aload_n 0, 1) := by decide +kernel
theorem dL_law_190 : decode cL_law 190 = .ok (.iload_n 3, 1) := by decide +kernel
theorem dL_law_191 : decode cL_law 191 = .ok (.iconst 4, 1) := by decide +kernel
theorem dL_law_192 : decode cL_law 192 = .ok (.iadd, 1) := by decide +kernel
theorem dL_law_193 : decode cL_law 193 = .ok (.iaload, 1) := by decide +kernel
theorem dL_law_194 : decode cL_law 194 = .ok (.aload_n 0, 1) := by decide +kernel
theorem dL_law_195 : decode cL_law 195 = .ok (.iload_n 3, 1) := by decide +kernel
theorem dL_law_196 : decode cL_law 196 = .ok (.iconst 5, 1) := by decide +kernel
theorem dL_law_197 : decode cL_law 197 = .ok (.iadd, 1) := by decide +kernel
theorem dL_law_198 : decode cL_law 198 = .ok (.iaload, 1) := by decide +kernel
theorem dL_law_199 : decode cL_law 199 = .ok (.invokevirtual 17, 3) := by decide +kernel
theorem dL_law_202 : decode cL_law 202 = .ok (.if_icmp .eq 672, 3) := by decide +kernel
theorem dL_law_205 : decode cL_law 205 = .ok (.iconst 0, 1) := by decide +kernel
theorem dL_law_206 : decode cL_law 206 = .ok (.ireturn, 1) := by decide +kernel
theorem dL_law_207 : decode cL_law 207 = .ok (.aload_n 1, 1) := by decide +kernel
theorem dL_law_208 : decode cL_law 208 = .ok (.aload_n 0, 1) := by decide +kernel
theorem dL_law_209 : decode cL_law 209 = .ok (.iload_n 3, 1) := by decide +kernel
theorem dL_law_210 : decode cL_law 210 = .ok (.iconst 1, 1) := by decide +kernel
theorem dL_law_211 : decode cL_law 211 = .ok (.iadd, 1) := by decide +kernel
theorem dL_law_212 : decode cL_law 212 = .ok (.iaload, 1) := by decide +kernel
theorem dL_law_213 : decode cL_law 213 = .ok (.aload_n 0, 1) := by decide +kernel
theorem dL_law_214 : decode cL_law 214 = .ok (.iload_n 3, 1) := by decide +kernel
theorem dL_law_215 : decode cL_law 215 = .ok (.iconst 2, 1) := by decide +kernel
theorem dL_law_216 : decode cL_law 216 = .ok (.iadd, 1) := by decide +kernel
theorem dL_law_217 : decode cL_law 217 = .ok (.iaload, 1) := by decide +kernel
theorem dL_law_218 : decode cL_law 218 = .ok (.invokevirtual 18, 3) := by decide +kernel
theorem dL_law_221 : decode cL_law 221 = .ok (.aload_n 2, 1) := by decide +kernel
theorem dL_law_222 : decode cL_law 222 = .ok (.aload_n 0, 1) := by decide +kernel
theorem dL_law_223 : decode cL_law 223 = .ok (.iload_n 3, 1) := by decide +kernel
theorem dL_law_224 : decode cL_law 224 = .ok (.iconst 1, 1) := by decide +kernel
theorem dL_law_225 : decode cL_law 225 = .ok (.iadd, 1) := by decide +kernel
theorem dL_law_226 : decode cL_law 226 = .ok (.iaload, 1) := by decide +kernel
theorem dL_law_227 : decode cL_law 227 = .ok (.aload_n 0, 1) := by decide +kernel
theorem dL_law_228 : decode cL_law 228 = .ok (.iload_n 3, 1) := by decide +kernel
theorem dL_law_229 : decode cL_law 229 = .ok (.iconst 2, 1) := by decide +kernel
theorem dL_law_230 : decode cL_law 230 = .ok (.iadd, 1) := by decide +kernel
theorem dL_law_231 : decode cL_law 231 = .ok (.iaload, 1) := by decide +kernel
theorem dL_law_232 : decode cL_law 232 = .ok (.invokevirtual 22, 3) := by decide +kernel
theorem dL_law_235 : decode cL_law 235 = .ok (.if_icmp .eq 639, 3) := by decide +kernel
theorem dL_law_238 : decode cL_law 238 = .ok (.iconst 0, 1) := by decide +kernel
theorem dL_law_239 : decode cL_law 239 = .ok (.ireturn, 1) := by decide +kernel
theorem dL_law_240 : decode cL_law 240 = .ok (.aload_n 1, 1) := by decide +kernel
theorem dL_law_241 : decode cL_law 241 = .ok (.aload_n 0, 1) := by decide +kernel
theorem dL_law_242 : decode cL_law 242 = .ok (.iload_n 3, 1) := by decide +kernel
theorem dL_law_243 : decode cL_law 243 = .ok (.iconst 1, 1) := by decide +kernel
theorem dL_law_244 : decode cL_law 244 = .ok (.iadd, 1) := by decide +kernel
theorem dL_law_245 : decode cL_law 245 = .ok (.iaload, 1) := by decide +kernel
theorem dL_law_246 : decode cL_law 246 = .ok (.aload_n 0, 1) := by decide +kernel
theorem dL_law_247 : decode cL_law 247 = .ok (.iload_n 3, 1) := by decide +kernel
theorem dL_law_248 : decode cL_law 248 = .ok (.iconst 2, 1) := by decide +kernel
theorem dL_law_249 : decode cL_law 249 = .ok (.iadd, 1) := by decide +kernel
theorem dL_law_250 : decode cL_law 250 = .ok (.iaload, 1) := by decide +kernel
theorem dL_law_251 : decode cL_law 251 = .ok (.aload_n 0, 1) := by decide +kernel
theorem dL_law_252 : decode cL_law 252 = .ok (.iload_n 3, 1) := by decide +kernel
theorem dL_law_253 : decode cL_law 253 = .ok (.iconst 3, 1) := by decide +kernel
theorem dL_law_254 : decode cL_law 254 = .ok (.iadd, 1) := by decide +kernel
theorem dL_law_255 : decode cL_law 255 = .ok (.iaload, 1) := by decide +kernel
theorem dL_law_256 : decode cL_law 256 = .ok (.invokevirtual 23, 3) := by decide +kernel
theorem dL_law_259 : decode cL_law 259 = .ok (.aload_n 2, 1) := by decide +kernel
theorem dL_law_260 : decode cL_law 260 = .ok (.aload_n 0, 1) := by decide +kernel
theorem dL_law_261 : decode cL_law 261 = .ok (.iload_n 3, 1) := by decide +kernel
theorem dL_law_262 : decode cL_law 262 = .ok (.iconst 1, 1) := by decide +kernel
theorem dL_law_263 : decode cL_law 263 = .ok (.iadd, 1) := by decide +kernel
theorem dL_law_264 : decode cL_law 264 = .ok (.iaload, 1) := by decide +kernel
theorem dL_law_265 : decode cL_law 265 = .ok (.aload_n 0, 1) := by decide +kernel
theorem dL_law_266 : decode cL_law 266 = .ok (.iload_n 3, 1) := by decide +kernel
theorem dL_law_267 : decode cL_law 267 = .ok (.iconst 2, 1) := by decide +kernel
theorem dL_law_268 : decode cL_law 268 = .ok (.iadd, 1) := by decide +kernel
theorem dL_law_269 : decode cL_law 269 = .ok (.iaload, 1) := by decide +kernel
theorem dL_law_270 : decode cL_law 270 = .ok (.aload_n 0, 1) := by decide +kernel
theorem dL_law_271 : decode cL_law 271 = .ok (.iload_n 3, 1) := by decide +kernel
theorem dL_law_272 : decode cL_law 272 = .ok (.iconst 3, 1) := by decide +kernel
theorem dL_law_273 : decode cL_law 273 = .ok (.iadd, 1) := by decide +kernel
theorem dL_law_274 : decode cL_law 274 = .ok (.iaload, 1) := by decide +kernel
theorem dL_law_275 : decode cL_law 275 = .ok (.invokevirtual 27, 3) := by decide +kernel
theorem dL_law_278 : decode cL_law 278 = .ok (.if_icmp .eq 596, 3) := by decide +kernel
theorem dL_law_281 : decode cL_law 281 = .ok (.iconst 0, 1) := by decide +kernel
theorem dL_law_282 : decode cL_law 282 = .ok (.ireturn, 1) := by decide +kernel
theorem dL_law_283 : decode cL_law 283 = .ok (.aload_n 1, 1) := by decide +kernel
theorem dL_law_284 : decode cL_law 284 = .ok (.aload_n 0, 1) := by decide +kernel
theorem dL_law_285 : decode cL_law 285 = .ok (.iload_n 3, 1) := by decide +kernel
theorem dL_law_286 : decode cL_law 286 = .ok (.iconst 1, 1) := by decide +kernel
theorem dL_law_287 : decode cL_law 287 = .ok (.iadd, 1) := by decide +kernel
theorem dL_law_288 : decode cL_law 288 = .ok (.iaload, 1) := by decide +kernel
theorem dL_law_289 : decode cL_law 289 = .ok (.aload_n 0, 1) := by decide +kernel
theorem dL_law_290 : decode cL_law 290 = .ok (.iload_n 3, 1) := by decide +kernel
theorem dL_law_291 : decode cL_law 291 = .ok (.iconst 2, 1) := by decide +kernel
theorem dL_law_292 : decode cL_law 292 = .ok (.iadd, 1) := by decide +kernel
theorem dL_law_293 : decode cL_law 293 = .ok (.iaload, 1) := by decide +kernel
theorem dL_law_294 : decode cL_law 294 = .ok (.aload_n 0, 1) := by decide +kernel
theorem dL_law_295 : decode cL_law 295 = .ok (.iload_n 3, 1) := by decide +kernel
theorem dL_law_296 : decode cL_law 296 = .ok (.iconst 3, 1) := by decide +kernel
theorem dL_law_297 : decode cL_law 297 = .ok (.iadd, 1) := by decide +kernel
theorem dL_law_298 : decode cL_law 298 = .ok (.iaload, 1) := by decide +kernel
theorem dL_law_299 : decode cL_law 299 = .ok (.aload_n 0, 1) := by decide +kernel
theorem dL_law_300 : decode cL_law 300 = .ok (.iload_n 3, 1) := by decide +kernel
theorem dL_law_301 : decode cL_law 301 = .ok (.iconst 4, 1) := by decide +kernel
theorem dL_law_302 : decode cL_law 302 = .ok (.iadd, 1) := by decide +kernel
theorem dL_law_303 : decode cL_law 303 = .ok (.iaload, 1) := by decide +kernel
theorem dL_law_304 : decode cL_law 304 = .ok (.invokevirtual 28, 3) := by decide +kernel
theorem dL_law_307 : decode cL_law 307 = .ok (.aload_n 2, 1) := by decide +kernel
theorem dL_law_308 : decode cL_law 308 = .ok (.aload_n 0, 1) := by decide +kernel
theorem dL_law_309 : decode cL_law 309 = .ok (.iload_n 3, 1) := by decide +kernel
theorem dL_law_310 : decode cL_law 310 = .ok (.iconst 1, 1) := by decide +kernel
theorem dL_law_311 : decode cL_law 311 = .ok (.iadd, 1) := by decide +kernel
theorem dL_law_312 : decode cL_law 312 = .ok (.iaload, 1) := by decide +kernel
theorem dL_law_313 : decode cL_law 313 = .ok (.aload_n 0, 1) := by decide +kernel
theorem dL_law_314 : decode cL_law 314 = .ok (.iload_n 3, 1) := by decide +kernel
theorem dL_law_315 : decode cL_law 315 = .ok (.iconst 2, 1) := by decide +kernel
theorem dL_law_316 : decode cL_law 316 = .ok (.iadd, 1) := by decide +kernel
theorem dL_law_317 : decode cL_law 317 = .ok (.iaload, 1) := by decide +kernel
theorem dL_law_318 : decode cL_law 318 = .ok (.aload_n 0, 1) := by decide +kernel
theorem dL_law_319 : decode cL_law 319 = .ok (.iload_n 3, 1) := by decide +kernel
theorem dL_law_320 : decode cL_law 320 = .ok (.iconst 3, 1) := by decide +kernel
theorem dL_law_321 : decode cL_law 321 = .ok (.iadd, 1) := by decide +kernel
theorem dL_law_322 : decode cL_law 322 = .ok (.iaload, 1) := by decide +kernel
theorem dL_law_323 : decode cL_law 323 = .ok (.aload_n 0, 1) := by decide +kernel
theorem dL_law_324 : decode cL_law 324 = .ok (.iload_n 3, 1) := by decide +kernel
theorem dL_law_325 : decode cL_law 325 = .ok (.iconst 4, 1) := by decide +kernel
theorem dL_law_326 : decode cL_law 326 = .ok (.iadd, 1) := by decide +kernel
theorem dL_law_327 : decode cL_law 327 = .ok (.iaload, 1) := by decide +kernel
theorem dL_law_328 : decode cL_law 328 = .ok (.invokevirtual 32, 3) := by decide +kernel
theorem dL_law_331 : decode cL_law 331 = .ok (.if_icmp .eq 543, 3) := by decide +kernel
theorem dL_law_334 : decode cL_law 334 = .ok (.iconst 0, 1) := by decide +kernel
theorem dL_law_335 : decode cL_law 335 = .ok (.ireturn, 1) := by decide +kernel
theorem dL_law_336 : decode cL_law 336 = .ok (.aload_n 1, 1) := by decide +kernel
theorem dL_law_337 : decode cL_law 337 = .ok (.invokevirtual 33, 3) := by decide +kernel
theorem dL_law_340 : decode cL_law 340 = .ok (.aload_n 2, 1) := by decide +kernel
theorem dL_law_341 : decode cL_law 341 = .ok (.invokevirtual 37, 3) := by decide +kernel
theorem dL_law_344 : decode cL_law 344 = .ok (.if_icmp .eq 530, 3) := by decide +kernel
theorem dL_law_347 : decode cL_law 347 = .ok (.iconst 0, 1) := by decide +kernel
theorem dL_law_348 : decode cL_law 348 = .ok (.ireturn, 1) := by decide +kernel
theorem dL_law_349 : decode cL_law 349 = .ok (.aload_n 1, 1) := by decide +kernel
theorem dL_law_350 : decode cL_law 350 = .ok (.aload_n 0, 1) := by decide +kernel
theorem dL_law_351 : decode cL_law 351 = .ok (.iload_n 3, 1) := by decide +kernel
theorem dL_law_352 : decode cL_law 352 = .ok (.iconst 1, 1) := by decide +kernel
theorem dL_law_353 : decode cL_law 353 = .ok (.iadd, 1) := by decide +kernel
theorem dL_law_354 : decode cL_law 354 = .ok (.iaload, 1) := by decide +kernel
theorem dL_law_355 : decode cL_law 355 = .ok (.invokevirtual 38, 3) := by decide +kernel
theorem dL_law_358 : decode cL_law 358 = .ok (.aload_n 2, 1) := by decide +kernel
theorem dL_law_359 : decode cL_law 359 = .ok (.aload_n 0, 1) := by decide +kernel
theorem dL_law_360 : decode cL_law 360 = .ok (.iload_n 3, 1) := by decide +kernel
theorem dL_law_361 : decode cL_law 361 = .ok (.iconst 1, 1) := by decide +kernel
theorem dL_law_362 : decode cL_law 362 = .ok (.iadd, 1) := by decide +kernel
theorem dL_law_363 : decode cL_law 363 = .ok (.iaload, 1) := by decide +kernel
theorem dL_law_364 : decode cL_law 364 = .ok (.invokevirtual 42, 3) := by decide +kernel
theorem dL_law_367 : decode cL_law 367 = .ok (.if_icmp .eq 507, 3) := by decide +kernel
theorem dL_law_370 : decode cL_law 370 = .ok (.iconst 0, 1) := by decide +kernel
theorem dL_law_371 : decode cL_law 371 = .ok (.ireturn, 1) := by decide +kernel
theorem dL_law_372 : decode cL_law 372 = .ok (.aload_n 1, 1) := by decide +kernel
theorem dL_law_373 : decode cL_law 373 = .ok (.aload_n 0, 1) := by decide +kernel
theorem dL_law_374 : decode cL_law 374 = .ok (.iload_n 3, 1) := by decide +kernel
theorem dL_law_375 : decode cL_law 375 = .ok (.iconst 1, 1) := by decide +kernel
theorem dL_law_376 : decode cL_law 376 = .ok (.iadd, 1) := by decide +kernel
theorem dL_law_377 : decode cL_law 377 = .ok (.iaload, 1) := by decide +kernel
theorem dL_law_378 : decode cL_law 378 = .ok (.aload_n 0, 1) := by decide +kernel
theorem dL_law_379 : decode cL_law 379 = .ok (.iload_n 3, 1) := by decide +kernel
theorem dL_law_380 : decode cL_law 380 = .ok (.iconst 2, 1) := by decide +kernel
theorem dL_law_381 : decode cL_law 381 = .ok (.iadd, 1) := by decide +kernel
theorem dL_law_382 : decode cL_law 382 = .ok (.iaload, 1) := by decide +kernel
theorem dL_law_383 : decode cL_law 383 = .ok (.aload_n 0, 1) := by decide +kernel
theorem dL_law_384 : decode cL_law 384 = .ok (.iload_n 3, 1) := by decide +kernel
theorem dL_law_385 : decode cL_law 385 = .ok (.iconst 3, 1) := by decide +kernel
theorem dL_law_386 : decode cL_law 386 = .ok (.iadd, 1) := by decide +kernel
theorem dL_law_387 : decode cL_law 387 = .ok (.iaload, 1) := by decide +kernel
theorem dL_law_388 : decode cL_law 388 = .ok (.invokevirtual 43, 3) := by decide +kernel
theorem dL_law_391 : decode cL_law 391 = .ok (.aload_n 2, 1) := by decide +kernel
theorem dL_law_392 : decode cL_law 392 = .ok (.aload_n 0, 1) := by decide +kernel
theorem dL_law_393 : decode cL_law 393 = .ok (.iload_n 3, 1) := by decide +kernel
theorem dL_law_394 : decode cL_law 394 = .ok (.iconst 1, 1) := by decide +kernel
theorem dL_law_395 : decode cL_law 395 = .ok (.iadd, 1) := by decide +kernel
theorem dL_law_396 : decode cL_law 396 = .ok (.iaload, 1) := by decide +kernel
theorem dL_law_397 : decode cL_law 397 = .ok (.aload_n 0, 1) := by decide +kernel
theorem dL_law_398 : decode cL_law 398 = .ok (.iload_n 3, 1) := by decide +kernel
theorem dL_law_399 : decode cL_law 399 = .ok (.iconst 2, 1) := by decide +kernel
theorem dL_law_400 : decode cL_law 400 = .ok (.iadd, 1) := by decide +kernel
theorem dL_law_401 : decode cL_law 401 = .ok (.iaload, 1) := by decide +kernel
theorem dL_law_402 : decode cL_law 402 = .ok (.aload_n 0, 1) := by decide +kernel
theorem dL_law_403 : decode cL_law 403 = .ok (.iload_n 3, 1) := by decide +kernel
theorem dL_law_404 : decode cL_law 404 = .ok (.iconst 3, 1) := by decide +kernel
theorem dL_law_405 : decode cL_law 405 = .ok (.iadd, 1) := by decide +kernel
theorem dL_law_406 : decode cL_law 406 = .ok (.iaload, 1) := by decide +kernel
theorem dL_law_407 : decode cL_law 407 = .ok (.invokevirtual 46, 3) := by decide +kernel
theorem dL_law_410 : decode cL_law 410 = .ok (.if_icmp .eq 464, 3) := by decide +kernel
theorem dL_law_413 : decode cL_law 413 = .ok (.iconst 0, 1) := by decide +kernel
theorem dL_law_414 : decode cL_law 414 = .ok (.ireturn, 1) := by decide +kernel
theorem dL_law_415 : decode cL_law 415 = .ok (.aload_n 1, 1) := by decide +kernel
theorem dL_law_416 : decode cL_law 416 = .ok (.aload_n 0, 1) := by decide +kernel
theorem dL_law_417 : decode cL_law 417 = .ok (.iload_n 3, 1) := by decide +kernel
theorem dL_law_418 : decode cL_law 418 = .ok (.iconst 1, 1) := by decide +kernel
theorem dL_law_419 : decode cL_law 419 = .ok (.iadd, 1) := by decide +kernel
theorem dL_law_420 : decode cL_law 420 = .ok (.iaload, 1) := by decide +kernel
theorem dL_law_421 : decode cL_law 421 = .ok (.invokevirtual 47, 3) := by decide +kernel
theorem dL_law_424 : decode cL_law 424 = .ok (.aload_n 2, 1) := by decide +kernel
theorem dL_law_425 : decode cL_law 425 = .ok (.aload_n 0, 1) := by decide +kernel
theorem dL_law_426 : decode cL_law 426 = .ok (.iload_n 3, 1) := by decide +kernel
theorem dL_law_427 : decode cL_law 427 = .ok (.iconst 1, 1) := by decide +kernel
theorem dL_law_428 : decode cL_law 428 = .ok (.iadd, 1) := by decide +kernel
theorem dL_law_429 : decode cL_law 429 = .ok (.iaload, 1) := by decide +kernel
theorem dL_law_430 : decode cL_law 430 = .ok (.invokevirtual 50, 3) := by decide +kernel
theorem dL_law_433 : decode cL_law 433 = .ok (.if_icmp .eq 441, 3) := by decide +kernel
theorem dL_law_436 : decode cL_law 436 = .ok (.iconst 0, 1) := by decide +kernel
theorem dL_law_437 : decode cL_law 437 = .ok (.ireturn, 1) := by decide +kernel
theorem dL_law_438 : decode cL_law 438 = .ok (.aload_n 1, 1) := by decide +kernel
theorem dL_law_439 : decode cL_law 439 = .ok (.invokevirtual 51, 3) := by decide +kernel
theorem dL_law_442 : decode cL_law 442 = .ok (.aload_n 2, 1) := by decide +kernel
theorem dL_law_443 : decode cL_law 443 = .ok (.invokevirtual 54, 3) := by decide +kernel
theorem dL_law_446 : decode cL_law 446 = .ok (.if_icmp .eq 428, 3) := by decide +kernel
theorem dL_law_449 : decode cL_law 449 = .ok (.iconst 0, 1) := by decide +kernel
theorem dL_law_450 : decode cL_law 450 = .ok (.ireturn, 1) := by decide +kernel
theorem dL_law_451 : decode cL_law 451 = .ok (.aload_n 1, 1) := by decide +kernel
theorem dL_law_452 : decode cL_law 452 = .ok (.aload_n 0, 1) := by decide +kernel
theorem dL_law_453 : decode cL_law 453 = .ok (.iload_n 3, 1) := by decide +kernel
theorem dL_law_454 : decode cL_law 454 = .ok (.iconst 1, 1) := by decide +kernel
theorem dL_law_455 : decode cL_law 455 = .ok (.iadd, 1) := by decide +kernel
theorem dL_law_456 : decode cL_law 456 = .ok (.iaload, 1) := by decide +kernel
theorem dL_law_457 : decode cL_law 457 = .ok (.ifCond .eq 7, 3) := by decide +kernel
theorem dL_law_460 : decode cL_law 460 = .ok (.iconst 1, 1) := by decide +kernel
theorem dL_law_461 : decode cL_law 461 = .ok (.goto 4, 3) := by decide +kernel
theorem dL_law_464 : decode cL_law 464 = .ok (.iconst 0, 1) := by decide +kernel
theorem dL_law_465 : decode cL_law 465 = .ok (.invokevirtual 55, 3) := by decide +kernel
theorem dL_law_468 : decode cL_law 468 = .ok (.aload_n 2, 1) := by decide +kernel
theorem dL_law_469 : decode cL_law 469 = .ok (.aload_n 0, 1) := by decide +kernel
theorem dL_law_470 : decode cL_law 470 = .ok (.iload_n 3, 1) := by decide +kernel
theorem dL_law_471 : decode cL_law 471 = .ok (.iconst 1, 1) := by decide +kernel
theorem dL_law_472 : decode cL_law 472 = .ok (.iadd, 1) := by decide +kernel
theorem dL_law_473 : decode cL_law 473 = .ok (.iaload, 1) := by decide +kernel
theorem dL_law_474 : decode cL_law 474 = .ok (.ifCond .eq 7, 3) := by decide +kernel
theorem dL_law_477 : decode cL_law 477 = .ok (.iconst 1, 1) := by decide +kernel
theorem dL_law_478 : decode cL_law 478 = .ok (.goto 4, 3) := by decide +kernel
theorem dL_law_481 : decode cL_law 481 = .ok (.iconst 0, 1) := by decide +kernel
theorem dL_law_482 : decode cL_law 482 = .ok (.invokevirtual 59, 3) := by decide +kernel
theorem dL_law_485 : decode cL_law 485 = .ok (.if_icmp .eq 389, 3) := by decide +kernel
theorem dL_law_488 : decode cL_law 488 = .ok (.iconst 0, 1) := by decide +kernel
theorem dL_law_489 : decode cL_law 489 = .ok (.ireturn, 1) := by decide +kernel
theorem dL_law_490 : decode cL_law 490 = .ok (.aload_n 1, 1) := by decide +kernel
theorem dL_law_491 : decode cL_law 491 = .ok (.aload_n 0, 1) := by decide +kernel
theorem dL_law_492 : decode cL_law 492 = .ok (.iload_n 3, 1) := by decide +kernel
theorem dL_law_493 : decode cL_law 493 = .ok (.iconst 1, 1) := by decide +kernel
theorem dL_law_494 : decode cL_law 494 = .ok (.iadd, 1) := by decide +kernel
theorem dL_law_495 : decode cL_law 495 = .ok (.iaload, 1) := by decide +kernel
theorem dL_law_496 : decode cL_law 496 = .ok (.invokevirtual 60, 3) := by decide +kernel
theorem dL_law_499 : decode cL_law 499 = .ok (.aload_n 2, 1) := by decide +kernel
theorem dL_law_500 : decode cL_law 500 = .ok (.aload_n 0, 1) := by decide +kernel
theorem dL_law_501 : decode cL_law 501 = .ok (.iload_n 3, 1) := by decide +kernel
theorem dL_law_502 : decode cL_law 502 = .ok (.iconst 1, 1) := by decide +kernel
theorem dL_law_503 : decode cL_law 503 = .ok (.iadd, 1) := by decide +kernel
theorem dL_law_504 : decode cL_law 504 = .ok (.iaload, 1) := by decide +kernel
theorem dL_law_505 : decode cL_law 505 = .ok (.invokevirtual 63, 3) := by decide +kernel
theorem dL_law_508 : decode cL_law 508 = .ok (.if_icmp .eq 366, 3) := by decide +kernel
theorem dL_law_511 : decode cL_law 511 = .ok (.iconst 0, 1) := by decide +kernel
theorem dL_law_512 : decode cL_law 512 = .ok (.ireturn, 1) := by decide +kernel
theorem dL_law_513 : decode cL_law 513 = .ok (.aload_n 1, 1) := by decide +kernel
theorem dL_law_514 : decode cL_law 514 = .ok (.aload_n 0, 1) := by decide +kernel
theorem dL_law_515 : decode cL_law 515 = .ok (.iload_n 3, 1) := by decide +kernel
theorem dL_law_516 : decode cL_law 516 = .ok (.iconst 1, 1) := by decide +kernel
theorem dL_law_517 : decode cL_law 517 = .ok (.iadd, 1) := by decide +kernel
theorem dL_law_518 : decode cL_law 518 = .ok (.iaload, 1) := by decide +kernel
theorem dL_law_519 : decode cL_law 519 = .ok (.i2c, 1) := by decide +kernel
theorem dL_law_520 : decode cL_law 520 = .ok (.invokevirtual 64, 3) := by decide +kernel
theorem dL_law_523 : decode cL_law 523 = .ok (.aload_n 2, 1) := by decide +kernel
theorem dL_law_524 : decode cL_law 524 = .ok (.aload_n 0, 1) := by decide +kernel
theorem dL_law_525 : decode cL_law 525 = .ok (.iload_n 3, 1) := by decide +kernel
theorem dL_law_526 : decode cL_law 526 = .ok (.iconst 1, 1) := by decide +kernel
theorem dL_law_527 : decode cL_law 527 = .ok (.iadd, 1) := by decide +kernel
theorem dL_law_528 : decode cL_law 528 = .ok (.iaload, 1) := by decide +kernel
theorem dL_law_529 : decode cL_law 529 = .ok (.i2c, 1) := by decide +kernel
theorem dL_law_530 : decode cL_law 530 = .ok (.invokevirtual 68, 3) := by decide +kernel
theorem dL_law_533 : decode cL_law 533 = .ok (.if_icmp .eq 341, 3) := by decide +kernel
theorem dL_law_536 : decode cL_law 536 = .ok (.iconst 0, 1) := by decide +kernel
theorem dL_law_537 : decode cL_law 537 = .ok (.ireturn, 1) := by decide +kernel
theorem dL_law_538 : decode cL_law 538 = .ok (.aload_n 1, 1) := by decide +kernel
theorem dL_law_539 : decode cL_law 539 = .ok (.invokevirtual 69, 3) := by decide +kernel
theorem dL_law_542 : decode cL_law 542 = .ok (.aload_n 2, 1) := by decide +kernel
theorem dL_law_543 : decode cL_law 543 = .ok (.invokevirtual 72, 3) := by decide +kernel
theorem dL_law_546 : decode cL_law 546 = .ok (.if_icmp .eq 328, 3) := by decide +kernel
theorem dL_law_549 : decode cL_law 549 = .ok (.iconst 0, 1) := by decide +kernel
theorem dL_law_550 : decode cL_law 550 = .ok (.ireturn, 1) := by decide +kernel
theorem dL_law_551 : decode cL_law 551 = .ok (.aload_n 1, 1) := by decide +kernel
theorem dL_law_552 : decode cL_law 552 = .ok (.invokevirtual 73, 3) := by decide +kernel
theorem dL_law_555 : decode cL_law 555 = .ok (.aload_n 2, 1) := by decide +kernel
theorem dL_law_556 : decode cL_law 556 = .ok (.invokevirtual 76, 3) := by decide +kernel
theorem dL_law_559 : decode cL_law 559 = .ok (.if_icmp .eq 315, 3) := by decide +kernel
theorem dL_law_562 : decode cL_law 562 = .ok (.iconst 0, 1) := by decide +kernel
theorem dL_law_563 : decode cL_law 563 = .ok (.ireturn, 1) := by decide +kernel
theorem dL_law_564 : decode cL_law 564 = .ok (.aload_n 1, 1) := by decide +kernel
theorem dL_law_565 : decode cL_law 565 = .ok (.invokevirtual 77, 3) := by decide +kernel
theorem dL_law_568 : decode cL_law 568 = .ok (.aload_n 2, 1) := by decide +kernel
theorem dL_law_569 : decode cL_law 569 = .ok (.invokevirtual 80, 3) := by decide +kernel
theorem dL_law_572 : decode cL_law 572 = .ok (.if_icmp .eq 302, 3) := by decide +kernel
theorem dL_law_575 : decode cL_law 575 = .ok (.iconst 0, 1) := by decide +kernel
theorem dL_law_576 : decode cL_law 576 = .ok (.ireturn, 1) := by decide +kernel
theorem dL_law_577 : decode cL_law 577 = .ok (.aload_n 1, 1) := by decide +kernel
theorem dL_law_578 : decode cL_law 578 = .ok (.invokevirtual 81, 3) := by decide +kernel
theorem dL_law_581 : decode cL_law 581 = .ok (.aload_n 2, 1) := by decide +kernel
theorem dL_law_582 : decode cL_law 582 = .ok (.invokevirtual 84, 3) := by decide +kernel
theorem dL_law_585 : decode cL_law 585 = .ok (.if_icmp .eq 289, 3) := by decide +kernel
theorem dL_law_588 : decode cL_law 588 = .ok (.iconst 0, 1) := by decide +kernel
theorem dL_law_589 : decode cL_law 589 = .ok (.ireturn, 1) := by decide +kernel
theorem dL_law_590 : decode cL_law 590 = .ok (.aload_n 1, 1) := by decide +kernel
theorem dL_law_591 : decode cL_law 591 = .ok (.aload_n 0, 1) := by decide +kernel
theorem dL_law_592 : decode cL_law 592 = .ok (.iload_n 3, 1) := by decide +kernel
theorem dL_law_593 : decode cL_law 593 = .ok (.iconst 1, 1) := by decide +kernel
theorem dL_law_594 : decode cL_law 594 = .ok (.iadd, 1) := by decide +kernel
theorem dL_law_595 : decode cL_law 595 = .ok (.iaload, 1) := by decide +kernel
theorem dL_law_596 : decode cL_law 596 = .ok (.aload_n 0, 1) := by decide +kernel
theorem dL_law_597 : decode cL_law 597 = .ok (.iload_n 3, 1) := by decide +kernel
theorem dL_law_598 : decode cL_law 598 = .ok (.iconst 2, 1) := by decide +kernel
theorem dL_law_599 : decode cL_law 599 = .ok (.iadd, 1) := by decide +kernel
theorem dL_law_600 : decode cL_law 600 = .ok (.iaload, 1) := by decide +kernel
theorem dL_law_601 : decode cL_law 601 = .ok (.aload_n 0, 1) := by decide +kernel
theorem dL_law_602 : decode cL_law 602 = .ok (.iload_n 3, 1) := by decide +kernel
theorem dL_law_603 : decode cL_law 603 = .ok (.iconst 3, 1) := by decide +kernel
theorem dL_law_604 : decode cL_law 604 = .ok (.iadd, 1) := by decide +kernel
theorem dL_law_605 : decode cL_law 605 = .ok (.iaload, 1) := by decide +kernel
theorem dL_law_606 : decode cL_law 606 = .ok (.invokevirtual 85, 3) := by decide +kernel
theorem dL_law_609 : decode cL_law 609 = .ok (.aload_n 2, 1) := by decide +kernel
theorem dL_law_610 : decode cL_law 610 = .ok (.aload_n 0, 1) := by decide +kernel
theorem dL_law_611 : decode cL_law 611 = .ok (.iload_n 3, 1) := by decide +kernel
theorem dL_law_612 : decode cL_law 612 = .ok (.iconst 1, 1) := by decide +kernel
theorem dL_law_613 : decode cL_law 613 = .ok (.iadd, 1) := by decide +kernel
theorem dL_law_614 : decode cL_law 614 = .ok (.iaload, 1) := by decide +kernel
theorem dL_law_615 : decode cL_law 615 = .ok (.aload_n 0, 1) := by decide +kernel
theorem dL_law_616 : decode cL_law 616 = .ok (.iload_n 3, 1) := by decide +kernel
theorem dL_law_617 : decode cL_law 617 = .ok (.iconst 2, 1) := by decide +kernel
theorem dL_law_618 : decode cL_law 618 = .ok (.iadd, 1) := by decide +kernel
theorem dL_law_619 : decode cL_law 619 = .ok (.iaload, 1) := by decide +kernel
theorem dL_law_620 : decode cL_law 620 = .ok (.aload_n 0, 1) := by decide +kernel
theorem dL_law_621 : decode cL_law 621 = .ok (.iload_n 3, 1) := by decide +kernel
theorem dL_law_622 : decode cL_law 622 = .ok (.iconst 3, 1) := by decide +kernel
theorem dL_law_623 : decode cL_law 623 = .ok (.iadd, 1) := by decide +kernel
theorem dL_law_624 : decode cL_law 624 = .ok (.iaload, 1) := by decide +kernel
theorem dL_law_625 : decode cL_law 625 = .ok (.invokevirtual 88, 3) := by decide +kernel
theorem dL_law_628 : decode cL_law 628 = .ok (.if_icmp .eq 246, 3) := by decide +kernel
theorem dL_law_631 : decode cL_law 631 = .ok (.iconst 0, 1) := by decide +kernel
theorem dL_law_632 : decode cL_law 632 = .ok (.ireturn, 1) := by decide +kernel
theorem dL_law_633 : decode cL_law 633 = .ok (.aload_n 1, 1) := by decide +kernel
theorem dL_law_634 : decode cL_law 634 = .ok (.aload_n 0, 1) := by decide +kernel
theorem dL_law_635 : decode cL_law 635 = .ok (.iload_n 3, 1) := by decide +kernel
theorem dL_law_636 : decode cL_law 636 = .ok (.iconst 1, 1) := by decide +kernel
theorem dL_law_637 : decode cL_law 637 = .ok (.iadd, 1) := by decide +kernel
theorem dL_law_638 : decode cL_law 638 = .ok (.iaload, 1) := by decide +kernel
theorem dL_law_639 : decode cL_law 639 = .ok (.aload_n 0, 1) := by decide +kernel
theorem dL_law_640 : decode cL_law 640 = .ok (.iload_n 3, 1) := by decide +kernel
theorem dL_law_641 : decode cL_law 641 = .ok (.iconst 2, 1) := by decide +kernel
theorem dL_law_642 : decode cL_law 642 = .ok (.iadd, 1) := by decide +kernel
theorem dL_law_643 : decode cL_law 643 = .ok (.iaload, 1) := by decide +kernel
theorem dL_law_644 : decode cL_law 644 = .ok (.aload_n 0, 1) := by decide +kernel
theorem dL_law_645 : decode cL_law 645 = .ok (.iload_n 3, 1) := by decide +kernel
theorem dL_law_646 : decode cL_law 646 = .ok (.iconst 3, 1) := by decide +kernel
theorem dL_law_647 : decode cL_law 647 = .ok (.iadd, 1) := by decide +kernel
theorem dL_law_648 : decode cL_law 648 = .ok (.iaload, 1) := by decide +kernel
theorem dL_law_649 : decode cL_law 649 = .ok (.aload_n 0, 1) := by decide +kernel
theorem dL_law_650 : decode cL_law 650 = .ok (.iload_n 3, 1) := by decide +kernel
theorem dL_law_651 : decode cL_law 651 = .ok (.iconst 4, 1) := by decide +kernel
theorem dL_law_652 : decode cL_law 652 = .ok (.iadd, 1) := by decide +kernel
theorem dL_law_653 : decode cL_law 653 = .ok (.iaload, 1) := by decide +kernel
theorem dL_law_654 : decode cL_law 654 = .ok (.invokevirtual 89, 3) := by decide +kernel
theorem dL_law_657 : decode cL_law 657 = .ok (.aload_n 2, 1) := by decide +kernel
theorem dL_law_658 : decode cL_law 658 = .ok (.aload_n 0, 1) := by decide +kernel
theorem dL_law_659 : decode cL_law 659 = .ok (.iload_n 3, 1) := by decide +kernel
theorem dL_law_660 : decode cL_law 660 = .ok (.iconst 1, 1) := by decide +kernel
theorem dL_law_661 : decode cL_law 661 = .ok (.iadd, 1) := by decide +kernel
theorem dL_law_662 : decode cL_law 662 = .ok (.iaload, 1) := by decide +kernel
theorem dL_law_663 : decode cL_law 663 = .ok (.aload_n 0, 1) := by decide +kernel
theorem dL_law_664 : decode cL_law 664 = .ok (.iload_n 3, 1) := by decide +kernel
theorem dL_law_665 : decode cL_law 665 = .ok (.iconst 2, 1) := by decide +kernel
theorem dL_law_666 : decode cL_law 666 = .ok (.iadd, 1) := by decide +kernel
theorem dL_law_667 : decode cL_law 667 = .ok (.iaload, 1) := by decide +kernel
theorem dL_law_668 : decode cL_law 668 = .ok (.aload_n 0, 1) := by decide +kernel
theorem dL_law_669 : decode cL_law 669 = .ok (.iload_n 3, 1) := by decide +kernel
theorem dL_law_670 : decode cL_law 670 = .ok (.iconst 3, 1) := by decide +kernel
theorem dL_law_671 : decode cL_law 671 = .ok (.iadd, 1) := by decide +kernel
theorem dL_law_672 : decode cL_law 672 = .ok (.iaload, 1) := by decide +kernel
theorem dL_law_673 : decode cL_law 673 = .ok (.aload_n 0, 1) := by decide +kernel
theorem dL_law_674 : decode cL_law 674 = .ok (.iload_n 3, 1) := by decide +kernel
theorem dL_law_675 : decode cL_law 675 = .ok (.iconst 4, 1) := by decide +kernel
theorem dL_law_676 : decode cL_law 676 = .ok (.iadd, 1) := by decide +kernel
theorem dL_law_677 : decode cL_law 677 = .ok (.iaload, 1) := by decide +kernel
theorem dL_law_678 : decode cL_law 678 = .ok (.invokevirtual 92, 3) := by decide +kernel
theorem dL_law_681 : decode cL_law 681 = .ok (.if_icmp .eq 193, 3) := by decide +kernel
theorem dL_law_684 : decode cL_law 684 = .ok (.iconst 0, 1) := by decide +kernel
theorem dL_law_685 : decode cL_law 685 = .ok (.ireturn, 1) := by decide +kernel
theorem dL_law_686 : decode cL_law 686 = .ok (.aload_n 1, 1) := by decide +kernel
theorem dL_law_687 : decode cL_law 687 = .ok (.aload_n 0, 1) := by decide +kernel
theorem dL_law_688 : decode cL_law 688 = .ok (.iload_n 3, 1) := by decide +kernel
theorem dL_law_689 : decode cL_law 689 = .ok (.iconst 1, 1) := by decide +kernel
theorem dL_law_690 : decode cL_law 690 = .ok (.iadd, 1) := by decide +kernel
theorem dL_law_691 : decode cL_law 691 = .ok (.iaload, 1) := by decide +kernel
theorem dL_law_692 : decode cL_law 692 = .ok (.invokevirtual 93, 3) := by decide +kernel
theorem dL_law_695 : decode cL_law 695 = .ok (.aload_n 2, 1) := by decide +kernel
theorem dL_law_696 : decode cL_law 696 = .ok (.aload_n 0, 1) := by decide +kernel
theorem dL_law_697 : decode cL_law 697 = .ok (.iload_n 3, 1) := by decide +kernel
theorem dL_law_698 : decode cL_law 698 = .ok (.iconst 1, 1) := by decide +kernel
theorem dL_law_699 : decode cL_law 699 = .ok (.iadd, 1) := by decide +kernel
theorem dL_law_700 : decode cL_law 700 = .ok (.iaload, 1) := by decide +kernel
theorem dL_law_701 : decode cL_law 701 = .ok (.invokevirtual 96, 3) := by decide +kernel
theorem dL_law_704 : decode cL_law 704 = .ok (.if_icmp .eq 170, 3) := by decide +kernel
theorem dL_law_707 : decode cL_law 707 = .ok (.iconst 0, 1) := by decide +kernel
theorem dL_law_708 : decode cL_law 708 = .ok (.ireturn, 1) := by decide +kernel
theorem dL_law_709 : decode cL_law 709 = .ok (.aload_n 1, 1) := by decide +kernel
theorem dL_law_710 : decode cL_law 710 = .ok (.aload_n 0, 1) := by decide +kernel
theorem dL_law_711 : decode cL_law 711 = .ok (.iload_n 3, 1) := by decide +kernel
theorem dL_law_712 : decode cL_law 712 = .ok (.iconst 1, 1) := by decide +kernel
theorem dL_law_713 : decode cL_law 713 = .ok (.iadd, 1) := by decide +kernel
theorem dL_law_714 : decode cL_law 714 = .ok (.iaload, 1) := by decide +kernel
theorem dL_law_715 : decode cL_law 715 = .ok (.aload_n 0, 1) := by decide +kernel
theorem dL_law_716 : decode cL_law 716 = .ok (.iload_n 3, 1) := by decide +kernel
theorem dL_law_717 : decode cL_law 717 = .ok (.iconst 2, 1) := by decide +kernel
theorem dL_law_718 : decode cL_law 718 = .ok (.iadd, 1) := by decide +kernel
theorem dL_law_719 : decode cL_law 719 = .ok (.iaload, 1) := by decide +kernel
theorem dL_law_720 : decode cL_law 720 = .ok (.invokevirtual 97, 3) := by decide +kernel
theorem dL_law_723 : decode cL_law 723 = .ok (.aload_n 2, 1) := by decide +kernel
theorem dL_law_724 : decode cL_law 724 = .ok (.aload_n 0, 1) := by decide +kernel
theorem dL_law_725 : decode cL_law 725 = .ok (.iload_n 3, 1) := by decide +kernel
theorem dL_law_726 : decode cL_law 726 = .ok (.iconst 1, 1) := by decide +kernel
theorem dL_law_727 : decode cL_law 727 = .ok (.iadd, 1) := by decide +kernel
theorem dL_law_728 : decode cL_law 728 = .ok (.iaload, 1) := by decide +kernel
theorem dL_law_729 : decode cL_law 729 = .ok (.aload_n 0, 1) := by decide +kernel
theorem dL_law_730 : decode cL_law 730 = .ok (.iload_n 3, 1) := by decide +kernel
theorem dL_law_731 : decode cL_law 731 = .ok (.iconst 2, 1) := by decide +kernel
theorem dL_law_732 : decode cL_law 732 = .ok (.iadd, 1) := by decide +kernel
theorem dL_law_733 : decode cL_law 733 = .ok (.iaload, 1) := by decide +kernel
theorem dL_law_734 : decode cL_law 734 = .ok (.invokevirtual 100, 3) := by decide +kernel
theorem dL_law_737 : decode cL_law 737 = .ok (.if_icmp .eq 137, 3) := by decide +kernel
theorem dL_law_740 : decode cL_law 740 = .ok (.iconst 0, 1) := by decide +kernel
theorem dL_law_741 : decode cL_law 741 = .ok (.ireturn, 1) := by decide +kernel
theorem dL_law_742 : decode cL_law 742 = .ok (.aload_n 1, 1) := by decide +kernel
theorem dL_law_743 : decode cL_law 743 = .ok (.aload_n 0, 1) := by decide +kernel
theorem dL_law_744 : decode cL_law 744 = .ok (.iload_n 3, 1) := by decide +kernel
theorem dL_law_745 : decode cL_law 745 = .ok (.iconst 1, 1) := by decide +kernel
theorem dL_law_746 : decode cL_law 746 = .ok (.iadd, 1) := by decide +kernel
theorem dL_law_747 : decode cL_law 747 = .ok (.iaload, 1) := by decide +kernel
theorem dL_law_748 : decode cL_law 748 = .ok (.invokevirtual 101, 3) := by decide +kernel
theorem dL_law_751 : decode cL_law 751 = .ok (.aload_n 2, 1) := by decide +kernel
theorem dL_law_752 : decode cL_law 752 = .ok (.aload_n 0, 1) := by decide +kernel
theorem dL_law_753 : decode cL_law 753 = .ok (.iload_n 3, 1) := by decide +kernel
theorem dL_law_754 : decode cL_law 754 = .ok (.iconst 1, 1) := by decide +kernel
theorem dL_law_755 : decode cL_law 755 = .ok (.iadd, 1) := by decide +kernel
theorem dL_law_756 : decode cL_law 756 = .ok (.iaload, 1) := by decide +kernel
theorem dL_law_757 : decode cL_law 757 = .ok (.invokevirtual 104, 3) := by decide +kernel
theorem dL_law_760 : decode cL_law 760 = .ok (.if_icmp .eq 114, 3) := by decide +kernel
theorem dL_law_763 : decode cL_law 763 = .ok (.iconst 0, 1) := by decide +kernel
theorem dL_law_764 : decode cL_law 764 = .ok (.ireturn, 1) := by decide +kernel
theorem dL_law_765 : decode cL_law 765 = .ok (.aload_n 1, 1) := by decide +kernel
theorem dL_law_766 : decode cL_law 766 = .ok (.aload_n 0, 1) := by decide +kernel
theorem dL_law_767 : decode cL_law 767 = .ok (.iload_n 3, 1) := by decide +kernel
theorem dL_law_768 : decode cL_law 768 = .ok (.iconst 1, 1) := by decide +kernel
theorem dL_law_769 : decode cL_law 769 = .ok (.iadd, 1) := by decide +kernel
theorem dL_law_770 : decode cL_law 770 = .ok (.iaload, 1) := by decide +kernel
theorem dL_law_771 : decode cL_law 771 = .ok (.aload_n 0, 1) := by decide +kernel
theorem dL_law_772 : decode cL_law 772 = .ok (.iload_n 3, 1) := by decide +kernel
theorem dL_law_773 : decode cL_law 773 = .ok (.iconst 2, 1) := by decide +kernel
theorem dL_law_774 : decode cL_law 774 = .ok (.iadd, 1) := by decide +kernel
theorem dL_law_775 : decode cL_law 775 = .ok (.iaload, 1) := by decide +kernel
theorem dL_law_776 : decode cL_law 776 = .ok (.aload_n 0, 1) := by decide +kernel
theorem dL_law_777 : decode cL_law 777 = .ok (.iload_n 3, 1) := by decide +kernel
theorem dL_law_778 : decode cL_law 778 = .ok (.iconst 3, 1) := by decide +kernel
theorem dL_law_779 : decode cL_law 779 = .ok (.iadd, 1) := by decide +kernel
theorem dL_law_780 : decode cL_law 780 = .ok (.iaload, 1) := by decide +kernel
theorem dL_law_781 : decode cL_law 781 = .ok (.invokevirtual 105, 3) := by decide +kernel
theorem dL_law_784 : decode cL_law 784 = .ok (.aload_n 2, 1) := by decide +kernel
theorem dL_law_785 : decode cL_law 785 = .ok (.aload_n 0, 1) := by decide +kernel
theorem dL_law_786 : decode cL_law 786 = .ok (.iload_n 3, 1) := by decide +kernel
theorem dL_law_787 : decode cL_law 787 = .ok (.iconst 1, 1) := by decide +kernel
theorem dL_law_788 : decode cL_law 788 = .ok (.iadd, 1) := by decide +kernel
theorem dL_law_789 : decode cL_law 789 = .ok (.iaload, 1) := by decide +kernel
theorem dL_law_790 : decode cL_law 790 = .ok (.aload_n 0, 1) := by decide +kernel
theorem dL_law_791 : decode cL_law 791 = .ok (.iload_n 3, 1) := by decide +kernel
theorem dL_law_792 : decode cL_law 792 = .ok (.iconst 2, 1) := by decide +kernel
theorem dL_law_793 : decode cL_law 793 = .ok (.iadd, 1) := by decide +kernel
theorem dL_law_794 : decode cL_law 794 = .ok (.iaload, 1) := by decide +kernel
theorem dL_law_795 : decode cL_law 795 = .ok (.aload_n 0, 1) := by decide +kernel
theorem dL_law_796 : decode cL_law 796 = .ok (.iload_n 3, 1) := by decide +kernel
theorem dL_law_797 : decode cL_law 797 = .ok (.iconst 3, 1) := by decide +kernel
theorem dL_law_798 : decode cL_law 798 = .ok (.iadd, 1) := by decide +kernel
theorem dL_law_799 : decode cL_law 799 = .ok (.iaload, 1) := by decide +kernel
theorem dL_law_800 : decode cL_law 800 = .ok (.invokevirtual 108, 3) := by decide +kernel
theorem dL_law_803 : decode cL_law 803 = .ok (.if_icmp .eq 71, 3) := by decide +kernel
theorem dL_law_806 : decode cL_law 806 = .ok (.iconst 0, 1) := by decide +kernel
theorem dL_law_807 : decode cL_law 807 = .ok (.ireturn, 1) := by decide +kernel
theorem dL_law_808 : decode cL_law 808 = .ok (.aload_n 1, 1) := by decide +kernel
theorem dL_law_809 : decode cL_law 809 = .ok (.aload_n 0, 1) := by decide +kernel
theorem dL_law_810 : decode cL_law 810 = .ok (.iload_n 3, 1) := by decide +kernel
theorem dL_law_811 : decode cL_law 811 = .ok (.iconst 1, 1) := by decide +kernel
theorem dL_law_812 : decode cL_law 812 = .ok (.iadd, 1) := by decide +kernel
theorem dL_law_813 : decode cL_law 813 = .ok (.iaload, 1) := by decide +kernel
theorem dL_law_814 : decode cL_law 814 = .ok (.aload_n 0, 1) := by decide +kernel
theorem dL_law_815 : decode cL_law 815 = .ok (.iload_n 3, 1) := by decide +kernel
theorem dL_law_816 : decode cL_law 816 = .ok (.iconst 2, 1) := by decide +kernel
theorem dL_law_817 : decode cL_law 817 = .ok (.iadd, 1) := by decide +kernel
theorem dL_law_818 : decode cL_law 818 = .ok (.iaload, 1) := by decide +kernel
theorem dL_law_819 : decode cL_law 819 = .ok (.aload_n 0, 1) := by decide +kernel
theorem dL_law_820 : decode cL_law 820 = .ok (.iload_n 3, 1) := by decide +kernel
theorem dL_law_821 : decode cL_law 821 = .ok (.iconst 3, 1) := by decide +kernel
theorem dL_law_822 : decode cL_law 822 = .ok (.iadd, 1) := by decide +kernel
theorem dL_law_823 : decode cL_law 823 = .ok (.iaload, 1) := by decide +kernel
theorem dL_law_824 : decode cL_law 824 = .ok (.invokevirtual 109, 3) := by decide +kernel
theorem dL_law_827 : decode cL_law 827 = .ok (.aload_n 2, 1) := by decide +kernel
theorem dL_law_828 : decode cL_law 828 = .ok (.aload_n 0, 1) := by decide +kernel
theorem dL_law_829 : decode cL_law 829 = .ok (.iload_n 3, 1) := by decide +kernel
theorem dL_law_830 : decode cL_law 830 = .ok (.iconst 1, 1) := by decide +kernel
theorem dL_law_831 : decode cL_law 831 = .ok (.iadd, 1) := by decide +kernel
theorem dL_law_832 : decode cL_law 832 = .ok (.iaload, 1) := by decide +kernel
theorem dL_law_833 : decode cL_law 833 = .ok (.aload_n 0, 1) := by decide +kernel
theorem dL_law_834 : decode cL_law 834 = .ok (.iload_n 3, 1) := by decide +kernel
theorem dL_law_835 : decode cL_law 835 = .ok (.iconst 2, 1) := by decide +kernel
theorem dL_law_836 : decode cL_law 836 = .ok (.iadd, 1) := by decide +kernel
theorem dL_law_837 : decode cL_law 837 = .ok (.iaload, 1) := by decide +kernel
theorem dL_law_838 : decode cL_law 838 = .ok (.aload_n 0, 1) := by decide +kernel
theorem dL_law_839 : decode cL_law 839 = .ok (.iload_n 3, 1) := by decide +kernel
theorem dL_law_840 : decode cL_law 840 = .ok (.iconst 3, 1) := by decide +kernel
theorem dL_law_841 : decode cL_law 841 = .ok (.iadd, 1) := by decide +kernel
theorem dL_law_842 : decode cL_law 842 = .ok (.iaload, 1) := by decide +kernel
theorem dL_law_843 : decode cL_law 843 = .ok (.invokevirtual 112, 3) := by decide +kernel
theorem dL_law_846 : decode cL_law 846 = .ok (.if_icmp .eq 28, 3) := by decide +kernel
theorem dL_law_849 : decode cL_law 849 = .ok (.iconst 0, 1) := by decide +kernel
theorem dL_law_850 : decode cL_law 850 = .ok (.ireturn, 1) := by decide +kernel
theorem dL_law_851 : decode cL_law 851 = .ok (.aload_n 1, 1) := by decide +kernel
theorem dL_law_852 : decode cL_law 852 = .ok (.aload_n 0, 1) := by decide +kernel
theorem dL_law_853 : decode cL_law 853 = .ok (.iload_n 3, 1) := by decide +kernel
theorem dL_law_854 : decode cL_law 854 = .ok (.iconst 1, 1) := by decide +kernel
theorem dL_law_855 : decode cL_law 855 = .ok (.iadd, 1) := by decide +kernel
theorem dL_law_856 : decode cL_law 856 = .ok (.iaload, 1) := by decide +kernel
theorem dL_law_857 : decode cL_law 857 = .ok (.invokevirtual 113, 3) := by decide +kernel
theorem dL_law_860 : decode cL_law 860 = .ok (.aload_n 2, 1) := by decide +kernel
theorem dL_law_861 : decode cL_law 861 = .ok (.aload_n 0, 1) := by decide +kernel
theorem dL_law_862 : decode cL_law 862 = .ok (.iload_n 3, 1) := by decide +kernel
theorem dL_law_863 : decode cL_law 863 = .ok (.iconst 1, 1) := by decide +kernel
theorem dL_law_864 : decode cL_law 864 = .ok (.iadd, 1) := by decide +kernel
theorem dL_law_865 : decode cL_law 865 = .ok (.iaload, 1) := by decide +kernel
theorem dL_law_866 : decode cL_law 866 = .ok (.invokevirtual 116, 3) := by decide +kernel
theorem dL_law_869 : decode cL_law 869 = .ok (.if_icmp .eq 5, 3) := by decide +kernel
theorem dL_law_872 : decode cL_law 872 = .ok (.iconst 0, 1) := by decide +kernel
theorem dL_law_873 : decode cL_law 873 = .ok (.ireturn, 1) := by decide +kernel
theorem dL_law_874 : decode cL_law 874 = .ok (.iinc 3 6, 3) := by decide +kernel
theorem dL_law_877 : decode cL_law 877 = .ok (.goto (-859), 3) := by decide +kernel
theorem dL_law_880 : decode cL_law 880 = .ok (.iconst 1, 1) := by decide +kernel
theorem dL_law_881 : decode cL_law 881 = .ok (.ireturn, 1) := by decide +kernel
