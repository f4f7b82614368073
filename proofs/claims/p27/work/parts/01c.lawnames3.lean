set_option maxRecDepth 20000 in
theorem ggL_law_X2_init : GoodIn wsL_law wsX2_init := goodIn_r _ [6, 7, 8, 9, 10, 11, 12, 13, 14, 15, 16, 17, 18, 19, 20, 21, 22, 23, 24, 25, 26, 27, 28, 29, 30, 31, 32, 291, 292, 293, 294, 295, 296, 297, 298, 299, 300, 301, 302, 281, 282, 283, 284, 285, 286, 287, 288, 289, 290, 303, 304, 305, 306, 307, 308, 309, 310, 311, 312] (by decide +kernel) (by decide +kernel)
set_option maxRecDepth 20000 in
theorem gL_law_X2_init : GoodIn wsL_law (wsX2_init) := ggL_law_X2_init
set_option maxRecDepth 20000 in
theorem ggL_law_L_cell : GoodIn wsL_law wsL_cell := goodIn_r _ [36] (by decide +kernel) (by decide +kernel)
set_option maxRecDepth 20000 in
theorem gL_law_L_cell : GoodIn wsL_law (va_wsS RL 79 yL_cell wsL_cell) := goodIn_app (goodIn_of _ (by decide +kernel)) ggL_law_L_cell
set_option maxRecDepth 20000 in
theorem ggL_law_X2_addText : GoodIn wsL_law wsX2_addText := goodIn_r _ [40, 41, 42, 43, 2, 44, 14, 13, 45, 46, 47, 12, 48, 25, 49, 50, 51, 52, 26, 53, 27, 54, 55, 56, 57, 58, 59, 60, 61, 62, 63, 64, 65, 66, 67, 68, 69, 70, 71, 72, 73, 74, 75, 16, 76, 77, 78, 79, 80, 281, 282, 283, 284, 285, 286, 287, 288, 289, 290, 291, 292, 293, 294, 295, 296, 297, 298, 299, 300, 301, 302] (by decide +kernel) (by decide +kernel)
set_option maxRecDepth 20000 in
theorem gL_law_X2_addText : GoodIn wsL_law (wsV RL 19 RX2 yX2_addText wsX2_addText) := goodIn_app (goodIn_of _ (by decide +kernel)) ggL_law_X2_addText
set_option maxRecDepth 20000 in
theorem ggL_law_X2_visitor : GoodIn wsL_law wsX2_visitor := goodIn_r _ [84, 13, 85, 86, 87, 88, 89, 90, 91, 92, 93, 94, 95, 96, 97, 98, 99, 100, 12, 101, 25, 67, 2, 68, 102, 103, 104, 105, 26, 281, 282, 283, 284, 285, 286, 287, 288, 289, 290, 291, 292, 293, 294, 295, 296, 297, 298, 299, 300, 301, 302] (by decide +kernel) (by decide +kernel)
set_option maxRecDepth 20000 in
theorem gL_law_X2_visitor : GoodIn wsL_law (wsV RL 84 RX2 yX2_visitor wsX2_visitor) := goodIn_app (goodIn_of _ (by decide +kernel)) ggL_law_X2_visitor
set_option maxRecDepth 20000 in
theorem ggL_law_X2_count : GoodIn wsL_law wsX2_count := goodIn_r _ [109, 13, 90, 110, 111, 112, 113, 76, 20, 114, 115, 116, 117, 12, 118, 25, 119, 120, 121, 122, 26, 123, 124, 125, 126, 127, 128, 129, 130, 91, 92, 93, 94, 95, 96, 97, 281, 282, 283, 284, 285, 286, 287, 288, 289, 290, 291, 292, 293, 294, 295, 296, 297, 298, 299, 300, 301, 302, 303, 304, 305, 306, 307, 308, 309, 310, 311, 312] (by decide +kernel) (by decide +kernel)
set_option maxRecDepth 20000 in
theorem gL_law_X2_count : GoodIn wsL_law (wsV RL 69 RX2 yX2_count wsX2_count) := goodIn_app (goodIn_of _ (by decide +kernel)) ggL_law_X2_count
set_option maxRecDepth 20000 in
theorem ggL_law_X2_text : GoodIn wsL_law wsX2_text := goodIn_r _ [134, 13, 135, 136, 137, 138, 12, 139, 25, 67, 2, 68, 281, 282, 283, 284, 285, 286, 287, 288, 289, 290, 291, 292, 293, 294, 295, 296, 297, 298, 299, 300, 301, 302] (by decide +kernel) (by decide +kernel)
set_option maxRecDepth 20000 in
theorem gL_law_X2_text : GoodIn wsL_law (wsV RL 32 RX2 yX2_text wsX2_text) := goodIn_app (goodIn_of _ (by decide +kernel)) ggL_law_X2_text
