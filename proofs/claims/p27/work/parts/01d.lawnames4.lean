set_option maxRecDepth 20000 in
theorem ggl_does_c : GoodIn wsL_law [.code yL_does cL_does 9 (some .int)] := goodIn_r _ [142] (by decide +kernel) (by decide +kernel)
set_option maxRecDepth 20000 in
theorem ggl_wsL_does_r1 : GoodIn wsL_law wsL_does_r1 := goodIn_r _ [143, 144, 145, 35, 146, 147, 148, 149, 150, 131, 132, 133, 2, 134, 13, 135, 136, 137, 138, 12, 139, 25, 67, 68] (by decide +kernel) (by decide +kernel)
set_option maxRecDepth 20000 in
theorem ggl_wsL_does_r2 : GoodIn wsL_law wsL_does_r2 := goodIn_r _ [37, 38, 39, 40, 41, 42, 43, 44, 14, 45, 46, 47, 48, 49, 50, 51, 52, 26, 53, 27, 54, 55, 56, 57] (by decide +kernel) (by decide +kernel)
set_option maxRecDepth 20000 in
theorem ggl_wsL_does_r3 : GoodIn wsL_law wsL_does_r3 := goodIn_r _ [58, 59, 60, 61, 62, 63, 64, 65, 66, 69, 70, 71, 72, 73, 74, 75, 16, 76, 77, 78, 79, 80, 151, 152] (by decide +kernel) (by decide +kernel)
set_option maxRecDepth 20000 in
theorem ggl_wsL_does_r4 : GoodIn wsL_law wsL_does_r4 := goodIn_r _ [153, 154, 155, 156, 157, 158, 159, 160, 161, 162, 163, 164, 165, 166, 167, 168, 169, 170, 171, 172, 173, 174, 175, 176] (by decide +kernel) (by decide +kernel)
set_option maxRecDepth 20000 in
theorem ggl_wsL_does_r5 : GoodIn wsL_law wsL_does_r5 := goodIn_r _ [177, 178, 179, 180, 181, 182, 183, 184, 185, 186, 187, 188, 189, 190, 99, 100, 101, 102, 103, 104, 105, 191, 192, 193] (by decide +kernel) (by decide +kernel)
set_option maxRecDepth 20000 in
theorem ggl_wsL_does_r6 : GoodIn wsL_law wsL_does_r6 := goodIn_r _ [194, 195, 196, 197, 198, 199, 200, 201, 202, 203, 204, 205, 206, 207, 208, 209, 210, 211, 212, 213, 214, 215, 216, 217] (by decide +kernel) (by decide +kernel)
set_option maxRecDepth 20000 in
theorem ggl_wsL_does_r7 : GoodIn wsL_law wsL_does_r7 := goodIn_r _ [218, 92, 93, 94, 95, 96, 97, 219, 220, 221, 222, 223, 224, 225, 226, 227, 228, 229, 230, 231, 232, 233, 234, 235] (by decide +kernel) (by decide +kernel)
set_option maxRecDepth 20000 in
theorem ggl_wsL_does_r8 : GoodIn wsL_law wsL_does_r8 := goodIn_r _ [236, 237, 238, 239, 240, 241, 242, 243, 244, 245, 246] (by decide +kernel) (by decide +kernel)
theorem ggl_does_wsX20 : GoodIn wsL_law wsX20 := goodIn_sub inlX2 (by decide +kernel)
theorem ggl_does_wsX10 : GoodIn wsL_law wsX10 := goodIn_sub inlX1 (by decide +kernel)
theorem ggL_law_L_does : GoodIn wsL_law wsL_does := goodIn_ca (a := []) ggl_does_c (goodIn_app (goodIn_app (goodIn_app ggl_wsL_does_r1 (goodIn_app ggl_wsL_does_r2 (goodIn_app ggl_wsL_does_r3 (goodIn_app ggl_wsL_does_r4 (goodIn_app ggl_wsL_does_r5 (goodIn_app ggl_wsL_does_r6 (goodIn_app ggl_wsL_does_r7 (ggl_wsL_does_r8)))))))) ggl_does_wsX20) ggl_does_wsX10)
set_option maxRecDepth 20000 in
theorem gL_law_L_does : GoodIn wsL_law (va_wsS RL 87 yL_does wsL_does) := goodIn_app (goodIn_of _ (by decide +kernel)) ggL_law_L_does
set_option maxRecDepth 20000 in
theorem ggL_law_L_bits : GoodIn wsL_law wsL_bits := goodIn_r _ [249] (by decide +kernel) (by decide +kernel)
set_option maxRecDepth 20000 in
theorem gL_law_L_bits : GoodIn wsL_law (va_wsS RL 72 yL_bits wsL_bits) := goodIn_app (goodIn_of _ (by decide +kernel)) ggL_law_L_bits
set_option maxRecDepth 20000 in
theorem ggL_law_L_low : GoodIn wsL_law wsL_low := goodIn_r _ [146, 147] (by decide +kernel) (by decide +kernel)
set_option maxRecDepth 20000 in
theorem gL_law_L_low : GoodIn wsL_law (va_wsS RL 8 yL_low wsL_low) := goodIn_app (goodIn_of _ (by decide +kernel)) ggL_law_L_low
set_option maxRecDepth 20000 in
theorem ggl_areTextsSo_c : GoodIn wsL_law [.code yL_areTextsSo cL_areTextsSo 16 (some .boolean)] := goodIn_r _ [252] (by decide +kernel) (by decide +kernel)
set_option maxRecDepth 20000 in
theorem ggl_wsL_areTextsSo_r1 : GoodIn wsL_law wsL_areTextsSo_r1 := goodIn_r _ [148, 149, 35, 150, 131, 132, 133, 2, 134, 13, 135, 136, 137, 138, 12, 139, 25, 67, 68, 253, 254, 255, 256, 257] (by decide +kernel) (by decide +kernel)
set_option maxRecDepth 20000 in
theorem ggl_wsL_areTextsSo_r2 : GoodIn wsL_law wsL_areTextsSo_r2 := goodIn_r _ [258, 188, 189, 98, 99, 100, 101, 102, 103, 104, 105, 26, 259, 260, 261, 262, 263, 264, 265, 266, 267, 204, 205, 206] (by decide +kernel) (by decide +kernel)
set_option maxRecDepth 20000 in
theorem ggl_wsL_areTextsSo_r3 : GoodIn wsL_law wsL_areTextsSo_r3 := goodIn_r _ [268, 269, 270, 271, 127, 128, 129, 130, 272, 273, 274, 275, 190, 159, 106, 107, 108, 109, 90, 110, 111, 112, 113, 76] (by decide +kernel) (by decide +kernel)
set_option maxRecDepth 20000 in
theorem ggl_wsL_areTextsSo_r4 : GoodIn wsL_law wsL_areTextsSo_r4 := goodIn_r _ [20, 114, 115, 116, 117, 118, 119, 120, 121, 122, 123, 124, 125, 126, 91, 92, 93, 94, 95, 96, 97, 247, 248, 249] (by decide +kernel) (by decide +kernel)
set_option maxRecDepth 20000 in
theorem ggl_wsL_areTextsSo_r5 : GoodIn wsL_law wsL_areTextsSo_r5 := goodIn_r _ [276, 277, 278, 279, 89, 41, 42, 43, 44, 14, 45, 46, 47, 48, 49, 50, 51, 52, 53, 27, 54, 55, 56, 57] (by decide +kernel) (by decide +kernel)
set_option maxRecDepth 20000 in
theorem ggl_wsL_areTextsSo_r6 : GoodIn wsL_law wsL_areTextsSo_r6 := goodIn_r _ [58, 59, 60, 61, 184, 185, 186, 187, 280, 215, 216, 217, 199, 200, 201, 202, 207, 208, 209, 210, 211, 212, 79, 213] (by decide +kernel) (by decide +kernel)
set_option maxRecDepth 20000 in
theorem ggl_wsL_areTextsSo_r7 : GoodIn wsL_law wsL_areTextsSo_r7 := goodIn_r _ [239, 240, 241, 242, 243, 244, 245, 246] (by decide +kernel) (by decide +kernel)
theorem ggl_areTextsSo_wsX20 : GoodIn wsL_law wsX20 := goodIn_sub inlX2 (by decide +kernel)
theorem ggl_areTextsSo_wsX10 : GoodIn wsL_law wsX10 := goodIn_sub inlX1 (by decide +kernel)
theorem ggl_areTextsSo_wsX00 : GoodIn wsL_law wsX00 := goodIn_sub inlX0 (by decide +kernel)
theorem ggL_law_L_areTextsSo : GoodIn wsL_law wsL_areTextsSo := goodIn_ca (a := []) ggl_areTextsSo_c (goodIn_app (goodIn_app (goodIn_app (goodIn_app ggl_wsL_areTextsSo_r1 (goodIn_app ggl_wsL_areTextsSo_r2 (goodIn_app ggl_wsL_areTextsSo_r3 (goodIn_app ggl_wsL_areTextsSo_r4 (goodIn_app ggl_wsL_areTextsSo_r5 (goodIn_app ggl_wsL_areTextsSo_r6 (ggl_wsL_areTextsSo_r7))))))) ggl_areTextsSo_wsX20) ggl_areTextsSo_wsX10) ggl_areTextsSo_wsX00)
set_option maxRecDepth 20000 in
theorem gL_law_L_areTextsSo : GoodIn wsL_law (va_wsS RL 90 yL_areTextsSo wsL_areTextsSo) := goodIn_app (goodIn_of _ (by decide +kernel)) ggL_law_L_areTextsSo
