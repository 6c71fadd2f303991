set_option maxRecDepth 20000 in
theorem ggL_law_X10_init : GoodIn wsL_law wsX10_init := goodIn_r _ [7, 8, 9, 10, 11, 12, 13, 14, 15, 16, 17, 18, 19, 20, 21, 22, 23, 24, 25, 26, 27, 28, 29, 30, 31, 32, 33, 34, 35, 36, 37, 38, 39, 3, 40, 41, 42, 43, 44, 45, 46, 47, 48, 49, 50, 51, 52, 53, 54, 55, 56, 57, 58, 59, 60, 61, 62, 63, 64, 65, 66, 67, 68, 69, 70, 71, 72, 73, 74, 75, 76, 77, 78, 79, 80, 81, 82, 83, 84, 85, 86, 87, 88, 671, 672, 673, 664, 665, 666, 667, 668, 669, 670, 674, 675, 676, 677, 678, 679, 680, 681, 682, 683, 684, 685, 686, 687, 688, 689, 690, 691, 692, 693, 694, 695, 696] (by decide +kernel) (by decide +kernel)
set_option maxRecDepth 20000 in
theorem gL_law_X10_init : GoodIn wsL_law (wsX10_init) := ggL_law_X10_init
set_option maxRecDepth 20000 in
theorem ggL_law_L_draws : GoodIn wsL_law wsL_draws := goodIn_r _ [92, 93, 94, 91, 95, 96, 97] (by decide +kernel) (by decide +kernel)
set_option maxRecDepth 20000 in
theorem gL_law_L_draws : GoodIn wsL_law (va_wsS RL 87 yL_draws wsL_draws) := goodIn_app (goodIn_of _ (by decide +kernel)) ggL_law_L_draws
set_option maxRecDepth 20000 in
theorem ggL_law_L_lays : GoodIn wsL_law wsL_lays := goodIn_r _ [100, 101, 102, 103, 2, 104, 105, 19, 106, 107, 108, 109, 110, 111, 112, 113, 18, 114, 115, 116, 117, 118, 119, 53, 120, 121, 91, 122, 123, 124, 125, 126, 127, 128, 129, 130, 131, 14, 132, 133, 134, 135, 136, 137, 138, 139, 55, 140, 141, 142, 143, 144, 145, 146, 147, 38, 148, 46, 149, 150, 151, 152, 153, 154, 155, 156, 157, 158, 159, 45, 160, 161, 162, 163, 164, 165, 166, 167, 168, 169, 170, 171, 172, 173, 174, 175, 176, 177, 178, 13, 179, 39, 180, 181, 182, 183, 184, 185, 186, 187, 188, 189, 190, 47, 664, 665, 666, 667, 668, 669, 670, 674, 675, 676, 677, 678, 679, 671, 672, 673, 690, 691, 692, 693, 694] (by decide +kernel) (by decide +kernel)
set_option maxRecDepth 20000 in
theorem gL_law_L_lays : GoodIn wsL_law (va_wsS RL 91 yL_lays wsL_lays) := goodIn_app (goodIn_of _ (by decide +kernel)) ggL_law_L_lays
set_option maxRecDepth 20000 in
theorem ggL_law_L_stands : GoodIn wsL_law wsL_stands := goodIn_r _ [193, 4, 194, 195, 196, 2, 197, 14, 133, 134, 198, 23, 199, 200, 105, 201, 202, 203, 22, 204, 62, 205, 206, 207, 208, 65, 209, 210, 211, 212, 213, 214, 38, 215, 46, 216, 217, 218, 219, 220, 221, 222, 223, 224, 225, 226, 227, 45, 228, 229, 230, 231, 232, 233, 174, 234, 235, 236, 237, 238, 190, 239, 240, 241, 242, 243, 244, 245, 246, 108, 109, 110, 247, 248, 249, 250, 251, 252, 253, 254, 255, 256, 257, 258, 259, 260, 261, 262, 263, 264, 265, 266, 267, 268, 269, 270, 271, 272, 273, 274, 91, 275, 276, 277, 278, 279, 280, 281, 282, 283, 284, 285, 286, 287, 288, 289, 290, 664, 665, 666, 667, 668, 669, 670, 671, 672, 673, 690, 691, 692, 693, 694, 680, 681, 682, 683] (by decide +kernel) (by decide +kernel)
set_option maxRecDepth 20000 in
theorem gL_law_L_stands : GoodIn wsL_law (va_wsS RL 95 yL_stands wsL_stands) := goodIn_app (goodIn_of _ (by decide +kernel)) ggL_law_L_stands
set_option maxRecDepth 20000 in
theorem ggL_law_L_cell : GoodIn wsL_law wsL_cell := goodIn_r _ [95, 96, 97] (by decide +kernel) (by decide +kernel)
set_option maxRecDepth 20000 in
theorem gL_law_L_cell : GoodIn wsL_law (va_wsS RL 9 yL_cell wsL_cell) := goodIn_app (goodIn_of _ (by decide +kernel)) ggL_law_L_cell
set_option maxRecDepth 20000 in
theorem ggL_law_L_acts : GoodIn wsL_law wsL_acts := goodIn_r _ [293, 294, 295, 296, 297, 298, 299, 2, 300, 105, 14, 133, 134, 106, 108, 109, 110, 301, 302, 38, 303, 304, 305, 306, 307, 13, 308, 181, 40, 309, 187, 188, 189, 39, 310, 311, 312, 313, 45, 186, 190, 46, 47, 314, 315, 316, 317, 318, 157, 158, 159, 149, 319, 320, 321, 322, 323, 324, 325, 326, 327, 328, 329, 330, 331, 332, 333, 334, 335, 336, 337, 338, 339, 340, 225, 226, 227, 341, 342, 343, 344, 345, 346, 347, 348, 349, 23, 350, 351, 352, 353, 251, 201, 202, 203, 22, 204, 62, 205, 206, 207, 208, 65, 209, 210, 211, 212, 213, 214, 215, 216, 217, 218, 219, 220, 221, 222, 223, 224, 228, 229, 230, 231, 232, 233, 174, 234, 235, 236, 237, 238, 354, 355, 91, 356, 357, 358, 359, 360, 361, 362, 363, 364, 365, 366, 367, 368, 369, 370, 371, 372, 373, 374, 375, 198, 376, 146, 147, 148, 664, 665, 666, 667, 668, 669, 670, 671, 672, 673, 690, 691, 692, 693, 694, 680, 681, 682, 683] (by decide +kernel) (by decide +kernel)
set_option maxRecDepth 20000 in
theorem gL_law_L_acts : GoodIn wsL_law (va_wsS RL 98 yL_acts wsL_acts) := goodIn_app (goodIn_of _ (by decide +kernel)) ggL_law_L_acts
