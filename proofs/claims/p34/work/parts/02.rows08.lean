set_option maxRecDepth 20000 in
theorem ggL_law_L_is : GoodIn wsL_law wsL_is := goodIn_r _ [517, 295, 194, 195, 196, 2, 197, 14, 133, 134, 198, 23, 199, 200, 105, 201, 202, 203, 22, 204, 62, 205, 206, 207, 208, 65, 209, 210, 211, 212, 213, 214, 38, 215, 46, 216, 217, 218, 219, 220, 221, 222, 223, 224, 225, 226, 227, 45, 228, 229, 230, 231, 232, 233, 174, 234, 235, 236, 237, 238, 190, 239, 240, 241, 242, 518, 519, 520, 521, 323, 324, 325, 326, 108, 109, 110, 340, 522, 523, 524, 525, 526, 366, 367, 91, 368, 243, 244, 245, 246, 247, 248, 249, 250, 251, 252, 253, 363, 364, 365, 369, 370, 371, 664, 665, 666, 667, 668, 669, 670, 671, 672, 673, 690, 691, 692, 693, 694, 680, 681, 682, 683] (by decide +kernel) (by decide +kernel)
set_option maxRecDepth 20000 in
theorem gL_law_L_is : GoodIn wsL_law (va_wsS RL 121 yL_is wsL_is) := goodIn_app (goodIn_of _ (by decide +kernel)) ggL_law_L_is
set_option maxRecDepth 20000 in
theorem ggL_law_X10_seed : GoodIn wsL_law wsX10_seed := goodIn_r _ [639, 105, 14, 133, 640, 664, 665, 666, 667, 668, 669, 670, 671, 672, 673, 690, 691, 692, 693, 694] (by decide +kernel) (by decide +kernel)
set_option maxRecDepth 20000 in
theorem gL_law_X10_seed : GoodIn wsL_law (wsV RL 124 RX10 yX10_seed wsX10_seed) := goodIn_app (goodIn_of _ (by decide +kernel)) ggL_law_X10_seed
set_option maxRecDepth 20000 in
theorem ggL_law_X10_drift : GoodIn wsL_law wsX10_drift := goodIn_r _ [644, 105, 14, 133, 23, 108, 109, 2, 110, 305, 306, 307, 13, 308, 181, 40, 309, 187, 188, 189, 39, 310, 311, 312, 38, 313, 45, 186, 190, 46, 47, 645, 646, 647, 648, 649, 650, 651, 318, 157, 158, 159, 149, 201, 202, 203, 22, 204, 62, 205, 206, 207, 208, 65, 209, 210, 211, 212, 213, 214, 215, 216, 217, 218, 219, 220, 221, 222, 223, 224, 225, 226, 227, 228, 229, 230, 231, 232, 233, 174, 234, 235, 236, 237, 238, 664, 665, 666, 667, 668, 669, 670, 671, 672, 673, 690, 691, 692, 693, 694, 680, 681, 682, 683] (by decide +kernel) (by decide +kernel)
set_option maxRecDepth 20000 in
theorem gL_law_X10_drift : GoodIn wsL_law (wsV RL 127 RX10 yX10_drift wsX10_drift) := goodIn_app (goodIn_of _ (by decide +kernel)) ggL_law_X10_drift
set_option maxRecDepth 20000 in
theorem ggL_law_X10_hold : GoodIn wsL_law wsX10_hold := goodIn_r _ [246, 105, 14, 133, 108, 109, 2, 110, 247, 248, 249, 38, 250, 190, 251, 225, 226, 227, 45, 252, 229, 230, 231, 216, 217, 218, 219, 253, 233, 174, 234, 664, 665, 666, 667, 668, 669, 670, 671, 672, 673, 690, 691, 692, 693, 694] (by decide +kernel) (by decide +kernel)
set_option maxRecDepth 20000 in
theorem gL_law_X10_hold : GoodIn wsL_law (wsV RL 84 RX10 yX10_hold wsX10_hold) := goodIn_app (goodIn_of _ (by decide +kernel)) ggL_law_X10_hold
set_option maxRecDepth 20000 in
theorem ggL_law_X10_count : GoodIn wsL_law wsX10_count := goodIn_r _ [197, 14, 133, 134, 198, 23, 199, 200, 105, 201, 202, 203, 22, 204, 62, 205, 206, 207, 208, 65, 209, 210, 211, 212, 213, 214, 38, 215, 46, 216, 217, 218, 219, 220, 221, 222, 223, 224, 225, 226, 227, 45, 228, 229, 230, 231, 232, 233, 174, 234, 235, 236, 237, 238, 190, 239, 240, 241, 242, 664, 665, 666, 667, 668, 669, 670, 671, 672, 673, 690, 691, 692, 693, 694, 680, 681, 682, 683] (by decide +kernel) (by decide +kernel)
set_option maxRecDepth 20000 in
theorem gL_law_X10_count : GoodIn wsL_law (wsV RL 76 RX10 yX10_count wsX10_count) := goodIn_app (goodIn_of _ (by decide +kernel)) ggL_law_X10_count
set_option maxRecDepth 20000 in
theorem ggL_law_X10_undo : GoodIn wsL_law wsX10_undo := goodIn_r _ [655, 14, 200, 199, 656, 657, 658, 13, 659, 181, 39, 40, 660, 661, 662, 38, 663, 45, 186, 187, 188, 189, 190, 46, 47, 149, 664, 665, 666, 667, 668, 669, 670, 671, 672, 673, 690, 691, 692, 693, 694] (by decide +kernel) (by decide +kernel)
set_option maxRecDepth 20000 in
theorem gL_law_X10_undo : GoodIn wsL_law (wsV RL 130 RX10 yX10_undo wsX10_undo) := goodIn_app (goodIn_of _ (by decide +kernel)) ggL_law_X10_undo
