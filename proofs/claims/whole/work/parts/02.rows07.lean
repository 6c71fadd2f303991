set_option maxRecDepth 20000 in
theorem ggL_law_X10_init : GoodIn wsL_law wsX10_init := goodIn_r _ [9, 10, 11, 12, 13, 14, 15, 16, 17, 18, 19, 20, 21, 22, 23, 24, 25, 26, 27, 28, 29, 30, 31, 32, 33, 34, 35, 36, 37, 38, 39, 40, 41, 42, 43, 44, 45, 46, 47, 48, 49, 50, 51, 52, 53, 54, 55, 56, 57, 58, 59, 60, 61, 62, 63, 64, 65, 66, 67, 68, 69, 70, 71, 72, 73, 74, 75, 76, 77, 78, 79, 80, 81, 82, 83, 84, 85, 86, 87, 88, 89, 90, 91, 972, 973, 974, 942, 943, 944, 945, 946, 947, 948, 975, 976, 977, 978, 979, 980, 981, 982, 983, 984, 985, 986, 987, 988, 989, 990, 991, 992, 993, 994, 995, 996, 997] (by decide +kernel) (by decide +kernel)
set_option maxRecDepth 20000 in
theorem gL_law_X10_init : GoodIn wsL_law (wsX10_init) := ggL_law_X10_init
set_option maxRecDepth 20000 in
theorem ggL_law_X11_init : GoodIn wsL_law wsX11_init := goodIn_r _ [94, 95, 11, 12, 42, 96, 97, 98, 99, 100, 101, 102, 103, 104, 105, 106, 107, 108, 109, 88, 110, 111, 949, 950, 951, 952, 953, 954, 955, 956, 957, 958, 959, 960, 961, 962, 963, 964, 965, 966, 967, 968, 969, 970, 971] (by decide +kernel) (by decide +kernel)
set_option maxRecDepth 20000 in
theorem gL_law_X11_init : GoodIn wsL_law (wsX11_init) := ggL_law_X11_init
set_option maxRecDepth 20000 in
theorem ggL_law_X10_add : GoodIn wsL_law wsX10_add := goodIn_r _ [115, 116, 16, 117, 118, 119, 120, 121, 2, 122, 123, 124, 40, 125, 126, 127, 128, 129, 15, 130, 131, 43, 132, 133, 134, 135, 41, 136, 137, 138, 139, 48, 140, 141, 49, 50, 142, 143, 144, 145, 146, 147, 148, 149, 150, 942, 943, 944, 945, 946, 947, 948, 972, 973, 974, 991, 992, 993, 994, 995] (by decide +kernel) (by decide +kernel)
set_option maxRecDepth 20000 in
theorem gL_law_X10_add : GoodIn wsL_law (wsV RL 13 RX10 yX10_add wsX10_add) := goodIn_app (goodIn_of _ (by decide +kernel)) ggL_law_X10_add
set_option maxRecDepth 20000 in
theorem ggL_law_X11_add : GoodIn wsL_law wsX11_add := goodIn_r _ [154, 155, 156, 157, 158, 159, 96, 160, 161, 162, 5, 163, 164, 165, 166, 167, 168, 101, 949, 950, 951, 952, 953, 954, 955, 956, 957, 958, 959, 960, 961, 962, 963, 964, 965, 966, 967, 968, 969, 970, 971] (by decide +kernel) (by decide +kernel)
set_option maxRecDepth 20000 in
theorem gL_law_X11_add : GoodIn wsL_law (wsV RL 17 RX11 yX11_add wsX11_add) := goodIn_app (goodIn_of _ (by decide +kernel)) ggL_law_X11_add
set_option maxRecDepth 20000 in
theorem ggL_law_X10_of : GoodIn wsL_law wsX10_of := goodIn_r _ [172, 116, 16, 117, 173, 174, 175, 2, 176, 118, 120, 121, 122, 177, 178, 179, 40, 180, 48, 942, 943, 944, 945, 946, 947, 948, 972, 973, 974, 991, 992, 993, 994, 995] (by decide +kernel) (by decide +kernel)
set_option maxRecDepth 20000 in
theorem gL_law_X10_of : GoodIn wsL_law (wsV RL 18 RX10 yX10_of wsX10_of) := goodIn_app (goodIn_of _ (by decide +kernel)) ggL_law_X10_of
set_option maxRecDepth 20000 in
theorem ggL_law_X11_of : GoodIn wsL_law wsX11_of := goodIn_r _ [184, 185, 96, 159, 186, 187, 188, 5, 189, 161, 162, 163, 949, 950, 951, 952, 953, 954, 955, 956, 957, 958, 959, 960, 961, 962, 963, 964, 965, 966, 967, 968, 969, 970, 971] (by decide +kernel) (by decide +kernel)
set_option maxRecDepth 20000 in
theorem gL_law_X11_of : GoodIn wsL_law (wsV RL 22 RX11 yX11_of wsX11_of) := goodIn_app (goodIn_of _ (by decide +kernel)) ggL_law_X11_of
set_option maxRecDepth 20000 in
theorem ggL_law_X10_sum : GoodIn wsL_law wsX10_sum := goodIn_r _ [193, 116, 16, 117, 173, 174, 175, 2, 176, 118, 120, 121, 122, 194, 195, 196, 40, 197, 48, 198, 199, 200, 201, 942, 943, 944, 945, 946, 947, 948, 972, 973, 974, 991, 992, 993, 994, 995] (by decide +kernel) (by decide +kernel)
set_option maxRecDepth 20000 in
theorem gL_law_X10_sum : GoodIn wsL_law (wsV RL 23 RX10 yX10_sum wsX10_sum) := goodIn_app (goodIn_of _ (by decide +kernel)) ggL_law_X10_sum
set_option maxRecDepth 20000 in
theorem ggL_law_X11_sum : GoodIn wsL_law wsX11_sum := goodIn_r _ [205, 159, 186, 187, 188, 5, 189, 96, 161, 162, 163, 206, 207, 208, 209, 210, 211, 212, 213, 214, 215, 216, 949, 950, 951, 952, 953, 954, 955, 956, 957, 958, 959, 960, 961, 962, 963, 964, 965, 966, 967, 968, 969, 970, 971] (by decide +kernel) (by decide +kernel)
set_option maxRecDepth 20000 in
theorem gL_law_X11_sum : GoodIn wsL_law (wsV RL 26 RX11 yX11_sum wsX11_sum) := goodIn_app (goodIn_of _ (by decide +kernel)) ggL_law_X11_sum
set_option maxRecDepth 20000 in
theorem ggL_law_X10_hold : GoodIn wsL_law wsX10_hold := goodIn_r _ [220, 116, 16, 117, 120, 121, 2, 122, 221, 222, 223, 40, 224, 141, 225, 178, 179, 180, 48, 226, 195, 196, 197, 198, 199, 200, 201, 227, 228, 229, 230, 942, 943, 944, 945, 946, 947, 948, 972, 973, 974, 991, 992, 993, 994, 995] (by decide +kernel) (by decide +kernel)
set_option maxRecDepth 20000 in
theorem gL_law_X10_hold : GoodIn wsL_law (wsV RL 27 RX10 yX10_hold wsX10_hold) := goodIn_app (goodIn_of _ (by decide +kernel)) ggL_law_X10_hold
set_option maxRecDepth 20000 in
theorem ggL_law_X11_hold : GoodIn wsL_law wsX11_hold := goodIn_r _ [234, 159, 206, 207, 5, 208, 209, 161, 162, 163, 235, 236, 237, 238, 96, 210, 211, 212, 213, 214, 215, 216, 239, 240, 241, 949, 950, 951, 952, 953, 954, 955, 956, 957, 958, 959, 960, 961, 962, 963, 964, 965, 966, 967, 968, 969, 970, 971] (by decide +kernel) (by decide +kernel)
set_option maxRecDepth 20000 in
theorem gL_law_X11_hold : GoodIn wsL_law (wsV RL 31 RX11 yX11_hold wsX11_hold) := goodIn_app (goodIn_of _ (by decide +kernel)) ggL_law_X11_hold
set_option maxRecDepth 20000 in
theorem ggL_law_X10_type : GoodIn wsL_law wsX10_type := goodIn_r _ [245, 116, 21, 119, 246, 120, 121, 2, 122, 247, 248, 249, 20, 250, 251, 252, 253, 254, 255, 56, 942, 943, 944, 945, 946, 947, 948, 975, 976, 977, 978, 979, 980] (by decide +kernel) (by decide +kernel)
set_option maxRecDepth 20000 in
theorem gL_law_X10_type : GoodIn wsL_law (wsV RL 32 RX10 yX10_type wsX10_type) := goodIn_app (goodIn_of _ (by decide +kernel)) ggL_law_X10_type
set_option maxRecDepth 20000 in
theorem ggL_law_X11_type : GoodIn wsL_law wsX11_type := goodIn_r _ [259, 260, 261, 159, 262, 160, 99, 161, 162, 5, 163, 949, 950, 951, 952, 953, 954, 955, 956, 957, 958, 959, 960, 961, 962, 963, 964, 965, 966, 967, 968, 969, 970, 971] (by decide +kernel) (by decide +kernel)
set_option maxRecDepth 20000 in
theorem gL_law_X11_type : GoodIn wsL_law (wsV RL 35 RX11 yX11_type wsX11_type) := goodIn_app (goodIn_of _ (by decide +kernel)) ggL_law_X11_type
set_option maxRecDepth 20000 in
theorem ggL_law_X10_system : GoodIn wsL_law wsX10_system := goodIn_r _ [266, 21, 267, 268, 246, 16, 269, 117, 118, 270, 271, 272, 20, 273, 274, 58, 275, 276, 277, 278, 279, 251, 56, 121, 2, 122, 280, 281, 282, 40, 283, 49, 150, 284, 285, 286, 287, 288, 289, 290, 147, 148, 149, 48, 291, 292, 293, 294, 295, 296, 297, 298, 299, 300, 301, 302, 303, 304, 229, 305, 306, 307, 308, 15, 309, 41, 310, 131, 311, 312, 313, 314, 140, 133, 134, 135, 141, 50, 942, 943, 944, 945, 946, 947, 948, 975, 976, 977, 978, 979, 980, 972, 973, 974, 991, 992, 993, 994, 995] (by decide +kernel) (by decide +kernel)
set_option maxRecDepth 20000 in
theorem gL_law_X10_system : GoodIn wsL_law (wsV RL 36 RX10 yX10_system wsX10_system) := goodIn_app (goodIn_of _ (by decide +kernel)) ggL_law_X10_system
set_option maxRecDepth 20000 in
theorem ggL_law_X11_system : GoodIn wsL_law wsX11_system := goodIn_r _ [318, 319, 320, 96, 100, 168, 262, 321, 322, 323, 5, 324, 99, 161, 162, 163, 325, 326, 327, 328, 329, 330, 331, 332, 333, 334, 335, 336, 337, 338, 339, 340, 341, 342, 343, 344, 345, 346, 347, 348, 349, 350, 351, 352, 949, 950, 951, 952, 953, 954, 955, 956, 957, 958, 959, 960, 961, 962, 963, 964, 965, 966, 967, 968, 969, 970, 971] (by decide +kernel) (by decide +kernel)
set_option maxRecDepth 20000 in
theorem gL_law_X11_system : GoodIn wsL_law (wsV RL 40 RX11 yX11_system wsX11_system) := goodIn_app (goodIn_of _ (by decide +kernel)) ggL_law_X11_system
set_option maxRecDepth 20000 in
theorem ggL_law_X10_count : GoodIn wsL_law wsX10_count := goodIn_r _ [356, 16, 117, 118, 357, 25, 358, 359, 116, 360, 361, 362, 24, 363, 65, 364, 365, 366, 367, 68, 368, 369, 370, 371, 372, 373, 40, 374, 49, 198, 199, 200, 201, 375, 376, 377, 378, 379, 178, 179, 180, 48, 380, 195, 196, 197, 381, 228, 229, 230, 382, 383, 384, 385, 141, 386, 387, 388, 389, 942, 943, 944, 945, 946, 947, 948, 972, 973, 974, 991, 992, 993, 994, 995, 981, 982, 983, 984] (by decide +kernel) (by decide +kernel)
set_option maxRecDepth 20000 in
theorem gL_law_X10_count : GoodIn wsL_law (wsV RL 41 RX10 yX10_count wsX10_count) := goodIn_app (goodIn_of _ (by decide +kernel)) ggL_law_X10_count
set_option maxRecDepth 20000 in
theorem ggL_law_X11_count : GoodIn wsL_law wsX11_count := goodIn_r _ [393, 96, 168, 159, 394, 395, 396, 5, 397, 398, 399, 400, 401, 402, 97, 98, 403, 404, 405, 406, 214, 215, 216, 235, 236, 237, 238, 210, 211, 212, 213, 239, 240, 241, 407, 408, 409, 410, 411, 412, 413, 414, 415, 416, 417, 418, 419, 949, 950, 951, 952, 953, 954, 955, 956, 957, 958, 959, 960, 961, 962, 963, 964, 965, 966, 967, 968, 969, 970, 971] (by decide +kernel) (by decide +kernel)
set_option maxRecDepth 20000 in
theorem gL_law_X11_count : GoodIn wsL_law (wsV RL 44 RX11 yX11_count wsX11_count) := goodIn_app (goodIn_of _ (by decide +kernel)) ggL_law_X11_count
set_option maxRecDepth 20000 in
theorem ggL_law_X10_drop : GoodIn wsL_law wsX10_drop := goodIn_r _ [423, 116, 16, 117, 118, 173, 174, 175, 2, 176, 120, 121, 122, 127, 128, 129, 15, 130, 131, 43, 132, 133, 134, 135, 41, 136, 137, 138, 40, 139, 48, 140, 141, 49, 50, 424, 425, 426, 427, 150, 942, 943, 944, 945, 946, 947, 948, 972, 973, 974, 991, 992, 993, 994, 995] (by decide +kernel) (by decide +kernel)
set_option maxRecDepth 20000 in
theorem gL_law_X10_drop : GoodIn wsL_law (wsV RL 45 RX10 yX10_drop wsX10_drop) := goodIn_app (goodIn_of _ (by decide +kernel)) ggL_law_X10_drop
set_option maxRecDepth 20000 in
theorem ggL_law_X11_drop : GoodIn wsL_law wsX11_drop := goodIn_r _ [431, 159, 96, 186, 187, 188, 5, 189, 161, 162, 163, 164, 165, 166, 167, 168, 101, 949, 950, 951, 952, 953, 954, 955, 956, 957, 958, 959, 960, 961, 962, 963, 964, 965, 966, 967, 968, 969, 970, 971] (by decide +kernel) (by decide +kernel)
set_option maxRecDepth 20000 in
theorem gL_law_X11_drop : GoodIn wsL_law (wsV RL 48 RX11 yX11_drop wsX11_drop) := goodIn_app (goodIn_of _ (by decide +kernel)) ggL_law_X11_drop
set_option maxRecDepth 20000 in
theorem ggL_law_X10_change : GoodIn wsL_law wsX10_change := goodIn_r _ [435, 116, 173, 174, 175, 2, 176, 16, 117, 118, 120, 121, 122, 436, 437, 438, 439, 440, 177, 178, 179, 40, 180, 48, 127, 128, 129, 15, 130, 131, 43, 132, 133, 134, 135, 41, 136, 137, 138, 139, 140, 141, 49, 50, 441, 147, 148, 149, 150, 942, 943, 944, 945, 946, 947, 948, 972, 973, 974, 991, 992, 993, 994, 995] (by decide +kernel) (by decide +kernel)
set_option maxRecDepth 20000 in
theorem gL_law_X10_change : GoodIn wsL_law (wsV RL 49 RX10 yX10_change wsX10_change) := goodIn_app (goodIn_of _ (by decide +kernel)) ggL_law_X10_change
set_option maxRecDepth 20000 in
theorem ggL_law_X11_change : GoodIn wsL_law wsX11_change := goodIn_r _ [445, 155, 157, 446, 158, 447, 159, 96, 448, 186, 187, 188, 5, 189, 161, 162, 163, 164, 165, 166, 167, 168, 101, 949, 950, 951, 952, 953, 954, 955, 956, 957, 958, 959, 960, 961, 962, 963, 964, 965, 966, 967, 968, 969, 970, 971] (by decide +kernel) (by decide +kernel)
set_option maxRecDepth 20000 in
theorem gL_law_X11_change : GoodIn wsL_law (wsV RL 52 RX11 yX11_change wsX11_change) := goodIn_app (goodIn_of _ (by decide +kernel)) ggL_law_X11_change
set_option maxRecDepth 20000 in
theorem ggL_law_X10_shape : GoodIn wsL_law wsX10_shape := goodIn_r _ [452, 116, 173, 174, 175, 2, 176, 16, 117, 118, 120, 121, 122, 436, 437, 438, 439, 440, 177, 178, 179, 40, 180, 48, 127, 128, 129, 15, 130, 131, 43, 132, 133, 134, 135, 41, 136, 137, 138, 139, 140, 141, 49, 50, 441, 147, 148, 149, 150, 942, 943, 944, 945, 946, 947, 948, 972, 973, 974, 991, 992, 993, 994, 995] (by decide +kernel) (by decide +kernel)
set_option maxRecDepth 20000 in
theorem gL_law_X10_shape : GoodIn wsL_law (wsV RL 53 RX10 yX10_shape wsX10_shape) := goodIn_app (goodIn_of _ (by decide +kernel)) ggL_law_X10_shape
set_option maxRecDepth 20000 in
theorem ggL_law_X11_shape : GoodIn wsL_law wsX11_shape := goodIn_r _ [456, 155, 159, 96, 448, 186, 187, 188, 5, 189, 161, 162, 163, 164, 165, 166, 167, 168, 101, 949, 950, 951, 952, 953, 954, 955, 956, 957, 958, 959, 960, 961, 962, 963, 964, 965, 966, 967, 968, 969, 970, 971] (by decide +kernel) (by decide +kernel)
set_option maxRecDepth 20000 in
theorem gL_law_X11_shape : GoodIn wsL_law (wsV RL 56 RX11 yX11_shape wsX11_shape) := goodIn_app (goodIn_of _ (by decide +kernel)) ggL_law_X11_shape
set_option maxRecDepth 20000 in
theorem ggL_law_X10_turn : GoodIn wsL_law wsX10_turn := goodIn_r _ [460, 116, 16, 117, 25, 173, 174, 175, 2, 176, 118, 120, 121, 122, 127, 128, 129, 15, 130, 131, 43, 132, 133, 134, 135, 41, 136, 137, 138, 40, 139, 48, 140, 141, 49, 50, 461, 462, 463, 464, 225, 178, 179, 180, 146, 147, 148, 149, 150, 360, 361, 362, 24, 363, 65, 364, 365, 366, 367, 68, 368, 369, 370, 371, 372, 373, 374, 198, 199, 200, 201, 375, 376, 377, 378, 379, 380, 195, 196, 197, 381, 228, 229, 230, 382, 383, 384, 385, 942, 943, 944, 945, 946, 947, 948, 972, 973, 974, 991, 992, 993, 994, 995, 981, 982, 983, 984] (by decide +kernel) (by decide +kernel)
set_option maxRecDepth 20000 in
theorem gL_law_X10_turn : GoodIn wsL_law (wsV RL 57 RX10 yX10_turn wsX10_turn) := goodIn_app (goodIn_of _ (by decide +kernel)) ggL_law_X10_turn
set_option maxRecDepth 20000 in
theorem ggL_law_X11_turn : GoodIn wsL_law wsX11_turn := goodIn_r _ [468, 159, 96, 186, 187, 188, 5, 189, 161, 162, 163, 164, 165, 166, 167, 168, 101, 394, 395, 396, 397, 398, 399, 400, 401, 402, 97, 98, 403, 404, 405, 406, 214, 215, 216, 235, 236, 237, 238, 210, 211, 212, 213, 239, 240, 241, 407, 408, 409, 410, 411, 412, 413, 414, 949, 950, 951, 952, 953, 954, 955, 956, 957, 958, 959, 960, 961, 962, 963, 964, 965, 966, 967, 968, 969, 970, 971] (by decide +kernel) (by decide +kernel)
set_option maxRecDepth 20000 in
theorem gL_law_X11_turn : GoodIn wsL_law (wsV RL 60 RX11 yX11_turn wsX11_turn) := goodIn_app (goodIn_of _ (by decide +kernel)) ggL_law_X11_turn
set_option maxRecDepth 20000 in
theorem ggL_law_X10_call : GoodIn wsL_law wsX10_call := goodIn_r _ [472, 116, 16, 117, 357, 440, 120, 121, 2, 122, 127, 128, 129, 15, 130, 131, 43, 132, 133, 134, 135, 41, 136, 137, 138, 40, 139, 48, 140, 141, 49, 50, 473, 281, 282, 283, 150, 942, 943, 944, 945, 946, 947, 948, 972, 973, 974, 991, 992, 993, 994, 995] (by decide +kernel) (by decide +kernel)
set_option maxRecDepth 20000 in
theorem gL_law_X10_call : GoodIn wsL_law (wsV RL 61 RX10 yX10_call wsX10_call) := goodIn_app (goodIn_of _ (by decide +kernel)) ggL_law_X10_call
set_option maxRecDepth 20000 in
theorem ggL_law_X11_call : GoodIn wsL_law wsX11_call := goodIn_r _ [477, 320, 159, 96, 448, 161, 162, 5, 163, 164, 165, 166, 167, 168, 101, 949, 950, 951, 952, 953, 954, 955, 956, 957, 958, 959, 960, 961, 962, 963, 964, 965, 966, 967, 968, 969, 970, 971] (by decide +kernel) (by decide +kernel)
set_option maxRecDepth 20000 in
theorem gL_law_X11_call : GoodIn wsL_law (wsV RL 64 RX11 yX11_call wsX11_call) := goodIn_app (goodIn_of _ (by decide +kernel)) ggL_law_X11_call
set_option maxRecDepth 20000 in
theorem ggL_law_X10_drift : GoodIn wsL_law wsX10_drift := goodIn_r _ [481, 116, 16, 117, 25, 120, 121, 2, 122, 127, 128, 129, 15, 130, 131, 43, 132, 133, 134, 135, 41, 136, 137, 138, 40, 139, 48, 140, 141, 49, 50, 482, 483, 484, 485, 486, 487, 488, 146, 147, 148, 149, 150, 360, 361, 362, 24, 363, 65, 364, 365, 366, 367, 68, 368, 369, 370, 371, 372, 373, 374, 198, 199, 200, 201, 375, 376, 377, 378, 379, 178, 179, 180, 380, 195, 196, 197, 381, 228, 229, 230, 382, 383, 384, 385, 942, 943, 944, 945, 946, 947, 948, 972, 973, 974, 991, 992, 993, 994, 995, 981, 982, 983, 984] (by decide +kernel) (by decide +kernel)
set_option maxRecDepth 20000 in
theorem gL_law_X10_drift : GoodIn wsL_law (wsV RL 65 RX10 yX10_drift wsX10_drift) := goodIn_app (goodIn_of _ (by decide +kernel)) ggL_law_X10_drift
set_option maxRecDepth 20000 in
theorem ggL_law_X11_drift : GoodIn wsL_law wsX11_drift := goodIn_r _ [492, 493, 159, 96, 494, 495, 496, 497, 161, 162, 5, 163, 164, 165, 166, 167, 168, 101, 394, 395, 396, 397, 398, 399, 400, 401, 402, 97, 98, 403, 404, 405, 406, 214, 215, 216, 235, 236, 237, 238, 210, 211, 212, 213, 239, 240, 241, 407, 408, 409, 410, 411, 412, 413, 414, 949, 950, 951, 952, 953, 954, 955, 956, 957, 958, 959, 960, 961, 962, 963, 964, 965, 966, 967, 968, 969, 970, 971] (by decide +kernel) (by decide +kernel)
set_option maxRecDepth 20000 in
theorem gL_law_X11_drift : GoodIn wsL_law (wsV RL 68 RX11 yX11_drift wsX11_drift) := goodIn_app (goodIn_of _ (by decide +kernel)) ggL_law_X11_drift
set_option maxRecDepth 20000 in
theorem ggL_law_X10_undo : GoodIn wsL_law wsX10_undo := goodIn_r _ [501, 16, 359, 358, 502, 503, 504, 15, 505, 131, 41, 43, 506, 507, 508, 40, 509, 48, 140, 133, 134, 135, 141, 49, 50, 150, 942, 943, 944, 945, 946, 947, 948, 972, 973, 974, 991, 992, 993, 994, 995] (by decide +kernel) (by decide +kernel)
set_option maxRecDepth 20000 in
theorem gL_law_X10_undo : GoodIn wsL_law (wsV RL 69 RX10 yX10_undo wsX10_undo) := goodIn_app (goodIn_of _ (by decide +kernel)) ggL_law_X10_undo
set_option maxRecDepth 20000 in
theorem ggL_law_X11_undo : GoodIn wsL_law wsX11_undo := goodIn_r _ [513, 168, 419, 96, 101, 949, 950, 951, 952, 953, 954, 955, 956, 957, 958, 959, 960, 961, 962, 963, 964, 965, 966, 967, 968, 969, 970, 971] (by decide +kernel) (by decide +kernel)
set_option maxRecDepth 20000 in
theorem gL_law_X11_undo : GoodIn wsL_law (wsV RL 72 RX11 yX11_undo wsX11_undo) := goodIn_app (goodIn_of _ (by decide +kernel)) ggL_law_X11_undo
set_option maxRecDepth 20000 in
theorem ggL_law_X10_seed : GoodIn wsL_law wsX10_seed := goodIn_r _ [517, 116, 16, 117, 518, 942, 943, 944, 945, 946, 947, 948, 972, 973, 974, 991, 992, 993, 994, 995] (by decide +kernel) (by decide +kernel)
set_option maxRecDepth 20000 in
theorem gL_law_X10_seed : GoodIn wsL_law (wsV RL 73 RX10 yX10_seed wsX10_seed) := goodIn_app (goodIn_of _ (by decide +kernel)) ggL_law_X10_seed
set_option maxRecDepth 20000 in
theorem ggL_law_X11_seed : GoodIn wsL_law wsX11_seed := goodIn_r _ [522, 159, 96, 949, 950, 951, 952, 953, 954, 955, 956, 957, 958, 959, 960, 961, 962, 963, 964, 965, 966, 967, 968, 969, 970, 971] (by decide +kernel) (by decide +kernel)
set_option maxRecDepth 20000 in
theorem gL_law_X11_seed : GoodIn wsL_law (wsV RL 76 RX11 yX11_seed wsX11_seed) := goodIn_app (goodIn_of _ (by decide +kernel)) ggL_law_X11_seed
set_option maxRecDepth 20000 in
theorem ggL_law_X10_range : GoodIn wsL_law wsX10_range := goodIn_r _ [526, 116, 25, 16, 117, 358, 527, 528, 2, 529, 120, 121, 122, 530, 531, 532, 24, 533, 65, 364, 365, 366, 367, 68, 368, 369, 370, 371, 372, 373, 40, 374, 49, 198, 199, 200, 201, 375, 376, 377, 378, 379, 178, 179, 180, 48, 380, 195, 196, 197, 381, 228, 229, 230, 382, 383, 384, 385, 141, 534, 535, 536, 537, 538, 539, 540, 541, 942, 943, 944, 945, 946, 947, 948, 972, 973, 974, 981, 982, 983, 984, 991, 992, 993, 994, 995] (by decide +kernel) (by decide +kernel)
set_option maxRecDepth 20000 in
theorem gL_law_X10_range : GoodIn wsL_law (wsV RL 77 RX10 yX10_range wsX10_range) := goodIn_app (goodIn_of _ (by decide +kernel)) ggL_law_X10_range
set_option maxRecDepth 20000 in
theorem ggL_law_X11_range : GoodIn wsL_law wsX11_range := goodIn_r _ [545, 546, 159, 402, 98, 97, 547, 548, 5, 549, 343, 161, 162, 163, 398, 399, 400, 401, 403, 404, 405, 406, 96, 214, 215, 216, 235, 236, 237, 238, 210, 211, 212, 213, 239, 240, 241, 407, 408, 409, 410, 550, 551, 552, 419, 553, 554, 555, 949, 950, 951, 952, 953, 954, 955, 956, 957, 958, 959, 960, 961, 962, 963, 964, 965, 966, 967, 968, 969, 970, 971] (by decide +kernel) (by decide +kernel)
set_option maxRecDepth 20000 in
theorem gL_law_X11_range : GoodIn wsL_law (wsV RL 80 RX11 yX11_range wsX11_range) := goodIn_app (goodIn_of _ (by decide +kernel)) ggL_law_X11_range
set_option maxRecDepth 20000 in
theorem ggL_law_X10_apart : GoodIn wsL_law wsX10_apart := goodIn_r _ [559, 116, 25, 16, 117, 358, 527, 528, 2, 529, 120, 121, 122, 560, 561, 562, 24, 563, 65, 364, 365, 366, 367, 68, 368, 369, 370, 371, 372, 373, 40, 374, 49, 198, 199, 200, 201, 375, 376, 377, 378, 379, 178, 179, 180, 48, 380, 195, 196, 197, 381, 228, 229, 230, 382, 383, 384, 385, 141, 534, 564, 565, 566, 567, 568, 569, 570, 535, 536, 537, 538, 539, 540, 541, 942, 943, 944, 945, 946, 947, 948, 972, 973, 974, 981, 982, 983, 984, 991, 992, 993, 994, 995] (by decide +kernel) (by decide +kernel)
set_option maxRecDepth 20000 in
theorem gL_law_X10_apart : GoodIn wsL_law (wsV RL 81 RX10 yX10_apart wsX10_apart) := goodIn_app (goodIn_of _ (by decide +kernel)) ggL_law_X10_apart
set_option maxRecDepth 20000 in
theorem ggL_law_X11_apart : GoodIn wsL_law wsX11_apart := goodIn_r _ [574, 546, 159, 402, 97, 98, 419, 547, 548, 5, 549, 343, 161, 162, 163, 398, 399, 400, 401, 403, 404, 405, 406, 96, 214, 215, 216, 235, 236, 237, 238, 210, 211, 212, 213, 239, 240, 241, 407, 408, 409, 410, 575, 576, 577, 550, 551, 552, 553, 554, 555, 949, 950, 951, 952, 953, 954, 955, 956, 957, 958, 959, 960, 961, 962, 963, 964, 965, 966, 967, 968, 969, 970, 971] (by decide +kernel) (by decide +kernel)
set_option maxRecDepth 20000 in
theorem gL_law_X11_apart : GoodIn wsL_law (wsV RL 84 RX11 yX11_apart wsX11_apart) := goodIn_app (goodIn_of _ (by decide +kernel)) ggL_law_X11_apart
set_option maxRecDepth 20000 in
theorem ggL_law_X10_row : GoodIn wsL_law wsX10_row := goodIn_r _ [581, 116, 29, 16, 117, 582, 527, 528, 2, 529, 120, 121, 122, 583, 584, 585, 28, 586, 78, 77, 587, 588, 589, 590, 76, 591, 592, 593, 594, 178, 179, 40, 180, 48, 595, 596, 597, 75, 598, 83, 599, 600, 601, 602, 603, 604, 605, 606, 607, 608, 609, 610, 611, 612, 613, 614, 615, 616, 617, 618, 619, 620, 621, 622, 623, 537, 624, 625, 626, 627, 628, 629, 630, 631, 632, 633, 634, 635, 636, 637, 942, 943, 944, 945, 946, 947, 948, 972, 973, 974, 996, 997, 985, 986, 987, 991, 992, 993, 994, 995] (by decide +kernel) (by decide +kernel)
set_option maxRecDepth 20000 in
theorem gL_law_X10_row : GoodIn wsL_law (wsV RL 85 RX10 yX10_row wsX10_row) := goodIn_app (goodIn_of _ (by decide +kernel)) ggL_law_X10_row
set_option maxRecDepth 20000 in
theorem ggL_law_X11_row : GoodIn wsL_law wsX11_row := goodIn_r _ [641, 155, 159, 642, 103, 547, 548, 5, 549, 343, 161, 162, 163, 643, 644, 645, 646, 647, 102, 648, 649, 650, 651, 96, 652, 653, 654, 655, 656, 657, 658, 659, 660, 661, 662, 663, 664, 665, 666, 667, 668, 669, 949, 950, 951, 952, 953, 954, 955, 956, 957, 958, 959, 960, 961, 962, 963, 964, 965, 966, 967, 968, 969, 970, 971] (by decide +kernel) (by decide +kernel)
set_option maxRecDepth 20000 in
theorem gL_law_X11_row : GoodIn wsL_law (wsV RL 89 RX11 yX11_row wsX11_row) := goodIn_app (goodIn_of _ (by decide +kernel)) ggL_law_X11_row
set_option maxRecDepth 20000 in
theorem ggL_law_X10_deep : GoodIn wsL_law wsX10_deep := goodIn_r _ [673, 116, 29, 16, 117, 527, 528, 2, 529, 120, 121, 122, 674, 675, 676, 28, 677, 77, 78, 587, 588, 589, 590, 76, 591, 592, 593, 594, 178, 179, 40, 180, 48, 595, 596, 597, 75, 598, 83, 599, 600, 601, 602, 603, 604, 605, 606, 607, 608, 609, 610, 611, 612, 613, 614, 615, 616, 617, 618, 619, 620, 621, 622, 623, 537, 624, 625, 626, 627, 628, 629, 630, 631, 632, 633, 634, 635, 636, 678, 199, 200, 201, 679, 372, 373, 374, 49, 198, 680, 681, 682, 683, 684, 685, 686, 687, 688, 689, 690, 691, 692, 693, 694, 695, 696, 697, 698, 699, 942, 943, 944, 945, 946, 947, 948, 972, 973, 974, 985, 986, 987, 996, 997, 991, 992, 993, 994, 995] (by decide +kernel) (by decide +kernel)
set_option maxRecDepth 20000 in
theorem gL_law_X10_deep : GoodIn wsL_law (wsV RL 90 RX10 yX10_deep wsX10_deep) := goodIn_app (goodIn_of _ (by decide +kernel)) ggL_law_X10_deep
set_option maxRecDepth 20000 in
theorem ggL_law_X11_deep : GoodIn wsL_law wsX11_deep := goodIn_r _ [703, 155, 159, 104, 547, 548, 5, 549, 343, 161, 162, 163, 704, 705, 706, 707, 643, 644, 645, 646, 642, 647, 102, 103, 648, 649, 650, 651, 96, 652, 653, 654, 655, 656, 657, 658, 659, 660, 661, 662, 663, 664, 665, 666, 667, 668, 669, 214, 215, 216, 403, 404, 405, 406, 708, 709, 710, 711, 712, 713, 714, 715, 716, 717, 718, 719, 949, 950, 951, 952, 953, 954, 955, 956, 957, 958, 959, 960, 961, 962, 963, 964, 965, 966, 967, 968, 969, 970, 971] (by decide +kernel) (by decide +kernel)
set_option maxRecDepth 20000 in
theorem gL_law_X11_deep : GoodIn wsL_law (wsV RL 93 RX11 yX11_deep wsX11_deep) := goodIn_app (goodIn_of _ (by decide +kernel)) ggL_law_X11_deep
set_option maxRecDepth 20000 in
theorem ggL_law_X10_spare : GoodIn wsL_law wsX10_spare := goodIn_r _ [723, 116, 16, 117, 118, 358, 25, 724, 120, 121, 2, 122, 725, 726, 727, 24, 728, 370, 64, 65, 364, 365, 366, 367, 68, 368, 369, 371, 372, 373, 40, 374, 49, 198, 199, 200, 201, 375, 376, 377, 378, 379, 178, 179, 180, 48, 380, 195, 196, 197, 381, 228, 229, 230, 382, 383, 384, 385, 141, 942, 943, 944, 945, 946, 947, 948, 972, 973, 974, 991, 992, 993, 994, 995, 981, 982, 983, 984] (by decide +kernel) (by decide +kernel)
set_option maxRecDepth 20000 in
theorem gL_law_X10_spare : GoodIn wsL_law (wsV RL 94 RX10 yX10_spare wsX10_spare) := goodIn_app (goodIn_of _ (by decide +kernel)) ggL_law_X10_spare
set_option maxRecDepth 20000 in
theorem ggL_law_X11_spare : GoodIn wsL_law wsX11_spare := goodIn_r _ [732, 159, 419, 96, 161, 162, 5, 163, 398, 399, 400, 401, 402, 97, 98, 403, 404, 405, 406, 214, 215, 216, 235, 236, 237, 238, 210, 211, 212, 213, 239, 240, 241, 407, 408, 409, 410, 411, 412, 413, 414, 949, 950, 951, 952, 953, 954, 955, 956, 957, 958, 959, 960, 961, 962, 963, 964, 965, 966, 967, 968, 969, 970, 971] (by decide +kernel) (by decide +kernel)
set_option maxRecDepth 20000 in
theorem gL_law_X11_spare : GoodIn wsL_law (wsV RL 97 RX11 yX11_spare wsX11_spare) := goodIn_app (goodIn_of _ (by decide +kernel)) ggL_law_X11_spare
set_option maxRecDepth 20000 in
theorem ggL_law_X10_stretch : GoodIn wsL_law wsX10_stretch := goodIn_r _ [736, 116, 25, 16, 117, 737, 626, 627, 628, 358, 173, 174, 175, 2, 176, 118, 120, 121, 122, 738, 739, 740, 24, 741, 65, 364, 365, 366, 367, 68, 368, 369, 370, 371, 372, 373, 40, 374, 49, 198, 199, 200, 201, 375, 376, 377, 378, 379, 178, 179, 180, 48, 380, 195, 196, 197, 381, 228, 229, 230, 382, 383, 384, 385, 141, 742, 743, 744, 745, 746, 747, 748, 749, 750, 751, 752, 753, 754, 942, 943, 944, 945, 946, 947, 948, 972, 973, 974, 991, 992, 993, 994, 995, 981, 982, 983, 984] (by decide +kernel) (by decide +kernel)
set_option maxRecDepth 20000 in
theorem gL_law_X10_stretch : GoodIn wsL_law (wsV RL 98 RX10 yX10_stretch wsX10_stretch) := goodIn_app (goodIn_of _ (by decide +kernel)) ggL_law_X10_stretch
set_option maxRecDepth 20000 in
theorem ggL_law_X11_stretch : GoodIn wsL_law wsX11_stretch := goodIn_r _ [758, 159, 96, 402, 98, 97, 419, 186, 187, 188, 5, 189, 161, 162, 163, 398, 399, 400, 401, 403, 404, 405, 406, 214, 215, 216, 235, 236, 237, 238, 210, 211, 212, 213, 239, 240, 241, 407, 408, 409, 410, 949, 950, 951, 952, 953, 954, 955, 956, 957, 958, 959, 960, 961, 962, 963, 964, 965, 966, 967, 968, 969, 970, 971] (by decide +kernel) (by decide +kernel)
set_option maxRecDepth 20000 in
theorem gL_law_X11_stretch : GoodIn wsL_law (wsV RL 101 RX11 yX11_stretch wsX11_stretch) := goodIn_app (goodIn_of _ (by decide +kernel)) ggL_law_X11_stretch
set_option maxRecDepth 20000 in
theorem ggL_law_X10_core : GoodIn wsL_law wsX10_core := goodIn_r _ [762, 25, 16, 117, 358, 763, 764, 765, 24, 766, 67, 65, 364, 365, 366, 367, 68, 368, 369, 370, 371, 372, 373, 40, 374, 49, 198, 199, 200, 201, 375, 376, 377, 378, 379, 178, 179, 180, 48, 380, 195, 196, 197, 381, 228, 229, 230, 382, 383, 384, 385, 141, 767, 768, 769, 770, 771, 565, 566, 567, 568, 569, 570, 772, 773, 774, 775, 942, 943, 944, 945, 946, 947, 948, 972, 973, 974, 981, 982, 983, 984, 991, 992, 993, 994, 995] (by decide +kernel) (by decide +kernel)
set_option maxRecDepth 20000 in
theorem gL_law_X10_core : GoodIn wsL_law (wsV RL 102 RX10 yX10_core wsX10_core) := goodIn_app (goodIn_of _ (by decide +kernel)) ggL_law_X10_core
set_option maxRecDepth 20000 in
theorem ggL_law_X11_core : GoodIn wsL_law wsX11_core := goodIn_r _ [779, 419, 398, 399, 400, 5, 401, 402, 97, 98, 403, 404, 405, 406, 96, 214, 215, 216, 235, 236, 237, 238, 210, 211, 212, 213, 239, 240, 241, 407, 408, 409, 410, 411, 412, 413, 414, 575, 576, 577, 949, 950, 951, 952, 953, 954, 955, 956, 957, 958, 959, 960, 961, 962, 963, 964, 965, 966, 967, 968, 969, 970, 971] (by decide +kernel) (by decide +kernel)
set_option maxRecDepth 20000 in
theorem gL_law_X11_core : GoodIn wsL_law (wsV RL 105 RX11 yX11_core wsX11_core) := goodIn_app (goodIn_of _ (by decide +kernel)) ggL_law_X11_core
set_option maxRecDepth 20000 in
theorem ggL_law_X10_asked : GoodIn wsL_law wsX10_asked := goodIn_r _ [783, 16, 117, 116, 118, 784, 746, 627, 747, 120, 121, 2, 122, 785, 372, 373, 40, 374, 49, 198, 199, 200, 201, 221, 222, 223, 224, 141, 225, 178, 179, 180, 48, 226, 195, 196, 197, 227, 228, 229, 230, 564, 565, 566, 567, 568, 569, 570, 786, 623, 537, 624, 625, 626, 628, 787, 788, 789, 942, 943, 944, 945, 946, 947, 948, 972, 973, 974, 991, 992, 993, 994, 995] (by decide +kernel) (by decide +kernel)
set_option maxRecDepth 20000 in
theorem gL_law_X10_asked : GoodIn wsL_law (wsV RL 106 RX10 yX10_asked wsX10_asked) := goodIn_app (goodIn_of _ (by decide +kernel)) ggL_law_X10_asked
set_option maxRecDepth 20000 in
theorem ggL_law_X11_asked : GoodIn wsL_law wsX11_asked := goodIn_r _ [793, 794, 159, 96, 206, 207, 5, 208, 209, 161, 162, 163, 403, 404, 405, 406, 214, 215, 216, 235, 236, 237, 238, 210, 211, 212, 213, 239, 240, 241, 664, 665, 666, 949, 950, 951, 952, 953, 954, 955, 956, 957, 958, 959, 960, 961, 962, 963, 964, 965, 966, 967, 968, 969, 970, 971] (by decide +kernel) (by decide +kernel)
set_option maxRecDepth 20000 in
theorem gL_law_X11_asked : GoodIn wsL_law (wsV RL 109 RX11 yX11_asked wsX11_asked) := goodIn_app (goodIn_of _ (by decide +kernel)) ggL_law_X11_asked
set_option maxRecDepth 20000 in
theorem ggL_law_X10_image : GoodIn wsL_law wsX10_image := goodIn_r _ [798, 17, 16, 799, 800, 801, 802, 15, 803, 41, 43, 132, 133, 134, 135, 131, 311, 312, 313, 40, 314, 48, 140, 141, 49, 50, 150, 942, 943, 944, 945, 946, 947, 948, 972, 973, 974, 991, 992, 993, 994, 995] (by decide +kernel) (by decide +kernel)
set_option maxRecDepth 20000 in
theorem gL_law_X10_image : GoodIn wsL_law (wsV RL 110 RX10 yX10_image wsX10_image) := goodIn_app (goodIn_of _ (by decide +kernel)) ggL_law_X10_image
set_option maxRecDepth 20000 in
theorem ggL_law_X11_image : GoodIn wsL_law wsX11_image := goodIn_r _ [807, 105, 96, 106, 101, 168, 107, 949, 950, 951, 952, 953, 954, 955, 956, 957, 958, 959, 960, 961, 962, 963, 964, 965, 966, 967, 968, 969, 970, 971] (by decide +kernel) (by decide +kernel)
set_option maxRecDepth 20000 in
theorem gL_law_X11_image : GoodIn wsL_law (wsV RL 113 RX11 yX11_image wsX11_image) := goodIn_app (goodIn_of _ (by decide +kernel)) ggL_law_X11_image
set_option maxRecDepth 20000 in
theorem ggL_law_X10_restore : GoodIn wsL_law wsX10_restore := goodIn_r _ [811, 799, 358, 16, 17, 800, 801, 802, 15, 803, 41, 43, 132, 133, 134, 135, 131, 311, 312, 313, 40, 314, 48, 140, 141, 49, 50, 150, 942, 943, 944, 945, 946, 947, 948, 972, 973, 974, 991, 992, 993, 994, 995] (by decide +kernel) (by decide +kernel)
set_option maxRecDepth 20000 in
theorem gL_law_X10_restore : GoodIn wsL_law (wsV RL 114 RX10 yX10_restore wsX10_restore) := goodIn_app (goodIn_of _ (by decide +kernel)) ggL_law_X10_restore
set_option maxRecDepth 20000 in
theorem ggL_law_X11_restore : GoodIn wsL_law wsX11_restore := goodIn_r _ [815, 107, 419, 96, 105, 101, 106, 168, 949, 950, 951, 952, 953, 954, 955, 956, 957, 958, 959, 960, 961, 962, 963, 964, 965, 966, 967, 968, 969, 970, 971] (by decide +kernel) (by decide +kernel)
set_option maxRecDepth 20000 in
theorem gL_law_X11_restore : GoodIn wsL_law (wsV RL 117 RX11 yX11_restore wsX11_restore) := goodIn_app (goodIn_of _ (by decide +kernel)) ggL_law_X11_restore
set_option maxRecDepth 20000 in
theorem ggL_law_X10_seen : GoodIn wsL_law wsX10_seen := goodIn_r _ [819, 116, 33, 440, 173, 174, 175, 2, 176, 16, 117, 118, 120, 121, 122, 820, 821, 822, 823, 824, 825, 32, 826, 827, 90, 828, 829, 830, 831, 832, 833, 834, 835, 836, 837, 91, 838, 839, 840, 841, 842, 843, 844, 845, 846, 89, 847, 848, 849, 850, 851, 194, 195, 196, 40, 197, 48, 198, 199, 200, 201, 852, 228, 229, 230, 942, 943, 944, 945, 946, 947, 948, 972, 973, 974, 991, 992, 993, 994, 995, 988, 989, 990] (by decide +kernel) (by decide +kernel)
set_option maxRecDepth 20000 in
theorem gL_law_X10_seen : GoodIn wsL_law (wsV RL 118 RX10 yX10_seen wsX10_seen) := goodIn_app (goodIn_of _ (by decide +kernel)) ggL_law_X10_seen
set_option maxRecDepth 20000 in
theorem ggL_law_X11_seen : GoodIn wsL_law wsX11_seen := goodIn_r _ [856, 343, 857, 159, 110, 448, 186, 187, 188, 5, 189, 96, 161, 162, 163, 858, 859, 860, 861, 862, 863, 864, 108, 865, 866, 109, 867, 206, 207, 208, 209, 210, 211, 212, 213, 214, 215, 216, 239, 240, 241, 949, 950, 951, 952, 953, 954, 955, 956, 957, 958, 959, 960, 961, 962, 963, 964, 965, 966, 967, 968, 969, 970, 971] (by decide +kernel) (by decide +kernel)
set_option maxRecDepth 20000 in
theorem gL_law_X11_seen : GoodIn wsL_law (wsV RL 122 RX11 yX11_seen wsX11_seen) := goodIn_app (goodIn_of _ (by decide +kernel)) ggL_law_X11_seen
set_option maxRecDepth 20000 in
theorem ggL_law_X10_film : GoodIn wsL_law wsX10_film := goodIn_r _ [871, 116, 33, 25, 16, 117, 120, 121, 2, 122, 820, 821, 822, 823, 824, 825, 32, 826, 827, 90, 828, 829, 830, 831, 832, 833, 834, 835, 836, 837, 91, 386, 387, 388, 24, 389, 65, 364, 365, 366, 367, 68, 368, 369, 370, 371, 372, 373, 40, 374, 49, 198, 199, 200, 201, 375, 376, 377, 378, 379, 178, 179, 180, 48, 380, 195, 196, 197, 381, 228, 229, 230, 382, 383, 384, 385, 141, 872, 873, 874, 875, 89, 876, 877, 878, 942, 943, 944, 945, 946, 947, 948, 972, 973, 974, 988, 989, 990, 981, 982, 983, 984, 991, 992, 993, 994, 995] (by decide +kernel) (by decide +kernel)
set_option maxRecDepth 20000 in
theorem gL_law_X10_film : GoodIn wsL_law (wsV RL 123 RX10 yX10_film wsX10_film) := goodIn_app (goodIn_of _ (by decide +kernel)) ggL_law_X10_film
set_option maxRecDepth 20000 in
theorem ggL_law_X11_film : GoodIn wsL_law wsX11_film := goodIn_r _ [882, 883, 343, 159, 402, 98, 110, 97, 884, 161, 162, 5, 163, 858, 859, 860, 861, 862, 863, 864, 108, 865, 866, 109, 867, 398, 399, 400, 401, 403, 404, 405, 406, 96, 214, 215, 216, 235, 236, 237, 238, 210, 211, 212, 213, 239, 240, 241, 407, 408, 409, 410, 885, 886, 887, 949, 950, 951, 952, 953, 954, 955, 956, 957, 958, 959, 960, 961, 962, 963, 964, 965, 966, 967, 968, 969, 970, 971] (by decide +kernel) (by decide +kernel)
set_option maxRecDepth 20000 in
theorem gL_law_X11_film : GoodIn wsL_law (wsV RL 126 RX11 yX11_film wsX11_film) := goodIn_app (goodIn_of _ (by decide +kernel)) ggL_law_X11_film
set_option maxRecDepth 20000 in
theorem ggL_law_X10_sheet : GoodIn wsL_law wsX10_sheet := goodIn_r _ [891, 116, 892, 33, 820, 821, 2, 822, 120, 121, 122, 893, 894, 895, 32, 896, 90, 91, 897, 873, 874, 875, 89, 876, 877, 878, 942, 943, 944, 945, 946, 947, 948, 988, 989, 990] (by decide +kernel) (by decide +kernel)
set_option maxRecDepth 20000 in
theorem gL_law_X10_sheet : GoodIn wsL_law (wsV RL 127 RX10 yX10_sheet wsX10_sheet) := goodIn_app (goodIn_of _ (by decide +kernel)) ggL_law_X10_sheet
set_option maxRecDepth 20000 in
theorem ggL_law_X11_sheet : GoodIn wsL_law wsX11_sheet := goodIn_r _ [901, 343, 159, 902, 108, 109, 110, 858, 859, 5, 860, 161, 162, 163, 949, 950, 951, 952, 953, 954, 955, 956, 957, 958, 959, 960, 961, 962, 963, 964, 965, 966, 967, 968, 969, 970, 971] (by decide +kernel) (by decide +kernel)
set_option maxRecDepth 20000 in
theorem gL_law_X11_sheet : GoodIn wsL_law (wsV RL 130 RX11 yX11_sheet wsX11_sheet) := goodIn_app (goodIn_of _ (by decide +kernel)) ggL_law_X11_sheet
set_option maxRecDepth 20000 in
theorem ggL_law_X10_clear : GoodIn wsL_law wsX10_clear := goodIn_r _ [906, 116, 33, 907, 120, 121, 2, 122, 908, 831, 832, 32, 833, 90, 909, 910, 911, 912, 91, 942, 943, 944, 945, 946, 947, 948, 988, 989, 990] (by decide +kernel) (by decide +kernel)
set_option maxRecDepth 20000 in
theorem gL_law_X10_clear : GoodIn wsL_law (wsV RL 131 RX10 yX10_clear wsX10_clear) := goodIn_app (goodIn_of _ (by decide +kernel)) ggL_law_X10_clear
set_option maxRecDepth 20000 in
theorem ggL_law_X11_clear : GoodIn wsL_law wsX11_clear := goodIn_r _ [916, 159, 108, 865, 109, 858, 859, 5, 860, 343, 161, 162, 163, 949, 950, 951, 952, 953, 954, 955, 956, 957, 958, 959, 960, 961, 962, 963, 964, 965, 966, 967, 968, 969, 970, 971] (by decide +kernel) (by decide +kernel)
set_option maxRecDepth 20000 in
theorem gL_law_X11_clear : GoodIn wsL_law (wsV RL 134 RX11 yX11_clear wsX11_clear) := goodIn_app (goodIn_of _ (by decide +kernel)) ggL_law_X11_clear
set_option maxRecDepth 20000 in
theorem ggL_law_X10_item : GoodIn wsL_law wsX10_item := goodIn_r _ [920, 116, 33, 820, 821, 2, 822, 120, 121, 122, 823, 824, 825, 32, 826, 827, 90, 828, 829, 830, 831, 832, 833, 834, 835, 836, 837, 91, 872, 873, 874, 875, 89, 876, 877, 878, 942, 943, 944, 945, 946, 947, 948, 988, 989, 990] (by decide +kernel) (by decide +kernel)
set_option maxRecDepth 20000 in
theorem gL_law_X10_item : GoodIn wsL_law (wsV RL 137 RX10 yX10_item wsX10_item) := goodIn_app (goodIn_of _ (by decide +kernel)) ggL_law_X10_item
set_option maxRecDepth 20000 in
theorem ggL_law_X11_item : GoodIn wsL_law wsX11_item := goodIn_r _ [924, 343, 159, 110, 858, 859, 5, 860, 161, 162, 163, 861, 862, 863, 864, 108, 865, 866, 109, 867, 885, 886, 887, 949, 950, 951, 952, 953, 954, 955, 956, 957, 958, 959, 960, 961, 962, 963, 964, 965, 966, 967, 968, 969, 970, 971] (by decide +kernel) (by decide +kernel)
set_option maxRecDepth 20000 in
theorem gL_law_X11_item : GoodIn wsL_law (wsV RL 141 RX11 yX11_item wsX11_item) := goodIn_app (goodIn_of _ (by decide +kernel)) ggL_law_X11_item
set_option maxRecDepth 20000 in
theorem ggL_law_X10_copy : GoodIn wsL_law wsX10_copy := goodIn_r _ [928, 116, 33, 907, 929, 930, 931, 120, 121, 2, 122, 908, 831, 832, 32, 833, 90, 932, 835, 836, 837, 91, 933, 934, 935, 936, 89, 937, 133, 134, 135, 942, 943, 944, 945, 946, 947, 948, 988, 989, 990] (by decide +kernel) (by decide +kernel)
set_option maxRecDepth 20000 in
theorem gL_law_X10_copy : GoodIn wsL_law (wsV RL 142 RX10 yX10_copy wsX10_copy) := goodIn_app (goodIn_of _ (by decide +kernel)) ggL_law_X10_copy
set_option maxRecDepth 20000 in
theorem ggL_law_X11_copy : GoodIn wsL_law wsX11_copy := goodIn_r _ [941, 159, 108, 865, 866, 109, 867, 111, 110, 858, 859, 5, 860, 343, 161, 162, 163, 949, 950, 951, 952, 953, 954, 955, 956, 957, 958, 959, 960, 961, 962, 963, 964, 965, 966, 967, 968, 969, 970, 971] (by decide +kernel) (by decide +kernel)
set_option maxRecDepth 20000 in
theorem gL_law_X11_copy : GoodIn wsL_law (wsV RL 146 RX11 yX11_copy wsX11_copy) := goodIn_app (goodIn_of _ (by decide +kernel)) ggL_law_X11_copy
theorem dL_law_0 : decode cL_law 0 = .ok (.new 7, 3) := by decide +kernel
theorem dL_law_3 : decode cL_law 3 = .ok (.dup, 1) := by decide +kernel
theorem dL_law_4 : decode cL_law 4 = .ok (.invokespecial 9, 3) := by decide +kernel
theorem dL_law_7 : decode cL_law 7 = .ok (.astore_n 1, 1) := by decide +kernel
theorem dL_law_8 : decode cL_law 8 = .ok (.new 10, 3) := by decide +kernel
theorem dL_law_11 : decode cL_law 11 = .ok (.dup, 1) := by decide +kernel
theorem dL_law_12 : decode cL_law 12 = .ok (.invokespecial 12, 3) := by decide +kernel
theorem dL_law_15 : decode cL_law 15 = .ok (.astore_n 2, 1) := by decide +kernel
theorem dL_law_16 : decode cL_law 16 = .ok (.iconst 0, 1) := by decide +kernel
theorem dL_law_17 : decode cL_law 17 = .ok (.istore_n 3, 1) := by decide +kernel
theorem dL_law_18 : decode cL_law 18 = .ok (.iload_n 3, 1) := by decide +kernel
theorem dL_law_19 : decode cL_law 19 = .ok (.aload_n 0, 1) := by decide +kernel
theorem dL_law_20 : decode cL_law 20 = .ok (.arraylength, 1) := by decide +kernel
theorem dL_law_21 : decode cL_law 21 = .ok (.bipush 7, 2) := by decide +kernel
theorem dL_law_23 : decode cL_law 23 = .ok (.isub, 1) := by decide +kernel
theorem dL_law_24 : decode cL_law 24 = .ok (.if_icmp .gt 1179, 3) := by decide +kernel
theorem dL_law_27 : decode cL_law 27 = .ok (.aload_n 0, 1) := by decide +kernel
theorem dL_law_28 : decode cL_law 28 = .ok (.iload_n 3, 1) := by decide +kernel
theorem dL_law_29 : decode cL_law 29 = .ok (.iaload, 1) := by decide +kernel
theorem dL_law_30 : decode cL_law 30 = .ok (.bipush 31, 2) := by decide +kernel
theorem dL_law_32 : decode cL_law 32 = .ok (.iand, 1) := by decide +kernel
theorem dL_law_33 : decode cL_law 33 = .ok (.tableswitch 1164 0 30 #[139, 182, 215, 248, 271, 294, 307, 330, 353, 396, 429, 452, 475, 498, 511, 534, 567, 610, 663, 696, 719, 742, 755, 798, 811, 824, 899, 952, 995, 1018, 1101], 139) := by decide +kernel
theorem dL_law_172 : decode cL_law 172 = .ok (.aload_n 1, 1) := by decide +kernel
theorem dL_law_173 : decode cL_law 173 = .ok (.aload_n 0, 1) := by decide +kernel
theorem dL_law_174 : decode cL_law 174 = .ok (.iload_n 3, 1) := by decide +kernel
theorem dL_law_175 : decode cL_law 175 = .ok (.iconst 1, 1) := by decide +kernel
theorem dL_law_176 : decode cL_law 176 = .ok (.iadd, 1) := by decide +kernel
theorem dL_law_177 : decode cL_law 177 = .ok (.iaload, 1) := by decide +kernel
theorem dL_law_178 : decode cL_law 178 = .ok (.aload_n 0, 1) := by decide +kernel
theorem dL_law_179 : decode cL_law 179 = .ok (.iload_n 3, 1) := by decide +kernel
theorem dL_law_180 : decode cL_law 180 = .ok (.iconst 2, 1) := by decide +kernel
theorem dL_law_181 : decode cL_law 181 = .ok (.iadd, 1) := by decide +kernel
theorem dL_law_182 : decode cL_law 182 = .ok (.iaload, 1) := by decide +kernel
theorem dL_law_183 : decode cL_law 183 = .ok (.aload_n 0, 1) := by decide +kernel
theorem dL_law_184 : decode cL_law 184 = .ok (.iload_n 3, 1) := by decide +kernel
theorem dL_law_185 : decode cL_law 185 = .ok (.iconst 3, 1) := by decide +kernel
theorem dL_law_186 : decode cL_law 186 = .ok (.iadd, 1) := by decide +kernel
theorem dL_law_187 : decode cL_law 187 = .ok (.iaload, 1) := by decide +kernel
theorem dL_law_188 : decode cL_law 188 = .ok (.invokevirtual 13, 3) := by decide +kernel
theorem dL_law_191 : decode cL_law 191 = .ok (.aload_n 2, 1) := by decide +kernel
theorem dL_law_192 : decode cL_law 192 = .ok (.aload_n 0, 1) := by decide +kernel
theorem dL_law_193 : decode cL_law 193 = .ok (.iload_n 3, 1) := by decide +kernel
theorem dL_law_194 : decode cL_law 194 = .ok (.iconst 1, 1) := by decide +kernel
theorem dL_law_195 : decode cL_law 195 = .ok (.iadd, 1) := by decide +kernel
theorem dL_law_196 : decode cL_law 196 = .ok (.iaload, 1) := by decide +kernel
theorem dL_law_197 : decode cL_law 197 = .ok (.aload_n 0, 1) := by decide +kernel
theorem dL_law_198 : decode cL_law 198 = .ok (.iload_n 3, 1) := by decide +kernel
theorem dL_law_199 : decode cL_law 199 = .ok (.iconst 2, 1) := by decide +kernel
theorem dL_law_200 : decode cL_law 200 = .ok (.iadd, 1) := by decide +kernel
theorem dL_law_201 : decode cL_law 201 = .ok (.iaload, 1) := by decide +kernel
theorem dL_law_202 : decode cL_law 202 = .ok (.aload_n 0, 1) := by decide +kernel
theorem dL_law_203 : decode cL_law 203 = .ok (.iload_n 3, 1) := by decide +kernel
theorem dL_law_204 : decode cL_law 204 = .ok (.iconst 3, 1) := by decide +kernel
theorem dL_law_205 : decode cL_law 205 = .ok (.iadd, 1) := by decide +kernel
theorem dL_law_206 : decode cL_law 206 = .ok (.iaload, 1) := by decide +kernel
theorem dL_law_207 : decode cL_law 207 = .ok (.invokevirtual 17, 3) := by decide +kernel
theorem dL_law_210 : decode cL_law 210 = .ok (.if_icmp .eq 987, 3) := by decide +kernel
theorem dL_law_213 : decode cL_law 213 = .ok (.iconst 0, 1) := by decide +kernel
theorem dL_law_214 : decode cL_law 214 = .ok (.ireturn, 1) := by decide +kernel
theorem dL_law_215 : decode cL_law 215 = .ok (.aload_n 1, 1) := by decide +kernel
theorem dL_law_216 : decode cL_law 216 = .ok (.aload_n 0, 1) := by decide +kernel
theorem dL_law_217 : decode cL_law 217 = .ok (.iload_n 3, 1) := by decide +kernel
theorem dL_law_218 : decode cL_law 218 = .ok (.iconst 1, 1) := by decide +kernel
theorem dL_law_219 : decode cL_law 219 = .ok (.iadd, 1) := by decide +kernel
theorem dL_law_220 : decode cL_law 220 = .ok (.iaload, 1) := by decide +kernel
theorem dL_law_221 : decode cL_law 221 = .ok (.aload_n 0, 1) := by decide +kernel
theorem dL_law_222 : decode cL_law 222 = .ok (.iload_n 3, 1) := by decide +kernel
theorem dL_law_223 : decode cL_law 223 = .ok (.iconst 2, 1) := by decide +kernel
theorem dL_law_224 : decode cL_law 224 = .ok (.iadd, 1) := by decide +kernel
theorem dL_law_225 : decode cL_law 225 = .ok (.iaload, 1) := by decide +kernel
theorem dL_law_226 : decode cL_law 226 = .ok (.invokevirtual 18, 3) := by decide +kernel
theorem dL_law_229 : decode cL_law 229 = .ok (.aload_n 2, 1) := by decide +kernel
theorem dL_law_230 : decode cL_law 230 = .ok (.aload_n 0, 1) := by decide +kernel
theorem dL_law_231 : decode cL_law 231 = .ok (.iload_n 3, 1) := by decide +kernel
