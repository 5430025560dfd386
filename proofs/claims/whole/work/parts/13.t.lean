set_option maxRecDepth 20000 in
theorem ggL_law_X3_init : GoodIn wsL_law wsX3_init := goodIn_r _ [8, 9, 10, 11, 12, 13, 14, 15, 16, 17, 18, 19, 20, 21, 22, 23, 24, 25, 26, 27, 28, 29, 30, 31, 32, 33, 34, 35, 36, 37, 38, 39, 40, 41, 42, 43, 44, 45, 46, 47, 48, 49, 50, 51, 981, 982, 983, 984, 985, 986, 987, 988, 989, 942, 943, 944, 945, 946, 947, 948, 949, 950, 951, 990, 991, 992, 993, 994, 995, 996, 997, 998, 999, 1000, 1001, 1002, 1003, 1004, 1005] (by decide +kernel) (by decide +kernel)
set_option maxRecDepth 20000 in
theorem gL_law_X3_init : GoodIn wsL_law (wsX3_init) := ggL_law_X3_init
set_option maxRecDepth 20000 in
theorem ggL_law_X4_init : GoodIn wsL_law wsX4_init := goodIn_r _ [54, 55, 10, 11, 27, 56, 57, 23, 58, 59, 60, 61, 62, 63, 64, 65, 66, 67, 68, 69, 70, 5, 71, 72, 73, 74, 75, 76, 77, 78, 79, 80, 952, 953, 954, 955, 956, 957, 958, 959, 960, 961, 962, 963, 964, 965, 966, 967, 968, 969, 970, 971, 972, 973, 974, 975, 976, 977, 978, 979, 980] (by decide +kernel) (by decide +kernel)
set_option maxRecDepth 20000 in
theorem gL_law_X4_init : GoodIn wsL_law (wsX4_init) := ggL_law_X4_init
set_option maxRecDepth 20000 in
theorem ggL_law_X3_feed : GoodIn wsL_law wsX3_feed := goodIn_r _ [84, 15, 85, 86, 87, 2, 88, 89, 90, 91, 14, 92, 93, 36, 942, 943, 944, 945, 946, 947, 948, 949, 950, 951, 981, 982, 983, 984, 985, 986, 987, 988, 989] (by decide +kernel) (by decide +kernel)
set_option maxRecDepth 20000 in
theorem gL_law_X3_feed : GoodIn wsL_law (wsV RL 13 RX3 yX3_feed wsX3_feed) := goodIn_app (goodIn_of _ (by decide +kernel)) ggL_law_X3_feed
set_option maxRecDepth 20000 in
theorem ggL_law_X4_feed : GoodIn wsL_law wsX4_feed := goodIn_r _ [97, 98, 99, 60, 100, 101, 5, 102, 952, 953, 954, 955, 956, 957, 958, 959, 960, 961, 962, 963, 964, 965, 966, 967, 968, 969, 970, 971, 972, 973, 974, 975, 976, 977, 978, 979, 980] (by decide +kernel) (by decide +kernel)
set_option maxRecDepth 20000 in
theorem gL_law_X4_feed : GoodIn wsL_law (wsV RL 17 RX4 yX4_feed wsX4_feed) := goodIn_app (goodIn_of _ (by decide +kernel)) ggL_law_X4_feed
set_option maxRecDepth 20000 in
theorem ggL_law_X3_end : GoodIn wsL_law wsX3_end := goodIn_r _ [106, 15, 85, 86, 87, 2, 88, 942, 943, 944, 945, 946, 947, 948, 949, 950, 951, 981, 982, 983, 984, 985, 986, 987, 988, 989] (by decide +kernel) (by decide +kernel)
set_option maxRecDepth 20000 in
theorem gL_law_X3_end : GoodIn wsL_law (wsV RL 18 RX3 yX3_end wsX3_end) := goodIn_app (goodIn_of _ (by decide +kernel)) ggL_law_X3_end
set_option maxRecDepth 20000 in
theorem ggL_law_X4_end : GoodIn wsL_law wsX4_end := goodIn_r _ [110, 99, 100, 101, 5, 102, 952, 953, 954, 955, 956, 957, 958, 959, 960, 961, 962, 963, 964, 965, 966, 967, 968, 969, 970, 971, 972, 973, 974, 975, 976, 977, 978, 979, 980] (by decide +kernel) (by decide +kernel)
set_option maxRecDepth 20000 in
theorem gL_law_X4_end : GoodIn wsL_law (wsV RL 21 RX4 yX4_end wsX4_end) := goodIn_app (goodIn_of _ (by decide +kernel)) ggL_law_X4_end
set_option maxRecDepth 20000 in
theorem ggL_law_X3_text : GoodIn wsL_law wsX3_text := goodIn_r _ [114, 21, 15, 85, 115, 116, 19, 24, 117, 118, 119, 18, 120, 121, 122, 123, 124, 125, 126, 127, 128, 129, 14, 130, 131, 132, 133, 134, 135, 136, 93, 137, 138, 139, 140, 141, 36, 142, 143, 144, 145, 146, 147, 148, 149, 150, 151, 152, 153, 154, 155, 156, 157, 158, 159, 160, 161, 162, 163, 164, 165, 166, 167, 168, 169, 170, 171, 172, 173, 174, 175, 176, 177, 178, 179, 180, 181, 182, 183, 184, 185, 186, 187, 188, 189, 190, 191, 192, 193, 194, 195, 196, 197, 198, 199, 200, 201, 202, 203, 204, 205, 206, 207, 208, 209, 210, 211, 212, 213, 214, 215, 216, 217, 218, 219, 220, 221, 222, 223, 224, 225, 226, 87, 2, 88, 227, 228, 229, 230, 231, 232, 233, 234, 235, 236, 237, 238, 239, 240, 44, 241, 242, 243, 244, 245, 246, 247, 248, 249, 40, 41, 42, 43, 250, 251, 252, 253, 254, 255, 256, 257, 258, 259, 260, 261, 262, 263, 264, 265, 266, 267, 268, 269, 45, 46, 942, 943, 944, 945, 946, 947, 948, 949, 950, 951, 981, 982, 983, 984, 985, 986, 987, 988, 989, 990, 991, 992, 993, 994, 995, 996, 997, 998, 999, 1000, 1001, 1002] (by decide +kernel) (by decide +kernel)
set_option maxRecDepth 20000 in
theorem gL_law_X3_text : GoodIn wsL_law (wsV RL 22 RX3 yX3_text wsX3_text) := goodIn_app (goodIn_of _ (by decide +kernel)) ggL_law_X3_text
set_option maxRecDepth 20000 in
theorem ggL_law_X4_text : GoodIn wsL_law wsX4_text := goodIn_r _ [273, 274, 275, 276, 75, 72, 99, 277, 68, 69, 70, 5, 71, 59, 73, 74, 278, 279, 280, 281, 282, 283, 284, 285, 286, 287, 288, 289, 290, 291, 60, 100, 101, 102, 292, 293, 294, 295, 296, 297, 298, 299, 300, 301, 302, 303, 304, 305, 306, 307, 308, 309, 310, 311, 312, 313, 314, 315, 316, 317, 318, 319, 320, 321, 322, 323, 324, 325, 326, 327, 328, 329, 330, 331, 332, 333, 334, 335, 76, 77, 78, 79, 56, 80, 58, 952, 953, 954, 955, 956, 957, 958, 959, 960, 961, 962, 963, 964, 965, 966, 967, 968, 969, 970, 971, 972, 973, 974, 975, 976, 977, 978, 979, 980] (by decide +kernel) (by decide +kernel)
set_option maxRecDepth 20000 in
theorem gL_law_X4_text : GoodIn wsL_law (wsV RL 26 RX4 yX4_text wsX4_text) := goodIn_app (goodIn_of _ (by decide +kernel)) ggL_law_X4_text
set_option maxRecDepth 20000 in
theorem ggL_law_X3_fault : GoodIn wsL_law wsX3_fault := goodIn_r _ [339, 15, 115, 942, 943, 944, 945, 946, 947, 948, 949, 950, 951, 981, 982, 983, 984, 985, 986, 987, 988, 989] (by decide +kernel) (by decide +kernel)
set_option maxRecDepth 20000 in
theorem gL_law_X3_fault : GoodIn wsL_law (wsV RL 27 RX3 yX3_fault wsX3_fault) := goodIn_app (goodIn_of _ (by decide +kernel)) ggL_law_X3_fault
set_option maxRecDepth 20000 in
theorem ggL_law_X4_fault : GoodIn wsL_law wsX4_fault := goodIn_r _ [343, 274, 952, 953, 954, 955, 956, 957, 958, 959, 960, 961, 962, 963, 964, 965, 966, 967, 968, 969, 970, 971, 972, 973, 974, 975, 976, 977, 978, 979, 980] (by decide +kernel) (by decide +kernel)
set_option maxRecDepth 20000 in
theorem gL_law_X4_fault : GoodIn wsL_law (wsV RL 30 RX4 yX4_fault wsX4_fault) := goodIn_app (goodIn_of _ (by decide +kernel)) ggL_law_X4_fault
set_option maxRecDepth 20000 in
theorem ggL_law_X3_rule : GoodIn wsL_law wsX3_rule := goodIn_r _ [347, 19, 348, 349, 350, 351, 352, 353, 354, 18, 355, 121, 124, 356, 357, 358, 359, 41, 360, 361, 362, 363, 364, 365, 366, 367, 942, 943, 944, 945, 946, 947, 948, 949, 950, 951, 990, 991, 992, 993, 994, 995, 996, 997, 998, 999, 1000, 1001, 1002] (by decide +kernel) (by decide +kernel)
set_option maxRecDepth 20000 in
theorem gL_law_X3_rule : GoodIn wsL_law (wsV RL 31 RX3 yX3_rule wsX3_rule) := goodIn_app (goodIn_of _ (by decide +kernel)) ggL_law_X3_rule
set_option maxRecDepth 20000 in
theorem ggL_law_X4_rule : GoodIn wsL_law wsX4_rule := goodIn_r _ [371, 80, 56, 372, 373, 374, 5, 375, 57, 376, 377, 378, 379, 380, 381, 382, 383, 384, 385, 386, 387, 388, 389, 390, 952, 953, 954, 955, 956, 957, 958, 959, 960, 961, 962, 963, 964, 965, 966, 967, 968, 969, 970, 971, 972, 973, 974, 975, 976, 977, 978, 979, 980] (by decide +kernel) (by decide +kernel)
set_option maxRecDepth 20000 in
theorem gL_law_X4_rule : GoodIn wsL_law (wsV RL 34 RX4 yX4_rule wsX4_rule) := goodIn_app (goodIn_of _ (by decide +kernel)) ggL_law_X4_rule
set_option maxRecDepth 20000 in
theorem ggL_law_X3_one : GoodIn wsL_law wsX3_one := goodIn_r _ [394, 19, 395, 396, 397, 398, 399, 259, 260, 18, 261, 121, 87, 2, 88, 400, 401, 402, 403, 124, 404, 405, 406, 407, 42, 123, 40, 408, 409, 410, 411, 412, 413, 414, 415, 41, 942, 943, 944, 945, 946, 947, 948, 949, 950, 951, 990, 991, 992, 993, 994, 995, 996, 997, 998, 999, 1000, 1001, 1002] (by decide +kernel) (by decide +kernel)
set_option maxRecDepth 20000 in
theorem gL_law_X3_one : GoodIn wsL_law (wsV RL 35 RX3 yX3_one wsX3_one) := goodIn_app (goodIn_of _ (by decide +kernel)) ggL_law_X3_one
set_option maxRecDepth 20000 in
theorem ggL_law_X4_one : GoodIn wsL_law wsX4_one := goodIn_r _ [419, 420, 421, 422, 423, 5, 424, 80, 100, 101, 102, 372, 373, 374, 375, 57, 56, 380, 381, 382, 383, 425, 426, 427, 428, 429, 430, 431, 432, 433, 434, 435, 436, 388, 389, 390, 952, 953, 954, 955, 956, 957, 958, 959, 960, 961, 962, 963, 964, 965, 966, 967, 968, 969, 970, 971, 972, 973, 974, 975, 976, 977, 978, 979, 980] (by decide +kernel) (by decide +kernel)
set_option maxRecDepth 20000 in
theorem gL_law_X4_one : GoodIn wsL_law (wsV RL 39 RX4 yX4_one wsX4_one) := goodIn_app (goodIn_of _ (by decide +kernel)) ggL_law_X4_one
set_option maxRecDepth 20000 in
theorem ggL_law_X3_gift : GoodIn wsL_law wsX3_gift := goodIn_r _ [440, 19, 351, 441, 86, 87, 2, 88, 942, 943, 944, 945, 946, 947, 948, 949, 950, 951, 990, 991, 992, 993, 994, 995, 996, 997, 998, 999, 1000, 1001, 1002] (by decide +kernel) (by decide +kernel)
set_option maxRecDepth 20000 in
theorem gL_law_X3_gift : GoodIn wsL_law (wsV RL 40 RX3 yX3_gift wsX3_gift) := goodIn_app (goodIn_of _ (by decide +kernel)) ggL_law_X3_gift
set_option maxRecDepth 20000 in
theorem ggL_law_X4_gift : GoodIn wsL_law wsX4_gift := goodIn_r _ [445, 56, 446, 100, 101, 5, 102, 952, 953, 954, 955, 956, 957, 958, 959, 960, 961, 962, 963, 964, 965, 966, 967, 968, 969, 970, 971, 972, 973, 974, 975, 976, 977, 978, 979, 980] (by decide +kernel) (by decide +kernel)
set_option maxRecDepth 20000 in
theorem gL_law_X4_gift : GoodIn wsL_law (wsV RL 43 RX4 yX4_gift wsX4_gift) := goodIn_app (goodIn_of _ (by decide +kernel)) ggL_law_X4_gift
set_option maxRecDepth 20000 in
theorem ggL_law_X3_alter : GoodIn wsL_law wsX3_alter := goodIn_r _ [450, 19, 395, 396, 397, 399, 259, 260, 18, 261, 121, 87, 2, 88, 451, 452, 453, 86, 942, 943, 944, 945, 946, 947, 948, 949, 950, 951, 990, 991, 992, 993, 994, 995, 996, 997, 998, 999, 1000, 1001, 1002] (by decide +kernel) (by decide +kernel)
set_option maxRecDepth 20000 in
theorem gL_law_X3_alter : GoodIn wsL_law (wsV RL 44 RX3 yX3_alter wsX3_alter) := goodIn_app (goodIn_of _ (by decide +kernel)) ggL_law_X3_alter
set_option maxRecDepth 20000 in
theorem ggL_law_X4_alter : GoodIn wsL_law wsX4_alter := goodIn_r _ [457, 446, 458, 459, 100, 101, 5, 102, 421, 422, 423, 424, 80, 460, 461, 462, 463, 56, 952, 953, 954, 955, 956, 957, 958, 959, 960, 961, 962, 963, 964, 965, 966, 967, 968, 969, 970, 971, 972, 973, 974, 975, 976, 977, 978, 979, 980] (by decide +kernel) (by decide +kernel)
set_option maxRecDepth 20000 in
theorem gL_law_X4_alter : GoodIn wsL_law (wsV RL 48 RX4 yX4_alter wsX4_alter) := goodIn_app (goodIn_of _ (by decide +kernel)) ggL_law_X4_alter
set_option maxRecDepth 20000 in
theorem ggL_law_X3_slump : GoodIn wsL_law wsX3_slump := goodIn_r _ [467, 19, 350, 86, 87, 2, 88, 942, 943, 944, 945, 946, 947, 948, 949, 950, 951, 990, 991, 992, 993, 994, 995, 996, 997, 998, 999, 1000, 1001, 1002] (by decide +kernel) (by decide +kernel)
set_option maxRecDepth 20000 in
theorem gL_law_X3_slump : GoodIn wsL_law (wsV RL 49 RX3 yX3_slump wsX3_slump) := goodIn_app (goodIn_of _ (by decide +kernel)) ggL_law_X3_slump
set_option maxRecDepth 20000 in
theorem ggL_law_X4_slump : GoodIn wsL_law wsX4_slump := goodIn_r _ [471, 472, 100, 101, 5, 102, 460, 461, 462, 463, 56, 952, 953, 954, 955, 956, 957, 958, 959, 960, 961, 962, 963, 964, 965, 966, 967, 968, 969, 970, 971, 972, 973, 974, 975, 976, 977, 978, 979, 980] (by decide +kernel) (by decide +kernel)
set_option maxRecDepth 20000 in
theorem gL_law_X4_slump : GoodIn wsL_law (wsV RL 52 RX4 yX4_slump wsX4_slump) := goodIn_app (goodIn_of _ (by decide +kernel)) ggL_law_X4_slump
set_option maxRecDepth 20000 in
theorem ggL_law_X3_hand : GoodIn wsL_law wsX3_hand := goodIn_r _ [476, 19, 477, 399, 259, 260, 18, 261, 121, 87, 2, 88, 942, 943, 944, 945, 946, 947, 948, 949, 950, 951, 990, 991, 992, 993, 994, 995, 996, 997, 998, 999, 1000, 1001, 1002] (by decide +kernel) (by decide +kernel)
set_option maxRecDepth 20000 in
theorem gL_law_X3_hand : GoodIn wsL_law (wsV RL 53 RX3 yX3_hand wsX3_hand) := goodIn_app (goodIn_of _ (by decide +kernel)) ggL_law_X3_hand
set_option maxRecDepth 20000 in
theorem ggL_law_X4_hand : GoodIn wsL_law wsX4_hand := goodIn_r _ [481, 421, 422, 423, 5, 424, 80, 100, 101, 102, 460, 461, 462, 463, 56, 952, 953, 954, 955, 956, 957, 958, 959, 960, 961, 962, 963, 964, 965, 966, 967, 968, 969, 970, 971, 972, 973, 974, 975, 976, 977, 978, 979, 980] (by decide +kernel) (by decide +kernel)
set_option maxRecDepth 20000 in
theorem gL_law_X4_hand : GoodIn wsL_law (wsV RL 56 RX4 yX4_hand wsX4_hand) := goodIn_app (goodIn_of _ (by decide +kernel)) ggL_law_X4_hand
set_option maxRecDepth 20000 in
theorem ggL_law_X3_give : GoodIn wsL_law wsX3_give := goodIn_r _ [485, 19, 351, 399, 259, 260, 18, 261, 121, 87, 2, 88, 86, 486, 238, 239, 240, 125, 44, 942, 943, 944, 945, 946, 947, 948, 949, 950, 951, 990, 991, 992, 993, 994, 995, 996, 997, 998, 999, 1000, 1001, 1002] (by decide +kernel) (by decide +kernel)
set_option maxRecDepth 20000 in
theorem gL_law_X3_give : GoodIn wsL_law (wsV RL 57 RX3 yX3_give wsX3_give) := goodIn_app (goodIn_of _ (by decide +kernel)) ggL_law_X3_give
set_option maxRecDepth 20000 in
theorem ggL_law_X4_give : GoodIn wsL_law wsX4_give := goodIn_r _ [490, 459, 56, 100, 101, 5, 102, 421, 422, 423, 424, 80, 952, 953, 954, 955, 956, 957, 958, 959, 960, 961, 962, 963, 964, 965, 966, 967, 968, 969, 970, 971, 972, 973, 974, 975, 976, 977, 978, 979, 980] (by decide +kernel) (by decide +kernel)
set_option maxRecDepth 20000 in
theorem gL_law_X4_give : GoodIn wsL_law (wsV RL 61 RX4 yX4_give wsX4_give) := goodIn_app (goodIn_of _ (by decide +kernel)) ggL_law_X4_give
set_option maxRecDepth 20000 in
theorem ggL_law_X3_drop : GoodIn wsL_law wsX3_drop := goodIn_r _ [494, 19, 351, 86, 87, 2, 88, 942, 943, 944, 945, 946, 947, 948, 949, 950, 951, 990, 991, 992, 993, 994, 995, 996, 997, 998, 999, 1000, 1001, 1002] (by decide +kernel) (by decide +kernel)
set_option maxRecDepth 20000 in
theorem gL_law_X3_drop : GoodIn wsL_law (wsV RL 62 RX3 yX3_drop wsX3_drop) := goodIn_app (goodIn_of _ (by decide +kernel)) ggL_law_X3_drop
set_option maxRecDepth 20000 in
theorem ggL_law_X4_drop : GoodIn wsL_law wsX4_drop := goodIn_r _ [498, 56, 100, 101, 5, 102, 460, 461, 462, 463, 952, 953, 954, 955, 956, 957, 958, 959, 960, 961, 962, 963, 964, 965, 966, 967, 968, 969, 970, 971, 972, 973, 974, 975, 976, 977, 978, 979, 980] (by decide +kernel) (by decide +kernel)
set_option maxRecDepth 20000 in
theorem gL_law_X4_drop : GoodIn wsL_law (wsV RL 65 RX4 yX4_drop wsX4_drop) := goodIn_app (goodIn_of _ (by decide +kernel)) ggL_law_X4_drop
set_option maxRecDepth 20000 in
theorem ggL_law_X3_quarters : GoodIn wsL_law wsX3_quarters := goodIn_r _ [502, 19, 349, 86, 87, 2, 88, 503, 504, 505, 18, 506, 507, 508, 509, 510, 121, 124, 43, 122, 511, 512, 513, 514, 125, 44, 41, 515, 516, 517, 518, 519, 520, 408, 409, 410, 411, 40, 412, 413, 414, 415, 521, 522, 523, 524, 404, 405, 406, 407, 42, 123, 525, 526, 527, 528, 364, 365, 366, 367, 529, 530, 531, 532, 352, 353, 354, 355, 942, 943, 944, 945, 946, 947, 948, 949, 950, 951, 990, 991, 992, 993, 994, 995, 996, 997, 998, 999, 1000, 1001, 1002] (by decide +kernel) (by decide +kernel)
set_option maxRecDepth 20000 in
theorem gL_law_X3_quarters : GoodIn wsL_law (wsV RL 66 RX3 yX3_quarters wsX3_quarters) := goodIn_app (goodIn_of _ (by decide +kernel)) ggL_law_X3_quarters
set_option maxRecDepth 20000 in
theorem ggL_law_X4_quarters : GoodIn wsL_law wsX4_quarters := goodIn_r _ [536, 537, 56, 100, 101, 5, 102, 372, 373, 374, 375, 57, 538, 539, 540, 541, 542, 543, 544, 545, 546, 80, 61, 547, 548, 549, 550, 380, 381, 382, 383, 551, 552, 553, 554, 555, 556, 557, 425, 426, 427, 428, 429, 430, 431, 432, 433, 434, 435, 436, 388, 389, 390, 558, 559, 560, 561, 562, 563, 564, 565, 952, 953, 954, 955, 956, 957, 958, 959, 960, 961, 962, 963, 964, 965, 966, 967, 968, 969, 970, 971, 972, 973, 974, 975, 976, 977, 978, 979, 980] (by decide +kernel) (by decide +kernel)
set_option maxRecDepth 20000 in
theorem gL_law_X4_quarters : GoodIn wsL_law (wsV RL 69 RX4 yX4_quarters wsX4_quarters) := goodIn_app (goodIn_of _ (by decide +kernel)) ggL_law_X4_quarters
set_option maxRecDepth 20000 in
theorem ggL_law_X3_runs : GoodIn wsL_law wsX3_runs := goodIn_r _ [569, 20, 19, 86, 87, 2, 88, 262, 263, 264, 18, 265, 121, 122, 123, 124, 125, 126, 40, 266, 267, 268, 269, 41, 42, 43, 44, 45, 46, 570, 508, 509, 510, 511, 512, 513, 514, 515, 516, 517, 518, 519, 520, 408, 409, 410, 411, 412, 413, 414, 415, 521, 522, 523, 524, 404, 405, 406, 407, 525, 526, 527, 528, 364, 365, 366, 367, 529, 530, 531, 532, 360, 361, 362, 363, 356, 357, 358, 359, 352, 353, 354, 355, 942, 943, 944, 945, 946, 947, 948, 949, 950, 951, 990, 991, 992, 993, 994, 995, 996, 997, 998, 999, 1000, 1001, 1002] (by decide +kernel) (by decide +kernel)
set_option maxRecDepth 20000 in
theorem gL_law_X3_runs : GoodIn wsL_law (wsV RL 70 RX3 yX3_runs wsX3_runs) := goodIn_app (goodIn_of _ (by decide +kernel)) ggL_law_X3_runs
set_option maxRecDepth 20000 in
theorem ggL_law_X4_runs : GoodIn wsL_law wsX4_runs := goodIn_r _ [574, 420, 542, 57, 575, 576, 5, 577, 578, 100, 101, 102, 372, 373, 374, 375, 56, 543, 544, 545, 546, 80, 61, 547, 548, 549, 550, 380, 381, 382, 383, 551, 552, 553, 554, 555, 556, 557, 425, 426, 427, 428, 429, 430, 431, 432, 433, 434, 435, 436, 388, 389, 390, 558, 559, 560, 561, 384, 385, 386, 387, 376, 377, 378, 379, 952, 953, 954, 955, 956, 957, 958, 959, 960, 961, 962, 963, 964, 965, 966, 967, 968, 969, 970, 971, 972, 973, 974, 975, 976, 977, 978, 979, 980] (by decide +kernel) (by decide +kernel)
set_option maxRecDepth 20000 in
theorem gL_law_X4_runs : GoodIn wsL_law (wsV RL 73 RX4 yX4_runs wsX4_runs) := goodIn_app (goodIn_of _ (by decide +kernel)) ggL_law_X4_runs
set_option maxRecDepth 20000 in
theorem ggL_law_X3_ahead : GoodIn wsL_law wsX3_ahead := goodIn_r _ [582, 19, 20, 396, 399, 259, 260, 18, 261, 121, 87, 2, 88, 86, 262, 263, 264, 265, 122, 123, 124, 125, 126, 40, 266, 267, 268, 269, 41, 42, 43, 44, 45, 46, 570, 508, 509, 510, 511, 512, 513, 514, 515, 516, 517, 518, 519, 520, 408, 409, 410, 411, 412, 413, 414, 415, 521, 522, 523, 524, 404, 405, 406, 407, 525, 526, 527, 528, 364, 365, 366, 367, 529, 530, 531, 532, 583, 942, 943, 944, 945, 946, 947, 948, 949, 950, 951, 990, 991, 992, 993, 994, 995, 996, 997, 998, 999, 1000, 1001, 1002] (by decide +kernel) (by decide +kernel)
set_option maxRecDepth 20000 in
theorem gL_law_X3_ahead : GoodIn wsL_law (wsV RL 74 RX3 yX3_ahead wsX3_ahead) := goodIn_app (goodIn_of _ (by decide +kernel)) ggL_law_X3_ahead
set_option maxRecDepth 20000 in
theorem ggL_law_X4_ahead : GoodIn wsL_law wsX4_ahead := goodIn_r _ [587, 421, 422, 423, 5, 424, 80, 100, 101, 102, 575, 576, 577, 578, 588, 589, 590, 372, 373, 374, 375, 57, 56, 543, 544, 545, 546, 61, 542, 547, 548, 549, 550, 380, 381, 382, 383, 551, 552, 553, 554, 555, 556, 557, 425, 426, 427, 428, 429, 430, 431, 432, 433, 434, 435, 436, 388, 389, 390, 558, 559, 560, 561, 952, 953, 954, 955, 956, 957, 958, 959, 960, 961, 962, 963, 964, 965, 966, 967, 968, 969, 970, 971, 972, 973, 974, 975, 976, 977, 978, 979, 980] (by decide +kernel) (by decide +kernel)
set_option maxRecDepth 20000 in
theorem gL_law_X4_ahead : GoodIn wsL_law (wsV RL 77 RX4 yX4_ahead wsX4_ahead) := goodIn_app (goodIn_of _ (by decide +kernel)) ggL_law_X4_ahead
set_option maxRecDepth 20000 in
theorem ggL_law_X3_soonest : GoodIn wsL_law wsX3_soonest := goodIn_r _ [594, 19, 20, 399, 259, 260, 18, 261, 121, 87, 2, 88, 262, 263, 264, 265, 122, 123, 124, 125, 126, 40, 266, 267, 268, 269, 41, 42, 43, 44, 45, 46, 595, 596, 597, 598, 507, 508, 509, 510, 511, 512, 513, 514, 515, 516, 517, 518, 519, 520, 408, 409, 410, 411, 412, 413, 414, 415, 521, 522, 523, 524, 404, 405, 406, 407, 525, 526, 527, 528, 364, 365, 366, 367, 529, 530, 531, 532, 942, 943, 944, 945, 946, 947, 948, 949, 950, 951, 990, 991, 992, 993, 994, 995, 996, 997, 998, 999, 1000, 1001, 1002] (by decide +kernel) (by decide +kernel)
set_option maxRecDepth 20000 in
theorem gL_law_X3_soonest : GoodIn wsL_law (wsV RL 78 RX3 yX3_soonest wsX3_soonest) := goodIn_app (goodIn_of _ (by decide +kernel)) ggL_law_X3_soonest
set_option maxRecDepth 20000 in
theorem ggL_law_X4_soonest : GoodIn wsL_law wsX4_soonest := goodIn_r _ [602, 421, 422, 423, 5, 424, 80, 100, 101, 102, 372, 373, 374, 375, 57, 56, 603, 604, 605, 606, 543, 544, 545, 546, 61, 542, 547, 548, 549, 550, 380, 381, 382, 383, 551, 552, 553, 554, 555, 556, 557, 425, 426, 427, 428, 429, 430, 431, 432, 433, 434, 435, 436, 388, 389, 390, 558, 559, 560, 561, 952, 953, 954, 955, 956, 957, 958, 959, 960, 961, 962, 963, 964, 965, 966, 967, 968, 969, 970, 971, 972, 973, 974, 975, 976, 977, 978, 979, 980] (by decide +kernel) (by decide +kernel)
set_option maxRecDepth 20000 in
theorem gL_law_X4_soonest : GoodIn wsL_law (wsV RL 81 RX4 yX4_soonest wsX4_soonest) := goodIn_app (goodIn_of _ (by decide +kernel)) ggL_law_X4_soonest
set_option maxRecDepth 20000 in
theorem ggL_law_X3_share : GoodIn wsL_law wsX3_share := goodIn_r _ [610, 19, 611, 20, 477, 399, 259, 260, 18, 261, 121, 87, 2, 88, 86, 262, 263, 264, 265, 122, 123, 124, 125, 126, 40, 266, 267, 268, 269, 41, 42, 43, 44, 45, 46, 570, 508, 509, 510, 511, 512, 513, 514, 515, 516, 517, 518, 519, 520, 408, 409, 410, 411, 412, 413, 414, 415, 521, 522, 523, 524, 404, 405, 406, 407, 525, 526, 527, 528, 364, 365, 366, 367, 529, 530, 531, 532, 612, 613, 614, 615, 616, 617, 942, 943, 944, 945, 946, 947, 948, 949, 950, 951, 990, 991, 992, 993, 994, 995, 996, 997, 998, 999, 1000, 1001, 1002] (by decide +kernel) (by decide +kernel)
set_option maxRecDepth 20000 in
theorem gL_law_X3_share : GoodIn wsL_law (wsV RL 82 RX3 yX3_share wsX3_share) := goodIn_app (goodIn_of _ (by decide +kernel)) ggL_law_X3_share
set_option maxRecDepth 20000 in
theorem ggL_law_X4_share : GoodIn wsL_law wsX4_share := goodIn_r _ [621, 578, 622, 57, 421, 422, 423, 5, 424, 80, 100, 101, 102, 588, 589, 590, 372, 373, 374, 375, 56, 543, 544, 545, 546, 61, 542, 547, 548, 549, 550, 380, 381, 382, 383, 551, 552, 553, 554, 555, 556, 557, 425, 426, 427, 428, 429, 430, 431, 432, 433, 434, 435, 436, 388, 389, 390, 558, 559, 560, 561, 623, 624, 625, 626, 627, 628, 952, 953, 954, 955, 956, 957, 958, 959, 960, 961, 962, 963, 964, 965, 966, 967, 968, 969, 970, 971, 972, 973, 974, 975, 976, 977, 978, 979, 980] (by decide +kernel) (by decide +kernel)
set_option maxRecDepth 20000 in
theorem gL_law_X4_share : GoodIn wsL_law (wsV RL 86 RX4 yX4_share wsX4_share) := goodIn_app (goodIn_of _ (by decide +kernel)) ggL_law_X4_share
set_option maxRecDepth 20000 in
theorem ggL_law_X3_round : GoodIn wsL_law wsX3_round := goodIn_r _ [632, 19, 348, 20, 477, 262, 263, 264, 18, 265, 121, 122, 123, 124, 125, 126, 40, 266, 267, 268, 269, 41, 42, 43, 44, 45, 46, 570, 508, 509, 510, 511, 512, 513, 514, 515, 516, 517, 518, 519, 2, 520, 408, 409, 410, 411, 412, 413, 414, 415, 521, 522, 523, 524, 404, 405, 406, 407, 525, 526, 527, 528, 364, 365, 366, 367, 529, 530, 531, 532, 942, 943, 944, 945, 946, 947, 948, 949, 950, 951, 990, 991, 992, 993, 994, 995, 996, 997, 998, 999, 1000, 1001, 1002] (by decide +kernel) (by decide +kernel)
set_option maxRecDepth 20000 in
theorem gL_law_X3_round : GoodIn wsL_law (wsV RL 87 RX3 yX3_round wsX3_round) := goodIn_app (goodIn_of _ (by decide +kernel)) ggL_law_X3_round
set_option maxRecDepth 20000 in
theorem ggL_law_X4_round : GoodIn wsL_law wsX4_round := goodIn_r _ [636, 80, 57, 372, 373, 374, 5, 375, 56, 543, 544, 545, 546, 61, 542, 547, 548, 549, 550, 380, 381, 382, 383, 551, 552, 553, 554, 555, 556, 557, 425, 426, 427, 428, 429, 430, 431, 432, 433, 434, 435, 436, 388, 389, 390, 558, 559, 560, 561, 952, 953, 954, 955, 956, 957, 958, 959, 960, 961, 962, 963, 964, 965, 966, 967, 968, 969, 970, 971, 972, 973, 974, 975, 976, 977, 978, 979, 980] (by decide +kernel) (by decide +kernel)
set_option maxRecDepth 20000 in
theorem gL_law_X4_round : GoodIn wsL_law (wsV RL 90 RX4 yX4_round wsX4_round) := goodIn_app (goodIn_of _ (by decide +kernel)) ggL_law_X4_round
set_option maxRecDepth 20000 in
theorem ggL_law_X3_trade : GoodIn wsL_law wsX3_trade := goodIn_r _ [640, 19, 20, 397, 399, 259, 260, 18, 261, 121, 87, 2, 88, 86, 262, 263, 264, 265, 122, 123, 124, 125, 126, 40, 266, 267, 268, 269, 41, 42, 43, 44, 45, 46, 595, 596, 597, 598, 507, 508, 509, 510, 511, 512, 513, 514, 515, 516, 517, 518, 519, 520, 408, 409, 410, 411, 412, 413, 414, 415, 521, 522, 523, 524, 404, 405, 406, 407, 525, 526, 527, 528, 364, 365, 366, 367, 529, 530, 531, 532, 942, 943, 944, 945, 946, 947, 948, 949, 950, 951, 990, 991, 992, 993, 994, 995, 996, 997, 998, 999, 1000, 1001, 1002] (by decide +kernel) (by decide +kernel)
set_option maxRecDepth 20000 in
theorem gL_law_X3_trade : GoodIn wsL_law (wsV RL 91 RX3 yX3_trade wsX3_trade) := goodIn_app (goodIn_of _ (by decide +kernel)) ggL_law_X3_trade
set_option maxRecDepth 20000 in
theorem ggL_law_X4_trade : GoodIn wsL_law wsX4_trade := goodIn_r _ [644, 421, 422, 423, 5, 424, 80, 100, 101, 102, 588, 589, 590, 372, 373, 374, 375, 57, 56, 551, 552, 553, 554, 603, 604, 605, 606, 543, 544, 545, 546, 61, 542, 547, 548, 549, 550, 380, 381, 382, 383, 555, 556, 557, 425, 426, 427, 428, 429, 430, 431, 432, 433, 434, 435, 436, 388, 389, 390, 558, 559, 560, 561, 952, 953, 954, 955, 956, 957, 958, 959, 960, 961, 962, 963, 964, 965, 966, 967, 968, 969, 970, 971, 972, 973, 974, 975, 976, 977, 978, 979, 980] (by decide +kernel) (by decide +kernel)
set_option maxRecDepth 20000 in
theorem gL_law_X4_trade : GoodIn wsL_law (wsV RL 94 RX4 yX4_trade wsX4_trade) := goodIn_app (goodIn_of _ (by decide +kernel)) ggL_law_X4_trade
