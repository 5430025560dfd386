set_option maxRecDepth 20000 in
theorem ggL_law_X3_keeper : GoodIn wsL_law wsX3_keeper := goodIn_r _ [648, 19, 348, 20, 477, 86, 87, 2, 88, 262, 263, 264, 18, 265, 121, 122, 123, 124, 125, 126, 40, 266, 267, 268, 269, 41, 42, 43, 44, 45, 46, 503, 504, 505, 506, 507, 508, 509, 510, 511, 512, 513, 514, 515, 516, 517, 518, 519, 520, 408, 409, 410, 411, 412, 413, 414, 415, 521, 522, 523, 524, 404, 405, 406, 407, 525, 526, 527, 528, 364, 365, 366, 367, 529, 530, 531, 532, 356, 357, 358, 359, 942, 943, 944, 945, 946, 947, 948, 949, 950, 951, 990, 991, 992, 993, 994, 995, 996, 997, 998, 999, 1000, 1001, 1002] (by decide +kernel) (by decide +kernel)
set_option maxRecDepth 20000 in
theorem gL_law_X3_keeper : GoodIn wsL_law (wsV RL 95 RX3 yX3_keeper wsX3_keeper) := goodIn_app (goodIn_of _ (by decide +kernel)) ggL_law_X3_keeper
set_option maxRecDepth 20000 in
theorem ggL_law_X4_keeper : GoodIn wsL_law wsX4_keeper := goodIn_r _ [652, 80, 57, 575, 576, 5, 577, 578, 100, 101, 102, 588, 589, 590, 372, 373, 374, 375, 56, 538, 539, 540, 541, 542, 543, 544, 545, 546, 61, 547, 548, 549, 550, 380, 381, 382, 383, 551, 552, 553, 554, 555, 556, 557, 425, 426, 427, 428, 429, 430, 431, 432, 433, 434, 435, 436, 388, 389, 390, 558, 559, 560, 561, 376, 377, 378, 379, 952, 953, 954, 955, 956, 957, 958, 959, 960, 961, 962, 963, 964, 965, 966, 967, 968, 969, 970, 971, 972, 973, 974, 975, 976, 977, 978, 979, 980] (by decide +kernel) (by decide +kernel)
set_option maxRecDepth 20000 in
theorem gL_law_X4_keeper : GoodIn wsL_law (wsV RL 98 RX4 yX4_keeper wsX4_keeper) := goodIn_app (goodIn_of _ (by decide +kernel)) ggL_law_X4_keeper
set_option maxRecDepth 20000 in
theorem ggL_law_X3_kind : GoodIn wsL_law wsX3_kind := goodIn_r _ [656, 19, 20, 395, 396, 399, 259, 260, 18, 261, 121, 87, 2, 88, 86, 262, 263, 264, 265, 122, 123, 124, 125, 126, 40, 266, 267, 268, 269, 41, 42, 43, 44, 45, 46, 503, 504, 505, 506, 507, 508, 509, 510, 511, 512, 513, 514, 515, 516, 517, 518, 519, 520, 408, 409, 410, 411, 412, 413, 414, 415, 521, 522, 523, 524, 404, 405, 406, 407, 525, 526, 527, 528, 364, 365, 366, 367, 529, 530, 531, 532, 942, 943, 944, 945, 946, 947, 948, 949, 950, 951, 990, 991, 992, 993, 994, 995, 996, 997, 998, 999, 1000, 1001, 1002] (by decide +kernel) (by decide +kernel)
set_option maxRecDepth 20000 in
theorem gL_law_X3_kind : GoodIn wsL_law (wsV RL 99 RX3 yX3_kind wsX3_kind) := goodIn_app (goodIn_of _ (by decide +kernel)) ggL_law_X3_kind
set_option maxRecDepth 20000 in
theorem ggL_law_X4_kind : GoodIn wsL_law wsX4_kind := goodIn_r _ [660, 421, 422, 423, 5, 424, 80, 100, 101, 102, 575, 576, 577, 578, 588, 589, 590, 372, 373, 374, 375, 57, 56, 551, 552, 553, 554, 538, 539, 540, 541, 542, 543, 544, 545, 546, 61, 547, 548, 549, 550, 380, 381, 382, 383, 555, 556, 557, 425, 426, 427, 428, 429, 430, 431, 432, 433, 434, 435, 436, 388, 389, 390, 558, 559, 560, 561, 952, 953, 954, 955, 956, 957, 958, 959, 960, 961, 962, 963, 964, 965, 966, 967, 968, 969, 970, 971, 972, 973, 974, 975, 976, 977, 978, 979, 980] (by decide +kernel) (by decide +kernel)
set_option maxRecDepth 20000 in
theorem gL_law_X4_kind : GoodIn wsL_law (wsV RL 102 RX4 yX4_kind wsX4_kind) := goodIn_app (goodIn_of _ (by decide +kernel)) ggL_law_X4_kind
set_option maxRecDepth 20000 in
theorem ggL_law_X3_alms : GoodIn wsL_law wsX3_alms := goodIn_r _ [664, 19, 20, 396, 399, 259, 260, 18, 261, 121, 87, 2, 88, 86, 262, 263, 264, 265, 122, 123, 124, 125, 126, 40, 266, 267, 268, 269, 41, 42, 43, 44, 45, 46, 665, 519, 520, 666, 667, 668, 669, 507, 508, 509, 510, 511, 512, 513, 514, 515, 516, 517, 518, 408, 409, 410, 411, 412, 413, 414, 415, 521, 522, 523, 524, 404, 405, 406, 407, 525, 526, 527, 528, 364, 365, 366, 367, 529, 530, 531, 532, 942, 943, 944, 945, 946, 947, 948, 949, 950, 951, 990, 991, 992, 993, 994, 995, 996, 997, 998, 999, 1000, 1001, 1002] (by decide +kernel) (by decide +kernel)
set_option maxRecDepth 20000 in
theorem gL_law_X3_alms : GoodIn wsL_law (wsV RL 103 RX3 yX3_alms wsX3_alms) := goodIn_app (goodIn_of _ (by decide +kernel)) ggL_law_X3_alms
set_option maxRecDepth 20000 in
theorem ggL_law_X4_alms : GoodIn wsL_law wsX4_alms := goodIn_r _ [673, 421, 422, 423, 5, 424, 80, 100, 101, 102, 575, 576, 577, 578, 372, 373, 374, 375, 57, 56, 380, 381, 382, 383, 555, 556, 557, 551, 552, 553, 554, 543, 544, 545, 546, 61, 542, 547, 548, 549, 550, 425, 426, 427, 428, 429, 430, 431, 432, 433, 434, 435, 436, 388, 389, 390, 558, 559, 560, 561, 952, 953, 954, 955, 956, 957, 958, 959, 960, 961, 962, 963, 964, 965, 966, 967, 968, 969, 970, 971, 972, 973, 974, 975, 976, 977, 978, 979, 980] (by decide +kernel) (by decide +kernel)
set_option maxRecDepth 20000 in
theorem gL_law_X4_alms : GoodIn wsL_law (wsV RL 106 RX4 yX4_alms wsX4_alms) := goodIn_app (goodIn_of _ (by decide +kernel)) ggL_law_X4_alms
set_option maxRecDepth 20000 in
theorem ggL_law_X3_help : GoodIn wsL_law wsX3_help := goodIn_r _ [677, 19, 351, 348, 86, 87, 2, 88, 678, 679, 680, 681, 20, 262, 263, 264, 18, 265, 121, 122, 123, 124, 125, 126, 40, 266, 267, 268, 269, 41, 42, 43, 44, 45, 46, 503, 504, 505, 506, 507, 508, 509, 510, 511, 512, 513, 514, 515, 516, 517, 518, 519, 520, 408, 409, 410, 411, 412, 413, 414, 415, 521, 522, 523, 524, 404, 405, 406, 407, 525, 526, 527, 528, 364, 365, 366, 367, 529, 530, 531, 532, 682, 683, 684, 685, 686, 361, 362, 363, 687, 688, 689, 690, 691, 692, 693, 694, 695, 696, 697, 349, 486, 238, 239, 240, 942, 943, 944, 945, 946, 947, 948, 949, 950, 951, 990, 991, 992, 993, 994, 995, 996, 997, 998, 999, 1000, 1001, 1002] (by decide +kernel) (by decide +kernel)
set_option maxRecDepth 20000 in
theorem gL_law_X3_help : GoodIn wsL_law (wsV RL 107 RX3 yX3_help wsX3_help) := goodIn_app (goodIn_of _ (by decide +kernel)) ggL_law_X3_help
set_option maxRecDepth 20000 in
theorem ggL_law_X4_help : GoodIn wsL_law wsX4_help := goodIn_r _ [701, 459, 56, 80, 57, 100, 101, 5, 102, 588, 589, 590, 372, 373, 374, 375, 702, 703, 704, 705, 538, 539, 540, 541, 542, 543, 544, 545, 546, 61, 547, 548, 549, 550, 380, 381, 382, 383, 551, 552, 553, 554, 555, 556, 557, 425, 426, 427, 428, 429, 430, 431, 432, 433, 434, 435, 436, 388, 389, 390, 558, 559, 560, 561, 384, 385, 386, 387, 706, 707, 708, 952, 953, 954, 955, 956, 957, 958, 959, 960, 961, 962, 963, 964, 965, 966, 967, 968, 969, 970, 971, 972, 973, 974, 975, 976, 977, 978, 979, 980] (by decide +kernel) (by decide +kernel)
set_option maxRecDepth 20000 in
theorem gL_law_X4_help : GoodIn wsL_law (wsV RL 110 RX4 yX4_help wsX4_help) := goodIn_app (goodIn_of _ (by decide +kernel)) ggL_law_X4_help
set_option maxRecDepth 20000 in
theorem ggL_law_X3_swap : GoodIn wsL_law wsX3_swap := goodIn_r _ [712, 19, 348, 86, 87, 2, 88, 678, 679, 680, 681, 20, 262, 263, 264, 18, 265, 121, 122, 123, 124, 125, 126, 40, 266, 267, 268, 269, 41, 42, 43, 44, 45, 46, 503, 504, 505, 506, 507, 508, 509, 510, 511, 512, 513, 514, 515, 516, 517, 518, 519, 520, 408, 409, 410, 411, 412, 413, 414, 415, 521, 522, 523, 524, 404, 405, 406, 407, 525, 526, 527, 528, 364, 365, 366, 367, 529, 530, 531, 532, 682, 683, 684, 685, 686, 361, 362, 363, 687, 688, 689, 690, 691, 692, 693, 713, 714, 715, 716, 397, 942, 943, 944, 945, 946, 947, 948, 949, 950, 951, 990, 991, 992, 993, 994, 995, 996, 997, 998, 999, 1000, 1001, 1002] (by decide +kernel) (by decide +kernel)
set_option maxRecDepth 20000 in
theorem gL_law_X3_swap : GoodIn wsL_law (wsV RL 111 RX3 yX3_swap wsX3_swap) := goodIn_app (goodIn_of _ (by decide +kernel)) ggL_law_X3_swap
set_option maxRecDepth 20000 in
theorem ggL_law_X4_swap : GoodIn wsL_law wsX4_swap := goodIn_r _ [720, 80, 575, 576, 5, 577, 578, 100, 101, 102, 588, 589, 590, 372, 373, 374, 375, 57, 56, 702, 703, 704, 705, 538, 539, 540, 541, 542, 543, 544, 545, 546, 61, 547, 548, 549, 550, 380, 381, 382, 383, 551, 552, 553, 554, 555, 556, 557, 425, 426, 427, 428, 429, 430, 431, 432, 433, 434, 435, 436, 388, 389, 390, 558, 559, 560, 561, 384, 385, 386, 387, 706, 707, 708, 952, 953, 954, 955, 956, 957, 958, 959, 960, 961, 962, 963, 964, 965, 966, 967, 968, 969, 970, 971, 972, 973, 974, 975, 976, 977, 978, 979, 980] (by decide +kernel) (by decide +kernel)
set_option maxRecDepth 20000 in
theorem gL_law_X4_swap : GoodIn wsL_law (wsV RL 114 RX4 yX4_swap wsX4_swap) := goodIn_app (goodIn_of _ (by decide +kernel)) ggL_law_X4_swap
set_option maxRecDepth 20000 in
theorem ggL_law_X3_luck : GoodIn wsL_law wsX3_luck := goodIn_r _ [724, 725, 726, 727, 2, 728, 19, 611, 20, 396, 477, 729, 86, 87, 88, 399, 259, 260, 18, 261, 121, 730, 731, 732, 733, 734, 735, 736, 350, 262, 263, 264, 265, 122, 123, 124, 125, 126, 40, 266, 267, 268, 269, 41, 42, 43, 44, 45, 46, 570, 508, 509, 510, 511, 512, 513, 514, 515, 516, 517, 518, 519, 520, 408, 409, 410, 411, 412, 413, 414, 415, 521, 522, 523, 524, 404, 405, 406, 407, 525, 526, 527, 528, 364, 365, 366, 367, 529, 530, 531, 532, 612, 613, 614, 615, 616, 617, 942, 943, 944, 945, 946, 947, 948, 949, 950, 951, 990, 991, 992, 993, 994, 995, 996, 997, 998, 999, 1000, 1001, 1002] (by decide +kernel) (by decide +kernel)
set_option maxRecDepth 20000 in
theorem gL_law_X3_luck : GoodIn wsL_law (wsV RL 115 RX3 yX3_luck wsX3_luck) := goodIn_app (goodIn_of _ (by decide +kernel)) ggL_law_X3_luck
set_option maxRecDepth 20000 in
theorem ggL_law_X4_luck : GoodIn wsL_law wsX4_luck := goodIn_r _ [740, 622, 741, 742, 743, 744, 745, 5, 746, 747, 748, 100, 101, 102, 421, 422, 423, 424, 80, 588, 589, 590, 749, 750, 751, 752, 753, 57, 56, 372, 373, 374, 375, 543, 544, 545, 546, 61, 542, 547, 548, 549, 550, 380, 381, 382, 383, 551, 552, 553, 554, 555, 556, 557, 425, 426, 427, 428, 429, 430, 431, 432, 433, 434, 435, 436, 388, 389, 390, 558, 559, 560, 561, 623, 624, 625, 626, 627, 628, 952, 953, 954, 955, 956, 957, 958, 959, 960, 961, 962, 963, 964, 965, 966, 967, 968, 969, 970, 971, 972, 973, 974, 975, 976, 977, 978, 979, 980] (by decide +kernel) (by decide +kernel)
set_option maxRecDepth 20000 in
theorem gL_law_X4_luck : GoodIn wsL_law (wsV RL 119 RX4 yX4_luck wsX4_luck) := goodIn_app (goodIn_of _ (by decide +kernel)) ggL_law_X4_luck
set_option maxRecDepth 20000 in
theorem ggL_law_X3_mean : GoodIn wsL_law wsX3_mean := goodIn_r _ [757, 725, 726, 727, 2, 728, 19, 611, 20, 396, 477, 729, 86, 87, 88, 399, 259, 260, 18, 261, 121, 730, 731, 732, 733, 734, 735, 736, 350, 262, 263, 264, 265, 122, 123, 124, 125, 126, 40, 266, 267, 268, 269, 41, 42, 43, 44, 45, 46, 570, 508, 509, 510, 511, 512, 513, 514, 515, 516, 517, 518, 519, 520, 408, 409, 410, 411, 412, 413, 414, 415, 521, 522, 523, 524, 404, 405, 406, 407, 525, 526, 527, 528, 364, 365, 366, 367, 529, 530, 531, 532, 612, 613, 614, 615, 616, 617, 942, 943, 944, 945, 946, 947, 948, 949, 950, 951, 990, 991, 992, 993, 994, 995, 996, 997, 998, 999, 1000, 1001, 1002] (by decide +kernel) (by decide +kernel)
set_option maxRecDepth 20000 in
theorem gL_law_X3_mean : GoodIn wsL_law (wsV RL 120 RX3 yX3_mean wsX3_mean) := goodIn_app (goodIn_of _ (by decide +kernel)) ggL_law_X3_mean
set_option maxRecDepth 20000 in
theorem ggL_law_X4_mean : GoodIn wsL_law wsX4_mean := goodIn_r _ [761, 622, 753, 742, 743, 744, 745, 5, 746, 747, 748, 100, 101, 102, 421, 422, 423, 424, 80, 588, 589, 590, 749, 750, 751, 752, 741, 57, 56, 372, 373, 374, 375, 543, 544, 545, 546, 61, 542, 547, 548, 549, 550, 380, 381, 382, 383, 551, 552, 553, 554, 555, 556, 557, 425, 426, 427, 428, 429, 430, 431, 432, 433, 434, 435, 436, 388, 389, 390, 558, 559, 560, 561, 623, 624, 625, 626, 627, 628, 952, 953, 954, 955, 956, 957, 958, 959, 960, 961, 962, 963, 964, 965, 966, 967, 968, 969, 970, 971, 972, 973, 974, 975, 976, 977, 978, 979, 980] (by decide +kernel) (by decide +kernel)
set_option maxRecDepth 20000 in
theorem gL_law_X4_mean : GoodIn wsL_law (wsV RL 123 RX4 yX4_mean wsX4_mean) := goodIn_app (goodIn_of _ (by decide +kernel)) ggL_law_X4_mean
set_option maxRecDepth 20000 in
theorem ggL_law_X3_see : GoodIn wsL_law wsX3_see := goodIn_r _ [765, 19, 766, 86, 87, 2, 88, 399, 259, 260, 18, 261, 121, 767, 768, 769, 770, 126, 45, 46, 942, 943, 944, 945, 946, 947, 948, 949, 950, 951, 990, 991, 992, 993, 994, 995, 996, 997, 998, 999, 1000, 1001, 1002] (by decide +kernel) (by decide +kernel)
set_option maxRecDepth 20000 in
theorem gL_law_X3_see : GoodIn wsL_law (wsV RL 124 RX3 yX3_see wsX3_see) := goodIn_app (goodIn_of _ (by decide +kernel)) ggL_law_X3_see
set_option maxRecDepth 20000 in
theorem ggL_law_X4_see : GoodIn wsL_law wsX4_see := goodIn_r _ [774, 459, 56, 100, 101, 5, 102, 421, 422, 423, 424, 80, 952, 953, 954, 955, 956, 957, 958, 959, 960, 961, 962, 963, 964, 965, 966, 967, 968, 969, 970, 971, 972, 973, 974, 975, 976, 977, 978, 979, 980] (by decide +kernel) (by decide +kernel)
set_option maxRecDepth 20000 in
theorem gL_law_X4_see : GoodIn wsL_law (wsV RL 127 RX4 yX4_see wsX4_see) := goodIn_app (goodIn_of _ (by decide +kernel)) ggL_law_X4_see
set_option maxRecDepth 20000 in
theorem ggL_law_X3_forget : GoodIn wsL_law wsX3_forget := goodIn_r _ [778, 19, 766, 86, 87, 2, 88, 942, 943, 944, 945, 946, 947, 948, 949, 950, 951, 990, 991, 992, 993, 994, 995, 996, 997, 998, 999, 1000, 1001, 1002] (by decide +kernel) (by decide +kernel)
set_option maxRecDepth 20000 in
theorem gL_law_X3_forget : GoodIn wsL_law (wsV RL 128 RX3 yX3_forget wsX3_forget) := goodIn_app (goodIn_of _ (by decide +kernel)) ggL_law_X3_forget
set_option maxRecDepth 20000 in
theorem ggL_law_X4_forget : GoodIn wsL_law wsX4_forget := goodIn_r _ [782, 56, 100, 101, 5, 102, 460, 461, 462, 463, 952, 953, 954, 955, 956, 957, 958, 959, 960, 961, 962, 963, 964, 965, 966, 967, 968, 969, 970, 971, 972, 973, 974, 975, 976, 977, 978, 979, 980] (by decide +kernel) (by decide +kernel)
set_option maxRecDepth 20000 in
theorem gL_law_X4_forget : GoodIn wsL_law (wsV RL 131 RX4 yX4_forget wsX4_forget) := goodIn_app (goodIn_of _ (by decide +kernel)) ggL_law_X4_forget
set_option maxRecDepth 20000 in
theorem ggL_law_X3_kinds : GoodIn wsL_law wsX3_kinds := goodIn_r _ [786, 19, 20, 395, 28, 399, 259, 260, 18, 261, 121, 87, 2, 88, 262, 263, 264, 265, 122, 123, 124, 125, 126, 40, 266, 267, 268, 269, 41, 42, 43, 44, 45, 46, 787, 788, 789, 790, 507, 508, 509, 510, 511, 512, 513, 514, 515, 516, 517, 518, 519, 520, 408, 409, 410, 411, 412, 413, 414, 415, 521, 522, 523, 524, 404, 405, 406, 407, 525, 526, 527, 528, 364, 365, 366, 367, 529, 530, 531, 532, 791, 792, 793, 794, 942, 943, 944, 945, 946, 947, 948, 949, 950, 951, 990, 991, 992, 993, 994, 995, 996, 997, 998, 999, 1000, 1001, 1002] (by decide +kernel) (by decide +kernel)
set_option maxRecDepth 20000 in
theorem gL_law_X3_kinds : GoodIn wsL_law (wsV RL 132 RX3 yX3_kinds wsX3_kinds) := goodIn_app (goodIn_of _ (by decide +kernel)) ggL_law_X3_kinds
set_option maxRecDepth 20000 in
theorem ggL_law_X4_kinds : GoodIn wsL_law wsX4_kinds := goodIn_r _ [798, 421, 422, 423, 5, 424, 80, 100, 101, 102, 799, 800, 801, 802, 62, 57, 56, 372, 373, 374, 375, 551, 552, 553, 554, 543, 544, 545, 546, 61, 542, 547, 548, 549, 550, 380, 381, 382, 383, 555, 556, 557, 425, 426, 427, 428, 429, 430, 431, 432, 433, 434, 435, 436, 388, 389, 390, 558, 559, 560, 561, 952, 953, 954, 955, 956, 957, 958, 959, 960, 961, 962, 963, 964, 965, 966, 967, 968, 969, 970, 971, 972, 973, 974, 975, 976, 977, 978, 979, 980] (by decide +kernel) (by decide +kernel)
set_option maxRecDepth 20000 in
theorem gL_law_X4_kinds : GoodIn wsL_law (wsV RL 135 RX4 yX4_kinds wsX4_kinds) := goodIn_app (goodIn_of _ (by decide +kernel)) ggL_law_X4_kinds
set_option maxRecDepth 20000 in
theorem ggL_law_X3_trades : GoodIn wsL_law wsX3_trades := goodIn_r _ [806, 19, 399, 259, 260, 18, 261, 121, 87, 2, 88, 807, 808, 809, 810, 20, 397, 28, 262, 263, 264, 265, 122, 123, 124, 125, 126, 40, 266, 267, 268, 269, 41, 42, 43, 44, 45, 46, 787, 788, 789, 790, 507, 508, 509, 510, 511, 512, 513, 514, 515, 516, 517, 518, 519, 520, 408, 409, 410, 411, 412, 413, 414, 415, 521, 522, 523, 524, 404, 405, 406, 407, 525, 526, 527, 528, 364, 365, 366, 367, 529, 530, 531, 532, 791, 792, 793, 794, 942, 943, 944, 945, 946, 947, 948, 949, 950, 951, 990, 991, 992, 993, 994, 995, 996, 997, 998, 999, 1000, 1001, 1002] (by decide +kernel) (by decide +kernel)
set_option maxRecDepth 20000 in
theorem gL_law_X3_trades : GoodIn wsL_law (wsV RL 136 RX3 yX3_trades wsX3_trades) := goodIn_app (goodIn_of _ (by decide +kernel)) ggL_law_X3_trades
set_option maxRecDepth 20000 in
theorem ggL_law_X4_trades : GoodIn wsL_law wsX4_trades := goodIn_r _ [814, 421, 422, 423, 5, 424, 80, 100, 101, 102, 799, 800, 801, 802, 62, 57, 56, 372, 373, 374, 375, 551, 552, 553, 554, 543, 544, 545, 546, 61, 542, 547, 548, 549, 550, 380, 381, 382, 383, 555, 556, 557, 425, 426, 427, 428, 429, 430, 431, 432, 433, 434, 435, 436, 388, 389, 390, 558, 559, 560, 561, 952, 953, 954, 955, 956, 957, 958, 959, 960, 961, 962, 963, 964, 965, 966, 967, 968, 969, 970, 971, 972, 973, 974, 975, 976, 977, 978, 979, 980] (by decide +kernel) (by decide +kernel)
set_option maxRecDepth 20000 in
theorem gL_law_X4_trades : GoodIn wsL_law (wsV RL 139 RX4 yX4_trades wsX4_trades) := goodIn_app (goodIn_of _ (by decide +kernel)) ggL_law_X4_trades
set_option maxRecDepth 20000 in
theorem ggL_law_X3_ask : GoodIn wsL_law wsX3_ask := goodIn_r _ [818, 19, 399, 259, 260, 18, 261, 121, 87, 2, 88, 86, 819, 820, 821, 822, 29, 28, 807, 808, 809, 810, 20, 397, 262, 263, 264, 265, 122, 123, 124, 125, 126, 40, 266, 267, 268, 269, 41, 42, 43, 44, 45, 46, 787, 788, 789, 790, 507, 508, 509, 510, 511, 512, 513, 514, 515, 516, 517, 518, 519, 520, 408, 409, 410, 411, 412, 413, 414, 415, 521, 522, 523, 524, 404, 405, 406, 407, 525, 526, 527, 528, 364, 365, 366, 367, 529, 530, 531, 532, 791, 792, 793, 794, 823, 824, 825, 826, 827, 828, 829, 942, 943, 944, 945, 946, 947, 948, 949, 950, 951, 990, 991, 992, 993, 994, 995, 996, 997, 998, 999, 1000, 1001, 1002] (by decide +kernel) (by decide +kernel)
set_option maxRecDepth 20000 in
theorem gL_law_X3_ask : GoodIn wsL_law (wsV RL 140 RX3 yX3_ask wsX3_ask) := goodIn_app (goodIn_of _ (by decide +kernel)) ggL_law_X3_ask
set_option maxRecDepth 20000 in
theorem ggL_law_X4_ask : GoodIn wsL_law wsX4_ask := goodIn_r _ [833, 63, 62, 421, 422, 423, 5, 424, 80, 100, 101, 102, 588, 589, 590, 799, 800, 801, 802, 57, 56, 372, 373, 374, 375, 551, 552, 553, 554, 543, 544, 545, 546, 61, 542, 547, 548, 549, 550, 380, 381, 382, 383, 555, 556, 557, 425, 426, 427, 428, 429, 430, 431, 432, 433, 434, 435, 436, 388, 389, 390, 558, 559, 560, 561, 952, 953, 954, 955, 956, 957, 958, 959, 960, 961, 962, 963, 964, 965, 966, 967, 968, 969, 970, 971, 972, 973, 974, 975, 976, 977, 978, 979, 980] (by decide +kernel) (by decide +kernel)
set_option maxRecDepth 20000 in
theorem gL_law_X4_ask : GoodIn wsL_law (wsV RL 143 RX4 yX4_ask wsX4_ask) := goodIn_app (goodIn_of _ (by decide +kernel)) ggL_law_X4_ask
set_option maxRecDepth 20000 in
theorem ggL_law_X3_drift : GoodIn wsL_law wsX3_drift := goodIn_r _ [837, 19, 348, 20, 838, 350, 477, 86, 87, 2, 88, 262, 263, 264, 18, 265, 121, 122, 123, 124, 125, 126, 40, 266, 267, 268, 269, 41, 42, 43, 44, 45, 46, 570, 508, 509, 510, 511, 512, 513, 514, 515, 516, 517, 518, 519, 520, 408, 409, 410, 411, 412, 413, 414, 415, 521, 522, 523, 524, 404, 405, 406, 407, 525, 526, 527, 528, 364, 365, 366, 367, 529, 530, 531, 532, 356, 357, 358, 359, 942, 943, 944, 945, 946, 947, 948, 949, 950, 951, 990, 991, 992, 993, 994, 995, 996, 997, 998, 999, 1000, 1001, 1002] (by decide +kernel) (by decide +kernel)
set_option maxRecDepth 20000 in
theorem gL_law_X3_drift : GoodIn wsL_law (wsV RL 144 RX3 yX3_drift wsX3_drift) := goodIn_app (goodIn_of _ (by decide +kernel)) ggL_law_X3_drift
set_option maxRecDepth 20000 in
theorem ggL_law_X4_drift : GoodIn wsL_law wsX4_drift := goodIn_r _ [842, 578, 80, 843, 57, 100, 101, 5, 102, 588, 589, 590, 372, 373, 374, 375, 56, 543, 544, 545, 546, 61, 542, 547, 548, 549, 550, 380, 381, 382, 383, 551, 552, 553, 554, 555, 556, 557, 425, 426, 427, 428, 429, 430, 431, 432, 433, 434, 435, 436, 388, 389, 390, 558, 559, 560, 561, 376, 377, 378, 379, 952, 953, 954, 955, 956, 957, 958, 959, 960, 961, 962, 963, 964, 965, 966, 967, 968, 969, 970, 971, 972, 973, 974, 975, 976, 977, 978, 979, 980] (by decide +kernel) (by decide +kernel)
set_option maxRecDepth 20000 in
theorem gL_law_X4_drift : GoodIn wsL_law (wsV RL 147 RX4 yX4_drift wsX4_drift) := goodIn_app (goodIn_of _ (by decide +kernel)) ggL_law_X4_drift
set_option maxRecDepth 20000 in
theorem ggL_law_X3_keep : GoodIn wsL_law wsX3_keep := goodIn_r _ [847, 24, 22, 19, 86, 87, 2, 88, 262, 263, 264, 18, 265, 121, 122, 123, 124, 125, 126, 40, 266, 267, 268, 269, 41, 42, 43, 44, 45, 46, 942, 943, 944, 945, 946, 947, 948, 949, 950, 951, 990, 991, 992, 993, 994, 995, 996, 997, 998, 999, 1000, 1001, 1002] (by decide +kernel) (by decide +kernel)
set_option maxRecDepth 20000 in
theorem gL_law_X3_keep : GoodIn wsL_law (wsV RL 148 RX3 yX3_keep wsX3_keep) := goodIn_app (goodIn_of _ (by decide +kernel)) ggL_law_X3_keep
set_option maxRecDepth 20000 in
theorem ggL_law_X4_keep : GoodIn wsL_law wsX4_keep := goodIn_r _ [851, 58, 100, 101, 5, 102, 388, 389, 390, 852, 853, 854, 855, 56, 952, 953, 954, 955, 956, 957, 958, 959, 960, 961, 962, 963, 964, 965, 966, 967, 968, 969, 970, 971, 972, 973, 974, 975, 976, 977, 978, 979, 980] (by decide +kernel) (by decide +kernel)
set_option maxRecDepth 20000 in
theorem gL_law_X4_keep : GoodIn wsL_law (wsV RL 151 RX4 yX4_keep wsX4_keep) := goodIn_app (goodIn_of _ (by decide +kernel)) ggL_law_X4_keep
set_option maxRecDepth 20000 in
theorem ggL_law_X3_back : GoodIn wsL_law wsX3_back := goodIn_r _ [859, 24, 19, 22, 349, 86, 87, 2, 88, 262, 263, 264, 18, 265, 121, 122, 123, 124, 125, 126, 40, 266, 267, 268, 269, 41, 42, 43, 44, 45, 46, 942, 943, 944, 945, 946, 947, 948, 949, 950, 951, 990, 991, 992, 993, 994, 995, 996, 997, 998, 999, 1000, 1001, 1002] (by decide +kernel) (by decide +kernel)
set_option maxRecDepth 20000 in
theorem gL_law_X3_back : GoodIn wsL_law (wsV RL 152 RX3 yX3_back wsX3_back) := goodIn_app (goodIn_of _ (by decide +kernel)) ggL_law_X3_back
set_option maxRecDepth 20000 in
theorem ggL_law_X4_back : GoodIn wsL_law wsX4_back := goodIn_r _ [863, 58, 56, 100, 101, 5, 102, 852, 853, 854, 855, 952, 953, 954, 955, 956, 957, 958, 959, 960, 961, 962, 963, 964, 965, 966, 967, 968, 969, 970, 971, 972, 973, 974, 975, 976, 977, 978, 979, 980] (by decide +kernel) (by decide +kernel)
set_option maxRecDepth 20000 in
theorem gL_law_X4_back : GoodIn wsL_law (wsV RL 155 RX4 yX4_back wsX4_back) := goodIn_app (goodIn_of _ (by decide +kernel)) ggL_law_X4_back
set_option maxRecDepth 20000 in
theorem ggL_law_X3_sheet : GoodIn wsL_law wsX3_sheet := goodIn_r _ [867, 26, 86, 87, 2, 88, 868, 869, 870, 31, 871, 50, 872, 51, 942, 943, 944, 945, 946, 947, 948, 949, 950, 951, 1003, 1004, 1005] (by decide +kernel) (by decide +kernel)
set_option maxRecDepth 20000 in
theorem gL_law_X3_sheet : GoodIn wsL_law (wsV RL 156 RX3 yX3_sheet wsX3_sheet) := goodIn_app (goodIn_of _ (by decide +kernel)) ggL_law_X3_sheet
set_option maxRecDepth 20000 in
theorem ggL_law_X4_sheet : GoodIn wsL_law wsX4_sheet := goodIn_r _ [876, 64, 65, 66, 877, 878, 5, 879, 446, 880, 100, 101, 102, 952, 953, 954, 955, 956, 957, 958, 959, 960, 961, 962, 963, 964, 965, 966, 967, 968, 969, 970, 971, 972, 973, 974, 975, 976, 977, 978, 979, 980] (by decide +kernel) (by decide +kernel)
set_option maxRecDepth 20000 in
theorem gL_law_X4_sheet : GoodIn wsL_law (wsV RL 159 RX4 yX4_sheet wsX4_sheet) := goodIn_app (goodIn_of _ (by decide +kernel)) ggL_law_X4_sheet
set_option maxRecDepth 20000 in
theorem ggL_law_X3_lay : GoodIn wsL_law wsX3_lay := goodIn_r _ [884, 26, 86, 87, 2, 88, 885, 886, 887, 31, 888, 50, 872, 889, 890, 891, 892, 51, 942, 943, 944, 945, 946, 947, 948, 949, 950, 951, 1003, 1004, 1005] (by decide +kernel) (by decide +kernel)
set_option maxRecDepth 20000 in
theorem gL_law_X3_lay : GoodIn wsL_law (wsV RL 160 RX3 yX3_lay wsX3_lay) := goodIn_app (goodIn_of _ (by decide +kernel)) ggL_law_X3_lay
set_option maxRecDepth 20000 in
theorem ggL_law_X4_lay : GoodIn wsL_law wsX4_lay := goodIn_r _ [896, 64, 65, 66, 877, 878, 5, 879, 446, 880, 100, 101, 102, 952, 953, 954, 955, 956, 957, 958, 959, 960, 961, 962, 963, 964, 965, 966, 967, 968, 969, 970, 971, 972, 973, 974, 975, 976, 977, 978, 979, 980] (by decide +kernel) (by decide +kernel)
set_option maxRecDepth 20000 in
theorem gL_law_X4_lay : GoodIn wsL_law (wsV RL 163 RX4 yX4_lay wsX4_lay) := goodIn_app (goodIn_of _ (by decide +kernel)) ggL_law_X4_lay
set_option maxRecDepth 20000 in
theorem ggL_law_X3_read : GoodIn wsL_law wsX3_read := goodIn_r _ [900, 21, 19, 26, 901, 902, 86, 87, 2, 88, 262, 263, 264, 18, 265, 121, 122, 123, 124, 125, 126, 40, 266, 267, 268, 269, 41, 42, 43, 44, 45, 46, 903, 904, 905, 31, 906, 50, 907, 886, 887, 888, 872, 908, 909, 910, 911, 349, 912, 448, 449, 450, 395, 396, 397, 399, 259, 260, 261, 451, 452, 453, 570, 508, 509, 510, 511, 512, 513, 514, 515, 516, 517, 518, 519, 520, 408, 409, 410, 411, 412, 413, 414, 415, 521, 522, 523, 524, 404, 405, 406, 407, 525, 526, 527, 528, 364, 365, 366, 367, 529, 530, 531, 532, 942, 943, 944, 945, 946, 947, 948, 949, 950, 951, 1003, 1004, 1005, 990, 991, 992, 993, 994, 995, 996, 997, 998, 999, 1000, 1001, 1002] (by decide +kernel) (by decide +kernel)
set_option maxRecDepth 20000 in
theorem gL_law_X3_read : GoodIn wsL_law (wsV RL 164 RX3 yX3_read wsX3_read) := goodIn_app (goodIn_of _ (by decide +kernel)) ggL_law_X3_read
set_option maxRecDepth 20000 in
theorem ggL_law_X4_read : GoodIn wsL_law wsX4_read := goodIn_r _ [916, 459, 67, 56, 64, 65, 66, 917, 877, 878, 5, 879, 446, 880, 100, 101, 102, 918, 455, 456, 457, 458, 421, 422, 423, 424, 80, 460, 461, 462, 463, 919, 534, 535, 536, 537, 372, 373, 374, 375, 57, 538, 539, 540, 541, 542, 543, 544, 545, 546, 61, 547, 548, 549, 550, 380, 381, 382, 383, 551, 552, 553, 554, 555, 556, 557, 425, 426, 427, 428, 429, 430, 431, 432, 433, 434, 435, 436, 388, 389, 390, 558, 559, 560, 561, 562, 563, 564, 565, 952, 953, 954, 955, 956, 957, 958, 959, 960, 961, 962, 963, 964, 965, 966, 967, 968, 969, 970, 971, 972, 973, 974, 975, 976, 977, 978, 979, 980] (by decide +kernel) (by decide +kernel)
set_option maxRecDepth 20000 in
theorem gL_law_X4_read : GoodIn wsL_law (wsV RL 167 RX4 yX4_read wsX4_read) := goodIn_app (goodIn_of _ (by decide +kernel)) ggL_law_X4_read
set_option maxRecDepth 20000 in
theorem ggL_law_X3_torn : GoodIn wsL_law wsX3_torn := goodIn_r _ [923, 902, 942, 943, 944, 945, 946, 947, 948, 949, 950, 951] (by decide +kernel) (by decide +kernel)
set_option maxRecDepth 20000 in
theorem gL_law_X3_torn : GoodIn wsL_law (wsV RL 168 RX3 yX3_torn wsX3_torn) := goodIn_app (goodIn_of _ (by decide +kernel)) ggL_law_X3_torn
set_option maxRecDepth 20000 in
theorem ggL_law_X4_torn : GoodIn wsL_law wsX4_torn := goodIn_r _ [927, 917, 952, 953, 954, 955, 956, 957, 958, 959, 960, 961, 962, 963, 964, 965, 966, 967, 968, 969, 970, 971, 972, 973, 974, 975, 976, 977, 978, 979, 980] (by decide +kernel) (by decide +kernel)
set_option maxRecDepth 20000 in
theorem gL_law_X4_torn : GoodIn wsL_law (wsV RL 171 RX4 yX4_torn wsX4_torn) := goodIn_app (goodIn_of _ (by decide +kernel)) ggL_law_X4_torn
set_option maxRecDepth 20000 in
theorem ggL_law_X3_count : GoodIn wsL_law wsX3_count := goodIn_r _ [931, 19, 766, 24, 15, 85, 26, 932, 933, 934, 935, 936, 18, 937, 121, 43, 942, 943, 944, 945, 946, 947, 948, 949, 950, 951, 990, 991, 992, 993, 994, 995, 996, 997, 998, 999, 1000, 1001, 1002, 981, 982, 983, 984, 985, 986, 987, 988, 989, 1003, 1004, 1005] (by decide +kernel) (by decide +kernel)
set_option maxRecDepth 20000 in
theorem gL_law_X3_count : GoodIn wsL_law (wsV RL 172 RX3 yX3_count wsX3_count) := goodIn_app (goodIn_of _ (by decide +kernel)) ggL_law_X3_count
set_option maxRecDepth 20000 in
theorem ggL_law_X4_count : GoodIn wsL_law wsX4_count := goodIn_r _ [941, 56, 58, 99, 64, 65, 372, 373, 374, 5, 375, 57, 388, 389, 390, 376, 377, 378, 379, 80, 380, 381, 382, 383, 952, 953, 954, 955, 956, 957, 958, 959, 960, 961, 962, 963, 964, 965, 966, 967, 968, 969, 970, 971, 972, 973, 974, 975, 976, 977, 978, 979, 980] (by decide +kernel) (by decide +kernel)
set_option maxRecDepth 20000 in
theorem gL_law_X4_count : GoodIn wsL_law (wsV RL 175 RX4 yX4_count wsX4_count) := goodIn_app (goodIn_of _ (by decide +kernel)) ggL_law_X4_count
