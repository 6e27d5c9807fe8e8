set_option maxRecDepth 20000 in
theorem ggL_law_X11_cry : GoodIn wsL_law wsX11_cry := goodIn_r _ [482, 373, 160, 129, 162, 483, 484, 485, 5, 486, 330, 394, 395, 396, 397, 289, 163, 164, 165, 487, 488, 489, 490, 491, 492, 493, 334, 494, 495, 496, 497, 498, 499, 500, 501, 502, 503, 504, 505, 506, 507, 508, 509, 510, 511, 512, 513, 514, 135, 136, 515, 516, 517, 518, 398, 399, 400, 401, 331, 335, 336, 337, 519, 520, 521, 522, 523, 524, 525, 526, 527, 528, 911, 912, 913, 914, 915, 916, 917, 918, 919, 920, 921, 922, 923, 924, 925, 926, 927, 928, 929, 930, 931, 932, 933, 934, 935, 936, 937, 938, 939] (by decide +kernel) (by decide +kernel)
set_option maxRecDepth 20000 in
theorem gL_law_X11_cry : GoodIn wsL_law (wsV RL 44 RX11 yX11_cry wsX11_cry) := goodIn_app (goodIn_of _ (by decide +kernel)) ggL_law_X11_cry
set_option maxRecDepth 20000 in
theorem ggL_law_X10_month : GoodIn wsL_law wsX10_month := goodIn_r _ [532, 19, 533, 24, 406, 28, 534, 204, 205, 18, 206, 180, 535, 460, 461, 462, 463, 464, 465, 415, 416, 417, 27, 418, 419, 87, 270, 420, 421, 66, 422, 423, 424, 425, 23, 426, 260, 261, 80, 262, 263, 264, 265, 81, 254, 2, 255, 536, 537, 538, 539, 899, 900, 901, 902, 903, 904, 905, 906, 907, 908, 909, 910, 952, 953, 954, 955, 956, 957, 958, 959, 944, 945, 946, 947, 948, 949, 950, 951, 960, 961, 962] (by decide +kernel) (by decide +kernel)
set_option maxRecDepth 20000 in
theorem gL_law_X10_month : GoodIn wsL_law (wsV RL 45 RX10 yX10_month wsX10_month) := goodIn_app (goodIn_of _ (by decide +kernel)) ggL_law_X10_month
set_option maxRecDepth 20000 in
theorem ggL_law_X11_month : GoodIn wsL_law wsX11_month := goodIn_r _ [543, 330, 544, 129, 162, 490, 491, 492, 5, 493, 334, 494, 495, 496, 497, 523, 524, 525, 545, 546, 547, 548, 911, 912, 913, 914, 915, 916, 917, 918, 919, 920, 921, 922, 923, 924, 925, 926, 927, 928, 929, 930, 931, 932, 933, 934, 935, 936, 937, 938, 939] (by decide +kernel) (by decide +kernel)
set_option maxRecDepth 20000 in
theorem gL_law_X11_month : GoodIn wsL_law (wsV RL 48 RX11 yX11_month wsX11_month) := goodIn_app (goodIn_of _ (by decide +kernel)) ggL_law_X11_month
set_option maxRecDepth 20000 in
theorem ggL_law_X10_keepIn : GoodIn wsL_law wsX10_keepIn := goodIn_r _ [552, 19, 358, 24, 28, 359, 360, 361, 18, 362, 182, 366, 367, 2, 368, 415, 416, 417, 27, 418, 419, 87, 270, 420, 421, 66, 422, 423, 424, 425, 23, 426, 260, 261, 80, 262, 263, 264, 265, 81, 254, 255, 553, 236, 237, 899, 900, 901, 902, 903, 904, 905, 906, 907, 908, 909, 910, 952, 953, 954, 955, 956, 957, 958, 959, 944, 945, 946, 947, 948, 949, 950, 951, 960, 961, 962] (by decide +kernel) (by decide +kernel)
set_option maxRecDepth 20000 in
theorem gL_law_X10_keepIn : GoodIn wsL_law (wsV RL 49 RX10 yX10_keepIn wsX10_keepIn) := goodIn_app (goodIn_of _ (by decide +kernel)) ggL_law_X10_keepIn
set_option maxRecDepth 20000 in
theorem ggL_law_X11_keepIn : GoodIn wsL_law wsX11_keepIn := goodIn_r _ [557, 373, 129, 374, 375, 376, 5, 377, 331, 163, 164, 165, 490, 491, 492, 493, 334, 494, 495, 496, 497, 558, 559, 560, 911, 912, 913, 914, 915, 916, 917, 918, 919, 920, 921, 922, 923, 924, 925, 926, 927, 928, 929, 930, 931, 932, 933, 934, 935, 936, 937, 938, 939] (by decide +kernel) (by decide +kernel)
set_option maxRecDepth 20000 in
theorem gL_law_X11_keepIn : GoodIn wsL_law (wsV RL 53 RX11 yX11_keepIn wsX11_keepIn) := goodIn_app (goodIn_of _ (by decide +kernel)) ggL_law_X11_keepIn
set_option maxRecDepth 20000 in
theorem ggL_law_X10_move : GoodIn wsL_law wsX10_move := goodIn_r _ [564, 19, 358, 24, 28, 359, 360, 361, 18, 362, 182, 382, 383, 384, 385, 181, 363, 364, 2, 365, 415, 416, 417, 27, 418, 419, 87, 270, 420, 421, 66, 422, 423, 424, 425, 23, 426, 260, 261, 80, 262, 263, 264, 265, 81, 254, 255, 565, 234, 235, 899, 900, 901, 902, 903, 904, 905, 906, 907, 908, 909, 910, 952, 953, 954, 955, 956, 957, 958, 959, 944, 945, 946, 947, 948, 949, 950, 951, 960, 961, 962] (by decide +kernel) (by decide +kernel)
set_option maxRecDepth 20000 in
theorem gL_law_X10_move : GoodIn wsL_law (wsV RL 54 RX10 yX10_move wsX10_move) := goodIn_app (goodIn_of _ (by decide +kernel)) ggL_law_X10_move
set_option maxRecDepth 20000 in
theorem ggL_law_X11_move : GoodIn wsL_law wsX11_move := goodIn_r _ [569, 373, 129, 374, 375, 376, 5, 377, 331, 163, 164, 165, 394, 395, 396, 397, 289, 490, 491, 492, 493, 334, 494, 495, 496, 497, 911, 912, 913, 914, 915, 916, 917, 918, 919, 920, 921, 922, 923, 924, 925, 926, 927, 928, 929, 930, 931, 932, 933, 934, 935, 936, 937, 938, 939] (by decide +kernel) (by decide +kernel)
set_option maxRecDepth 20000 in
theorem gL_law_X11_move : GoodIn wsL_law (wsV RL 57 RX11 yX11_move wsX11_move) := goodIn_app (goodIn_of _ (by decide +kernel)) ggL_law_X11_move
set_option maxRecDepth 20000 in
theorem ggL_law_X10_cold : GoodIn wsL_law wsX10_cold := goodIn_r _ [573, 19, 358, 24, 28, 382, 383, 384, 18, 385, 181, 366, 367, 2, 368, 415, 416, 417, 27, 418, 419, 87, 270, 420, 421, 66, 422, 423, 424, 425, 23, 426, 260, 261, 80, 262, 263, 264, 265, 81, 254, 255, 553, 236, 237, 899, 900, 901, 902, 903, 904, 905, 906, 907, 908, 909, 910, 952, 953, 954, 955, 956, 957, 958, 959, 944, 945, 946, 947, 948, 949, 950, 951, 960, 961, 962] (by decide +kernel) (by decide +kernel)
set_option maxRecDepth 20000 in
theorem gL_law_X10_cold : GoodIn wsL_law (wsV RL 58 RX10 yX10_cold wsX10_cold) := goodIn_app (goodIn_of _ (by decide +kernel)) ggL_law_X10_cold
set_option maxRecDepth 20000 in
theorem ggL_law_X11_cold : GoodIn wsL_law wsX11_cold := goodIn_r _ [577, 373, 129, 394, 395, 396, 5, 397, 289, 163, 164, 165, 490, 491, 492, 493, 334, 494, 495, 496, 497, 558, 559, 560, 911, 912, 913, 914, 915, 916, 917, 918, 919, 920, 921, 922, 923, 924, 925, 926, 927, 928, 929, 930, 931, 932, 933, 934, 935, 936, 937, 938, 939] (by decide +kernel) (by decide +kernel)
set_option maxRecDepth 20000 in
theorem gL_law_X11_cold : GoodIn wsL_law (wsV RL 61 RX11 yX11_cold wsX11_cold) := goodIn_app (goodIn_of _ (by decide +kernel)) ggL_law_X11_cold
set_option maxRecDepth 20000 in
theorem ggL_law_X10_drift : GoodIn wsL_law wsX10_drift := goodIn_r _ [581, 148, 19, 533, 24, 406, 534, 204, 205, 18, 206, 180, 582, 583, 584, 2, 585, 28, 52, 415, 416, 417, 27, 418, 419, 87, 270, 420, 421, 66, 422, 423, 424, 425, 23, 426, 260, 261, 80, 262, 263, 264, 265, 81, 254, 255, 586, 587, 588, 51, 589, 590, 591, 592, 593, 594, 427, 428, 429, 430, 36, 431, 432, 433, 35, 434, 435, 98, 436, 437, 438, 439, 440, 441, 442, 443, 444, 97, 445, 446, 447, 448, 449, 450, 451, 452, 453, 454, 455, 456, 364, 365, 457, 458, 367, 368, 459, 460, 461, 462, 463, 464, 465, 466, 467, 468, 469, 470, 471, 472, 473, 474, 475, 476, 477, 478, 536, 537, 538, 539, 899, 900, 901, 902, 903, 904, 905, 906, 907, 908, 909, 910, 952, 953, 954, 955, 956, 957, 958, 959, 944, 945, 946, 947, 948, 949, 950, 951, 960, 961, 962, 986, 966, 967, 968, 969, 970, 971, 972, 973] (by decide +kernel) (by decide +kernel)
set_option maxRecDepth 20000 in
theorem gL_law_X10_drift : GoodIn wsL_law (wsV RL 62 RX10 yX10_drift wsX10_drift) := goodIn_app (goodIn_of _ (by decide +kernel)) ggL_law_X10_drift
set_option maxRecDepth 20000 in
theorem ggL_law_X11_drift : GoodIn wsL_law wsX11_drift := goodIn_r _ [598, 599, 160, 330, 544, 129, 162, 289, 163, 164, 5, 165, 490, 491, 492, 493, 334, 494, 495, 496, 497, 600, 601, 602, 603, 604, 605, 606, 607, 498, 499, 500, 501, 502, 503, 504, 505, 506, 507, 508, 509, 510, 511, 512, 513, 514, 135, 136, 515, 516, 517, 518, 398, 399, 400, 401, 331, 335, 336, 337, 519, 520, 521, 522, 523, 524, 525, 526, 527, 528, 545, 546, 547, 548, 911, 912, 913, 914, 915, 916, 917, 918, 919, 920, 921, 922, 923, 924, 925, 926, 927, 928, 929, 930, 931, 932, 933, 934, 935, 936, 937, 938, 939] (by decide +kernel) (by decide +kernel)
set_option maxRecDepth 20000 in
theorem gL_law_X11_drift : GoodIn wsL_law (wsV RL 65 RX11 yX11_drift wsX11_drift) := goodIn_app (goodIn_of _ (by decide +kernel)) ggL_law_X11_drift
set_option maxRecDepth 20000 in
theorem ggL_law_X10_undo : GoodIn wsL_law wsX10_undo := goodIn_r _ [611, 148, 28, 533, 24, 612, 613, 614, 27, 615, 419, 87, 270, 423, 424, 425, 23, 426, 260, 261, 80, 262, 263, 264, 265, 81, 254, 2, 255, 899, 900, 901, 902, 903, 904, 905, 906, 907, 908, 909, 910, 960, 961, 962, 952, 953, 954, 955, 956, 957, 958, 959] (by decide +kernel) (by decide +kernel)
set_option maxRecDepth 20000 in
theorem gL_law_X10_undo : GoodIn wsL_law (wsV RL 66 RX10 yX10_undo wsX10_undo) := goodIn_app (goodIn_of _ (by decide +kernel)) ggL_law_X10_undo
set_option maxRecDepth 20000 in
theorem ggL_law_X11_undo : GoodIn wsL_law wsX11_undo := goodIn_r _ [619, 620, 160, 334, 544, 129, 163, 164, 5, 165, 494, 495, 496, 497, 911, 912, 913, 914, 915, 916, 917, 918, 919, 920, 921, 922, 923, 924, 925, 926, 927, 928, 929, 930, 931, 932, 933, 934, 935, 936, 937, 938, 939] (by decide +kernel) (by decide +kernel)
set_option maxRecDepth 20000 in
theorem gL_law_X11_undo : GoodIn wsL_law (wsV RL 69 RX11 yX11_undo wsX11_undo) := goodIn_app (goodIn_of _ (by decide +kernel)) ggL_law_X11_undo
set_option maxRecDepth 20000 in
theorem ggL_law_X10_would : GoodIn wsL_law wsX10_would := goodIn_r _ [624, 36, 625, 626, 627, 2, 628, 148, 407, 408, 409, 410, 19, 358, 411, 412, 413, 18, 414, 180, 382, 383, 384, 385, 181, 431, 432, 433, 35, 434, 435, 98, 436, 437, 438, 439, 440, 441, 442, 443, 444, 97, 445, 446, 447, 448, 449, 450, 451, 452, 453, 454, 455, 456, 364, 365, 457, 458, 367, 368, 459, 460, 461, 462, 463, 464, 465, 466, 467, 468, 469, 470, 471, 472, 473, 474, 475, 476, 477, 478, 899, 900, 901, 902, 903, 904, 905, 906, 907, 908, 909, 910, 966, 967, 968, 969, 970, 971, 972, 973, 944, 945, 946, 947, 948, 949, 950, 951, 952, 953, 954, 955, 956, 957, 958, 959] (by decide +kernel) (by decide +kernel)
set_option maxRecDepth 20000 in
theorem gL_law_X10_would : GoodIn wsL_law (wsV RL 70 RX10 yX10_would wsX10_would) := goodIn_app (goodIn_of _ (by decide +kernel)) ggL_law_X10_would
set_option maxRecDepth 20000 in
theorem ggL_law_X11_would : GoodIn wsL_law wsX11_would := goodIn_r _ [632, 373, 633, 160, 502, 507, 483, 484, 485, 5, 486, 330, 394, 395, 396, 397, 289, 163, 164, 165, 487, 488, 489, 634, 635, 636, 637, 129, 494, 495, 496, 497, 503, 504, 505, 506, 508, 509, 510, 511, 512, 513, 514, 135, 136, 515, 516, 517, 518, 398, 399, 400, 401, 331, 335, 336, 337, 519, 520, 521, 522, 523, 524, 525, 526, 527, 528, 911, 912, 913, 914, 915, 916, 917, 918, 919, 920, 921, 922, 923, 924, 925, 926, 927, 928, 929, 930, 931, 932, 933, 934, 935, 936, 937, 938, 939] (by decide +kernel) (by decide +kernel)
set_option maxRecDepth 20000 in
theorem gL_law_X11_would : GoodIn wsL_law (wsV RL 74 RX11 yX11_would wsX11_would) := goodIn_app (goodIn_of _ (by decide +kernel)) ggL_law_X11_would
