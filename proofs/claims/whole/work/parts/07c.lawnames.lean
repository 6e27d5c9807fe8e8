set_option maxRecDepth 20000 in
theorem ggL_law_X10_init : GoodIn wsL_law wsX10_init := goodIn_r _ [8, 9, 10, 11, 12, 13, 14, 15, 16, 17, 18, 19, 20, 21, 22, 23, 24, 25, 26, 27, 28, 29, 30, 31, 32, 33, 34, 35, 36, 37, 38, 39, 40, 41, 42, 43, 44, 45, 46, 47, 48, 49, 50, 51, 52, 53, 54, 55, 56, 57, 58, 59, 60, 61, 62, 63, 64, 65, 66, 67, 68, 69, 70, 71, 72, 73, 74, 75, 76, 77, 78, 79, 80, 81, 82, 83, 84, 85, 86, 87, 88, 89, 90, 91, 92, 93, 94, 95, 96, 97, 98, 99, 100, 101, 102, 103, 104, 105, 106, 107, 108, 109, 110, 111, 112, 113, 114, 115, 116, 117, 118, 119, 120, 121, 122, 123, 124, 940, 941, 942, 943, 899, 900, 901, 902, 903, 904, 905, 906, 907, 908, 909, 910, 944, 945, 946, 947, 948, 949, 950, 951, 952, 953, 954, 955, 956, 957, 958, 959, 960, 961, 962, 963, 964, 965, 966, 967, 968, 969, 970, 971, 972, 973, 974, 975, 976, 977, 978, 979, 980, 981, 982, 983, 984, 985, 986] (by decide +kernel) (by decide +kernel)
set_option maxRecDepth 20000 in
theorem gL_law_X10_init : GoodIn wsL_law (wsX10_init) := ggL_law_X10_init
set_option maxRecDepth 20000 in
theorem ggL_law_X11_init : GoodIn wsL_law wsX11_init := goodIn_r _ [127, 128, 10, 11, 68, 129, 130, 131, 132, 133, 134, 135, 136, 137, 138, 139, 140, 141, 142, 143, 911, 912, 913, 914, 915, 916, 917, 918, 919, 920, 921, 922, 923, 924, 925, 926, 927, 928, 929, 930, 931, 932, 933, 934, 935, 936, 937, 938, 939] (by decide +kernel) (by decide +kernel)
set_option maxRecDepth 20000 in
theorem gL_law_X11_init : GoodIn wsL_law (wsX11_init) := ggL_law_X11_init
set_option maxRecDepth 20000 in
theorem ggL_law_X10_feed : GoodIn wsL_law wsX10_feed := goodIn_r _ [147, 148, 15, 149, 150, 151, 47, 152, 153, 69, 154, 899, 900, 901, 902, 903, 904, 905, 906, 907, 908, 909, 910, 940, 941, 942, 943, 984, 985] (by decide +kernel) (by decide +kernel)
set_option maxRecDepth 20000 in
theorem gL_law_X10_feed : GoodIn wsL_law (wsV RL 13 RX10 yX10_feed wsX10_feed) := goodIn_app (goodIn_of _ (by decide +kernel)) ggL_law_X10_feed
set_option maxRecDepth 20000 in
theorem ggL_law_X11_feed : GoodIn wsL_law wsX11_feed := goodIn_r _ [158, 159, 160, 161, 162, 137, 163, 164, 5, 165, 911, 912, 913, 914, 915, 916, 917, 918, 919, 920, 921, 922, 923, 924, 925, 926, 927, 928, 929, 930, 931, 932, 933, 934, 935, 936, 937, 938, 939] (by decide +kernel) (by decide +kernel)
set_option maxRecDepth 20000 in
theorem gL_law_X11_feed : GoodIn wsL_law (wsV RL 17 RX11 yX11_feed wsX11_feed) := goodIn_app (goodIn_of _ (by decide +kernel)) ggL_law_X11_feed
set_option maxRecDepth 20000 in
theorem ggL_law_X10_town : GoodIn wsL_law wsX10_town := goodIn_r _ [169, 15, 20, 53, 19, 24, 28, 44, 48, 170, 171, 172, 14, 173, 174, 175, 59, 58, 176, 177, 178, 18, 179, 180, 181, 182, 183, 184, 185, 186, 187, 188, 189, 190, 191, 192, 193, 194, 47, 195, 153, 69, 196, 197, 198, 199, 200, 201, 202, 203, 204, 205, 206, 207, 208, 209, 210, 211, 212, 213, 214, 215, 216, 217, 218, 219, 220, 221, 222, 223, 224, 225, 226, 227, 228, 229, 230, 231, 232, 233, 73, 234, 2, 235, 236, 237, 238, 239, 240, 241, 242, 243, 244, 245, 74, 75, 76, 246, 247, 248, 249, 250, 251, 252, 253, 254, 255, 256, 257, 258, 23, 259, 260, 261, 80, 262, 263, 264, 265, 81, 266, 267, 268, 27, 269, 270, 271, 272, 273, 274, 32, 275, 276, 277, 43, 278, 114, 115, 116, 279, 899, 900, 901, 902, 903, 904, 905, 906, 907, 908, 909, 910, 940, 941, 942, 943, 944, 945, 946, 947, 948, 949, 950, 951, 984, 985, 952, 953, 954, 955, 956, 957, 958, 959, 960, 961, 962, 963, 964, 965, 978, 979, 980, 981, 982, 983] (by decide +kernel) (by decide +kernel)
set_option maxRecDepth 20000 in
theorem gL_law_X10_town : GoodIn wsL_law (wsV RL 18 RX10 yX10_town wsX10_town) := goodIn_app (goodIn_of _ (by decide +kernel)) ggL_law_X10_town
set_option maxRecDepth 20000 in
theorem ggL_law_X11_town : GoodIn wsL_law wsX11_town := goodIn_r _ [283, 284, 285, 138, 286, 287, 288, 161, 289, 290, 291, 292, 5, 293, 137, 294, 295, 296, 297, 298, 299, 300, 301, 302, 303, 304, 305, 306, 307, 308, 309, 310, 311, 312, 313, 314, 315, 316, 317, 163, 164, 165, 318, 319, 320, 321, 132, 133, 322, 323, 324, 325, 134, 135, 136, 326, 327, 328, 329, 330, 331, 129, 332, 333, 334, 131, 335, 336, 337, 911, 912, 913, 914, 915, 916, 917, 918, 919, 920, 921, 922, 923, 924, 925, 926, 927, 928, 929, 930, 931, 932, 933, 934, 935, 936, 937, 938, 939] (by decide +kernel) (by decide +kernel)
set_option maxRecDepth 20000 in
theorem gL_law_X11_town : GoodIn wsL_law (wsV RL 22 RX11 yX11_town wsX11_town) := goodIn_app (goodIn_of _ (by decide +kernel)) ggL_law_X11_town
set_option maxRecDepth 20000 in
theorem ggL_law_X10_fault : GoodIn wsL_law wsX10_fault := goodIn_r _ [341, 53, 899, 900, 901, 902, 903, 904, 905, 906, 907, 908, 909, 910] (by decide +kernel) (by decide +kernel)
set_option maxRecDepth 20000 in
theorem gL_law_X10_fault : GoodIn wsL_law (wsV RL 23 RX10 yX10_fault wsX10_fault) := goodIn_app (goodIn_of _ (by decide +kernel)) ggL_law_X10_fault
set_option maxRecDepth 20000 in
theorem ggL_law_X11_fault : GoodIn wsL_law wsX11_fault := goodIn_r _ [345, 138, 911, 912, 913, 914, 915, 916, 917, 918, 919, 920, 921, 922, 923, 924, 925, 926, 927, 928, 929, 930, 931, 932, 933, 934, 935, 936, 937, 938, 939] (by decide +kernel) (by decide +kernel)
set_option maxRecDepth 20000 in
theorem gL_law_X11_fault : GoodIn wsL_law (wsV RL 26 RX11 yX11_fault wsX11_fault) := goodIn_app (goodIn_of _ (by decide +kernel)) ggL_law_X11_fault
set_option maxRecDepth 20000 in
theorem ggL_law_X10_told : GoodIn wsL_law wsX10_told := goodIn_r _ [349, 19, 15, 24, 44, 48, 28, 148, 899, 900, 901, 902, 903, 904, 905, 906, 907, 908, 909, 910, 944, 945, 946, 947, 948, 949, 950, 951, 940, 941, 942, 943, 984, 985, 952, 953, 954, 955, 956, 957, 958, 959, 978, 979, 980, 981, 982, 983, 960, 961, 962] (by decide +kernel) (by decide +kernel)
set_option maxRecDepth 20000 in
theorem gL_law_X10_told : GoodIn wsL_law (wsV RL 27 RX10 yX10_told wsX10_told) := goodIn_app (goodIn_of _ (by decide +kernel)) ggL_law_X10_told
set_option maxRecDepth 20000 in
theorem ggL_law_X11_told : GoodIn wsL_law wsX11_told := goodIn_r _ [353, 330, 289, 331, 161, 129, 332, 333, 334, 160, 911, 912, 913, 914, 915, 916, 917, 918, 919, 920, 921, 922, 923, 924, 925, 926, 927, 928, 929, 930, 931, 932, 933, 934, 935, 936, 937, 938, 939] (by decide +kernel) (by decide +kernel)
set_option maxRecDepth 20000 in
theorem gL_law_X11_told : GoodIn wsL_law (wsV RL 30 RX11 yX11_told wsX11_told) := goodIn_app (goodIn_of _ (by decide +kernel)) ggL_law_X11_told
set_option maxRecDepth 20000 in
theorem ggL_law_X10_hearer : GoodIn wsL_law wsX10_hearer := goodIn_r _ [357, 19, 358, 24, 148, 359, 360, 361, 18, 362, 182, 363, 364, 2, 365, 366, 367, 368, 899, 900, 901, 902, 903, 904, 905, 906, 907, 908, 909, 910, 952, 953, 954, 955, 956, 957, 958, 959, 944, 945, 946, 947, 948, 949, 950, 951] (by decide +kernel) (by decide +kernel)
set_option maxRecDepth 20000 in
theorem gL_law_X10_hearer : GoodIn wsL_law (wsV RL 31 RX10 yX10_hearer wsX10_hearer) := goodIn_app (goodIn_of _ (by decide +kernel)) ggL_law_X10_hearer
set_option maxRecDepth 20000 in
theorem ggL_law_X11_hearer : GoodIn wsL_law wsX11_hearer := goodIn_r _ [372, 373, 129, 135, 136, 160, 374, 375, 376, 5, 377, 331, 163, 164, 165, 911, 912, 913, 914, 915, 916, 917, 918, 919, 920, 921, 922, 923, 924, 925, 926, 927, 928, 929, 930, 931, 932, 933, 934, 935, 936, 937, 938, 939] (by decide +kernel) (by decide +kernel)
set_option maxRecDepth 20000 in
theorem gL_law_X11_hearer : GoodIn wsL_law (wsV RL 35 RX11 yX11_hearer wsX11_hearer) := goodIn_app (goodIn_of _ (by decide +kernel)) ggL_law_X11_hearer
set_option maxRecDepth 20000 in
theorem ggL_law_X10_corner : GoodIn wsL_law wsX10_corner := goodIn_r _ [381, 19, 358, 24, 148, 382, 383, 384, 18, 385, 181, 363, 364, 2, 365, 366, 367, 368, 386, 387, 388, 23, 389, 81, 899, 900, 901, 902, 903, 904, 905, 906, 907, 908, 909, 910, 944, 945, 946, 947, 948, 949, 950, 951, 952, 953, 954, 955, 956, 957, 958, 959] (by decide +kernel) (by decide +kernel)
set_option maxRecDepth 20000 in
theorem gL_law_X10_corner : GoodIn wsL_law (wsV RL 36 RX10 yX10_corner wsX10_corner) := goodIn_app (goodIn_of _ (by decide +kernel)) ggL_law_X10_corner
set_option maxRecDepth 20000 in
theorem ggL_law_X11_corner : GoodIn wsL_law wsX11_corner := goodIn_r _ [393, 373, 132, 129, 160, 394, 395, 396, 5, 397, 289, 163, 164, 165, 398, 399, 400, 401, 331, 335, 336, 337, 911, 912, 913, 914, 915, 916, 917, 918, 919, 920, 921, 922, 923, 924, 925, 926, 927, 928, 929, 930, 931, 932, 933, 934, 935, 936, 937, 938, 939] (by decide +kernel) (by decide +kernel)
set_option maxRecDepth 20000 in
theorem gL_law_X11_corner : GoodIn wsL_law (wsV RL 39 RX11 yX11_corner wsX11_corner) := goodIn_app (goodIn_of _ (by decide +kernel)) ggL_law_X11_corner
set_option maxRecDepth 20000 in
theorem ggL_law_X10_cry : GoodIn wsL_law wsX10_cry := goodIn_r _ [405, 24, 406, 28, 407, 408, 409, 2, 410, 19, 358, 148, 411, 412, 413, 18, 414, 180, 382, 383, 384, 385, 181, 415, 416, 417, 27, 418, 419, 87, 270, 420, 421, 66, 422, 423, 424, 425, 23, 426, 260, 261, 80, 262, 263, 264, 265, 81, 254, 255, 427, 428, 429, 430, 36, 431, 432, 433, 35, 434, 435, 98, 436, 437, 438, 439, 440, 441, 442, 443, 444, 97, 445, 446, 447, 448, 449, 450, 451, 452, 453, 454, 455, 456, 364, 365, 457, 458, 367, 368, 459, 460, 461, 462, 463, 464, 465, 466, 467, 468, 469, 470, 471, 472, 473, 474, 475, 476, 477, 478, 899, 900, 901, 902, 903, 904, 905, 906, 907, 908, 909, 910, 952, 953, 954, 955, 956, 957, 958, 959, 944, 945, 946, 947, 948, 949, 950, 951, 960, 961, 962, 966, 967, 968, 969, 970, 971, 972, 973] (by decide +kernel) (by decide +kernel)
set_option maxRecDepth 20000 in
theorem gL_law_X10_cry : GoodIn wsL_law (wsV RL 40 RX10 yX10_cry wsX10_cry) := goodIn_app (goodIn_of _ (by decide +kernel)) ggL_law_X10_cry
