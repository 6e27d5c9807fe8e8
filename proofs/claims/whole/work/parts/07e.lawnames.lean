set_option maxRecDepth 20000 in
theorem ggL_law_X10_bestRound : GoodIn wsL_law wsX10_bestRound := goodIn_r _ [641, 19, 358, 148, 40, 411, 412, 413, 18, 414, 180, 642, 643, 644, 39, 645, 107, 646, 647, 648, 35, 649, 97, 98, 650, 2, 651, 652, 653, 654, 655, 105, 656, 432, 433, 434, 435, 436, 437, 438, 439, 440, 657, 658, 659, 660, 445, 446, 447, 448, 449, 450, 451, 452, 453, 454, 455, 456, 364, 365, 457, 458, 367, 368, 459, 460, 461, 462, 463, 464, 465, 466, 467, 468, 469, 470, 471, 472, 473, 474, 475, 476, 477, 478, 661, 662, 663, 664, 665, 666, 899, 900, 901, 902, 903, 904, 905, 906, 907, 908, 909, 910, 944, 945, 946, 947, 948, 949, 950, 951, 974, 975, 976, 977, 966, 967, 968, 969, 970, 971, 972, 973, 952, 953, 954, 955, 956, 957, 958, 959] (by decide +kernel) (by decide +kernel)
set_option maxRecDepth 20000 in
theorem gL_law_X10_bestRound : GoodIn wsL_law (wsV RL 75 RX10 yX10_bestRound wsX10_bestRound) := goodIn_app (goodIn_of _ (by decide +kernel)) ggL_law_X10_bestRound
set_option maxRecDepth 20000 in
theorem ggL_law_X11_bestRound : GoodIn wsL_law wsX11_bestRound := goodIn_r _ [670, 373, 160, 331, 289, 483, 484, 485, 5, 486, 330, 163, 164, 165, 671, 672, 673, 674, 129, 523, 524, 525, 675, 676, 677, 678, 502, 634, 635, 636, 637, 494, 495, 496, 497, 503, 504, 505, 506, 507, 508, 509, 510, 511, 512, 513, 514, 135, 136, 515, 516, 517, 518, 398, 399, 400, 401, 335, 336, 337, 519, 520, 521, 522, 526, 527, 528, 911, 912, 913, 914, 915, 916, 917, 918, 919, 920, 921, 922, 923, 924, 925, 926, 927, 928, 929, 930, 931, 932, 933, 934, 935, 936, 937, 938, 939] (by decide +kernel) (by decide +kernel)
set_option maxRecDepth 20000 in
theorem gL_law_X11_bestRound : GoodIn wsL_law (wsV RL 78 RX11 yX11_bestRound wsX11_bestRound) := goodIn_app (goodIn_of _ (by decide +kernel)) ggL_law_X11_bestRound
set_option maxRecDepth 20000 in
theorem ggL_law_X10_began : GoodIn wsL_law wsX10_began := goodIn_r _ [682, 40, 407, 408, 409, 2, 410, 19, 358, 148, 411, 412, 413, 18, 414, 180, 382, 383, 384, 385, 181, 683, 684, 685, 39, 686, 104, 687, 247, 248, 47, 249, 153, 688, 689, 690, 691, 105, 107, 692, 656, 432, 433, 35, 434, 435, 98, 436, 437, 438, 439, 440, 693, 442, 443, 444, 97, 445, 446, 447, 448, 449, 450, 451, 452, 453, 454, 455, 456, 364, 365, 457, 458, 367, 368, 459, 460, 461, 462, 463, 464, 465, 466, 467, 468, 469, 470, 471, 472, 473, 474, 475, 476, 477, 478, 694, 150, 151, 152, 69, 154, 695, 696, 697, 698, 699, 193, 194, 195, 700, 899, 900, 901, 902, 903, 904, 905, 906, 907, 908, 909, 910, 974, 975, 976, 977, 984, 985, 944, 945, 946, 947, 948, 949, 950, 951, 966, 967, 968, 969, 970, 971, 972, 973, 952, 953, 954, 955, 956, 957, 958, 959] (by decide +kernel) (by decide +kernel)
set_option maxRecDepth 20000 in
theorem gL_law_X10_began : GoodIn wsL_law (wsV RL 79 RX10 yX10_began wsX10_began) := goodIn_app (goodIn_of _ (by decide +kernel)) ggL_law_X10_began
set_option maxRecDepth 20000 in
theorem ggL_law_X11_began : GoodIn wsL_law wsX11_began := goodIn_r _ [704, 373, 160, 330, 483, 484, 485, 5, 486, 394, 395, 396, 397, 289, 163, 164, 165, 487, 488, 489, 634, 635, 636, 637, 129, 494, 495, 496, 497, 503, 504, 505, 506, 507, 502, 508, 509, 510, 511, 512, 513, 514, 135, 136, 515, 516, 517, 518, 398, 399, 400, 401, 331, 335, 336, 337, 519, 520, 521, 522, 523, 524, 525, 526, 527, 528, 911, 912, 913, 914, 915, 916, 917, 918, 919, 920, 921, 922, 923, 924, 925, 926, 927, 928, 929, 930, 931, 932, 933, 934, 935, 936, 937, 938, 939] (by decide +kernel) (by decide +kernel)
set_option maxRecDepth 20000 in
theorem gL_law_X11_began : GoodIn wsL_law (wsV RL 82 RX11 yX11_began wsX11_began) := goodIn_app (goodIn_of _ (by decide +kernel)) ggL_law_X11_began
set_option maxRecDepth 20000 in
theorem ggL_law_X10_passed : GoodIn wsL_law wsX10_passed := goodIn_r _ [708, 40, 709, 710, 711, 39, 712, 105, 713, 714, 715, 716, 107, 692, 412, 413, 18, 414, 180, 656, 432, 433, 35, 434, 435, 98, 436, 437, 438, 439, 440, 717, 450, 451, 452, 97, 453, 454, 455, 456, 364, 2, 365, 457, 458, 367, 368, 459, 460, 461, 462, 463, 464, 465, 466, 467, 468, 469, 470, 471, 472, 473, 474, 475, 476, 477, 478, 899, 900, 901, 902, 903, 904, 905, 906, 907, 908, 909, 910, 974, 975, 976, 977, 944, 945, 946, 947, 948, 949, 950, 951, 966, 967, 968, 969, 970, 971, 972, 973, 952, 953, 954, 955, 956, 957, 958, 959] (by decide +kernel) (by decide +kernel)
set_option maxRecDepth 20000 in
theorem gL_law_X10_passed : GoodIn wsL_law (wsV RL 83 RX10 yX10_passed wsX10_passed) := goodIn_app (goodIn_of _ (by decide +kernel)) ggL_law_X10_passed
set_option maxRecDepth 20000 in
theorem ggL_law_X11_passed : GoodIn wsL_law wsX11_passed := goodIn_r _ [721, 289, 722, 723, 724, 5, 725, 330, 483, 484, 485, 486, 515, 516, 517, 518, 129, 398, 399, 400, 401, 331, 335, 336, 337, 519, 520, 521, 522, 135, 508, 509, 510, 523, 524, 525, 911, 912, 913, 914, 915, 916, 917, 918, 919, 920, 921, 922, 923, 924, 925, 926, 927, 928, 929, 930, 931, 932, 933, 934, 935, 936, 937, 938, 939] (by decide +kernel) (by decide +kernel)
set_option maxRecDepth 20000 in
theorem gL_law_X11_passed : GoodIn wsL_law (wsV RL 86 RX11 yX11_passed wsX11_passed) := goodIn_app (goodIn_of _ (by decide +kernel)) ggL_law_X11_passed
set_option maxRecDepth 20000 in
theorem ggL_law_X10_hired : GoodIn wsL_law wsX10_hired := goodIn_r _ [729, 40, 19, 625, 626, 627, 2, 628, 148, 407, 408, 409, 410, 358, 411, 412, 413, 18, 414, 180, 382, 383, 384, 385, 181, 730, 731, 732, 39, 733, 105, 650, 651, 734, 735, 736, 737, 73, 457, 458, 364, 365, 738, 739, 740, 741, 107, 656, 432, 433, 35, 434, 435, 98, 436, 437, 438, 439, 440, 657, 658, 659, 660, 97, 445, 446, 447, 448, 449, 450, 451, 452, 453, 454, 455, 456, 367, 368, 459, 460, 461, 462, 463, 464, 465, 466, 467, 468, 469, 470, 471, 472, 473, 474, 475, 476, 477, 478, 742, 899, 900, 901, 902, 903, 904, 905, 906, 907, 908, 909, 910, 944, 945, 946, 947, 948, 949, 950, 951, 974, 975, 976, 977, 966, 967, 968, 969, 970, 971, 972, 973, 952, 953, 954, 955, 956, 957, 958, 959] (by decide +kernel) (by decide +kernel)
set_option maxRecDepth 20000 in
theorem gL_law_X10_hired : GoodIn wsL_law (wsV RL 87 RX10 yX10_hired wsX10_hired) := goodIn_app (goodIn_of _ (by decide +kernel)) ggL_law_X10_hired
set_option maxRecDepth 20000 in
theorem ggL_law_X11_hired : GoodIn wsL_law wsX11_hired := goodIn_r _ [746, 373, 160, 747, 289, 502, 483, 484, 485, 5, 486, 330, 394, 395, 396, 397, 163, 164, 165, 487, 488, 489, 748, 749, 750, 751, 132, 508, 509, 510, 634, 635, 636, 637, 129, 494, 495, 496, 497, 503, 504, 505, 506, 507, 511, 512, 513, 514, 135, 136, 515, 516, 517, 518, 398, 399, 400, 401, 331, 335, 336, 337, 519, 520, 521, 522, 523, 524, 525, 526, 527, 528, 911, 912, 913, 914, 915, 916, 917, 918, 919, 920, 921, 922, 923, 924, 925, 926, 927, 928, 929, 930, 931, 932, 933, 934, 935, 936, 937, 938, 939] (by decide +kernel) (by decide +kernel)
set_option maxRecDepth 20000 in
theorem gL_law_X11_hired : GoodIn wsL_law (wsV RL 90 RX11 yX11_hired wsX11_hired) := goodIn_app (goodIn_of _ (by decide +kernel)) ggL_law_X11_hired
set_option maxRecDepth 20000 in
theorem ggL_law_X10_spoilt : GoodIn wsL_law wsX10_spoilt := goodIn_r _ [755, 40, 625, 626, 627, 2, 628, 148, 407, 408, 409, 410, 19, 358, 411, 412, 413, 18, 414, 180, 382, 383, 384, 385, 181, 756, 757, 758, 39, 759, 105, 106, 760, 761, 762, 763, 107, 656, 432, 433, 35, 434, 435, 98, 436, 437, 438, 439, 440, 693, 442, 443, 444, 97, 445, 446, 447, 448, 449, 450, 451, 452, 453, 454, 455, 456, 364, 365, 457, 458, 367, 368, 459, 460, 461, 462, 463, 464, 465, 466, 467, 468, 469, 470, 471, 472, 473, 474, 475, 476, 477, 478, 764, 765, 766, 899, 900, 901, 902, 903, 904, 905, 906, 907, 908, 909, 910, 944, 945, 946, 947, 948, 949, 950, 951, 974, 975, 976, 977, 952, 953, 954, 955, 956, 957, 958, 959, 966, 967, 968, 969, 970, 971, 972, 973] (by decide +kernel) (by decide +kernel)
set_option maxRecDepth 20000 in
theorem gL_law_X10_spoilt : GoodIn wsL_law (wsV RL 91 RX10 yX10_spoilt wsX10_spoilt) := goodIn_app (goodIn_of _ (by decide +kernel)) ggL_law_X10_spoilt
set_option maxRecDepth 20000 in
theorem ggL_law_X11_spoilt : GoodIn wsL_law wsX11_spoilt := goodIn_r _ [770, 373, 160, 502, 331, 129, 483, 484, 485, 5, 486, 330, 394, 395, 396, 397, 289, 163, 164, 165, 487, 488, 489, 634, 635, 636, 637, 494, 495, 496, 497, 503, 504, 505, 506, 507, 508, 509, 510, 511, 512, 513, 514, 135, 136, 515, 516, 517, 518, 398, 399, 400, 401, 335, 336, 337, 519, 520, 521, 522, 523, 524, 525, 526, 527, 528, 911, 912, 913, 914, 915, 916, 917, 918, 919, 920, 921, 922, 923, 924, 925, 926, 927, 928, 929, 930, 931, 932, 933, 934, 935, 936, 937, 938, 939] (by decide +kernel) (by decide +kernel)
set_option maxRecDepth 20000 in
theorem gL_law_X11_spoilt : GoodIn wsL_law (wsV RL 94 RX11 yX11_spoilt wsX11_spoilt) := goodIn_app (goodIn_of _ (by decide +kernel)) ggL_law_X11_spoilt
set_option maxRecDepth 20000 in
theorem ggL_law_X10_odds : GoodIn wsL_law wsX10_odds := goodIn_r _ [774, 148, 775, 19, 776, 899, 900, 901, 902, 903, 904, 905, 906, 907, 908, 909, 910, 944, 945, 946, 947, 948, 949, 950, 951] (by decide +kernel) (by decide +kernel)
set_option maxRecDepth 20000 in
theorem gL_law_X10_odds : GoodIn wsL_law (wsV RL 95 RX10 yX10_odds wsX10_odds) := goodIn_app (goodIn_of _ (by decide +kernel)) ggL_law_X10_odds
set_option maxRecDepth 20000 in
theorem ggL_law_X11_odds : GoodIn wsL_law wsX11_odds := goodIn_r _ [780, 781, 782, 160, 783, 289, 163, 164, 5, 165, 911, 912, 913, 914, 915, 916, 917, 918, 919, 920, 921, 922, 923, 924, 925, 926, 927, 928, 929, 930, 931, 932, 933, 934, 935, 936, 937, 938, 939] (by decide +kernel) (by decide +kernel)
set_option maxRecDepth 20000 in
theorem gL_law_X11_odds : GoodIn wsL_law (wsV RL 98 RX11 yX11_odds wsX11_odds) := goodIn_app (goodIn_of _ (by decide +kernel)) ggL_law_X11_odds
set_option maxRecDepth 20000 in
theorem ggL_law_X10_see : GoodIn wsL_law wsX10_see := goodIn_r _ [787, 19, 358, 148, 44, 411, 412, 413, 18, 414, 180, 382, 383, 384, 385, 181, 788, 789, 790, 43, 791, 115, 116, 114, 792, 150, 151, 47, 152, 153, 69, 154, 899, 900, 901, 902, 903, 904, 905, 906, 907, 908, 909, 910, 944, 945, 946, 947, 948, 949, 950, 951, 978, 979, 980, 981, 982, 983, 984, 985] (by decide +kernel) (by decide +kernel)
set_option maxRecDepth 20000 in
theorem gL_law_X10_see : GoodIn wsL_law (wsV RL 99 RX10 yX10_see wsX10_see) := goodIn_app (goodIn_of _ (by decide +kernel)) ggL_law_X10_see
set_option maxRecDepth 20000 in
theorem ggL_law_X11_see : GoodIn wsL_law wsX11_see := goodIn_r _ [796, 373, 797, 160, 332, 162, 139, 140, 141, 483, 484, 485, 5, 486, 330, 394, 395, 396, 397, 289, 163, 164, 165, 911, 912, 913, 914, 915, 916, 917, 918, 919, 920, 921, 922, 923, 924, 925, 926, 927, 928, 929, 930, 931, 932, 933, 934, 935, 936, 937, 938, 939] (by decide +kernel) (by decide +kernel)
set_option maxRecDepth 20000 in
theorem gL_law_X11_see : GoodIn wsL_law (wsV RL 102 RX11 yX11_see wsX11_see) := goodIn_app (goodIn_of _ (by decide +kernel)) ggL_law_X11_see
set_option maxRecDepth 20000 in
theorem ggL_law_X10_behind : GoodIn wsL_law wsX10_behind := goodIn_r _ [801, 44, 802, 803, 804, 43, 805, 117, 119, 279, 247, 248, 47, 249, 153, 806, 647, 648, 35, 649, 97, 98, 650, 2, 651, 807, 808, 809, 810, 114, 115, 116, 811, 193, 194, 195, 69, 812, 432, 433, 434, 435, 436, 437, 438, 439, 440, 813, 450, 451, 452, 453, 454, 455, 456, 364, 365, 457, 458, 367, 368, 459, 460, 461, 462, 463, 464, 465, 466, 467, 468, 469, 470, 471, 472, 473, 474, 475, 476, 477, 478, 792, 150, 151, 152, 154, 814, 815, 816, 817, 118, 818, 65, 66, 67, 819, 820, 821, 822, 700, 899, 900, 901, 902, 903, 904, 905, 906, 907, 908, 909, 910, 978, 979, 980, 981, 982, 983, 984, 985, 966, 967, 968, 969, 970, 971, 972, 973, 944, 945, 946, 947, 948, 949, 950, 951, 952, 953, 954, 955, 956, 957, 958, 959] (by decide +kernel) (by decide +kernel)
set_option maxRecDepth 20000 in
theorem gL_law_X10_behind : GoodIn wsL_law (wsV RL 103 RX10 yX10_behind wsX10_behind) := goodIn_app (goodIn_of _ (by decide +kernel)) ggL_law_X10_behind
