set_option maxRecDepth 20000 in
theorem ggL_law_X5_limb : GoodIn wsL_law wsX5_limb := goodIn_r _ [650, 19, 651, 652, 391, 392, 2, 393, 653, 654, 655, 656, 24, 657, 658, 659, 52, 660, 661, 62, 662, 663, 664, 18, 665, 124, 666, 667, 668, 669, 670, 892, 893, 894, 895, 896, 897, 898, 899, 900, 901, 902, 933, 934, 935, 936, 937, 938, 939, 940, 941, 942, 947, 948, 949, 950, 951, 952, 953] (by decide +kernel) (by decide +kernel)
set_option maxRecDepth 20000 in
theorem gL_law_X5_limb : GoodIn wsL_law (wsV RL 76 RX5 yX5_limb wsX5_limb) := goodIn_app (goodIn_r _ [647, 648, 649, 2] (by decide +kernel) (by decide +kernel)) ggL_law_X5_limb
set_option maxRecDepth 20000 in
theorem ggL_law_X6_limb : GoodIn wsL_law wsX6_limb := goodIn_r _ [674, 398, 264, 675, 676, 99, 100, 5, 101, 677, 678, 679, 680, 294, 73, 681, 682, 683, 684, 685, 74, 686, 77, 476, 477, 478, 903, 904, 905, 906, 907, 908, 909, 910, 911, 912, 913, 914, 915, 916, 917, 918, 919, 920, 921, 922, 923, 924, 925] (by decide +kernel) (by decide +kernel)
set_option maxRecDepth 20000 in
theorem gL_law_X6_limb : GoodIn wsL_law (wsV RL 79 RX6 yX6_limb wsX6_limb) := goodIn_app (goodIn_r _ [671, 672, 673, 5] (by decide +kernel) (by decide +kernel)) ggL_law_X6_limb
set_option maxRecDepth 20000 in
theorem ggL_law_X5_exact : GoodIn wsL_law wsX5_exact := goodIn_r _ [690, 691, 19, 692, 693, 391, 392, 2, 393, 653, 654, 655, 656, 24, 657, 658, 659, 52, 660, 661, 62, 662, 663, 664, 18, 665, 124, 666, 667, 668, 669, 670, 694, 695, 696, 697, 698, 699, 700, 701, 702, 703, 892, 893, 894, 895, 896, 897, 898, 899, 900, 901, 902, 933, 934, 935, 936, 937, 938, 939, 940, 941, 942, 947, 948, 949, 950, 951, 952, 953] (by decide +kernel) (by decide +kernel)
set_option maxRecDepth 20000 in
theorem gL_law_X5_exact : GoodIn wsL_law (wsV RL 80 RX5 yX5_exact wsX5_exact) := goodIn_app (goodIn_r _ [687, 688, 689, 2] (by decide +kernel) (by decide +kernel)) ggL_law_X5_exact
set_option maxRecDepth 20000 in
theorem ggL_law_X6_exact : GoodIn wsL_law wsX6_exact := goodIn_r _ [707, 398, 708, 264, 709, 99, 100, 5, 101, 677, 678, 679, 680, 294, 73, 681, 682, 683, 684, 685, 74, 686, 77, 476, 477, 478, 710, 711, 712, 713, 714, 715, 716, 717, 718, 719, 720, 721, 903, 904, 905, 906, 907, 908, 909, 910, 911, 912, 913, 914, 915, 916, 917, 918, 919, 920, 921, 922, 923, 924, 925] (by decide +kernel) (by decide +kernel)
set_option maxRecDepth 20000 in
theorem gL_law_X6_exact : GoodIn wsL_law (wsV RL 84 RX6 yX6_exact wsX6_exact) := goodIn_app (goodIn_r _ [704, 705, 706, 5] (by decide +kernel) (by decide +kernel)) ggL_law_X6_exact
set_option maxRecDepth 20000 in
theorem ggL_law_X5_whole : GoodIn wsL_law wsX5_whole := goodIn_r _ [725, 19, 24, 726, 594, 595, 2, 596, 597, 598, 599, 23, 600, 53, 54, 727, 728, 729, 52, 730, 62, 892, 893, 894, 895, 896, 897, 898, 899, 900, 901, 902, 933, 934, 935, 936, 937, 938, 939, 940, 941, 942, 947, 948, 949, 950, 951, 952, 953] (by decide +kernel) (by decide +kernel)
set_option maxRecDepth 20000 in
theorem gL_law_X5_whole : GoodIn wsL_law (wsV RL 85 RX5 yX5_whole wsX5_whole) := goodIn_app (goodIn_r _ [722, 723, 724, 2] (by decide +kernel) (by decide +kernel)) ggL_law_X5_whole
set_option maxRecDepth 20000 in
theorem ggL_law_X6_whole : GoodIn wsL_law wsX6_whole := goodIn_r _ [734, 264, 77, 735, 610, 611, 5, 612, 99, 100, 101, 903, 904, 905, 906, 907, 908, 909, 910, 911, 912, 913, 914, 915, 916, 917, 918, 919, 920, 921, 922, 923, 924, 925] (by decide +kernel) (by decide +kernel)
set_option maxRecDepth 20000 in
theorem gL_law_X6_whole : GoodIn wsL_law (wsV RL 88 RX6 yX6_whole wsX6_whole) := goodIn_app (goodIn_r _ [731, 732, 733, 5] (by decide +kernel) (by decide +kernel)) ggL_law_X6_whole
set_option maxRecDepth 20000 in
theorem ggL_law_X5_reach : GoodIn wsL_law wsX5_reach := goodIn_r _ [739, 19, 387, 388, 389, 2, 390, 740, 741, 742, 18, 743, 123, 509, 408, 409, 410, 45, 892, 893, 894, 895, 896, 897, 898, 899, 900, 901, 902, 933, 934, 935, 936, 937, 938] (by decide +kernel) (by decide +kernel)
set_option maxRecDepth 20000 in
theorem gL_law_X5_reach : GoodIn wsL_law (wsV RL 89 RX5 yX5_reach wsX5_reach) := goodIn_app (goodIn_r _ [736, 737, 738, 2] (by decide +kernel) (by decide +kernel)) ggL_law_X5_reach
set_option maxRecDepth 20000 in
theorem ggL_law_X6_reach : GoodIn wsL_law wsX6_reach := goodIn_r _ [747, 264, 399, 400, 401, 5, 402, 99, 100, 101, 476, 477, 478, 748, 749, 750, 751, 266, 75, 903, 904, 905, 906, 907, 908, 909, 910, 911, 912, 913, 914, 915, 916, 917, 918, 919, 920, 921, 922, 923, 924, 925] (by decide +kernel) (by decide +kernel)
set_option maxRecDepth 20000 in
theorem gL_law_X6_reach : GoodIn wsL_law (wsV RL 92 RX6 yX6_reach wsX6_reach) := goodIn_app (goodIn_r _ [744, 745, 746, 5] (by decide +kernel) (by decide +kernel)) ggL_law_X6_reach
set_option maxRecDepth 20000 in
theorem ggL_law_X5_dead : GoodIn wsL_law wsX5_dead := goodIn_r _ [755, 19, 740, 741, 742, 18, 743, 123, 509, 408, 409, 410, 45, 892, 893, 894, 895, 896, 897, 898, 899, 900, 901, 902, 933, 934, 935, 936, 937, 938] (by decide +kernel) (by decide +kernel)
set_option maxRecDepth 20000 in
theorem gL_law_X5_dead : GoodIn wsL_law (wsV RL 93 RX5 yX5_dead wsX5_dead) := goodIn_app (goodIn_r _ [752, 753, 754, 2] (by decide +kernel) (by decide +kernel)) ggL_law_X5_dead
set_option maxRecDepth 20000 in
theorem ggL_law_X6_dead : GoodIn wsL_law wsX6_dead := goodIn_r _ [759, 264, 748, 749, 750, 5, 751, 266, 75, 903, 904, 905, 906, 907, 908, 909, 910, 911, 912, 913, 914, 915, 916, 917, 918, 919, 920, 921, 922, 923, 924, 925] (by decide +kernel) (by decide +kernel)
set_option maxRecDepth 20000 in
theorem gL_law_X6_dead : GoodIn wsL_law (wsV RL 96 RX6 yX6_dead wsX6_dead) := goodIn_app (goodIn_r _ [756, 757, 758, 5] (by decide +kernel) (by decide +kernel)) ggL_law_X6_dead
set_option maxRecDepth 20000 in
theorem ggL_law_X5_until : GoodIn wsL_law wsX5_until := goodIn_r _ [763, 25, 24, 19, 594, 595, 2, 596, 387, 388, 389, 390, 429, 430, 431, 23, 432, 53, 54, 55, 433, 120, 121, 122, 348, 434, 435, 436, 52, 437, 353, 354, 60, 359, 360, 62, 438, 63, 597, 598, 599, 600, 483, 484, 485, 486, 487, 488, 489, 490, 491, 426, 427, 428, 492, 493, 494, 495, 496, 408, 409, 18, 410, 45, 497, 498, 499, 500, 501, 502, 503, 504, 505, 506, 507, 508, 509, 510, 511, 512, 513, 514, 465, 466, 467, 515, 516, 517, 518, 519, 520, 521, 522, 355, 356, 357, 358, 361, 362, 363, 364, 523, 524, 525, 526, 892, 893, 894, 895, 896, 897, 898, 899, 900, 901, 902, 947, 948, 949, 950, 951, 952, 953, 933, 934, 935, 936, 937, 938, 939, 940, 941, 942] (by decide +kernel) (by decide +kernel)
set_option maxRecDepth 20000 in
theorem gL_law_X5_until : GoodIn wsL_law (wsV RL 97 RX5 yX5_until wsX5_until) := goodIn_app (goodIn_r _ [760, 761, 762, 2] (by decide +kernel) (by decide +kernel)) ggL_law_X5_until
set_option maxRecDepth 20000 in
theorem ggL_law_X6_until : GoodIn wsL_law wsX6_until := goodIn_r _ [767, 76, 610, 611, 5, 612, 99, 100, 101, 399, 400, 401, 402, 264, 453, 454, 455, 456, 77, 531, 532, 533, 534, 535, 536, 537, 538, 75, 539, 540, 541, 542, 266, 543, 544, 545, 546, 476, 477, 478, 547, 548, 549, 550, 551, 552, 553, 554, 903, 904, 905, 906, 907, 908, 909, 910, 911, 912, 913, 914, 915, 916, 917, 918, 919, 920, 921, 922, 923, 924, 925] (by decide +kernel) (by decide +kernel)
set_option maxRecDepth 20000 in
theorem gL_law_X6_until : GoodIn wsL_law (wsV RL 100 RX6 yX6_until wsX6_until) := goodIn_app (goodIn_r _ [764, 765, 766, 5] (by decide +kernel) (by decide +kernel)) ggL_law_X6_until
set_option maxRecDepth 20000 in
theorem ggL_law_X5_pulled : GoodIn wsL_law wsX5_pulled := goodIn_r _ [771, 19, 24, 25, 594, 595, 2, 596, 461, 462, 463, 464, 465, 466, 23, 467, 348, 429, 430, 431, 432, 53, 54, 55, 433, 120, 121, 122, 434, 435, 436, 52, 437, 353, 354, 60, 359, 360, 62, 438, 63, 468, 469, 470, 471, 483, 484, 485, 486, 487, 488, 489, 490, 491, 426, 427, 428, 492, 493, 494, 495, 496, 408, 409, 18, 410, 45, 497, 498, 499, 500, 501, 502, 503, 504, 505, 506, 507, 508, 509, 510, 511, 512, 513, 514, 515, 516, 517, 518, 519, 520, 521, 522, 355, 356, 357, 358, 361, 362, 363, 364, 523, 524, 525, 526, 597, 598, 599, 600, 892, 893, 894, 895, 896, 897, 898, 899, 900, 901, 902, 933, 934, 935, 936, 937, 938, 947, 948, 949, 950, 951, 952, 953, 939, 940, 941, 942] (by decide +kernel) (by decide +kernel)
set_option maxRecDepth 20000 in
theorem gL_law_X5_pulled : GoodIn wsL_law (wsV RL 101 RX5 yX5_pulled wsX5_pulled) := goodIn_app (goodIn_r _ [768, 769, 770, 2] (by decide +kernel) (by decide +kernel)) ggL_law_X5_pulled
set_option maxRecDepth 20000 in
theorem ggL_law_X6_pulled : GoodIn wsL_law wsX6_pulled := goodIn_r _ [775, 264, 76, 610, 611, 5, 612, 99, 100, 101, 445, 446, 447, 448, 476, 477, 478, 453, 454, 455, 456, 77, 531, 532, 533, 534, 535, 536, 537, 538, 75, 539, 540, 541, 542, 266, 543, 544, 545, 546, 547, 548, 549, 550, 551, 552, 553, 554, 903, 904, 905, 906, 907, 908, 909, 910, 911, 912, 913, 914, 915, 916, 917, 918, 919, 920, 921, 922, 923, 924, 925] (by decide +kernel) (by decide +kernel)
set_option maxRecDepth 20000 in
theorem gL_law_X6_pulled : GoodIn wsL_law (wsV RL 104 RX6 yX6_pulled wsX6_pulled) := goodIn_app (goodIn_r _ [772, 773, 774, 5] (by decide +kernel) (by decide +kernel)) ggL_law_X6_pulled
set_option maxRecDepth 20000 in
theorem ggL_law_X5_shelf : GoodIn wsL_law wsX5_shelf := goodIn_r _ [779, 31, 780, 781, 2, 782, 783, 373, 374, 33, 375, 67, 376, 377, 68, 378, 366, 363, 367, 892, 893, 894, 895, 896, 897, 898, 899, 900, 901, 902, 943, 944, 945, 946] (by decide +kernel) (by decide +kernel)
set_option maxRecDepth 20000 in
theorem gL_law_X5_shelf : GoodIn wsL_law (wsV RL 105 RX5 yX5_shelf wsX5_shelf) := goodIn_app (goodIn_r _ [776, 777, 778, 2] (by decide +kernel) (by decide +kernel)) ggL_law_X5_shelf
set_option maxRecDepth 20000 in
theorem ggL_law_X6_shelf : GoodIn wsL_law wsX6_shelf := goodIn_r _ [787, 81, 82, 83, 445, 446, 5, 447, 448, 99, 100, 101, 903, 904, 905, 906, 907, 908, 909, 910, 911, 912, 913, 914, 915, 916, 917, 918, 919, 920, 921, 922, 923, 924, 925] (by decide +kernel) (by decide +kernel)
set_option maxRecDepth 20000 in
theorem gL_law_X6_shelf : GoodIn wsL_law (wsV RL 109 RX6 yX6_shelf wsX6_shelf) := goodIn_app (goodIn_r _ [784, 785, 786, 5] (by decide +kernel) (by decide +kernel)) ggL_law_X6_shelf
