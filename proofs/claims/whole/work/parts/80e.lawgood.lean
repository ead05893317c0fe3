set_option maxRecDepth 20000 in
theorem ggL_law_X5_lay : GoodIn wsL_law wsX5_lay := goodIn_r _ [791, 31, 780, 781, 2, 782, 792, 793, 794, 33, 795, 67, 796, 797, 798, 799, 377, 800, 801, 802, 803, 376, 892, 893, 894, 895, 896, 897, 898, 899, 900, 901, 902, 943, 944, 945, 946] (by decide +kernel) (by decide +kernel)
set_option maxRecDepth 20000 in
theorem gL_law_X5_lay : GoodIn wsL_law (wsV RL 110 RX5 yX5_lay wsX5_lay) := goodIn_app (goodIn_r _ [788, 789, 790, 2] (by decide +kernel) (by decide +kernel)) ggL_law_X5_lay
set_option maxRecDepth 20000 in
theorem ggL_law_X6_lay : GoodIn wsL_law wsX6_lay := goodIn_r _ [807, 448, 808, 83, 445, 446, 5, 447, 99, 100, 101, 809, 810, 811, 812, 81, 813, 814, 815, 816, 82, 903, 904, 905, 906, 907, 908, 909, 910, 911, 912, 913, 914, 915, 916, 917, 918, 919, 920, 921, 922, 923, 924, 925] (by decide +kernel) (by decide +kernel)
set_option maxRecDepth 20000 in
theorem gL_law_X6_lay : GoodIn wsL_law (wsV RL 114 RX6 yX6_lay wsX6_lay) := goodIn_app (goodIn_r _ [804, 805, 806, 5] (by decide +kernel) (by decide +kernel)) ggL_law_X6_lay
set_option maxRecDepth 20000 in
theorem ggL_law_X5_look : GoodIn wsL_law wsX5_look := goodIn_r _ [820, 31, 780, 781, 2, 782, 821, 822, 823, 33, 824, 67, 68, 796, 797, 798, 799, 377, 892, 893, 894, 895, 896, 897, 898, 899, 900, 901, 902, 943, 944, 945, 946] (by decide +kernel) (by decide +kernel)
set_option maxRecDepth 20000 in
theorem gL_law_X5_look : GoodIn wsL_law (wsV RL 115 RX5 yX5_look wsX5_look) := goodIn_app (goodIn_r _ [817, 818, 819, 2] (by decide +kernel) (by decide +kernel)) ggL_law_X5_look
set_option maxRecDepth 20000 in
theorem ggL_law_X6_look : GoodIn wsL_law wsX6_look := goodIn_r _ [828, 445, 446, 5, 447, 448, 99, 100, 101, 829, 830, 831, 832, 83, 809, 810, 811, 812, 81, 903, 904, 905, 906, 907, 908, 909, 910, 911, 912, 913, 914, 915, 916, 917, 918, 919, 920, 921, 922, 923, 924, 925] (by decide +kernel) (by decide +kernel)
set_option maxRecDepth 20000 in
theorem gL_law_X6_look : GoodIn wsL_law (wsV RL 118 RX6 yX6_look wsX6_look) := goodIn_app (goodIn_r _ [825, 826, 827, 5] (by decide +kernel) (by decide +kernel)) ggL_law_X6_look
set_option maxRecDepth 20000 in
theorem ggL_law_X5_lift : GoodIn wsL_law wsX5_lift := goodIn_r _ [836, 31, 780, 781, 2, 782, 821, 822, 823, 33, 824, 67, 68, 796, 797, 798, 799, 377, 892, 893, 894, 895, 896, 897, 898, 899, 900, 901, 902, 943, 944, 945, 946] (by decide +kernel) (by decide +kernel)
set_option maxRecDepth 20000 in
theorem gL_law_X5_lift : GoodIn wsL_law (wsV RL 119 RX5 yX5_lift wsX5_lift) := goodIn_app (goodIn_r _ [833, 834, 835, 2] (by decide +kernel) (by decide +kernel)) ggL_law_X5_lift
set_option maxRecDepth 20000 in
theorem ggL_law_X6_lift : GoodIn wsL_law wsX6_lift := goodIn_r _ [840, 83, 445, 446, 5, 447, 448, 99, 100, 101, 829, 830, 831, 832, 809, 810, 811, 812, 81, 903, 904, 905, 906, 907, 908, 909, 910, 911, 912, 913, 914, 915, 916, 917, 918, 919, 920, 921, 922, 923, 924, 925] (by decide +kernel) (by decide +kernel)
set_option maxRecDepth 20000 in
theorem gL_law_X6_lift : GoodIn wsL_law (wsV RL 122 RX6 yX6_lift wsX6_lift) := goodIn_app (goodIn_r _ [837, 838, 839, 5] (by decide +kernel) (by decide +kernel)) ggL_law_X6_lift
set_option maxRecDepth 20000 in
theorem ggL_law_X5_likeness : GoodIn wsL_law wsX5_likeness := goodIn_r _ [844, 31, 780, 781, 2, 782, 845, 846, 847, 33, 848, 67, 376, 377, 68, 849, 120, 121, 122, 892, 893, 894, 895, 896, 897, 898, 899, 900, 901, 902, 943, 944, 945, 946] (by decide +kernel) (by decide +kernel)
set_option maxRecDepth 20000 in
theorem gL_law_X5_likeness : GoodIn wsL_law (wsV RL 123 RX5 yX5_likeness wsX5_likeness) := goodIn_app (goodIn_r _ [841, 842, 843, 2] (by decide +kernel) (by decide +kernel)) ggL_law_X5_likeness
set_option maxRecDepth 20000 in
theorem ggL_law_X6_likeness : GoodIn wsL_law wsX6_likeness := goodIn_r _ [853, 81, 82, 83, 445, 446, 5, 447, 448, 99, 100, 101, 903, 904, 905, 906, 907, 908, 909, 910, 911, 912, 913, 914, 915, 916, 917, 918, 919, 920, 921, 922, 923, 924, 925] (by decide +kernel) (by decide +kernel)
set_option maxRecDepth 20000 in
theorem gL_law_X6_likeness : GoodIn wsL_law (wsV RL 126 RX6 yX6_likeness wsX6_likeness) := goodIn_app (goodIn_r _ [850, 851, 852, 5] (by decide +kernel) (by decide +kernel)) ggL_law_X6_likeness
set_option maxRecDepth 20000 in
theorem ggL_law_X5_hand : GoodIn wsL_law wsX5_hand := goodIn_r _ [857, 31, 780, 781, 2, 782, 858, 797, 798, 33, 799, 377, 859, 801, 802, 803, 376, 892, 893, 894, 895, 896, 897, 898, 899, 900, 901, 902, 943, 944, 945, 946] (by decide +kernel) (by decide +kernel)
set_option maxRecDepth 20000 in
theorem gL_law_X5_hand : GoodIn wsL_law (wsV RL 127 RX5 yX5_hand wsX5_hand) := goodIn_app (goodIn_r _ [854, 855, 856, 2] (by decide +kernel) (by decide +kernel)) ggL_law_X5_hand
set_option maxRecDepth 20000 in
theorem ggL_law_X6_hand : GoodIn wsL_law wsX6_hand := goodIn_r _ [863, 81, 83, 445, 446, 5, 447, 448, 99, 100, 101, 809, 810, 811, 812, 813, 814, 815, 816, 82, 903, 904, 905, 906, 907, 908, 909, 910, 911, 912, 913, 914, 915, 916, 917, 918, 919, 920, 921, 922, 923, 924, 925] (by decide +kernel) (by decide +kernel)
set_option maxRecDepth 20000 in
theorem gL_law_X6_hand : GoodIn wsL_law (wsV RL 130 RX6 yX6_hand wsX6_hand) := goodIn_app (goodIn_r _ [860, 861, 862, 5] (by decide +kernel) (by decide +kernel)) ggL_law_X6_hand
set_option maxRecDepth 20000 in
theorem ggL_law_X5_drop : GoodIn wsL_law wsX5_drop := goodIn_r _ [867, 31, 780, 781, 2, 782, 368, 369, 370, 33, 371, 67, 372, 373, 374, 375, 376, 377, 68, 378, 366, 363, 367, 892, 893, 894, 895, 896, 897, 898, 899, 900, 901, 902, 943, 944, 945, 946] (by decide +kernel) (by decide +kernel)
set_option maxRecDepth 20000 in
theorem gL_law_X5_drop : GoodIn wsL_law (wsV RL 131 RX5 yX5_drop wsX5_drop) := goodIn_app (goodIn_r _ [864, 865, 866, 2] (by decide +kernel) (by decide +kernel)) ggL_law_X5_drop
set_option maxRecDepth 20000 in
theorem ggL_law_X6_drop : GoodIn wsL_law wsX6_drop := goodIn_r _ [871, 81, 445, 446, 5, 447, 448, 99, 100, 101, 903, 904, 905, 906, 907, 908, 909, 910, 911, 912, 913, 914, 915, 916, 917, 918, 919, 920, 921, 922, 923, 924, 925] (by decide +kernel) (by decide +kernel)
set_option maxRecDepth 20000 in
theorem gL_law_X6_drop : GoodIn wsL_law (wsV RL 134 RX6 yX6_drop wsX6_drop) := goodIn_app (goodIn_r _ [868, 869, 870, 5] (by decide +kernel) (by decide +kernel)) ggL_law_X6_drop
set_option maxRecDepth 20000 in
theorem ggL_law_X5_count : GoodIn wsL_law wsX5_count := goodIn_r _ [875, 19, 24, 343, 15, 876, 877, 878, 2, 879, 31, 880, 881, 882, 33, 883, 377, 68, 892, 893, 894, 895, 896, 897, 898, 899, 900, 901, 902, 933, 934, 935, 936, 937, 938, 939, 940, 941, 942, 926, 927, 928, 929, 930, 931, 932, 943, 944, 945, 946] (by decide +kernel) (by decide +kernel)
set_option maxRecDepth 20000 in
theorem gL_law_X5_count : GoodIn wsL_law (wsV RL 135 RX5 yX5_count wsX5_count) := goodIn_app (goodIn_r _ [872, 873, 874, 2] (by decide +kernel) (by decide +kernel)) ggL_law_X5_count
set_option maxRecDepth 20000 in
theorem ggL_law_X6_count : GoodIn wsL_law wsX6_count := goodIn_r _ [887, 264, 266, 76, 294, 73, 88, 98, 888, 889, 890, 5, 891, 81, 83, 903, 904, 905, 906, 907, 908, 909, 910, 911, 912, 913, 914, 915, 916, 917, 918, 919, 920, 921, 922, 923, 924, 925] (by decide +kernel) (by decide +kernel)
set_option maxRecDepth 20000 in
theorem gL_law_X6_count : GoodIn wsL_law (wsV RL 138 RX6 yX6_count wsX6_count) := goodIn_app (goodIn_r _ [884, 885, 886, 5] (by decide +kernel) (by decide +kernel)) ggL_law_X6_count
