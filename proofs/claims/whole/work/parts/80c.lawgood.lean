set_option maxRecDepth 20000 in
theorem ggL_law_X5_pull : GoodIn wsL_law wsX5_pull := goodIn_r _ [460, 24, 461, 462, 2, 463, 464, 465, 466, 23, 467, 348, 420, 421, 422, 423, 424, 26, 343, 425, 426, 427, 428, 429, 430, 431, 432, 53, 54, 55, 433, 120, 121, 122, 434, 435, 436, 52, 437, 353, 354, 60, 359, 360, 62, 438, 63, 468, 469, 470, 471, 892, 893, 894, 895, 896, 897, 898, 899, 900, 901, 902, 939, 940, 941, 942, 947, 948, 949, 950, 951, 952, 953] (by decide +kernel) (by decide +kernel)
set_option maxRecDepth 20000 in
theorem gL_law_X5_pull : GoodIn wsL_law (wsV RL 44 RX5 yX5_pull wsX5_pull) := goodIn_app (goodIn_r _ [457, 458, 459, 2] (by decide +kernel) (by decide +kernel)) ggL_law_X5_pull
set_option maxRecDepth 20000 in
theorem ggL_law_X6_pull : GoodIn wsL_law wsX6_pull := goodIn_r _ [475, 76, 445, 446, 5, 447, 448, 99, 100, 101, 476, 477, 478, 449, 450, 451, 452, 88, 453, 454, 455, 456, 77, 903, 904, 905, 906, 907, 908, 909, 910, 911, 912, 913, 914, 915, 916, 917, 918, 919, 920, 921, 922, 923, 924, 925] (by decide +kernel) (by decide +kernel)
set_option maxRecDepth 20000 in
theorem gL_law_X6_pull : GoodIn wsL_law (wsV RL 47 RX6 yX6_pull wsX6_pull) := goodIn_app (goodIn_r _ [472, 473, 474, 5] (by decide +kernel) (by decide +kernel)) ggL_law_X6_pull
set_option maxRecDepth 20000 in
theorem ggL_law_X5_step : GoodIn wsL_law wsX5_step := goodIn_r _ [482, 19, 24, 420, 421, 422, 2, 423, 424, 26, 343, 425, 426, 427, 428, 429, 430, 431, 23, 432, 53, 54, 55, 433, 120, 121, 122, 348, 434, 435, 436, 52, 437, 353, 354, 60, 359, 360, 62, 438, 63, 483, 484, 485, 486, 487, 488, 489, 490, 491, 492, 493, 494, 495, 496, 408, 409, 18, 410, 45, 497, 498, 499, 500, 501, 502, 503, 504, 505, 506, 507, 508, 509, 510, 511, 512, 513, 514, 465, 466, 467, 515, 516, 517, 518, 519, 520, 521, 522, 355, 356, 357, 358, 361, 362, 363, 364, 523, 524, 525, 526, 892, 893, 894, 895, 896, 897, 898, 899, 900, 901, 902, 933, 934, 935, 936, 937, 938, 939, 940, 941, 942, 947, 948, 949, 950, 951, 952, 953] (by decide +kernel) (by decide +kernel)
set_option maxRecDepth 20000 in
theorem gL_law_X5_step : GoodIn wsL_law (wsV RL 48 RX5 yX5_step wsX5_step) := goodIn_app (goodIn_r _ [479, 480, 481, 2] (by decide +kernel) (by decide +kernel)) ggL_law_X5_step
set_option maxRecDepth 20000 in
theorem ggL_law_X6_step : GoodIn wsL_law wsX6_step := goodIn_r _ [530, 444, 264, 76, 99, 100, 5, 101, 449, 450, 451, 452, 88, 453, 454, 455, 456, 77, 531, 532, 533, 534, 535, 536, 537, 538, 75, 539, 540, 541, 542, 266, 543, 544, 545, 546, 476, 477, 478, 547, 548, 549, 550, 551, 552, 553, 554, 903, 904, 905, 906, 907, 908, 909, 910, 911, 912, 913, 914, 915, 916, 917, 918, 919, 920, 921, 922, 923, 924, 925] (by decide +kernel) (by decide +kernel)
set_option maxRecDepth 20000 in
theorem gL_law_X6_step : GoodIn wsL_law (wsV RL 51 RX6 yX6_step wsX6_step) := goodIn_app (goodIn_r _ [527, 528, 529, 5] (by decide +kernel) (by decide +kernel)) ggL_law_X6_step
set_option maxRecDepth 20000 in
theorem ggL_law_X5_undo : GoodIn wsL_law wsX5_undo := goodIn_r _ [558, 343, 24, 26, 424, 429, 430, 431, 23, 432, 53, 54, 55, 433, 120, 121, 122, 348, 434, 435, 436, 52, 437, 353, 354, 60, 359, 360, 62, 438, 63, 892, 893, 894, 895, 896, 897, 898, 899, 900, 901, 902, 939, 940, 941, 942, 947, 948, 949, 950, 951, 952, 953] (by decide +kernel) (by decide +kernel)
set_option maxRecDepth 20000 in
theorem gL_law_X5_undo : GoodIn wsL_law (wsV RL 52 RX5 yX5_undo wsX5_undo) := goodIn_app (goodIn_r _ [555, 556, 557, 2] (by decide +kernel) (by decide +kernel)) ggL_law_X5_undo
set_option maxRecDepth 20000 in
theorem ggL_law_X6_undo : GoodIn wsL_law wsX6_undo := goodIn_r _ [562, 88, 453, 454, 455, 5, 456, 76, 77, 903, 904, 905, 906, 907, 908, 909, 910, 911, 912, 913, 914, 915, 916, 917, 918, 919, 920, 921, 922, 923, 924, 925] (by decide +kernel) (by decide +kernel)
set_option maxRecDepth 20000 in
theorem gL_law_X6_undo : GoodIn wsL_law (wsV RL 55 RX6 yX6_undo wsX6_undo) := goodIn_app (goodIn_r _ [559, 560, 561, 5] (by decide +kernel) (by decide +kernel)) ggL_law_X6_undo
set_option maxRecDepth 20000 in
theorem ggL_law_X5_keep : GoodIn wsL_law wsX5_keep := goodIn_r _ [566, 27, 24, 29, 567, 568, 2, 569, 429, 430, 431, 23, 432, 53, 54, 55, 433, 120, 121, 122, 348, 434, 435, 436, 52, 437, 353, 354, 60, 359, 360, 62, 438, 63, 570, 571, 572, 573, 19, 892, 893, 894, 895, 896, 897, 898, 899, 900, 901, 902, 939, 940, 941, 942, 947, 948, 949, 950, 951, 952, 953, 933, 934, 935, 936, 937, 938] (by decide +kernel) (by decide +kernel)
set_option maxRecDepth 20000 in
theorem gL_law_X5_keep : GoodIn wsL_law (wsV RL 56 RX5 yX5_keep wsX5_keep) := goodIn_app (goodIn_r _ [563, 564, 565, 2] (by decide +kernel) (by decide +kernel)) ggL_law_X5_keep
set_option maxRecDepth 20000 in
theorem ggL_law_X6_keep : GoodIn wsL_law wsX6_keep := goodIn_r _ [577, 78, 99, 100, 5, 101, 453, 454, 455, 456, 76, 77, 578, 579, 580, 581, 264, 903, 904, 905, 906, 907, 908, 909, 910, 911, 912, 913, 914, 915, 916, 917, 918, 919, 920, 921, 922, 923, 924, 925] (by decide +kernel) (by decide +kernel)
set_option maxRecDepth 20000 in
theorem gL_law_X6_keep : GoodIn wsL_law (wsV RL 59 RX6 yX6_keep wsX6_keep) := goodIn_app (goodIn_r _ [574, 575, 576, 5] (by decide +kernel) (by decide +kernel)) ggL_law_X6_keep
set_option maxRecDepth 20000 in
theorem ggL_law_X5_back : GoodIn wsL_law wsX5_back := goodIn_r _ [585, 29, 24, 27, 343, 567, 568, 2, 569, 429, 430, 431, 23, 432, 53, 54, 55, 433, 120, 121, 122, 348, 434, 435, 436, 52, 437, 353, 354, 60, 359, 360, 62, 438, 63, 570, 571, 572, 573, 19, 892, 893, 894, 895, 896, 897, 898, 899, 900, 901, 902, 939, 940, 941, 942, 947, 948, 949, 950, 951, 952, 953, 933, 934, 935, 936, 937, 938] (by decide +kernel) (by decide +kernel)
set_option maxRecDepth 20000 in
theorem gL_law_X5_back : GoodIn wsL_law (wsV RL 60 RX5 yX5_back wsX5_back) := goodIn_app (goodIn_r _ [582, 583, 584, 2] (by decide +kernel) (by decide +kernel)) ggL_law_X5_back
set_option maxRecDepth 20000 in
theorem ggL_law_X6_back : GoodIn wsL_law wsX6_back := goodIn_r _ [589, 78, 88, 99, 100, 5, 101, 453, 454, 455, 456, 76, 77, 578, 579, 580, 581, 264, 903, 904, 905, 906, 907, 908, 909, 910, 911, 912, 913, 914, 915, 916, 917, 918, 919, 920, 921, 922, 923, 924, 925] (by decide +kernel) (by decide +kernel)
set_option maxRecDepth 20000 in
theorem gL_law_X6_back : GoodIn wsL_law (wsV RL 63 RX6 yX6_back wsX6_back) := goodIn_app (goodIn_r _ [586, 587, 588, 5] (by decide +kernel) (by decide +kernel)) ggL_law_X6_back
set_option maxRecDepth 20000 in
theorem ggL_law_X5_layer : GoodIn wsL_law wsX5_layer := goodIn_r _ [593, 19, 24, 594, 595, 2, 596, 597, 598, 599, 23, 600, 53, 54, 601, 602, 603, 52, 604, 353, 354, 359, 360, 60, 492, 493, 494, 495, 892, 893, 894, 895, 896, 897, 898, 899, 900, 901, 902, 933, 934, 935, 936, 937, 938, 939, 940, 941, 942, 947, 948, 949, 950, 951, 952, 953] (by decide +kernel) (by decide +kernel)
set_option maxRecDepth 20000 in
theorem gL_law_X5_layer : GoodIn wsL_law (wsV RL 64 RX5 yX5_layer wsX5_layer) := goodIn_app (goodIn_r _ [590, 591, 592, 2] (by decide +kernel) (by decide +kernel)) ggL_law_X5_layer
set_option maxRecDepth 20000 in
theorem ggL_law_X6_layer : GoodIn wsL_law wsX6_layer := goodIn_r _ [608, 609, 264, 76, 610, 611, 5, 612, 99, 100, 101, 903, 904, 905, 906, 907, 908, 909, 910, 911, 912, 913, 914, 915, 916, 917, 918, 919, 920, 921, 922, 923, 924, 925] (by decide +kernel) (by decide +kernel)
set_option maxRecDepth 20000 in
theorem gL_law_X6_layer : GoodIn wsL_law (wsV RL 67 RX6 yX6_layer wsX6_layer) := goodIn_app (goodIn_r _ [605, 606, 607, 5] (by decide +kernel) (by decide +kernel)) ggL_law_X6_layer
set_option maxRecDepth 20000 in
theorem ggL_law_X5_share : GoodIn wsL_law wsX5_share := goodIn_r _ [616, 24, 617, 594, 595, 2, 596, 387, 388, 389, 390, 19, 597, 598, 599, 23, 600, 53, 54, 892, 893, 894, 895, 896, 897, 898, 899, 900, 901, 902, 947, 948, 949, 950, 951, 952, 953, 933, 934, 935, 936, 937, 938, 939, 940, 941, 942] (by decide +kernel) (by decide +kernel)
set_option maxRecDepth 20000 in
theorem gL_law_X5_share : GoodIn wsL_law (wsV RL 68 RX5 yX5_share wsX5_share) := goodIn_app (goodIn_r _ [613, 614, 615, 2] (by decide +kernel) (by decide +kernel)) ggL_law_X5_share
set_option maxRecDepth 20000 in
theorem ggL_law_X6_share : GoodIn wsL_law wsX6_share := goodIn_r _ [621, 77, 622, 610, 611, 5, 612, 99, 100, 101, 399, 400, 401, 402, 264, 903, 904, 905, 906, 907, 908, 909, 910, 911, 912, 913, 914, 915, 916, 917, 918, 919, 920, 921, 922, 923, 924, 925] (by decide +kernel) (by decide +kernel)
set_option maxRecDepth 20000 in
theorem gL_law_X6_share : GoodIn wsL_law (wsV RL 71 RX6 yX6_share wsX6_share) := goodIn_app (goodIn_r _ [618, 619, 620, 5] (by decide +kernel) (by decide +kernel)) ggL_law_X6_share
set_option maxRecDepth 20000 in
theorem ggL_law_X5_bits : GoodIn wsL_law wsX5_bits := goodIn_r _ [626, 24, 594, 595, 2, 596, 387, 388, 389, 390, 19, 597, 598, 599, 23, 600, 53, 54, 627, 628, 629, 630, 892, 893, 894, 895, 896, 897, 898, 899, 900, 901, 902, 947, 948, 949, 950, 951, 952, 953, 933, 934, 935, 936, 937, 938, 939, 940, 941, 942] (by decide +kernel) (by decide +kernel)
set_option maxRecDepth 20000 in
theorem gL_law_X5_bits : GoodIn wsL_law (wsV RL 72 RX5 yX5_bits wsX5_bits) := goodIn_app (goodIn_r _ [623, 624, 625, 2] (by decide +kernel) (by decide +kernel)) ggL_law_X5_bits
set_option maxRecDepth 20000 in
theorem ggL_law_X6_bits : GoodIn wsL_law wsX6_bits := goodIn_r _ [634, 77, 610, 611, 5, 612, 99, 100, 101, 399, 400, 401, 402, 264, 635, 636, 637, 638, 639, 640, 641, 642, 643, 644, 645, 646, 903, 904, 905, 906, 907, 908, 909, 910, 911, 912, 913, 914, 915, 916, 917, 918, 919, 920, 921, 922, 923, 924, 925] (by decide +kernel) (by decide +kernel)
set_option maxRecDepth 20000 in
theorem gL_law_X6_bits : GoodIn wsL_law (wsV RL 75 RX6 yX6_bits wsX6_bits) := goodIn_app (goodIn_r _ [631, 632, 633, 5] (by decide +kernel) (by decide +kernel)) ggL_law_X6_bits
