set_option maxRecDepth 20000 in
theorem ggL_law_X5_init : GoodIn wsL_law wsX5_init := goodIn_r _ [8, 9, 10, 11, 12, 13, 14, 15, 16, 17, 18, 19, 20, 21, 22, 23, 24, 25, 26, 27, 28, 29, 30, 31, 32, 33, 34, 35, 36, 37, 38, 39, 40, 41, 42, 43, 44, 45, 46, 47, 48, 49, 50, 51, 52, 53, 54, 55, 56, 57, 58, 59, 60, 61, 62, 63, 64, 65, 66, 67, 68, 926, 927, 928, 929, 930, 931, 932, 892, 893, 894, 895, 896, 897, 898, 899, 900, 901, 902, 933, 934, 935, 936, 937, 938, 939, 940, 941, 942, 943, 944, 945, 946, 947, 948, 949, 950, 951, 952, 953] (by decide +kernel) (by decide +kernel)
set_option maxRecDepth 20000 in
theorem gL_law_X5_init : GoodIn wsL_law (wsX5_init) := ggL_law_X5_init
set_option maxRecDepth 20000 in
theorem ggL_law_X6_init : GoodIn wsL_law wsX6_init := goodIn_r _ [71, 72, 10, 11, 73, 39, 74, 75, 76, 61, 77, 28, 78, 79, 80, 81, 82, 83, 84, 85, 86, 5, 87, 88, 903, 904, 905, 906, 907, 908, 909, 910, 911, 912, 913, 914, 915, 916, 917, 918, 919, 920, 921, 922, 923, 924, 925] (by decide +kernel) (by decide +kernel)
set_option maxRecDepth 20000 in
theorem gL_law_X6_init : GoodIn wsL_law (wsX6_init) := ggL_law_X6_init
set_option maxRecDepth 20000 in
theorem ggL_law_X5_write : GoodIn wsL_law wsX5_write := goodIn_r _ [92, 15, 892, 893, 894, 895, 896, 897, 898, 899, 900, 901, 902, 926, 927, 928, 929, 930, 931, 932] (by decide +kernel) (by decide +kernel)
set_option maxRecDepth 20000 in
theorem gL_law_X5_write : GoodIn wsL_law (wsV RL 13 RX5 yX5_write wsX5_write) := goodIn_app (goodIn_r _ [89, 90, 91, 2] (by decide +kernel) (by decide +kernel)) ggL_law_X5_write
set_option maxRecDepth 20000 in
theorem ggL_law_X6_write : GoodIn wsL_law wsX6_write := goodIn_r _ [96, 97, 98, 79, 99, 100, 5, 101, 903, 904, 905, 906, 907, 908, 909, 910, 911, 912, 913, 914, 915, 916, 917, 918, 919, 920, 921, 922, 923, 924, 925] (by decide +kernel) (by decide +kernel)
set_option maxRecDepth 20000 in
theorem gL_law_X6_write : GoodIn wsL_law (wsV RL 17 RX6 yX6_write wsX6_write) := goodIn_app (goodIn_r _ [93, 94, 95, 5] (by decide +kernel) (by decide +kernel)) ggL_law_X6_write
set_option maxRecDepth 20000 in
theorem ggL_law_X5_erase : GoodIn wsL_law wsX5_erase := goodIn_r _ [105, 15, 892, 893, 894, 895, 896, 897, 898, 899, 900, 901, 902, 926, 927, 928, 929, 930, 931, 932] (by decide +kernel) (by decide +kernel)
set_option maxRecDepth 20000 in
theorem gL_law_X5_erase : GoodIn wsL_law (wsV RL 18 RX5 yX5_erase wsX5_erase) := goodIn_app (goodIn_r _ [102, 103, 104, 2] (by decide +kernel) (by decide +kernel)) ggL_law_X5_erase
set_option maxRecDepth 20000 in
theorem ggL_law_X6_erase : GoodIn wsL_law wsX6_erase := goodIn_r _ [109, 98, 903, 904, 905, 906, 907, 908, 909, 910, 911, 912, 913, 914, 915, 916, 917, 918, 919, 920, 921, 922, 923, 924, 925] (by decide +kernel) (by decide +kernel)
set_option maxRecDepth 20000 in
theorem gL_law_X6_erase : GoodIn wsL_law (wsV RL 22 RX6 yX6_erase wsX6_erase) := goodIn_app (goodIn_r _ [106, 107, 108, 5] (by decide +kernel) (by decide +kernel)) ggL_law_X6_erase
set_option maxRecDepth 20000 in
theorem ggL_law_X5_fault : GoodIn wsL_law wsX5_fault := goodIn_r _ [113, 20, 19, 15, 114, 115, 116, 18, 117, 118, 44, 119, 120, 121, 122, 123, 45, 124, 46, 125, 126, 127, 14, 128, 129, 130, 131, 132, 133, 134, 135, 136, 38, 137, 138, 139, 140, 141, 142, 143, 144, 145, 146, 147, 148, 149, 150, 151, 152, 153, 154, 155, 156, 157, 158, 159, 160, 161, 162, 163, 164, 165, 166, 167, 168, 169, 170, 171, 172, 173, 174, 175, 176, 177, 178, 179, 180, 181, 182, 183, 184, 185, 186, 187, 188, 189, 190, 191, 192, 193, 194, 195, 196, 197, 198, 199, 200, 201, 40, 202, 203, 204, 205, 206, 207, 208, 209, 210, 211, 212, 213, 214, 215, 216, 217, 218, 219, 220, 221, 222, 223, 224, 225, 226, 227, 228, 229, 230, 231, 232, 233, 234, 235, 236, 237, 238, 239, 240, 241, 242, 243, 244, 245, 246, 247, 248, 249, 250, 251, 892, 893, 894, 895, 896, 897, 898, 899, 900, 901, 902, 933, 934, 935, 936, 937, 938, 926, 927, 928, 929, 930, 931, 932] (by decide +kernel) (by decide +kernel)
set_option maxRecDepth 20000 in
theorem gL_law_X5_fault : GoodIn wsL_law (wsV RL 23 RX5 yX5_fault wsX5_fault) := goodIn_app (goodIn_r _ [110, 111, 112, 2] (by decide +kernel) (by decide +kernel)) ggL_law_X5_fault
set_option maxRecDepth 20000 in
theorem ggL_law_X6_fault : GoodIn wsL_law wsX6_fault := goodIn_r _ [255, 256, 257, 258, 259, 5, 260, 261, 262, 263, 264, 265, 266, 267, 98, 79, 268, 269, 270, 271, 272, 273, 274, 275, 276, 99, 100, 101, 277, 278, 279, 280, 281, 282, 283, 284, 285, 75, 286, 287, 288, 289, 80, 290, 291, 292, 293, 294, 73, 295, 296, 297, 298, 74, 299, 300, 301, 302, 303, 304, 305, 306, 307, 308, 309, 310, 311, 312, 313, 314, 315, 316, 317, 318, 319, 320, 321, 322, 323, 324, 325, 326, 327, 328, 329, 330, 331, 332, 333, 334, 903, 904, 905, 906, 907, 908, 909, 910, 911, 912, 913, 914, 915, 916, 917, 918, 919, 920, 921, 922, 923, 924, 925] (by decide +kernel) (by decide +kernel)
set_option maxRecDepth 20000 in
theorem gL_law_X6_fault : GoodIn wsL_law (wsV RL 26 RX6 yX6_fault wsX6_fault) := goodIn_app (goodIn_r _ [252, 253, 254, 5] (by decide +kernel) (by decide +kernel)) ggL_law_X6_fault
set_option maxRecDepth 20000 in
theorem ggL_law_X5_figure : GoodIn wsL_law wsX5_figure := goodIn_r _ [338, 20, 19, 15, 114, 115, 116, 18, 117, 118, 44, 119, 120, 121, 122, 123, 45, 124, 46, 125, 126, 127, 14, 128, 129, 130, 131, 132, 133, 134, 135, 136, 38, 137, 138, 139, 140, 141, 142, 143, 144, 145, 146, 147, 148, 149, 150, 151, 152, 153, 154, 155, 156, 157, 158, 159, 160, 161, 162, 163, 164, 165, 166, 167, 168, 169, 170, 171, 172, 173, 174, 175, 176, 177, 178, 179, 180, 181, 182, 183, 184, 185, 186, 187, 188, 189, 190, 191, 192, 193, 194, 195, 196, 197, 198, 199, 200, 201, 40, 202, 203, 204, 205, 206, 207, 208, 209, 210, 211, 212, 213, 214, 215, 216, 217, 218, 219, 220, 221, 222, 223, 224, 225, 226, 227, 228, 229, 230, 231, 232, 233, 234, 235, 236, 237, 238, 239, 240, 241, 242, 243, 244, 245, 246, 247, 248, 249, 250, 251, 339, 340, 341, 2, 342, 24, 343, 29, 31, 344, 345, 346, 23, 347, 53, 54, 55, 348, 349, 350, 351, 52, 352, 353, 354, 355, 356, 357, 358, 60, 359, 360, 62, 361, 362, 363, 364, 365, 366, 367, 368, 369, 370, 33, 371, 67, 372, 373, 374, 375, 376, 377, 68, 378, 892, 893, 894, 895, 896, 897, 898, 899, 900, 901, 902, 926, 927, 928, 929, 930, 931, 932, 933, 934, 935, 936, 937, 938, 939, 940, 941, 942, 947, 948, 949, 950, 951, 952, 953, 943, 944, 945, 946] (by decide +kernel) (by decide +kernel)
set_option maxRecDepth 20000 in
theorem gL_law_X5_figure : GoodIn wsL_law (wsV RL 27 RX5 yX5_figure wsX5_figure) := goodIn_app (goodIn_r _ [335, 336, 337, 2] (by decide +kernel) (by decide +kernel)) ggL_law_X5_figure
set_option maxRecDepth 20000 in
theorem ggL_law_X6_figure : GoodIn wsL_law wsX6_figure := goodIn_r _ [382, 265, 264, 267, 266, 98, 263, 257, 258, 259, 5, 260, 261, 262, 256, 79, 268, 269, 270, 271, 272, 273, 274, 275, 276, 99, 100, 101, 277, 278, 279, 280, 281, 282, 283, 284, 285, 75, 286, 287, 288, 289, 80, 290, 291, 292, 293, 294, 73, 295, 296, 297, 298, 74, 299, 300, 301, 302, 303, 304, 305, 306, 307, 308, 309, 310, 311, 312, 313, 314, 315, 316, 317, 318, 319, 320, 321, 322, 323, 324, 325, 326, 327, 328, 329, 330, 331, 332, 333, 334, 84, 85, 86, 87, 76, 77, 88, 78, 81, 903, 904, 905, 906, 907, 908, 909, 910, 911, 912, 913, 914, 915, 916, 917, 918, 919, 920, 921, 922, 923, 924, 925] (by decide +kernel) (by decide +kernel)
set_option maxRecDepth 20000 in
theorem gL_law_X6_figure : GoodIn wsL_law (wsV RL 30 RX6 yX6_figure wsX6_figure) := goodIn_app (goodIn_r _ [379, 380, 381, 5] (by decide +kernel) (by decide +kernel)) ggL_law_X6_figure
set_option maxRecDepth 20000 in
theorem ggL_law_X5_value : GoodIn wsL_law wsX5_value := goodIn_r _ [386, 19, 387, 388, 389, 2, 390, 391, 392, 393, 892, 893, 894, 895, 896, 897, 898, 899, 900, 901, 902, 933, 934, 935, 936, 937, 938] (by decide +kernel) (by decide +kernel)
set_option maxRecDepth 20000 in
theorem gL_law_X5_value : GoodIn wsL_law (wsV RL 31 RX5 yX5_value wsX5_value) := goodIn_app (goodIn_r _ [383, 384, 385, 2] (by decide +kernel) (by decide +kernel)) ggL_law_X5_value
set_option maxRecDepth 20000 in
theorem ggL_law_X6_value : GoodIn wsL_law wsX6_value := goodIn_r _ [397, 398, 74, 399, 400, 401, 5, 402, 264, 99, 100, 101, 903, 904, 905, 906, 907, 908, 909, 910, 911, 912, 913, 914, 915, 916, 917, 918, 919, 920, 921, 922, 923, 924, 925] (by decide +kernel) (by decide +kernel)
set_option maxRecDepth 20000 in
theorem gL_law_X6_value : GoodIn wsL_law (wsV RL 35 RX6 yX6_value wsX6_value) := goodIn_app (goodIn_r _ [394, 395, 396, 5] (by decide +kernel) (by decide +kernel)) ggL_law_X6_value
set_option maxRecDepth 20000 in
theorem ggL_law_X5_way : GoodIn wsL_law wsX5_way := goodIn_r _ [406, 19, 407, 408, 409, 18, 410, 45, 892, 893, 894, 895, 896, 897, 898, 899, 900, 901, 902, 933, 934, 935, 936, 937, 938] (by decide +kernel) (by decide +kernel)
set_option maxRecDepth 20000 in
theorem gL_law_X5_way : GoodIn wsL_law (wsV RL 36 RX5 yX5_way wsX5_way) := goodIn_app (goodIn_r _ [403, 404, 405, 2] (by decide +kernel) (by decide +kernel)) ggL_law_X5_way
set_option maxRecDepth 20000 in
theorem ggL_law_X6_way : GoodIn wsL_law wsX6_way := goodIn_r _ [414, 266, 415, 75, 99, 100, 5, 101, 903, 904, 905, 906, 907, 908, 909, 910, 911, 912, 913, 914, 915, 916, 917, 918, 919, 920, 921, 922, 923, 924, 925] (by decide +kernel) (by decide +kernel)
set_option maxRecDepth 20000 in
theorem gL_law_X6_way : GoodIn wsL_law (wsV RL 39 RX6 yX6_way wsX6_way) := goodIn_app (goodIn_r _ [411, 412, 413, 5] (by decide +kernel) (by decide +kernel)) ggL_law_X6_way
set_option maxRecDepth 20000 in
theorem ggL_law_X5_set : GoodIn wsL_law wsX5_set := goodIn_r _ [419, 24, 420, 421, 422, 2, 423, 424, 26, 343, 425, 426, 427, 428, 429, 430, 431, 23, 432, 53, 54, 55, 433, 120, 121, 122, 348, 434, 435, 436, 52, 437, 353, 354, 60, 359, 360, 62, 438, 63, 892, 893, 894, 895, 896, 897, 898, 899, 900, 901, 902, 939, 940, 941, 942, 947, 948, 949, 950, 951, 952, 953] (by decide +kernel) (by decide +kernel)
set_option maxRecDepth 20000 in
theorem gL_law_X5_set : GoodIn wsL_law (wsV RL 40 RX5 yX5_set wsX5_set) := goodIn_app (goodIn_r _ [416, 417, 418, 2] (by decide +kernel) (by decide +kernel)) ggL_law_X5_set
set_option maxRecDepth 20000 in
theorem ggL_law_X6_set : GoodIn wsL_law wsX6_set := goodIn_r _ [442, 443, 444, 76, 445, 446, 5, 447, 448, 99, 100, 101, 449, 450, 451, 452, 88, 453, 454, 455, 456, 77, 903, 904, 905, 906, 907, 908, 909, 910, 911, 912, 913, 914, 915, 916, 917, 918, 919, 920, 921, 922, 923, 924, 925] (by decide +kernel) (by decide +kernel)
set_option maxRecDepth 20000 in
theorem gL_law_X6_set : GoodIn wsL_law (wsV RL 43 RX6 yX6_set wsX6_set) := goodIn_app (goodIn_r _ [439, 440, 441, 5] (by decide +kernel) (by decide +kernel)) ggL_law_X6_set
