set_option maxRecDepth 20000 in
theorem ggL_law_X5_init : GoodIn wsL_law wsX5_init := goodIn_r _ [10, 11, 12, 13, 14, 15, 16, 17, 18, 19, 20, 21, 22, 23, 24, 25, 26, 27, 28, 29, 30, 31, 32, 33, 34, 35, 36, 37, 38, 39, 40, 41, 42, 43, 44, 45, 46, 47, 48, 49, 50, 51, 52, 53, 54, 55, 56, 57, 58, 59, 60, 61, 632, 633, 634, 635, 636, 637, 652, 653, 654, 655, 656, 657, 658, 659, 660, 661, 662, 663, 664, 665, 666] (by decide +kernel) (by decide +kernel)
set_option maxRecDepth 20000 in
theorem gL_law_X5_init : GoodIn wsL_law (wsX5_init) := ggL_law_X5_init
set_option maxRecDepth 20000 in
theorem ggL_law_X6_init : GoodIn wsL_law wsX6_init := goodIn_r _ [64, 65, 12, 13, 42, 66, 67, 68, 69, 70, 71, 72, 73, 74, 75, 76, 77, 5, 78, 79, 80, 81, 638, 639, 640, 641, 642, 643, 644, 645, 646, 647, 648, 649, 650, 651] (by decide +kernel) (by decide +kernel)
set_option maxRecDepth 20000 in
theorem gL_law_X6_init : GoodIn wsL_law (wsX6_init) := ggL_law_X6_init
set_option maxRecDepth 20000 in
theorem ggL_law_X5_load : GoodIn wsL_law wsX5_load := goodIn_r _ [85, 15, 86, 87, 2, 88, 89, 90, 91, 17, 92, 38, 93, 94, 95, 96, 37, 97, 43, 98, 99, 100, 101, 102, 103, 104, 105, 106, 107, 108, 109, 110, 632, 633, 634, 635, 636, 637, 652, 653, 665, 666] (by decide +kernel) (by decide +kernel)
set_option maxRecDepth 20000 in
theorem gL_law_X5_load : GoodIn wsL_law (wsV RL 27 RX5 yX5_load wsX5_load) := goodIn_app (goodIn_of _ (by decide +kernel)) ggL_law_X5_load
set_option maxRecDepth 20000 in
theorem ggL_law_X6_load : GoodIn wsL_law wsX6_load := goodIn_r _ [114, 115, 116, 66, 67, 68, 117, 118, 5, 119, 638, 639, 640, 641, 642, 643, 644, 645, 646, 647, 648, 649, 650, 651] (by decide +kernel) (by decide +kernel)
set_option maxRecDepth 20000 in
theorem gL_law_X6_load : GoodIn wsL_law (wsV RL 31 RX6 yX6_load wsX6_load) := goodIn_app (goodIn_of _ (by decide +kernel)) ggL_law_X6_load
set_option maxRecDepth 20000 in
theorem ggL_law_X5_reckon : GoodIn wsL_law wsX5_reckon := goodIn_r _ [123, 15, 18, 124, 125, 126, 2, 127, 86, 87, 88, 128, 129, 130, 17, 131, 93, 38, 132, 133, 134, 37, 135, 110, 107, 108, 105, 109, 103, 104, 106, 43, 98, 136, 137, 138, 139, 99, 100, 101, 102, 140, 141, 142, 143, 144, 145, 146, 147, 148, 149, 150, 151, 152, 153, 154, 155, 156, 157, 158, 159, 160, 161, 162, 163, 164, 165, 166, 167, 168, 169, 170, 171, 172, 173, 174, 175, 176, 177, 178, 179, 180, 181, 182, 183, 184, 185, 186, 187, 188, 189, 190, 191, 192, 193, 194, 195, 196, 197, 198, 632, 633, 634, 635, 636, 637, 652, 653, 665, 666] (by decide +kernel) (by decide +kernel)
set_option maxRecDepth 20000 in
theorem gL_law_X5_reckon : GoodIn wsL_law (wsV RL 32 RX5 yX5_reckon wsX5_reckon) := goodIn_app (goodIn_of _ (by decide +kernel)) ggL_law_X5_reckon
set_option maxRecDepth 20000 in
theorem ggL_law_X6_reckon : GoodIn wsL_law wsX6_reckon := goodIn_r _ [202, 115, 72, 203, 68, 70, 74, 117, 118, 5, 119, 204, 205, 206, 207, 67, 66, 208, 209, 210, 211, 212, 71, 213, 214, 215, 216, 217, 218, 219, 220, 221, 222, 223, 224, 225, 226, 227, 69, 75, 228, 229, 230, 231, 232, 233, 234, 235, 236, 237, 238, 239, 240, 241, 242, 243, 244, 245, 246, 247, 638, 639, 640, 641, 642, 643, 644, 645, 646, 647, 648, 649, 650, 651] (by decide +kernel) (by decide +kernel)
set_option maxRecDepth 20000 in
theorem gL_law_X6_reckon : GoodIn wsL_law (wsV RL 36 RX6 yX6_reckon wsX6_reckon) := goodIn_app (goodIn_of _ (by decide +kernel)) ggL_law_X6_reckon
set_option maxRecDepth 20000 in
theorem ggL_law_L_divide : GoodIn wsL_law wsL_divide := goodIn_ca (goodIn_r _ [251, 252, 253, 254, 255, 2, 256, 257, 258, 15, 160, 124, 19, 18, 86, 87, 88, 125, 126, 127, 259, 145, 146, 37, 147, 110, 260, 261, 262, 263, 23, 264, 265, 266, 267, 268, 22, 269, 50, 49, 270, 271, 104, 105, 106, 272, 108, 109, 48, 273, 274, 275, 166, 167, 168, 136, 137, 138, 139, 43, 169, 170, 171, 172, 173, 276, 277, 278, 279, 103, 98, 99, 100, 101, 102, 107, 280, 281, 282, 283, 284, 285, 286, 287, 288, 289, 290, 291, 292, 293, 294, 295, 296, 297, 298, 299, 300, 301, 302, 303, 304, 305, 306, 307, 308, 309, 310, 311, 312, 179, 180, 181, 182, 183, 184, 185, 313, 141, 142, 17, 143, 38, 93, 144, 314, 315, 316, 317, 318, 319, 320, 321, 322, 153, 154, 155, 174, 175, 176, 177, 178, 161, 162, 163, 164, 165, 632, 633, 634, 635, 636, 637, 652, 653, 665, 666, 654, 655, 656] (by decide +kernel) (by decide +kernel)) (goodIn_sub (fun _ h => List.mem_append_left _ (List.mem_append_right _ h)) (by decide +kernel))
set_option maxRecDepth 20000 in
theorem gL_law_L_divide : GoodIn wsL_law (va_wsS RL 37 yL_divide wsL_divide) := goodIn_app (goodIn_of _ (by decide +kernel)) ggL_law_L_divide
set_option maxRecDepth 20000 in
theorem ggL_law_X6_divide : GoodIn wsL_law wsX6_divide := goodIn_r _ [326, 115, 68, 74, 72, 203, 71, 70, 212, 117, 118, 5, 119, 204, 205, 206, 207, 67, 66, 208, 209, 210, 211, 327, 328, 329, 330, 228, 229, 230, 76, 77, 78, 79, 80, 81, 235, 236, 237, 217, 218, 219, 245, 246, 247, 220, 221, 222, 223, 224, 225, 226, 227, 69, 75, 231, 232, 233, 234, 638, 639, 640, 641, 642, 643, 644, 645, 646, 647, 648, 649, 650, 651] (by decide +kernel) (by decide +kernel)
set_option maxRecDepth 20000 in
theorem gL_law_X6_divide : GoodIn wsL_law (wsV RL 42 RX6 yX6_divide wsX6_divide) := goodIn_app (goodIn_of _ (by decide +kernel)) ggL_law_X6_divide
set_option maxRecDepth 20000 in
theorem ggL_law_X6_thrown : GoodIn wsL_law wsX6_thrown := goodIn_r _ [334, 115, 638, 639, 640, 641, 642, 643, 644, 645, 646, 647, 648, 649, 650, 651] (by decide +kernel) (by decide +kernel)
set_option maxRecDepth 20000 in
theorem gL_law_X6_thrown : GoodIn wsL_law (wsV RL 43 RX6 yX6_thrown wsX6_thrown) := goodIn_app (goodIn_of _ (by decide +kernel)) ggL_law_X6_thrown
set_option maxRecDepth 20000 in
theorem ggL_law_X5_gcd : GoodIn wsL_law wsX5_gcd := goodIn_r _ [338, 18, 160, 27, 15, 23, 125, 126, 2, 127, 86, 87, 88, 339, 340, 341, 26, 342, 55, 56, 343, 149, 150, 37, 151, 110, 43, 344, 179, 180, 181, 182, 183, 184, 185, 345, 145, 146, 147, 346, 347, 348, 349, 350, 108, 105, 109, 351, 352, 353, 354, 355, 162, 163, 164, 165, 166, 167, 168, 136, 137, 138, 139, 169, 170, 171, 172, 173, 356, 357, 358, 359, 309, 310, 311, 98, 360, 361, 362, 363, 364, 365, 366, 367, 281, 282, 283, 368, 100, 101, 102, 103, 104, 106, 107, 369, 370, 371, 372, 373, 374, 267, 268, 22, 269, 50, 49, 270, 271, 272, 48, 273, 274, 275, 276, 277, 278, 279, 99, 280, 284, 285, 286, 287, 288, 289, 290, 291, 292, 293, 294, 295, 296, 297, 298, 299, 300, 301, 302, 303, 304, 305, 306, 307, 308, 312, 313, 141, 142, 17, 143, 38, 93, 144, 156, 157, 158, 159, 161, 174, 175, 176, 177, 178, 632, 633, 634, 635, 636, 637, 652, 653, 657, 658, 659, 660, 661, 662, 665, 666, 654, 655, 656] (by decide +kernel) (by decide +kernel)
set_option maxRecDepth 20000 in
theorem gL_law_X5_gcd : GoodIn wsL_law (wsV RL 47 RX5 yX5_gcd wsX5_gcd) := goodIn_app (goodIn_of _ (by decide +kernel)) ggL_law_X5_gcd
set_option maxRecDepth 20000 in
theorem ggL_law_X6_gcd : GoodIn wsL_law wsX6_gcd := goodIn_r _ [378, 115, 74, 212, 71, 70, 117, 118, 5, 119, 204, 205, 206, 207, 67, 66, 208, 209, 210, 211, 220, 221, 222, 223, 68, 224, 225, 226, 227, 69, 75, 228, 229, 230, 231, 232, 233, 234, 235, 236, 237, 217, 218, 219, 379, 380, 381, 245, 246, 247, 76, 77, 78, 79, 80, 81, 638, 639, 640, 641, 642, 643, 644, 645, 646, 647, 648, 649, 650, 651] (by decide +kernel) (by decide +kernel)
set_option maxRecDepth 20000 in
theorem gL_law_X6_gcd : GoodIn wsL_law (wsV RL 51 RX6 yX6_gcd wsX6_gcd) := goodIn_app (goodIn_of _ (by decide +kernel)) ggL_law_X6_gcd
set_option maxRecDepth 20000 in
theorem ggL_law_L_root : GoodIn wsL_law wsL_root := goodIn_ca (goodIn_r _ [384, 385, 386, 387, 388, 2, 389, 390, 391, 15, 124, 160, 86, 87, 88, 392, 393, 394, 395, 18, 19, 23, 264, 89, 90, 91, 17, 92, 38, 93, 94, 95, 96, 37, 97, 43, 98, 99, 100, 101, 102, 103, 104, 105, 106, 107, 108, 109, 110, 259, 145, 146, 147, 312, 179, 180, 181, 182, 183, 184, 185, 161, 162, 163, 164, 165, 166, 167, 168, 136, 137, 138, 139, 169, 170, 171, 172, 173, 396, 277, 278, 279, 266, 267, 268, 22, 269, 50, 49, 270, 271, 272, 48, 273, 274, 275, 276, 280, 281, 282, 283, 284, 285, 286, 287, 288, 289, 290, 291, 292, 293, 294, 295, 296, 297, 298, 299, 300, 301, 302, 303, 304, 305, 306, 307, 308, 309, 310, 311, 397, 133, 134, 135, 398, 399, 149, 150, 151, 156, 157, 158, 159, 174, 175, 176, 177, 178, 632, 633, 634, 635, 636, 637, 652, 653, 654, 655, 656, 665, 666] (by decide +kernel) (by decide +kernel)) (goodIn_sub (fun _ h => List.mem_append_right _ h) (by decide +kernel))
set_option maxRecDepth 20000 in
theorem gL_law_L_root : GoodIn wsL_law (va_wsS RL 52 yL_root wsL_root) := goodIn_app (goodIn_of _ (by decide +kernel)) ggL_law_L_root
set_option maxRecDepth 20000 in
theorem ggL_law_X6_root : GoodIn wsL_law wsX6_root := goodIn_r _ [403, 115, 68, 71, 212, 70, 74, 203, 72, 117, 118, 5, 119, 204, 205, 206, 207, 67, 66, 228, 229, 230, 79, 80, 81, 404, 405, 406, 407, 235, 236, 237, 217, 218, 219, 242, 243, 244, 245, 246, 247, 220, 221, 222, 223, 224, 225, 226, 227, 69, 75, 231, 232, 233, 234, 638, 639, 640, 641, 642, 643, 644, 645, 646, 647, 648, 649, 650, 651] (by decide +kernel) (by decide +kernel)
set_option maxRecDepth 20000 in
theorem gL_law_X6_root : GoodIn wsL_law (wsV RL 55 RX6 yX6_root wsX6_root) := goodIn_app (goodIn_of _ (by decide +kernel)) ggL_law_X6_root
set_option maxRecDepth 20000 in
theorem ggL_law_X5_shift : GoodIn wsL_law wsX5_shift := goodIn_r _ [411, 15, 18, 160, 124, 86, 87, 2, 88, 398, 305, 306, 37, 307, 110, 107, 108, 105, 109, 43, 308, 309, 310, 311, 98, 136, 137, 138, 139, 99, 100, 101, 102, 103, 104, 106, 259, 145, 146, 147, 161, 162, 163, 164, 165, 166, 167, 168, 169, 170, 171, 172, 173, 396, 277, 278, 279, 313, 141, 142, 17, 143, 38, 93, 144, 156, 157, 158, 159, 174, 175, 176, 177, 178, 179, 180, 181, 182, 183, 184, 185, 632, 633, 634, 635, 636, 637, 652, 653, 665, 666] (by decide +kernel) (by decide +kernel)
set_option maxRecDepth 20000 in
theorem gL_law_X5_shift : GoodIn wsL_law (wsV RL 56 RX5 yX5_shift wsX5_shift) := goodIn_app (goodIn_of _ (by decide +kernel)) ggL_law_X5_shift
set_option maxRecDepth 20000 in
theorem ggL_law_X6_shift : GoodIn wsL_law wsX6_shift := goodIn_r _ [415, 115, 70, 74, 71, 68, 117, 118, 5, 119, 204, 205, 206, 207, 67, 66, 76, 77, 78, 79, 80, 81, 224, 225, 226, 227, 69, 75, 228, 229, 230, 235, 236, 237, 217, 218, 219, 220, 221, 222, 223, 231, 232, 233, 234, 638, 639, 640, 641, 642, 643, 644, 645, 646, 647, 648, 649, 650, 651] (by decide +kernel) (by decide +kernel)
set_option maxRecDepth 20000 in
theorem gL_law_X6_shift : GoodIn wsL_law (wsV RL 59 RX6 yX6_shift wsX6_shift) := goodIn_app (goodIn_of _ (by decide +kernel)) ggL_law_X6_shift
set_option maxRecDepth 20000 in
theorem ggL_law_X5_power : GoodIn wsL_law wsX5_power := goodIn_r _ [419, 15, 86, 87, 2, 88, 420, 421, 422, 423, 18, 89, 90, 91, 17, 92, 38, 93, 94, 95, 96, 37, 97, 43, 98, 99, 100, 101, 102, 103, 104, 105, 106, 107, 108, 109, 110, 424, 425, 426, 427, 19, 160, 186, 187, 188, 189, 190, 162, 163, 164, 165, 166, 167, 168, 136, 137, 138, 139, 169, 170, 171, 172, 173, 191, 192, 193, 194, 195, 196, 197, 198, 140, 141, 142, 143, 144, 145, 146, 147, 161, 174, 175, 176, 177, 178, 179, 180, 181, 182, 183, 184, 185, 156, 157, 158, 159, 632, 633, 634, 635, 636, 637, 652, 653, 665, 666] (by decide +kernel) (by decide +kernel)
set_option maxRecDepth 20000 in
theorem gL_law_X5_power : GoodIn wsL_law (wsV RL 60 RX5 yX5_power wsX5_power) := goodIn_app (goodIn_of _ (by decide +kernel)) ggL_law_X5_power
set_option maxRecDepth 20000 in
theorem ggL_law_X6_power : GoodIn wsL_law wsX6_power := goodIn_r _ [431, 115, 72, 203, 74, 70, 68, 117, 118, 5, 119, 208, 209, 210, 211, 67, 212, 71, 66, 213, 214, 215, 216, 217, 218, 219, 224, 225, 226, 227, 69, 75, 228, 229, 230, 220, 221, 222, 223, 231, 232, 233, 234, 204, 205, 206, 207, 235, 236, 237, 638, 639, 640, 641, 642, 643, 644, 645, 646, 647, 648, 649, 650, 651] (by decide +kernel) (by decide +kernel)
set_option maxRecDepth 20000 in
theorem gL_law_X6_power : GoodIn wsL_law (wsV RL 63 RX6 yX6_power wsX6_power) := goodIn_app (goodIn_of _ (by decide +kernel)) ggL_law_X6_power
set_option maxRecDepth 20000 in
theorem ggL_law_X5_compare : GoodIn wsL_law wsX5_compare := goodIn_r _ [435, 15, 86, 87, 2, 88, 436, 437, 438, 17, 439, 93, 38, 148, 149, 150, 37, 151, 110, 43, 632, 633, 634, 635, 636, 637, 652, 653, 665, 666] (by decide +kernel) (by decide +kernel)
set_option maxRecDepth 20000 in
theorem gL_law_X5_compare : GoodIn wsL_law (wsV RL 64 RX5 yX5_compare wsX5_compare) := goodIn_app (goodIn_of _ (by decide +kernel)) ggL_law_X5_compare
set_option maxRecDepth 20000 in
theorem ggL_law_X6_compare : GoodIn wsL_law wsX6_compare := goodIn_r _ [443, 115, 68, 70, 74, 71, 212, 117, 118, 5, 119, 204, 205, 206, 207, 67, 66, 208, 209, 210, 211, 228, 229, 230, 638, 639, 640, 641, 642, 643, 644, 645, 646, 647, 648, 649, 650, 651] (by decide +kernel) (by decide +kernel)
set_option maxRecDepth 20000 in
theorem gL_law_X6_compare : GoodIn wsL_law (wsV RL 67 RX6 yX6_compare wsX6_compare) := goodIn_app (goodIn_of _ (by decide +kernel)) ggL_law_X6_compare
set_option maxRecDepth 20000 in
theorem ggL_law_X5_sign : GoodIn wsL_law wsX5_sign := goodIn_r _ [447, 15, 86, 87, 2, 88, 448, 449, 450, 17, 451, 38, 93, 144, 145, 146, 37, 147, 110, 632, 633, 634, 635, 636, 637, 652, 653, 665, 666] (by decide +kernel) (by decide +kernel)
set_option maxRecDepth 20000 in
theorem gL_law_X5_sign : GoodIn wsL_law (wsV RL 68 RX5 yX5_sign wsX5_sign) := goodIn_app (goodIn_of _ (by decide +kernel)) ggL_law_X5_sign
set_option maxRecDepth 20000 in
theorem ggL_law_X6_sign : GoodIn wsL_law wsX6_sign := goodIn_r _ [455, 115, 68, 117, 118, 5, 119, 638, 639, 640, 641, 642, 643, 644, 645, 646, 647, 648, 649, 650, 651] (by decide +kernel) (by decide +kernel)
set_option maxRecDepth 20000 in
theorem gL_law_X6_sign : GoodIn wsL_law (wsV RL 72 RX6 yX6_sign wsX6_sign) := goodIn_app (goodIn_of _ (by decide +kernel)) ggL_law_X6_sign
set_option maxRecDepth 20000 in
theorem ggL_law_X5_bits : GoodIn wsL_law wsX5_bits := goodIn_r _ [459, 15, 160, 86, 87, 2, 88, 161, 162, 163, 37, 164, 110, 165, 166, 167, 168, 136, 137, 138, 139, 43, 169, 170, 171, 172, 173, 632, 633, 634, 635, 636, 637, 652, 653, 665, 666] (by decide +kernel) (by decide +kernel)
set_option maxRecDepth 20000 in
theorem gL_law_X5_bits : GoodIn wsL_law (wsV RL 73 RX5 yX5_bits wsX5_bits) := goodIn_app (goodIn_of _ (by decide +kernel)) ggL_law_X5_bits
set_option maxRecDepth 20000 in
theorem ggL_law_X6_bits : GoodIn wsL_law wsX6_bits := goodIn_r _ [463, 115, 117, 118, 5, 119, 231, 232, 233, 234, 74, 70, 204, 205, 206, 207, 67, 66, 235, 236, 237, 217, 218, 219, 638, 639, 640, 641, 642, 643, 644, 645, 646, 647, 648, 649, 650, 651] (by decide +kernel) (by decide +kernel)
set_option maxRecDepth 20000 in
theorem gL_law_X6_bits : GoodIn wsL_law (wsV RL 76 RX6 yX6_bits wsX6_bits) := goodIn_app (goodIn_of _ (by decide +kernel)) ggL_law_X6_bits
set_option maxRecDepth 20000 in
theorem ggL_law_X5_part : GoodIn wsL_law wsX5_part := goodIn_r _ [467, 15, 160, 86, 87, 2, 88, 468, 309, 310, 37, 311, 98, 136, 137, 138, 139, 110, 43, 632, 633, 634, 635, 636, 637, 652, 653, 665, 666] (by decide +kernel) (by decide +kernel)
set_option maxRecDepth 20000 in
theorem gL_law_X5_part : GoodIn wsL_law (wsV RL 77 RX5 yX5_part wsX5_part) := goodIn_app (goodIn_of _ (by decide +kernel)) ggL_law_X5_part
set_option maxRecDepth 20000 in
theorem ggL_law_X6_part : GoodIn wsL_law wsX6_part := goodIn_r _ [472, 115, 74, 70, 117, 118, 5, 119, 204, 205, 206, 207, 67, 66, 235, 236, 237, 217, 218, 219, 379, 380, 381, 638, 639, 640, 641, 642, 643, 644, 645, 646, 647, 648, 649, 650, 651] (by decide +kernel) (by decide +kernel)
set_option maxRecDepth 20000 in
theorem gL_law_X6_part : GoodIn wsL_law (wsV RL 80 RX6 yX6_part wsX6_part) := goodIn_app (goodIn_of _ (by decide +kernel)) ggL_law_X6_part
set_option maxRecDepth 20000 in
theorem ggL_law_X5_hasBelow : GoodIn wsL_law wsX5_hasBelow := goodIn_r _ [476, 15, 160, 86, 87, 2, 88, 477, 478, 479, 37, 480, 110, 43, 136, 137, 138, 139, 632, 633, 634, 635, 636, 637, 652, 653, 665, 666] (by decide +kernel) (by decide +kernel)
set_option maxRecDepth 20000 in
theorem gL_law_X5_hasBelow : GoodIn wsL_law (wsV RL 81 RX5 yX5_hasBelow wsX5_hasBelow) := goodIn_app (goodIn_of _ (by decide +kernel)) ggL_law_X5_hasBelow
set_option maxRecDepth 20000 in
theorem ggL_law_X6_hasBelow : GoodIn wsL_law wsX6_hasBelow := goodIn_r _ [484, 115, 117, 118, 5, 119, 485, 486, 487, 488, 74, 70, 204, 205, 206, 207, 67, 66, 379, 380, 381, 235, 236, 237, 217, 218, 219, 638, 639, 640, 641, 642, 643, 644, 645, 646, 647, 648, 649, 650, 651] (by decide +kernel) (by decide +kernel)
set_option maxRecDepth 20000 in
theorem gL_law_X6_hasBelow : GoodIn wsL_law (wsV RL 85 RX6 yX6_hasBelow wsX6_hasBelow) := goodIn_app (goodIn_of _ (by decide +kernel)) ggL_law_X6_hasBelow
set_option maxRecDepth 20000 in
theorem ggL_law_X5_low : GoodIn wsL_law wsX5_low := goodIn_r _ [492, 15, 493, 494, 495, 2, 496, 86, 87, 88, 497, 498, 499, 17, 500, 38, 93, 190, 162, 163, 37, 164, 110, 165, 166, 167, 168, 136, 137, 138, 139, 43, 169, 170, 171, 172, 173, 501, 478, 479, 480, 502, 503, 504, 505, 506, 507, 508, 509, 632, 633, 634, 635, 636, 637, 652, 653, 665, 666] (by decide +kernel) (by decide +kernel)
set_option maxRecDepth 20000 in
theorem gL_law_X5_low : GoodIn wsL_law (wsV RL 86 RX5 yX5_low wsX5_low) := goodIn_app (goodIn_of _ (by decide +kernel)) ggL_law_X5_low
set_option maxRecDepth 20000 in
theorem ggL_law_X6_low : GoodIn wsL_law wsX6_low := goodIn_r _ [513, 115, 67, 116, 68, 66, 117, 118, 5, 119, 514, 515, 516, 517, 231, 232, 233, 234, 74, 70, 204, 205, 206, 207, 235, 236, 237, 217, 218, 219, 485, 486, 487, 488, 379, 380, 381, 638, 639, 640, 641, 642, 643, 644, 645, 646, 647, 648, 649, 650, 651] (by decide +kernel) (by decide +kernel)
set_option maxRecDepth 20000 in
theorem gL_law_X6_low : GoodIn wsL_law (wsV RL 90 RX6 yX6_low wsX6_low) := goodIn_app (goodIn_of _ (by decide +kernel)) ggL_law_X6_low
set_option maxRecDepth 20000 in
theorem ggL_law_X5_fits : GoodIn wsL_law wsX5_fits := goodIn_r _ [496, 15, 86, 87, 2, 88, 497, 498, 499, 17, 500, 38, 93, 190, 162, 163, 37, 164, 110, 165, 166, 167, 168, 136, 137, 138, 139, 43, 169, 170, 171, 172, 173, 501, 478, 479, 480, 632, 633, 634, 635, 636, 637, 652, 653, 665, 666] (by decide +kernel) (by decide +kernel)
set_option maxRecDepth 20000 in
theorem gL_law_X5_fits : GoodIn wsL_law (wsV RL 91 RX5 yX5_fits wsX5_fits) := goodIn_app (goodIn_of _ (by decide +kernel)) ggL_law_X5_fits
set_option maxRecDepth 20000 in
theorem ggL_law_X6_fits : GoodIn wsL_law wsX6_fits := goodIn_r _ [522, 115, 117, 118, 5, 119, 514, 515, 516, 517, 68, 231, 232, 233, 234, 74, 70, 204, 205, 206, 207, 67, 66, 235, 236, 237, 217, 218, 219, 485, 486, 487, 488, 379, 380, 381, 638, 639, 640, 641, 642, 643, 644, 645, 646, 647, 648, 649, 650, 651] (by decide +kernel) (by decide +kernel)
set_option maxRecDepth 20000 in
theorem gL_law_X6_fits : GoodIn wsL_law (wsV RL 95 RX6 yX6_fits wsX6_fits) := goodIn_app (goodIn_of _ (by decide +kernel)) ggL_law_X6_fits
set_option maxRecDepth 20000 in
theorem ggL_law_X5_write : GoodIn wsL_law wsX5_write := goodIn_r _ [526, 18, 15, 31, 527, 86, 87, 2, 88, 528, 529, 530, 174, 175, 176, 17, 177, 38, 93, 178, 179, 180, 37, 181, 43, 110, 182, 183, 184, 185, 531, 532, 533, 30, 534, 535, 536, 537, 538, 539, 540, 541, 542, 145, 146, 147, 543, 544, 545, 546, 61, 547, 548, 549, 550, 551, 552, 553, 554, 555, 556, 557, 99, 100, 101, 102, 103, 104, 105, 106, 107, 108, 109, 558, 559, 560, 561, 562, 563, 564, 632, 633, 634, 635, 636, 637, 663, 664, 652, 653, 665, 666] (by decide +kernel) (by decide +kernel)
set_option maxRecDepth 20000 in
theorem gL_law_X5_write : GoodIn wsL_law (wsV RL 96 RX5 yX5_write wsX5_write) := goodIn_app (goodIn_of _ (by decide +kernel)) ggL_law_X5_write
set_option maxRecDepth 20000 in
theorem ggL_law_X6_write : GoodIn wsL_law wsX6_write := goodIn_r _ [568, 115, 74, 70, 73, 68, 569, 117, 118, 5, 119, 204, 205, 206, 207, 67, 66, 217, 218, 219, 638, 639, 640, 641, 642, 643, 644, 645, 646, 647, 648, 649, 650, 651] (by decide +kernel) (by decide +kernel)
set_option maxRecDepth 20000 in
theorem gL_law_X6_write : GoodIn wsL_law (wsV RL 99 RX6 yX6_write wsX6_write) := goodIn_app (goodIn_of _ (by decide +kernel)) ggL_law_X6_write
set_option maxRecDepth 20000 in
theorem ggL_law_X5_type : GoodIn wsL_law wsX5_type := goodIn_r _ [573, 31, 527, 574, 544, 545, 30, 546, 535, 61, 632, 633, 634, 635, 636, 637, 663, 664] (by decide +kernel) (by decide +kernel)
set_option maxRecDepth 20000 in
theorem gL_law_X5_type : GoodIn wsL_law (wsV RL 100 RX5 yX5_type wsX5_type) := goodIn_app (goodIn_of _ (by decide +kernel)) ggL_law_X5_type
set_option maxRecDepth 20000 in
theorem ggL_law_X6_type : GoodIn wsL_law wsX6_type := goodIn_r _ [578, 115, 569, 73, 638, 639, 640, 641, 642, 643, 644, 645, 646, 647, 648, 649, 650, 651] (by decide +kernel) (by decide +kernel)
set_option maxRecDepth 20000 in
theorem gL_law_X6_type : GoodIn wsL_law (wsV RL 103 RX6 yX6_type wsX6_type) := goodIn_app (goodIn_of _ (by decide +kernel)) ggL_law_X6_type
set_option maxRecDepth 20000 in
theorem ggL_law_X5_clear : GoodIn wsL_law wsX5_clear := goodIn_r _ [582, 31, 527, 632, 633, 634, 635, 636, 637, 663, 664] (by decide +kernel) (by decide +kernel)
set_option maxRecDepth 20000 in
theorem gL_law_X5_clear : GoodIn wsL_law (wsV RL 104 RX5 yX5_clear wsX5_clear) := goodIn_app (goodIn_of _ (by decide +kernel)) ggL_law_X5_clear
set_option maxRecDepth 20000 in
theorem ggL_law_X6_clear : GoodIn wsL_law wsX6_clear := goodIn_r _ [586, 115, 569, 638, 639, 640, 641, 642, 643, 644, 645, 646, 647, 648, 649, 650, 651] (by decide +kernel) (by decide +kernel)
set_option maxRecDepth 20000 in
theorem gL_law_X6_clear : GoodIn wsL_law (wsV RL 107 RX6 yX6_clear wsX6_clear) := goodIn_app (goodIn_of _ (by decide +kernel)) ggL_law_X6_clear
set_option maxRecDepth 20000 in
theorem ggL_law_X5_character : GoodIn wsL_law wsX5_character := goodIn_r _ [590, 31, 527, 591, 632, 633, 634, 635, 636, 637, 663, 664] (by decide +kernel) (by decide +kernel)
set_option maxRecDepth 20000 in
theorem gL_law_X5_character : GoodIn wsL_law (wsV RL 108 RX5 yX5_character wsX5_character) := goodIn_app (goodIn_of _ (by decide +kernel)) ggL_law_X5_character
set_option maxRecDepth 20000 in
theorem ggL_law_X6_character : GoodIn wsL_law wsX6_character := goodIn_r _ [595, 115, 569, 73, 638, 639, 640, 641, 642, 643, 644, 645, 646, 647, 648, 649, 650, 651] (by decide +kernel) (by decide +kernel)
set_option maxRecDepth 20000 in
theorem gL_law_X6_character : GoodIn wsL_law (wsV RL 111 RX6 yX6_character wsX6_character) := goodIn_app (goodIn_of _ (by decide +kernel)) ggL_law_X6_character
set_option maxRecDepth 20000 in
theorem ggL_law_X5_read : GoodIn wsL_law wsX5_read := goodIn_r _ [599, 31, 18, 86, 87, 2, 88, 528, 529, 530, 600, 601, 602, 30, 603, 535, 61, 604, 605, 606, 607, 608, 609, 610, 611, 612, 613, 614, 615, 108, 105, 109, 536, 616, 104, 106, 617, 90, 91, 17, 92, 38, 93, 94, 95, 96, 37, 97, 43, 98, 99, 100, 101, 102, 103, 107, 110, 547, 548, 549, 550, 618, 162, 163, 164, 165, 166, 167, 168, 136, 137, 138, 139, 169, 170, 171, 172, 173, 551, 552, 553, 619, 620, 621, 622, 623, 319, 320, 321, 624, 141, 142, 143, 144, 145, 146, 147, 156, 157, 158, 159, 160, 15, 161, 174, 175, 176, 177, 178, 179, 180, 181, 182, 183, 184, 185, 632, 633, 634, 635, 636, 637, 663, 664, 652, 653, 665, 666] (by decide +kernel) (by decide +kernel)
set_option maxRecDepth 20000 in
theorem gL_law_X5_read : GoodIn wsL_law (wsV RL 112 RX5 yX5_read wsX5_read) := goodIn_app (goodIn_of _ (by decide +kernel)) ggL_law_X5_read
set_option maxRecDepth 20000 in
theorem ggL_law_X6_read : GoodIn wsL_law wsX6_read := goodIn_r _ [628, 115, 569, 73, 212, 71, 117, 118, 5, 119, 629, 630, 631, 79, 80, 81, 224, 225, 226, 227, 69, 75, 228, 229, 230, 220, 221, 222, 223, 67, 68, 66, 231, 232, 233, 234, 74, 70, 204, 205, 206, 207, 235, 236, 237, 217, 218, 219, 638, 639, 640, 641, 642, 643, 644, 645, 646, 647, 648, 649, 650, 651] (by decide +kernel) (by decide +kernel)
set_option maxRecDepth 20000 in
theorem gL_law_X6_read : GoodIn wsL_law (wsV RL 115 RX6 yX6_read wsX6_read) := goodIn_app (goodIn_of _ (by decide +kernel)) ggL_law_X6_read
