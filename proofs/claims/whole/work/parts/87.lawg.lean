set_option maxRecDepth 20000 in
theorem ggL_law_X5_init : GoodIn wsL_law wsX5_init := goodIn_r _ [10, 11, 12, 13, 14, 15, 16, 17, 18, 19, 20, 21, 22, 23, 24, 25, 26, 27, 28, 29, 30, 31, 32, 33, 34, 35, 36, 37, 38, 39, 40, 41, 42, 43, 44, 45, 46, 47, 48, 49, 50, 51, 52, 53, 54, 55, 56, 57, 58, 59, 60, 61, 62, 63, 633, 634, 635, 636, 637, 638, 653, 654, 655, 656, 657, 658, 659, 660, 661, 662, 663, 664, 665, 666, 667, 668] (by decide +kernel) (by decide +kernel)
set_option maxRecDepth 20000 in
theorem gL_law_X5_init : GoodIn wsL_law (wsX5_init) := ggL_law_X5_init
set_option maxRecDepth 20000 in
theorem ggL_law_X6_init : GoodIn wsL_law wsX6_init := goodIn_r _ [66, 67, 12, 13, 42, 68, 69, 70, 71, 72, 73, 74, 75, 76, 77, 78, 79, 5, 80, 81, 82, 83, 639, 640, 641, 642, 643, 644, 645, 646, 647, 648, 649, 650, 651, 652] (by decide +kernel) (by decide +kernel)
set_option maxRecDepth 20000 in
theorem gL_law_X6_init : GoodIn wsL_law (wsX6_init) := ggL_law_X6_init
set_option maxRecDepth 20000 in
theorem ggL_law_X5_load : GoodIn wsL_law wsX5_load := goodIn_r _ [87, 15, 88, 89, 2, 90, 91, 92, 93, 17, 94, 38, 95, 96, 97, 98, 37, 99, 43, 100, 101, 102, 103, 104, 105, 106, 107, 108, 109, 110, 111, 112, 633, 634, 635, 636, 637, 638, 653, 654, 667, 668] (by decide +kernel) (by decide +kernel)
set_option maxRecDepth 20000 in
theorem gL_law_X5_load : GoodIn wsL_law (wsV RL 27 RX5 yX5_load wsX5_load) := goodIn_app (goodIn_of _ (by decide +kernel)) ggL_law_X5_load
set_option maxRecDepth 20000 in
theorem ggL_law_X6_load : GoodIn wsL_law wsX6_load := goodIn_r _ [116, 117, 118, 68, 69, 70, 119, 120, 5, 121, 639, 640, 641, 642, 643, 644, 645, 646, 647, 648, 649, 650, 651, 652] (by decide +kernel) (by decide +kernel)
set_option maxRecDepth 20000 in
theorem gL_law_X6_load : GoodIn wsL_law (wsV RL 31 RX6 yX6_load wsX6_load) := goodIn_app (goodIn_of _ (by decide +kernel)) ggL_law_X6_load
set_option maxRecDepth 20000 in
theorem ggL_law_X5_reckon : GoodIn wsL_law wsX5_reckon := goodIn_r _ [125, 15, 18, 126, 127, 128, 2, 129, 88, 89, 90, 130, 131, 132, 17, 133, 95, 38, 134, 135, 136, 37, 137, 112, 109, 110, 107, 111, 105, 106, 108, 43, 100, 138, 139, 140, 141, 101, 102, 103, 104, 142, 143, 144, 145, 146, 147, 148, 149, 150, 151, 152, 153, 154, 155, 156, 157, 158, 159, 160, 161, 162, 163, 164, 165, 166, 167, 168, 169, 170, 171, 172, 173, 174, 175, 176, 177, 178, 179, 180, 181, 182, 183, 184, 185, 186, 187, 188, 189, 190, 191, 192, 193, 194, 195, 196, 197, 198, 199, 200, 633, 634, 635, 636, 637, 638, 653, 654, 667, 668] (by decide +kernel) (by decide +kernel)
set_option maxRecDepth 20000 in
theorem gL_law_X5_reckon : GoodIn wsL_law (wsV RL 32 RX5 yX5_reckon wsX5_reckon) := goodIn_app (goodIn_of _ (by decide +kernel)) ggL_law_X5_reckon
set_option maxRecDepth 20000 in
theorem ggL_law_X6_reckon : GoodIn wsL_law wsX6_reckon := goodIn_r _ [204, 117, 74, 205, 70, 72, 76, 119, 120, 5, 121, 206, 207, 208, 209, 69, 68, 210, 211, 212, 213, 214, 73, 215, 216, 217, 218, 219, 220, 221, 222, 223, 224, 225, 226, 227, 228, 229, 71, 77, 230, 231, 232, 233, 234, 235, 236, 237, 238, 239, 240, 241, 242, 243, 244, 245, 246, 247, 248, 249, 639, 640, 641, 642, 643, 644, 645, 646, 647, 648, 649, 650, 651, 652] (by decide +kernel) (by decide +kernel)
set_option maxRecDepth 20000 in
theorem gL_law_X6_reckon : GoodIn wsL_law (wsV RL 36 RX6 yX6_reckon wsX6_reckon) := goodIn_app (goodIn_of _ (by decide +kernel)) ggL_law_X6_reckon
set_option maxRecDepth 20000 in
theorem ggL_law_L_divide : GoodIn wsL_law wsL_divide := goodIn_ca (goodIn_r _ [253, 254, 255, 256, 257, 2, 258, 259, 260, 15, 162, 126, 19, 18, 88, 89, 90, 127, 128, 129, 261, 147, 148, 37, 149, 112, 262, 263, 264, 265, 23, 266, 267, 268, 269, 270, 22, 271, 50, 49, 272, 273, 110, 107, 111, 48, 274, 275, 276, 168, 169, 170, 138, 139, 140, 141, 43, 171, 172, 173, 174, 175, 277, 278, 279, 280, 105, 106, 108, 100, 101, 102, 103, 104, 109, 281, 282, 283, 284, 285, 286, 287, 288, 289, 290, 291, 292, 293, 294, 295, 296, 297, 298, 299, 300, 301, 302, 303, 304, 305, 306, 307, 308, 309, 310, 311, 312, 313, 181, 182, 183, 184, 185, 186, 187, 314, 143, 144, 17, 145, 38, 95, 146, 315, 316, 317, 318, 319, 320, 321, 322, 323, 155, 156, 157, 176, 177, 178, 179, 180, 163, 164, 165, 166, 167, 633, 634, 635, 636, 637, 638, 653, 654, 667, 668, 655, 656, 657] (by decide +kernel) (by decide +kernel)) (goodIn_sub (fun _ h => List.mem_append_left _ (List.mem_append_right _ h)) (by decide +kernel))
set_option maxRecDepth 20000 in
theorem gL_law_L_divide : GoodIn wsL_law (va_wsS RL 37 yL_divide wsL_divide) := goodIn_app (goodIn_of _ (by decide +kernel)) ggL_law_L_divide
set_option maxRecDepth 20000 in
theorem ggL_law_X6_divide : GoodIn wsL_law wsX6_divide := goodIn_r _ [327, 117, 70, 76, 74, 205, 73, 72, 214, 119, 120, 5, 121, 206, 207, 208, 209, 69, 68, 210, 211, 212, 213, 328, 329, 330, 331, 230, 231, 232, 78, 79, 80, 81, 82, 83, 237, 238, 239, 219, 220, 221, 247, 248, 249, 222, 223, 224, 225, 226, 227, 228, 229, 71, 77, 233, 234, 235, 236, 639, 640, 641, 642, 643, 644, 645, 646, 647, 648, 649, 650, 651, 652] (by decide +kernel) (by decide +kernel)
set_option maxRecDepth 20000 in
theorem gL_law_X6_divide : GoodIn wsL_law (wsV RL 42 RX6 yX6_divide wsX6_divide) := goodIn_app (goodIn_of _ (by decide +kernel)) ggL_law_X6_divide
set_option maxRecDepth 20000 in
theorem ggL_law_X6_thrown : GoodIn wsL_law wsX6_thrown := goodIn_r _ [335, 117, 639, 640, 641, 642, 643, 644, 645, 646, 647, 648, 649, 650, 651, 652] (by decide +kernel) (by decide +kernel)
set_option maxRecDepth 20000 in
theorem gL_law_X6_thrown : GoodIn wsL_law (wsV RL 43 RX6 yX6_thrown wsX6_thrown) := goodIn_app (goodIn_of _ (by decide +kernel)) ggL_law_X6_thrown
set_option maxRecDepth 20000 in
theorem ggL_law_X5_gcd : GoodIn wsL_law wsX5_gcd := goodIn_r _ [339, 18, 162, 27, 15, 127, 128, 2, 129, 88, 89, 90, 340, 341, 342, 26, 343, 56, 57, 344, 151, 152, 37, 153, 112, 43, 345, 181, 182, 183, 184, 185, 186, 187, 346, 147, 148, 149, 347, 348, 349, 350, 351, 110, 107, 111, 352, 353, 354, 355, 356, 164, 165, 166, 167, 168, 169, 170, 138, 139, 140, 141, 171, 172, 173, 174, 175, 357, 358, 359, 360, 310, 311, 312, 100, 361, 362, 363, 364, 365, 366, 367, 368, 282, 283, 284, 369, 102, 103, 104, 105, 106, 108, 109, 370, 371, 372, 373, 58, 374, 375, 269, 270, 22, 271, 50, 49, 272, 273, 48, 274, 275, 276, 277, 278, 279, 280, 101, 281, 285, 286, 287, 288, 289, 290, 291, 292, 293, 294, 295, 296, 297, 298, 299, 300, 301, 302, 303, 304, 305, 306, 307, 308, 309, 313, 314, 143, 144, 17, 145, 38, 95, 146, 158, 159, 160, 161, 163, 176, 177, 178, 179, 180, 633, 634, 635, 636, 637, 638, 653, 654, 658, 659, 660, 661, 662, 663, 664, 667, 668, 655, 656, 657] (by decide +kernel) (by decide +kernel)
set_option maxRecDepth 20000 in
theorem gL_law_X5_gcd : GoodIn wsL_law (wsV RL 47 RX5 yX5_gcd wsX5_gcd) := goodIn_app (goodIn_of _ (by decide +kernel)) ggL_law_X5_gcd
set_option maxRecDepth 20000 in
theorem ggL_law_X6_gcd : GoodIn wsL_law wsX6_gcd := goodIn_r _ [379, 117, 76, 214, 73, 72, 119, 120, 5, 121, 206, 207, 208, 209, 69, 68, 210, 211, 212, 213, 222, 223, 224, 225, 70, 226, 227, 228, 229, 71, 77, 230, 231, 232, 233, 234, 235, 236, 237, 238, 239, 219, 220, 221, 380, 381, 382, 247, 248, 249, 78, 79, 80, 81, 82, 83, 639, 640, 641, 642, 643, 644, 645, 646, 647, 648, 649, 650, 651, 652] (by decide +kernel) (by decide +kernel)
set_option maxRecDepth 20000 in
theorem gL_law_X6_gcd : GoodIn wsL_law (wsV RL 51 RX6 yX6_gcd wsX6_gcd) := goodIn_app (goodIn_of _ (by decide +kernel)) ggL_law_X6_gcd
set_option maxRecDepth 20000 in
theorem ggL_law_L_root : GoodIn wsL_law wsL_root := goodIn_ca (goodIn_r _ [385, 386, 387, 388, 389, 2, 390, 391, 392, 15, 126, 162, 88, 89, 90, 393, 394, 395, 396, 18, 19, 23, 266, 91, 92, 93, 17, 94, 38, 95, 96, 97, 98, 37, 99, 43, 100, 101, 102, 103, 104, 105, 106, 107, 108, 109, 110, 111, 112, 261, 147, 148, 149, 313, 181, 182, 183, 184, 185, 186, 187, 163, 164, 165, 166, 167, 168, 169, 170, 138, 139, 140, 141, 171, 172, 173, 174, 175, 397, 278, 279, 280, 268, 269, 270, 22, 271, 50, 49, 272, 273, 48, 274, 275, 276, 277, 281, 282, 283, 284, 285, 286, 287, 288, 289, 290, 291, 292, 293, 294, 295, 296, 297, 298, 299, 300, 301, 302, 303, 304, 305, 306, 307, 308, 309, 310, 311, 312, 398, 135, 136, 137, 399, 400, 151, 152, 153, 158, 159, 160, 161, 176, 177, 178, 179, 180, 633, 634, 635, 636, 637, 638, 653, 654, 655, 656, 657, 667, 668] (by decide +kernel) (by decide +kernel)) (goodIn_sub (fun _ h => List.mem_append_right _ h) (by decide +kernel))
set_option maxRecDepth 20000 in
theorem gL_law_L_root : GoodIn wsL_law (va_wsS RL 52 yL_root wsL_root) := goodIn_app (goodIn_of _ (by decide +kernel)) ggL_law_L_root
set_option maxRecDepth 20000 in
theorem ggL_law_X6_root : GoodIn wsL_law wsX6_root := goodIn_r _ [404, 117, 70, 73, 214, 72, 76, 205, 74, 119, 120, 5, 121, 206, 207, 208, 209, 69, 68, 230, 231, 232, 81, 82, 83, 405, 406, 407, 408, 237, 238, 239, 219, 220, 221, 244, 245, 246, 247, 248, 249, 222, 223, 224, 225, 226, 227, 228, 229, 71, 77, 233, 234, 235, 236, 639, 640, 641, 642, 643, 644, 645, 646, 647, 648, 649, 650, 651, 652] (by decide +kernel) (by decide +kernel)
set_option maxRecDepth 20000 in
theorem gL_law_X6_root : GoodIn wsL_law (wsV RL 55 RX6 yX6_root wsX6_root) := goodIn_app (goodIn_of _ (by decide +kernel)) ggL_law_X6_root
set_option maxRecDepth 20000 in
theorem ggL_law_X5_shift : GoodIn wsL_law wsX5_shift := goodIn_r _ [412, 15, 18, 162, 126, 88, 89, 2, 90, 399, 306, 307, 37, 308, 112, 109, 110, 107, 111, 43, 309, 310, 311, 312, 100, 138, 139, 140, 141, 101, 102, 103, 104, 105, 106, 108, 261, 147, 148, 149, 163, 164, 165, 166, 167, 168, 169, 170, 171, 172, 173, 174, 175, 397, 278, 279, 280, 314, 143, 144, 17, 145, 38, 95, 146, 158, 159, 160, 161, 176, 177, 178, 179, 180, 181, 182, 183, 184, 185, 186, 187, 633, 634, 635, 636, 637, 638, 653, 654, 667, 668] (by decide +kernel) (by decide +kernel)
set_option maxRecDepth 20000 in
theorem gL_law_X5_shift : GoodIn wsL_law (wsV RL 56 RX5 yX5_shift wsX5_shift) := goodIn_app (goodIn_of _ (by decide +kernel)) ggL_law_X5_shift
set_option maxRecDepth 20000 in
theorem ggL_law_X6_shift : GoodIn wsL_law wsX6_shift := goodIn_r _ [416, 117, 72, 76, 73, 70, 119, 120, 5, 121, 206, 207, 208, 209, 69, 68, 78, 79, 80, 81, 82, 83, 226, 227, 228, 229, 71, 77, 230, 231, 232, 237, 238, 239, 219, 220, 221, 222, 223, 224, 225, 233, 234, 235, 236, 639, 640, 641, 642, 643, 644, 645, 646, 647, 648, 649, 650, 651, 652] (by decide +kernel) (by decide +kernel)
set_option maxRecDepth 20000 in
theorem gL_law_X6_shift : GoodIn wsL_law (wsV RL 59 RX6 yX6_shift wsX6_shift) := goodIn_app (goodIn_of _ (by decide +kernel)) ggL_law_X6_shift
set_option maxRecDepth 20000 in
theorem ggL_law_X5_power : GoodIn wsL_law wsX5_power := goodIn_r _ [420, 15, 88, 89, 2, 90, 421, 422, 423, 424, 18, 91, 92, 93, 17, 94, 38, 95, 96, 97, 98, 37, 99, 43, 100, 101, 102, 103, 104, 105, 106, 107, 108, 109, 110, 111, 112, 425, 426, 427, 428, 19, 162, 188, 189, 190, 191, 192, 164, 165, 166, 167, 168, 169, 170, 138, 139, 140, 141, 171, 172, 173, 174, 175, 193, 194, 195, 196, 197, 198, 199, 200, 142, 143, 144, 145, 146, 147, 148, 149, 163, 176, 177, 178, 179, 180, 181, 182, 183, 184, 185, 186, 187, 158, 159, 160, 161, 633, 634, 635, 636, 637, 638, 653, 654, 667, 668] (by decide +kernel) (by decide +kernel)
set_option maxRecDepth 20000 in
theorem gL_law_X5_power : GoodIn wsL_law (wsV RL 60 RX5 yX5_power wsX5_power) := goodIn_app (goodIn_of _ (by decide +kernel)) ggL_law_X5_power
set_option maxRecDepth 20000 in
theorem ggL_law_X6_power : GoodIn wsL_law wsX6_power := goodIn_r _ [432, 117, 74, 205, 76, 72, 70, 119, 120, 5, 121, 210, 211, 212, 213, 69, 214, 73, 68, 215, 216, 217, 218, 219, 220, 221, 226, 227, 228, 229, 71, 77, 230, 231, 232, 222, 223, 224, 225, 233, 234, 235, 236, 206, 207, 208, 209, 237, 238, 239, 639, 640, 641, 642, 643, 644, 645, 646, 647, 648, 649, 650, 651, 652] (by decide +kernel) (by decide +kernel)
set_option maxRecDepth 20000 in
theorem gL_law_X6_power : GoodIn wsL_law (wsV RL 63 RX6 yX6_power wsX6_power) := goodIn_app (goodIn_of _ (by decide +kernel)) ggL_law_X6_power
set_option maxRecDepth 20000 in
theorem ggL_law_X5_compare : GoodIn wsL_law wsX5_compare := goodIn_r _ [436, 15, 88, 89, 2, 90, 437, 438, 439, 17, 440, 95, 38, 150, 151, 152, 37, 153, 112, 43, 633, 634, 635, 636, 637, 638, 653, 654, 667, 668] (by decide +kernel) (by decide +kernel)
set_option maxRecDepth 20000 in
theorem gL_law_X5_compare : GoodIn wsL_law (wsV RL 64 RX5 yX5_compare wsX5_compare) := goodIn_app (goodIn_of _ (by decide +kernel)) ggL_law_X5_compare
set_option maxRecDepth 20000 in
theorem ggL_law_X6_compare : GoodIn wsL_law wsX6_compare := goodIn_r _ [444, 117, 70, 72, 76, 73, 214, 119, 120, 5, 121, 206, 207, 208, 209, 69, 68, 210, 211, 212, 213, 230, 231, 232, 639, 640, 641, 642, 643, 644, 645, 646, 647, 648, 649, 650, 651, 652] (by decide +kernel) (by decide +kernel)
set_option maxRecDepth 20000 in
theorem gL_law_X6_compare : GoodIn wsL_law (wsV RL 67 RX6 yX6_compare wsX6_compare) := goodIn_app (goodIn_of _ (by decide +kernel)) ggL_law_X6_compare
set_option maxRecDepth 20000 in
theorem ggL_law_X5_sign : GoodIn wsL_law wsX5_sign := goodIn_r _ [448, 15, 88, 89, 2, 90, 449, 450, 451, 17, 452, 38, 95, 146, 147, 148, 37, 149, 112, 633, 634, 635, 636, 637, 638, 653, 654, 667, 668] (by decide +kernel) (by decide +kernel)
set_option maxRecDepth 20000 in
theorem gL_law_X5_sign : GoodIn wsL_law (wsV RL 68 RX5 yX5_sign wsX5_sign) := goodIn_app (goodIn_of _ (by decide +kernel)) ggL_law_X5_sign
set_option maxRecDepth 20000 in
theorem ggL_law_X6_sign : GoodIn wsL_law wsX6_sign := goodIn_r _ [456, 117, 70, 119, 120, 5, 121, 639, 640, 641, 642, 643, 644, 645, 646, 647, 648, 649, 650, 651, 652] (by decide +kernel) (by decide +kernel)
set_option maxRecDepth 20000 in
theorem gL_law_X6_sign : GoodIn wsL_law (wsV RL 72 RX6 yX6_sign wsX6_sign) := goodIn_app (goodIn_of _ (by decide +kernel)) ggL_law_X6_sign
set_option maxRecDepth 20000 in
theorem ggL_law_X5_bits : GoodIn wsL_law wsX5_bits := goodIn_r _ [460, 15, 162, 88, 89, 2, 90, 163, 164, 165, 37, 166, 112, 167, 168, 169, 170, 138, 139, 140, 141, 43, 171, 172, 173, 174, 175, 633, 634, 635, 636, 637, 638, 653, 654, 667, 668] (by decide +kernel) (by decide +kernel)
set_option maxRecDepth 20000 in
theorem gL_law_X5_bits : GoodIn wsL_law (wsV RL 73 RX5 yX5_bits wsX5_bits) := goodIn_app (goodIn_of _ (by decide +kernel)) ggL_law_X5_bits
set_option maxRecDepth 20000 in
theorem ggL_law_X6_bits : GoodIn wsL_law wsX6_bits := goodIn_r _ [464, 117, 119, 120, 5, 121, 233, 234, 235, 236, 76, 72, 206, 207, 208, 209, 69, 68, 237, 238, 239, 219, 220, 221, 639, 640, 641, 642, 643, 644, 645, 646, 647, 648, 649, 650, 651, 652] (by decide +kernel) (by decide +kernel)
set_option maxRecDepth 20000 in
theorem gL_law_X6_bits : GoodIn wsL_law (wsV RL 76 RX6 yX6_bits wsX6_bits) := goodIn_app (goodIn_of _ (by decide +kernel)) ggL_law_X6_bits
set_option maxRecDepth 20000 in
theorem ggL_law_X5_part : GoodIn wsL_law wsX5_part := goodIn_r _ [468, 15, 162, 88, 89, 2, 90, 469, 310, 311, 37, 312, 100, 138, 139, 140, 141, 112, 43, 633, 634, 635, 636, 637, 638, 653, 654, 667, 668] (by decide +kernel) (by decide +kernel)
set_option maxRecDepth 20000 in
theorem gL_law_X5_part : GoodIn wsL_law (wsV RL 77 RX5 yX5_part wsX5_part) := goodIn_app (goodIn_of _ (by decide +kernel)) ggL_law_X5_part
set_option maxRecDepth 20000 in
theorem ggL_law_X6_part : GoodIn wsL_law wsX6_part := goodIn_r _ [473, 117, 76, 72, 119, 120, 5, 121, 206, 207, 208, 209, 69, 68, 237, 238, 239, 219, 220, 221, 380, 381, 382, 639, 640, 641, 642, 643, 644, 645, 646, 647, 648, 649, 650, 651, 652] (by decide +kernel) (by decide +kernel)
set_option maxRecDepth 20000 in
theorem gL_law_X6_part : GoodIn wsL_law (wsV RL 80 RX6 yX6_part wsX6_part) := goodIn_app (goodIn_of _ (by decide +kernel)) ggL_law_X6_part
set_option maxRecDepth 20000 in
theorem ggL_law_X5_hasBelow : GoodIn wsL_law wsX5_hasBelow := goodIn_r _ [477, 15, 162, 88, 89, 2, 90, 478, 479, 480, 37, 481, 112, 43, 138, 139, 140, 141, 633, 634, 635, 636, 637, 638, 653, 654, 667, 668] (by decide +kernel) (by decide +kernel)
set_option maxRecDepth 20000 in
theorem gL_law_X5_hasBelow : GoodIn wsL_law (wsV RL 81 RX5 yX5_hasBelow wsX5_hasBelow) := goodIn_app (goodIn_of _ (by decide +kernel)) ggL_law_X5_hasBelow
set_option maxRecDepth 20000 in
theorem ggL_law_X6_hasBelow : GoodIn wsL_law wsX6_hasBelow := goodIn_r _ [485, 117, 119, 120, 5, 121, 486, 487, 488, 489, 76, 72, 206, 207, 208, 209, 69, 68, 380, 381, 382, 237, 238, 239, 219, 220, 221, 639, 640, 641, 642, 643, 644, 645, 646, 647, 648, 649, 650, 651, 652] (by decide +kernel) (by decide +kernel)
set_option maxRecDepth 20000 in
theorem gL_law_X6_hasBelow : GoodIn wsL_law (wsV RL 85 RX6 yX6_hasBelow wsX6_hasBelow) := goodIn_app (goodIn_of _ (by decide +kernel)) ggL_law_X6_hasBelow
set_option maxRecDepth 20000 in
theorem ggL_law_X5_low : GoodIn wsL_law wsX5_low := goodIn_r _ [493, 15, 494, 495, 496, 2, 497, 88, 89, 90, 498, 499, 500, 17, 501, 38, 95, 192, 164, 165, 37, 166, 112, 167, 168, 169, 170, 138, 139, 140, 141, 43, 171, 172, 173, 174, 175, 502, 479, 480, 481, 503, 504, 505, 506, 507, 508, 509, 510, 633, 634, 635, 636, 637, 638, 653, 654, 667, 668] (by decide +kernel) (by decide +kernel)
set_option maxRecDepth 20000 in
theorem gL_law_X5_low : GoodIn wsL_law (wsV RL 86 RX5 yX5_low wsX5_low) := goodIn_app (goodIn_of _ (by decide +kernel)) ggL_law_X5_low
set_option maxRecDepth 20000 in
theorem ggL_law_X6_low : GoodIn wsL_law wsX6_low := goodIn_r _ [514, 117, 69, 118, 70, 68, 119, 120, 5, 121, 515, 516, 517, 518, 233, 234, 235, 236, 76, 72, 206, 207, 208, 209, 237, 238, 239, 219, 220, 221, 486, 487, 488, 489, 380, 381, 382, 639, 640, 641, 642, 643, 644, 645, 646, 647, 648, 649, 650, 651, 652] (by decide +kernel) (by decide +kernel)
set_option maxRecDepth 20000 in
theorem gL_law_X6_low : GoodIn wsL_law (wsV RL 90 RX6 yX6_low wsX6_low) := goodIn_app (goodIn_of _ (by decide +kernel)) ggL_law_X6_low
set_option maxRecDepth 20000 in
theorem ggL_law_X5_fits : GoodIn wsL_law wsX5_fits := goodIn_r _ [497, 15, 88, 89, 2, 90, 498, 499, 500, 17, 501, 38, 95, 192, 164, 165, 37, 166, 112, 167, 168, 169, 170, 138, 139, 140, 141, 43, 171, 172, 173, 174, 175, 502, 479, 480, 481, 633, 634, 635, 636, 637, 638, 653, 654, 667, 668] (by decide +kernel) (by decide +kernel)
set_option maxRecDepth 20000 in
theorem gL_law_X5_fits : GoodIn wsL_law (wsV RL 91 RX5 yX5_fits wsX5_fits) := goodIn_app (goodIn_of _ (by decide +kernel)) ggL_law_X5_fits
set_option maxRecDepth 20000 in
theorem ggL_law_X6_fits : GoodIn wsL_law wsX6_fits := goodIn_r _ [523, 117, 119, 120, 5, 121, 515, 516, 517, 518, 70, 233, 234, 235, 236, 76, 72, 206, 207, 208, 209, 69, 68, 237, 238, 239, 219, 220, 221, 486, 487, 488, 489, 380, 381, 382, 639, 640, 641, 642, 643, 644, 645, 646, 647, 648, 649, 650, 651, 652] (by decide +kernel) (by decide +kernel)
set_option maxRecDepth 20000 in
theorem gL_law_X6_fits : GoodIn wsL_law (wsV RL 95 RX6 yX6_fits wsX6_fits) := goodIn_app (goodIn_of _ (by decide +kernel)) ggL_law_X6_fits
set_option maxRecDepth 20000 in
theorem ggL_law_X5_write : GoodIn wsL_law wsX5_write := goodIn_r _ [527, 18, 15, 31, 528, 88, 89, 2, 90, 529, 530, 531, 176, 177, 178, 17, 179, 38, 95, 180, 181, 182, 37, 183, 43, 112, 184, 185, 186, 187, 532, 533, 534, 30, 535, 536, 537, 538, 539, 540, 541, 542, 543, 147, 148, 149, 544, 545, 546, 547, 63, 548, 549, 550, 551, 552, 553, 554, 555, 556, 557, 558, 101, 102, 103, 104, 105, 106, 107, 108, 109, 110, 111, 559, 560, 561, 562, 563, 564, 565, 633, 634, 635, 636, 637, 638, 665, 666, 653, 654, 667, 668] (by decide +kernel) (by decide +kernel)
set_option maxRecDepth 20000 in
theorem gL_law_X5_write : GoodIn wsL_law (wsV RL 96 RX5 yX5_write wsX5_write) := goodIn_app (goodIn_of _ (by decide +kernel)) ggL_law_X5_write
set_option maxRecDepth 20000 in
theorem ggL_law_X6_write : GoodIn wsL_law wsX6_write := goodIn_r _ [569, 117, 76, 72, 75, 70, 570, 119, 120, 5, 121, 206, 207, 208, 209, 69, 68, 219, 220, 221, 639, 640, 641, 642, 643, 644, 645, 646, 647, 648, 649, 650, 651, 652] (by decide +kernel) (by decide +kernel)
set_option maxRecDepth 20000 in
theorem gL_law_X6_write : GoodIn wsL_law (wsV RL 99 RX6 yX6_write wsX6_write) := goodIn_app (goodIn_of _ (by decide +kernel)) ggL_law_X6_write
set_option maxRecDepth 20000 in
theorem ggL_law_X5_type : GoodIn wsL_law wsX5_type := goodIn_r _ [574, 31, 528, 575, 545, 546, 30, 547, 536, 63, 633, 634, 635, 636, 637, 638, 665, 666] (by decide +kernel) (by decide +kernel)
set_option maxRecDepth 20000 in
theorem gL_law_X5_type : GoodIn wsL_law (wsV RL 100 RX5 yX5_type wsX5_type) := goodIn_app (goodIn_of _ (by decide +kernel)) ggL_law_X5_type
set_option maxRecDepth 20000 in
theorem ggL_law_X6_type : GoodIn wsL_law wsX6_type := goodIn_r _ [579, 117, 570, 75, 639, 640, 641, 642, 643, 644, 645, 646, 647, 648, 649, 650, 651, 652] (by decide +kernel) (by decide +kernel)
set_option maxRecDepth 20000 in
theorem gL_law_X6_type : GoodIn wsL_law (wsV RL 103 RX6 yX6_type wsX6_type) := goodIn_app (goodIn_of _ (by decide +kernel)) ggL_law_X6_type
set_option maxRecDepth 20000 in
theorem ggL_law_X5_clear : GoodIn wsL_law wsX5_clear := goodIn_r _ [583, 31, 528, 633, 634, 635, 636, 637, 638, 665, 666] (by decide +kernel) (by decide +kernel)
set_option maxRecDepth 20000 in
theorem gL_law_X5_clear : GoodIn wsL_law (wsV RL 104 RX5 yX5_clear wsX5_clear) := goodIn_app (goodIn_of _ (by decide +kernel)) ggL_law_X5_clear
set_option maxRecDepth 20000 in
theorem ggL_law_X6_clear : GoodIn wsL_law wsX6_clear := goodIn_r _ [587, 117, 570, 639, 640, 641, 642, 643, 644, 645, 646, 647, 648, 649, 650, 651, 652] (by decide +kernel) (by decide +kernel)
set_option maxRecDepth 20000 in
theorem gL_law_X6_clear : GoodIn wsL_law (wsV RL 107 RX6 yX6_clear wsX6_clear) := goodIn_app (goodIn_of _ (by decide +kernel)) ggL_law_X6_clear
set_option maxRecDepth 20000 in
theorem ggL_law_X5_character : GoodIn wsL_law wsX5_character := goodIn_r _ [591, 31, 528, 592, 633, 634, 635, 636, 637, 638, 665, 666] (by decide +kernel) (by decide +kernel)
set_option maxRecDepth 20000 in
theorem gL_law_X5_character : GoodIn wsL_law (wsV RL 108 RX5 yX5_character wsX5_character) := goodIn_app (goodIn_of _ (by decide +kernel)) ggL_law_X5_character
set_option maxRecDepth 20000 in
theorem ggL_law_X6_character : GoodIn wsL_law wsX6_character := goodIn_r _ [596, 117, 570, 75, 639, 640, 641, 642, 643, 644, 645, 646, 647, 648, 649, 650, 651, 652] (by decide +kernel) (by decide +kernel)
set_option maxRecDepth 20000 in
theorem gL_law_X6_character : GoodIn wsL_law (wsV RL 111 RX6 yX6_character wsX6_character) := goodIn_app (goodIn_of _ (by decide +kernel)) ggL_law_X6_character
set_option maxRecDepth 20000 in
theorem ggL_law_X5_read : GoodIn wsL_law wsX5_read := goodIn_r _ [600, 31, 18, 88, 89, 2, 90, 529, 530, 531, 601, 602, 603, 30, 604, 536, 63, 605, 606, 607, 608, 609, 610, 611, 612, 613, 614, 615, 616, 110, 107, 111, 537, 617, 106, 108, 618, 92, 93, 17, 94, 38, 95, 96, 97, 98, 37, 99, 43, 100, 101, 102, 103, 104, 105, 109, 112, 548, 549, 550, 551, 619, 164, 165, 166, 167, 168, 169, 170, 138, 139, 140, 141, 171, 172, 173, 174, 175, 552, 553, 554, 620, 621, 622, 623, 624, 320, 321, 322, 625, 143, 144, 145, 146, 147, 148, 149, 158, 159, 160, 161, 162, 15, 163, 176, 177, 178, 179, 180, 181, 182, 183, 184, 185, 186, 187, 633, 634, 635, 636, 637, 638, 665, 666, 653, 654, 667, 668] (by decide +kernel) (by decide +kernel)
set_option maxRecDepth 20000 in
theorem gL_law_X5_read : GoodIn wsL_law (wsV RL 112 RX5 yX5_read wsX5_read) := goodIn_app (goodIn_of _ (by decide +kernel)) ggL_law_X5_read
set_option maxRecDepth 20000 in
theorem ggL_law_X6_read : GoodIn wsL_law wsX6_read := goodIn_r _ [629, 117, 570, 75, 214, 73, 119, 120, 5, 121, 630, 631, 632, 81, 82, 83, 226, 227, 228, 229, 71, 77, 230, 231, 232, 222, 223, 224, 225, 69, 70, 68, 233, 234, 235, 236, 76, 72, 206, 207, 208, 209, 237, 238, 239, 219, 220, 221, 639, 640, 641, 642, 643, 644, 645, 646, 647, 648, 649, 650, 651, 652] (by decide +kernel) (by decide +kernel)
set_option maxRecDepth 20000 in
theorem gL_law_X6_read : GoodIn wsL_law (wsV RL 115 RX6 yX6_read wsX6_read) := goodIn_app (goodIn_of _ (by decide +kernel)) ggL_law_X6_read
