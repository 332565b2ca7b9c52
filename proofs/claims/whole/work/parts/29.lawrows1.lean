set_option maxRecDepth 20000 in
theorem ggL_law_X3_init : GoodIn wsL_law wsX3_init := goodIn_r _ [8, 9, 10, 11, 12, 13, 14, 15, 16, 17, 18, 19, 20, 21, 22, 23, 24, 25, 26, 27, 28, 29, 30, 31, 32, 33, 34, 35, 36, 37, 38, 39, 40, 41, 42, 2, 43, 44, 45, 46, 47, 48, 49, 50, 51, 52, 53, 54, 55, 56, 57, 58, 59, 60, 61, 62, 63, 64, 65, 66, 67, 68, 69, 70, 71, 72, 73, 74, 75, 76, 77, 78, 79, 80, 81, 82, 83, 84, 85, 86, 87, 88, 89, 90, 91, 92, 93, 94, 95, 96, 97, 516, 517, 518, 519, 520, 521, 494, 495, 496, 497, 498, 499, 522, 523, 524, 525, 526, 527, 528, 529, 530] (by decide +kernel) (by decide +kernel)
set_option maxRecDepth 20000 in
theorem gL_law_X3_init : GoodIn wsL_law (wsX3_init) := ggL_law_X3_init
set_option maxRecDepth 20000 in
theorem ggL_law_X4_init : GoodIn wsL_law wsX4_init := goodIn_r _ [100, 101, 10, 11, 102, 103, 104, 105, 24, 106, 107, 108, 109, 110, 111, 112, 113, 114, 500, 501, 502, 503, 504, 505, 506, 507, 508, 509, 510, 511, 512, 513, 514, 515] (by decide +kernel) (by decide +kernel)
set_option maxRecDepth 20000 in
theorem gL_law_X4_init : GoodIn wsL_law (wsX4_init) := ggL_law_X4_init
set_option maxRecDepth 20000 in
theorem ggL_law_X3_machine : GoodIn wsL_law wsX3_machine := goodIn_r _ [118, 15, 44, 78, 79, 2, 80, 119, 120, 121, 122, 123, 59, 124, 125, 64, 65, 40, 41, 42, 43, 19, 45, 46, 47, 14, 48, 49, 50, 51, 52, 53, 54, 55, 56, 57, 58, 60, 61, 62, 63, 66, 67, 68, 18, 69, 70, 34, 71, 72, 73, 74, 75, 76, 77, 81, 82, 83, 84, 85, 86, 87, 88, 89, 90, 91, 92, 93, 94, 95, 96, 97, 494, 495, 496, 497, 498, 499, 516, 517, 518, 519, 520, 521, 522, 523, 524] (by decide +kernel) (by decide +kernel)
set_option maxRecDepth 20000 in
theorem gL_law_X3_machine : GoodIn wsL_law (wsV RL 13 RX3 yX3_machine wsX3_machine) := goodIn_app (goodIn_of _ (by decide +kernel)) ggL_law_X3_machine
set_option maxRecDepth 20000 in
theorem ggL_law_X4_machine : GoodIn wsL_law wsX4_machine := goodIn_r _ [129, 102, 103, 104, 105, 130, 131, 5, 132, 133, 134, 135, 136, 137, 138, 139, 140, 141, 142, 143, 144, 145, 146, 147, 148, 149, 150, 500, 501, 502, 503, 504, 505, 506, 507, 508, 509, 510, 511, 512, 513, 514, 515] (by decide +kernel) (by decide +kernel)
set_option maxRecDepth 20000 in
theorem gL_law_X4_machine : GoodIn wsL_law (wsV RL 17 RX4 yX4_machine wsX4_machine) := goodIn_app (goodIn_of _ (by decide +kernel)) ggL_law_X4_machine
set_option maxRecDepth 20000 in
theorem ggL_law_X3_width : GoodIn wsL_law wsX3_width := goodIn_r _ [154, 15, 155, 156, 78, 79, 2, 80, 494, 495, 496, 497, 498, 499, 516, 517, 518, 519, 520, 521] (by decide +kernel) (by decide +kernel)
set_option maxRecDepth 20000 in
theorem gL_law_X3_width : GoodIn wsL_law (wsV RL 18 RX3 yX3_width wsX3_width) := goodIn_app (goodIn_of _ (by decide +kernel)) ggL_law_X3_width
set_option maxRecDepth 20000 in
theorem ggL_law_X4_width : GoodIn wsL_law wsX4_width := goodIn_r _ [160, 102, 105, 130, 131, 5, 132, 500, 501, 502, 503, 504, 505, 506, 507, 508, 509, 510, 511, 512, 513, 514, 515] (by decide +kernel) (by decide +kernel)
set_option maxRecDepth 20000 in
theorem gL_law_X4_width : GoodIn wsL_law (wsV RL 22 RX4 yX4_width wsX4_width) := goodIn_app (goodIn_of _ (by decide +kernel)) ggL_law_X4_width
set_option maxRecDepth 20000 in
theorem ggL_law_X3_lacking : GoodIn wsL_law wsX3_lacking := goodIn_r _ [164, 15, 165, 166, 167, 14, 168, 51, 54, 55, 2, 56, 57, 58, 59, 60, 61, 62, 63, 64, 65, 494, 495, 496, 497, 498, 499, 516, 517, 518, 519, 520, 521] (by decide +kernel) (by decide +kernel)
set_option maxRecDepth 20000 in
theorem gL_law_X3_lacking : GoodIn wsL_law (wsV RL 23 RX3 yX3_lacking wsX3_lacking) := goodIn_app (goodIn_of _ (by decide +kernel)) ggL_law_X3_lacking
set_option maxRecDepth 20000 in
theorem ggL_law_X4_lacking : GoodIn wsL_law wsX4_lacking := goodIn_r _ [172, 104, 140, 141, 142, 5, 143, 102, 144, 145, 146, 147, 103, 148, 149, 150, 500, 501, 502, 503, 504, 505, 506, 507, 508, 509, 510, 511, 512, 513, 514, 515] (by decide +kernel) (by decide +kernel)
set_option maxRecDepth 20000 in
theorem gL_law_X4_lacking : GoodIn wsL_law (wsV RL 27 RX4 yX4_lacking wsX4_lacking) := goodIn_app (goodIn_of _ (by decide +kernel)) ggL_law_X4_lacking
set_option maxRecDepth 20000 in
theorem ggL_law_X3_slot : GoodIn wsL_law wsX3_slot := goodIn_r _ [176, 15, 156, 177, 178, 179, 2, 180, 155, 78, 79, 80, 181, 182, 183, 14, 184, 185, 166, 167, 168, 51, 54, 55, 56, 57, 58, 59, 60, 61, 62, 63, 64, 65, 186, 187, 188, 189, 50, 49, 53, 190, 191, 192, 193, 194, 195, 196, 197, 198, 199, 200, 201, 202, 203, 204, 205, 206, 207, 208, 209, 210, 211, 212, 213, 214, 215, 52, 494, 495, 496, 497, 498, 499, 516, 517, 518, 519, 520, 521] (by decide +kernel) (by decide +kernel)
set_option maxRecDepth 20000 in
theorem gL_law_X3_slot : GoodIn wsL_law (wsV RL 28 RX3 yX3_slot wsX3_slot) := goodIn_app (goodIn_of _ (by decide +kernel)) ggL_law_X3_slot
set_option maxRecDepth 20000 in
theorem ggL_law_X4_slot : GoodIn wsL_law wsX4_slot := goodIn_r _ [219, 105, 102, 220, 221, 222, 5, 223, 130, 131, 132, 224, 225, 226, 227, 104, 140, 141, 142, 143, 144, 145, 146, 147, 103, 148, 149, 150, 228, 229, 230, 231, 232, 233, 234, 235, 236, 237, 238, 239, 240, 241, 242, 243, 244, 245, 246, 247, 500, 501, 502, 503, 504, 505, 506, 507, 508, 509, 510, 511, 512, 513, 514, 515] (by decide +kernel) (by decide +kernel)
set_option maxRecDepth 20000 in
theorem gL_law_X4_slot : GoodIn wsL_law (wsV RL 32 RX4 yX4_slot wsX4_slot) := goodIn_app (goodIn_of _ (by decide +kernel)) ggL_law_X4_slot
set_option maxRecDepth 20000 in
theorem ggL_law_X3_phase : GoodIn wsL_law wsX3_phase := goodIn_r _ [251, 15, 252, 253, 254, 2, 255, 256, 78, 79, 80, 181, 182, 183, 14, 184, 185, 166, 167, 168, 51, 54, 55, 56, 57, 58, 59, 60, 61, 62, 63, 64, 65, 257, 258, 259, 260, 49, 261, 200, 201, 202, 203, 195, 196, 197, 198, 187, 188, 189, 50, 53, 262, 205, 206, 207, 494, 495, 496, 497, 498, 499, 516, 517, 518, 519, 520, 521] (by decide +kernel) (by decide +kernel)
set_option maxRecDepth 20000 in
theorem gL_law_X3_phase : GoodIn wsL_law (wsV RL 33 RX3 yX3_phase wsX3_phase) := goodIn_app (goodIn_of _ (by decide +kernel)) ggL_law_X3_phase
set_option maxRecDepth 20000 in
theorem ggL_law_X4_phase : GoodIn wsL_law wsX4_phase := goodIn_r _ [266, 102, 267, 268, 269, 5, 270, 104, 130, 131, 132, 224, 225, 226, 227, 140, 141, 142, 143, 144, 145, 146, 147, 103, 148, 149, 150, 236, 237, 238, 239, 232, 233, 234, 235, 228, 229, 230, 231, 240, 241, 242, 243, 500, 501, 502, 503, 504, 505, 506, 507, 508, 509, 510, 511, 512, 513, 514, 515] (by decide +kernel) (by decide +kernel)
set_option maxRecDepth 20000 in
theorem gL_law_X4_phase : GoodIn wsL_law (wsV RL 36 RX4 yX4_phase wsX4_phase) := goodIn_app (goodIn_of _ (by decide +kernel)) ggL_law_X4_phase
set_option maxRecDepth 20000 in
theorem ggL_law_X3_layer : GoodIn wsL_law wsX3_layer := goodIn_r _ [274, 15, 177, 178, 179, 2, 180, 155, 78, 79, 80, 181, 182, 183, 14, 184, 185, 166, 167, 168, 51, 54, 55, 56, 57, 58, 59, 60, 61, 62, 63, 64, 65, 212, 213, 214, 215, 52, 49, 204, 205, 206, 207, 203, 195, 196, 197, 198, 187, 188, 189, 50, 53, 199, 200, 201, 202, 494, 495, 496, 497, 498, 499, 516, 517, 518, 519, 520, 521] (by decide +kernel) (by decide +kernel)
set_option maxRecDepth 20000 in
theorem gL_law_X3_layer : GoodIn wsL_law (wsV RL 37 RX3 yX3_layer wsX3_layer) := goodIn_app (goodIn_of _ (by decide +kernel)) ggL_law_X3_layer
set_option maxRecDepth 20000 in
theorem ggL_law_X4_layer : GoodIn wsL_law wsX4_layer := goodIn_r _ [278, 220, 221, 222, 5, 223, 102, 130, 131, 132, 224, 225, 226, 227, 104, 140, 141, 142, 143, 144, 145, 146, 147, 103, 148, 149, 150, 244, 245, 246, 247, 105, 236, 237, 238, 239, 232, 233, 234, 235, 228, 229, 230, 231, 240, 241, 242, 243, 500, 501, 502, 503, 504, 505, 506, 507, 508, 509, 510, 511, 512, 513, 514, 515] (by decide +kernel) (by decide +kernel)
set_option maxRecDepth 20000 in
theorem gL_law_X4_layer : GoodIn wsL_law (wsV RL 40 RX4 yX4_layer wsX4_layer) := goodIn_app (goodIn_of _ (by decide +kernel)) ggL_law_X4_layer
set_option maxRecDepth 20000 in
theorem ggL_law_X3_each : GoodIn wsL_law wsX3_each := goodIn_r _ [282, 15, 283, 256, 155, 78, 79, 2, 80, 284, 55, 56, 57, 58, 59, 60, 61, 62, 63, 125, 64, 65, 494, 495, 496, 497, 498, 499, 516, 517, 518, 519, 520, 521] (by decide +kernel) (by decide +kernel)
set_option maxRecDepth 20000 in
theorem gL_law_X3_each : GoodIn wsL_law (wsV RL 41 RX3 yX3_each wsX3_each) := goodIn_app (goodIn_of _ (by decide +kernel)) ggL_law_X3_each
set_option maxRecDepth 20000 in
theorem ggL_law_X4_each : GoodIn wsL_law wsX4_each := goodIn_r _ [288, 103, 104, 102, 130, 131, 5, 132, 148, 149, 150, 500, 501, 502, 503, 504, 505, 506, 507, 508, 509, 510, 511, 512, 513, 514, 515] (by decide +kernel) (by decide +kernel)
set_option maxRecDepth 20000 in
theorem gL_law_X4_each : GoodIn wsL_law (wsV RL 44 RX4 yX4_each wsX4_each) := goodIn_app (goodIn_of _ (by decide +kernel)) ggL_law_X4_each
set_option maxRecDepth 20000 in
theorem ggL_law_X3_own : GoodIn wsL_law wsX3_own := goodIn_r _ [292, 19, 293, 294, 78, 79, 2, 80, 295, 88, 89, 494, 495, 496, 497, 498, 499, 522, 523, 524] (by decide +kernel) (by decide +kernel)
set_option maxRecDepth 20000 in
theorem gL_law_X3_own : GoodIn wsL_law (wsV RL 45 RX3 yX3_own wsX3_own) := goodIn_app (goodIn_of _ (by decide +kernel)) ggL_law_X3_own
set_option maxRecDepth 20000 in
theorem ggL_law_X4_own : GoodIn wsL_law wsX4_own := goodIn_r _ [299, 107, 106, 300, 301, 302, 5, 303, 140, 141, 142, 143, 102, 144, 145, 146, 147, 103, 148, 149, 150, 304, 305, 306, 307, 108, 308, 309, 310, 311, 130, 131, 132, 500, 501, 502, 503, 504, 505, 506, 507, 508, 509, 510, 511, 512, 513, 514, 515] (by decide +kernel) (by decide +kernel)
set_option maxRecDepth 20000 in
theorem gL_law_X4_own : GoodIn wsL_law (wsV RL 48 RX4 yX4_own wsX4_own) := goodIn_app (goodIn_of _ (by decide +kernel)) ggL_law_X4_own
set_option maxRecDepth 20000 in
theorem ggL_law_X3_sum : GoodIn wsL_law wsX3_sum := goodIn_r _ [315, 316, 19, 293, 317, 15, 318, 25, 156, 252, 253, 254, 2, 255, 256, 78, 79, 80, 319, 320, 321, 181, 182, 183, 14, 184, 185, 166, 167, 168, 51, 54, 55, 56, 57, 58, 59, 60, 61, 62, 63, 64, 65, 322, 323, 324, 325, 44, 326, 73, 74, 75, 199, 200, 201, 202, 203, 195, 196, 197, 198, 187, 188, 189, 50, 49, 53, 204, 205, 206, 207, 186, 327, 328, 329, 330, 295, 88, 89, 331, 76, 77, 208, 209, 210, 211, 332, 333, 334, 18, 335, 70, 71, 34, 494, 495, 496, 497, 498, 499, 522, 523, 524, 516, 517, 518, 519, 520, 521] (by decide +kernel) (by decide +kernel)
set_option maxRecDepth 20000 in
theorem gL_law_X3_sum : GoodIn wsL_law (wsV RL 49 RX3 yX3_sum wsX3_sum) := goodIn_app (goodIn_of _ (by decide +kernel)) ggL_law_X3_sum
set_option maxRecDepth 20000 in
theorem ggL_law_X4_sum : GoodIn wsL_law wsX4_sum := goodIn_r _ [339, 340, 107, 341, 342, 105, 109, 267, 268, 269, 5, 270, 104, 130, 131, 132, 300, 301, 302, 303, 140, 141, 142, 143, 102, 144, 145, 146, 147, 103, 148, 149, 150, 304, 305, 306, 307, 108, 106, 308, 309, 310, 311, 224, 225, 226, 227, 343, 344, 345, 346, 236, 237, 238, 239, 232, 233, 234, 235, 228, 229, 230, 231, 240, 241, 242, 243, 347, 348, 349, 350, 500, 501, 502, 503, 504, 505, 506, 507, 508, 509, 510, 511, 512, 513, 514, 515] (by decide +kernel) (by decide +kernel)
set_option maxRecDepth 20000 in
theorem gL_law_X4_sum : GoodIn wsL_law (wsV RL 52 RX4 yX4_sum wsX4_sum) := goodIn_app (goodIn_of _ (by decide +kernel)) ggL_law_X4_sum
set_option maxRecDepth 20000 in
theorem ggL_law_X3_vanishes : GoodIn wsL_law wsX3_vanishes := goodIn_r _ [354, 15, 156, 319, 320, 2, 321, 78, 79, 80, 181, 182, 183, 14, 184, 185, 166, 167, 168, 51, 54, 55, 56, 57, 58, 59, 60, 61, 62, 63, 64, 65, 355, 356, 357, 358, 25, 19, 322, 323, 324, 325, 44, 326, 73, 74, 75, 199, 200, 201, 202, 203, 195, 196, 197, 198, 187, 188, 189, 50, 49, 53, 204, 205, 206, 207, 186, 327, 328, 329, 330, 295, 88, 89, 331, 76, 77, 208, 209, 210, 211, 332, 333, 334, 18, 335, 70, 71, 34, 359, 360, 361, 362, 494, 495, 496, 497, 498, 499, 516, 517, 518, 519, 520, 521, 522, 523, 524] (by decide +kernel) (by decide +kernel)
set_option maxRecDepth 20000 in
theorem gL_law_X3_vanishes : GoodIn wsL_law (wsV RL 53 RX3 yX3_vanishes wsX3_vanishes) := goodIn_app (goodIn_of _ (by decide +kernel)) ggL_law_X3_vanishes
set_option maxRecDepth 20000 in
theorem ggL_law_X4_vanishes : GoodIn wsL_law wsX4_vanishes := goodIn_r _ [366, 105, 130, 131, 5, 132, 224, 225, 226, 227, 104, 140, 141, 142, 143, 102, 144, 145, 146, 147, 103, 148, 149, 150, 367, 368, 369, 370, 109, 343, 344, 345, 346, 300, 301, 302, 303, 304, 305, 306, 307, 108, 106, 107, 308, 309, 310, 311, 236, 237, 238, 239, 232, 233, 234, 235, 228, 229, 230, 231, 240, 241, 242, 243, 347, 348, 349, 350, 500, 501, 502, 503, 504, 505, 506, 507, 508, 509, 510, 511, 512, 513, 514, 515] (by decide +kernel) (by decide +kernel)
set_option maxRecDepth 20000 in
theorem gL_law_X4_vanishes : GoodIn wsL_law (wsV RL 56 RX4 yX4_vanishes wsX4_vanishes) := goodIn_app (goodIn_of _ (by decide +kernel)) ggL_law_X4_vanishes
set_option maxRecDepth 20000 in
theorem ggL_law_X3_choose : GoodIn wsL_law wsX3_choose := goodIn_r _ [374, 15, 155, 283, 319, 320, 2, 321, 78, 79, 80, 181, 182, 183, 14, 184, 185, 166, 167, 168, 51, 54, 55, 56, 57, 58, 59, 60, 61, 62, 63, 64, 65, 119, 120, 121, 122, 123, 124, 125, 355, 356, 357, 358, 25, 19, 322, 323, 324, 325, 44, 326, 73, 74, 75, 199, 200, 201, 202, 203, 195, 196, 197, 198, 187, 188, 189, 50, 49, 53, 204, 205, 206, 207, 186, 327, 328, 329, 330, 295, 88, 89, 331, 76, 77, 208, 209, 210, 211, 332, 333, 334, 18, 335, 70, 71, 34, 359, 360, 361, 362, 494, 495, 496, 497, 498, 499, 516, 517, 518, 519, 520, 521, 522, 523, 524] (by decide +kernel) (by decide +kernel)
set_option maxRecDepth 20000 in
theorem gL_law_X3_choose : GoodIn wsL_law (wsV RL 57 RX3 yX3_choose wsX3_choose) := goodIn_app (goodIn_of _ (by decide +kernel)) ggL_law_X3_choose
set_option maxRecDepth 20000 in
theorem ggL_law_X4_choose : GoodIn wsL_law wsX4_choose := goodIn_r _ [378, 130, 131, 5, 132, 224, 225, 226, 227, 104, 140, 141, 142, 143, 102, 144, 145, 146, 147, 103, 148, 149, 150, 133, 134, 135, 136, 137, 138, 139, 367, 368, 369, 370, 109, 343, 344, 345, 346, 300, 301, 302, 303, 304, 305, 306, 307, 108, 106, 107, 308, 309, 310, 311, 236, 237, 238, 239, 232, 233, 234, 235, 228, 229, 230, 231, 240, 241, 242, 243, 347, 348, 349, 350, 500, 501, 502, 503, 504, 505, 506, 507, 508, 509, 510, 511, 512, 513, 514, 515] (by decide +kernel) (by decide +kernel)
set_option maxRecDepth 20000 in
theorem gL_law_X4_choose : GoodIn wsL_law (wsV RL 60 RX4 yX4_choose wsX4_choose) := goodIn_app (goodIn_of _ (by decide +kernel)) ggL_law_X4_choose
set_option maxRecDepth 20000 in
theorem ggL_law_X3_turned : GoodIn wsL_law wsX3_turned := goodIn_r _ [382, 15, 25, 156, 26, 44, 19, 252, 253, 254, 2, 255, 256, 78, 79, 80, 319, 320, 321, 181, 182, 183, 14, 184, 185, 166, 167, 168, 51, 54, 55, 56, 57, 58, 59, 60, 61, 62, 63, 64, 65, 322, 323, 324, 325, 326, 73, 74, 75, 199, 200, 201, 202, 203, 195, 196, 197, 198, 187, 188, 189, 50, 49, 53, 204, 205, 206, 207, 186, 327, 328, 329, 330, 295, 88, 89, 331, 76, 77, 208, 209, 210, 211, 332, 333, 334, 18, 335, 70, 71, 34, 383, 384, 385, 386, 387, 388, 389, 390, 494, 495, 496, 497, 498, 499, 516, 517, 518, 519, 520, 521, 522, 523, 524] (by decide +kernel) (by decide +kernel)
set_option maxRecDepth 20000 in
theorem gL_law_X3_turned : GoodIn wsL_law (wsV RL 61 RX3 yX3_turned wsX3_turned) := goodIn_app (goodIn_of _ (by decide +kernel)) ggL_law_X3_turned
set_option maxRecDepth 20000 in
theorem ggL_law_X4_turned : GoodIn wsL_law wsX4_turned := goodIn_r _ [394, 105, 109, 267, 268, 269, 5, 270, 104, 130, 131, 132, 224, 225, 226, 227, 140, 141, 142, 143, 102, 144, 145, 146, 147, 103, 148, 149, 150, 343, 344, 345, 346, 300, 301, 302, 303, 304, 305, 306, 307, 108, 106, 107, 308, 309, 310, 311, 236, 237, 238, 239, 232, 233, 234, 235, 228, 229, 230, 231, 240, 241, 242, 243, 347, 348, 349, 350, 500, 501, 502, 503, 504, 505, 506, 507, 508, 509, 510, 511, 512, 513, 514, 515] (by decide +kernel) (by decide +kernel)
set_option maxRecDepth 20000 in
theorem gL_law_X4_turned : GoodIn wsL_law (wsV RL 64 RX4 yX4_turned wsX4_turned) := goodIn_app (goodIn_of _ (by decide +kernel)) ggL_law_X4_turned
set_option maxRecDepth 20000 in
theorem ggL_law_X3_joined : GoodIn wsL_law wsX3_joined := goodIn_r _ [398, 15, 23, 399, 400, 401, 252, 253, 254, 2, 255, 256, 78, 79, 80, 181, 182, 183, 14, 184, 185, 166, 167, 168, 51, 54, 55, 56, 57, 58, 59, 60, 61, 62, 63, 64, 65, 402, 403, 404, 22, 405, 406, 407, 408, 409, 410, 411, 412, 413, 414, 38, 39, 415, 200, 201, 202, 203, 195, 196, 197, 198, 187, 188, 189, 50, 49, 53, 416, 205, 206, 207, 76, 77, 417, 418, 419, 420, 88, 89, 421, 422, 423, 424, 425, 426, 427, 428, 429, 430, 431, 432, 494, 495, 496, 497, 498, 499, 525, 526, 527, 528, 529, 530, 516, 517, 518, 519, 520, 521] (by decide +kernel) (by decide +kernel)
set_option maxRecDepth 20000 in
theorem gL_law_X3_joined : GoodIn wsL_law (wsV RL 65 RX3 yX3_joined wsX3_joined) := goodIn_app (goodIn_of _ (by decide +kernel)) ggL_law_X3_joined
set_option maxRecDepth 20000 in
theorem ggL_law_X4_joined : GoodIn wsL_law wsX4_joined := goodIn_r _ [436, 437, 438, 439, 267, 268, 269, 5, 270, 104, 130, 131, 132, 224, 225, 226, 227, 140, 141, 142, 143, 102, 144, 145, 146, 147, 103, 148, 149, 150, 440, 441, 442, 443, 444, 110, 111, 236, 237, 238, 239, 232, 233, 234, 235, 228, 229, 230, 231, 240, 241, 242, 243, 445, 446, 447, 448, 500, 501, 502, 503, 504, 505, 506, 507, 508, 509, 510, 511, 512, 513, 514, 515] (by decide +kernel) (by decide +kernel)
set_option maxRecDepth 20000 in
theorem gL_law_X4_joined : GoodIn wsL_law (wsV RL 68 RX4 yX4_joined wsX4_joined) := goodIn_app (goodIn_of _ (by decide +kernel)) ggL_law_X4_joined
set_option maxRecDepth 20000 in
theorem ggL_law_X3_partner : GoodIn wsL_law wsX3_partner := goodIn_r _ [452, 15, 23, 177, 178, 179, 2, 180, 155, 78, 79, 80, 181, 182, 183, 14, 184, 185, 166, 167, 168, 51, 54, 55, 56, 57, 58, 59, 60, 61, 62, 63, 64, 65, 199, 200, 201, 202, 203, 195, 196, 197, 198, 187, 188, 189, 50, 49, 53, 402, 403, 404, 22, 405, 406, 407, 408, 409, 410, 411, 412, 413, 414, 38, 39, 415, 416, 205, 206, 207, 76, 77, 417, 418, 419, 420, 88, 89, 421, 422, 423, 424, 425, 426, 427, 428, 429, 430, 431, 432, 204, 453, 454, 455, 456, 494, 495, 496, 497, 498, 499, 516, 517, 518, 519, 520, 521, 525, 526, 527, 528, 529, 530] (by decide +kernel) (by decide +kernel)
set_option maxRecDepth 20000 in
theorem gL_law_X3_partner : GoodIn wsL_law (wsV RL 69 RX3 yX3_partner wsX3_partner) := goodIn_app (goodIn_of _ (by decide +kernel)) ggL_law_X3_partner
set_option maxRecDepth 20000 in
theorem ggL_law_X4_partner : GoodIn wsL_law wsX4_partner := goodIn_r _ [460, 439, 111, 438, 444, 110, 220, 221, 222, 5, 223, 102, 130, 131, 132, 224, 225, 226, 227, 104, 140, 141, 142, 143, 144, 145, 146, 147, 103, 148, 149, 150, 236, 237, 238, 239, 232, 233, 234, 235, 228, 229, 230, 231, 440, 441, 442, 443, 437, 240, 241, 242, 243, 445, 446, 447, 448, 500, 501, 502, 503, 504, 505, 506, 507, 508, 509, 510, 511, 512, 513, 514, 515] (by decide +kernel) (by decide +kernel)
set_option maxRecDepth 20000 in
theorem gL_law_X4_partner : GoodIn wsL_law (wsV RL 72 RX4 yX4_partner wsX4_partner) := goodIn_app (goodIn_of _ (by decide +kernel)) ggL_law_X4_partner
set_option maxRecDepth 20000 in
theorem ggL_law_X3_path : GoodIn wsL_law wsX3_path := goodIn_r _ [464, 15, 465, 177, 178, 179, 2, 180, 155, 78, 79, 80, 61, 62, 63, 190, 191, 192, 14, 193, 54, 64, 65, 494, 495, 496, 497, 498, 499, 516, 517, 518, 519, 520, 521] (by decide +kernel) (by decide +kernel)
set_option maxRecDepth 20000 in
theorem gL_law_X3_path : GoodIn wsL_law (wsV RL 73 RX3 yX3_path wsX3_path) := goodIn_app (goodIn_of _ (by decide +kernel)) ggL_law_X3_path
set_option maxRecDepth 20000 in
theorem ggL_law_X4_path : GoodIn wsL_law wsX4_path := goodIn_r _ [469, 220, 221, 222, 5, 223, 102, 130, 131, 132, 144, 145, 146, 147, 103, 148, 149, 150, 140, 141, 142, 143, 500, 501, 502, 503, 504, 505, 506, 507, 508, 509, 510, 511, 512, 513, 514, 515] (by decide +kernel) (by decide +kernel)
set_option maxRecDepth 20000 in
theorem gL_law_X4_path : GoodIn wsL_law (wsV RL 76 RX4 yX4_path wsX4_path) := goodIn_app (goodIn_of _ (by decide +kernel)) ggL_law_X4_path
set_option maxRecDepth 20000 in
theorem ggL_law_X3_image : GoodIn wsL_law wsX3_image := goodIn_r _ [473, 27, 15, 155, 283, 256, 156, 78, 79, 2, 80, 331, 76, 77, 494, 495, 496, 497, 498, 499, 516, 517, 518, 519, 520, 521] (by decide +kernel) (by decide +kernel)
set_option maxRecDepth 20000 in
theorem gL_law_X3_image : GoodIn wsL_law (wsV RL 77 RX3 yX3_image wsX3_image) := goodIn_app (goodIn_of _ (by decide +kernel)) ggL_law_X3_image
set_option maxRecDepth 20000 in
theorem ggL_law_X4_image : GoodIn wsL_law wsX4_image := goodIn_r _ [477, 112, 102, 103, 104, 105, 114, 130, 131, 5, 132, 500, 501, 502, 503, 504, 505, 506, 507, 508, 509, 510, 511, 512, 513, 514, 515] (by decide +kernel) (by decide +kernel)
set_option maxRecDepth 20000 in
theorem gL_law_X4_image : GoodIn wsL_law (wsV RL 80 RX4 yX4_image wsX4_image) := goodIn_app (goodIn_of _ (by decide +kernel)) ggL_law_X4_image
set_option maxRecDepth 20000 in
theorem ggL_law_X3_restore : GoodIn wsL_law wsX3_restore := goodIn_r _ [481, 27, 78, 79, 2, 80, 295, 88, 89, 40, 41, 42, 43, 15, 19, 44, 45, 46, 47, 14, 48, 49, 50, 51, 52, 53, 54, 55, 56, 57, 58, 59, 60, 61, 62, 63, 64, 65, 66, 67, 68, 18, 69, 70, 34, 71, 72, 73, 74, 75, 76, 77, 81, 82, 83, 84, 85, 86, 87, 90, 91, 92, 93, 94, 95, 96, 97, 494, 495, 496, 497, 498, 499, 516, 517, 518, 519, 520, 521, 522, 523, 524] (by decide +kernel) (by decide +kernel)
set_option maxRecDepth 20000 in
theorem gL_law_X3_restore : GoodIn wsL_law (wsV RL 81 RX3 yX3_restore wsX3_restore) := goodIn_app (goodIn_of _ (by decide +kernel)) ggL_law_X3_restore
set_option maxRecDepth 20000 in
theorem ggL_law_X4_restore : GoodIn wsL_law wsX4_restore := goodIn_r _ [485, 114, 112, 102, 103, 104, 105, 130, 131, 5, 132, 500, 501, 502, 503, 504, 505, 506, 507, 508, 509, 510, 511, 512, 513, 514, 515] (by decide +kernel) (by decide +kernel)
set_option maxRecDepth 20000 in
theorem gL_law_X4_restore : GoodIn wsL_law (wsV RL 84 RX4 yX4_restore wsX4_restore) := goodIn_app (goodIn_of _ (by decide +kernel)) ggL_law_X4_restore
set_option maxRecDepth 20000 in
theorem ggL_law_X3_told : GoodIn wsL_law wsX3_told := goodIn_r _ [489, 15, 155, 283, 256, 156, 465, 44, 181, 182, 183, 14, 184, 185, 166, 167, 168, 51, 54, 55, 2, 56, 57, 58, 59, 60, 61, 62, 63, 64, 65, 494, 495, 496, 497, 498, 499, 516, 517, 518, 519, 520, 521] (by decide +kernel) (by decide +kernel)
set_option maxRecDepth 20000 in
theorem gL_law_X3_told : GoodIn wsL_law (wsV RL 85 RX3 yX3_told wsX3_told) := goodIn_app (goodIn_of _ (by decide +kernel)) ggL_law_X3_told
set_option maxRecDepth 20000 in
theorem ggL_law_X4_told : GoodIn wsL_law wsX4_told := goodIn_r _ [493, 102, 103, 104, 105, 144, 145, 146, 5, 147, 148, 149, 150, 140, 141, 142, 143, 224, 225, 226, 227, 500, 501, 502, 503, 504, 505, 506, 507, 508, 509, 510, 511, 512, 513, 514, 515] (by decide +kernel) (by decide +kernel)
set_option maxRecDepth 20000 in
theorem gL_law_X4_told : GoodIn wsL_law (wsV RL 88 RX4 yX4_told wsX4_told) := goodIn_app (goodIn_of _ (by decide +kernel)) ggL_law_X4_told
theorem dL_law_0 : decode cL_law 0 = .ok (.new 7, 3) := by decide +kernel
theorem dL_law_3 : decode cL_law 3 = .ok (.dup, 1) := by decide +kernel
theorem dL_law_4 : decode cL_law 4 = .ok (.invokespecial 9, 3) := by decide +kernel
theorem dL_law_7 : decode cL_law 7 = .ok (.astore_n 1, 1) := by decide +kernel
theorem dL_law_8 : decode cL_law 8 = .ok (.new 10, 3) := by decide +kernel
theorem dL_law_11 : decode cL_law 11 = .ok (.dup, 1) := by decide +kernel
theorem dL_law_12 : decode cL_law 12 = .ok (.invokespecial 12, 3) := by decide +kernel
theorem dL_law_15 : decode cL_law 15 = .ok (.astore_n 2, 1) := by decide +kernel
theorem dL_law_16 : decode cL_law 16 = .ok (.iconst 0, 1) := by decide +kernel
theorem dL_law_17 : decode cL_law 17 = .ok (.istore_n 3, 1) := by decide +kernel
theorem dL_law_18 : decode cL_law 18 = .ok (.iload_n 3, 1) := by decide +kernel
theorem dL_law_19 : decode cL_law 19 = .ok (.aload_n 0, 1) := by decide +kernel
theorem dL_law_20 : decode cL_law 20 = .ok (.arraylength, 1) := by decide +kernel
theorem dL_law_21 : decode cL_law 21 = .ok (.iconst 4, 1) := by decide +kernel
theorem dL_law_22 : decode cL_law 22 = .ok (.isub, 1) := by decide +kernel
theorem dL_law_23 : decode cL_law 23 = .ok (.if_icmp .gt 617, 3) := by decide +kernel
theorem dL_law_26 : decode cL_law 26 = .ok (.aload_n 0, 1) := by decide +kernel
theorem dL_law_27 : decode cL_law 27 = .ok (.iload_n 3, 1) := by decide +kernel
theorem dL_law_28 : decode cL_law 28 = .ok (.iaload, 1) := by decide +kernel
theorem dL_law_29 : decode cL_law 29 = .ok (.bipush 31, 2) := by decide +kernel
theorem dL_law_31 : decode cL_law 31 = .ok (.iand, 1) := by decide +kernel
theorem dL_law_32 : decode cL_law 32 = .ok (.tableswitch 602 0 17 #[88, 131, 154, 167, 200, 233, 266, 289, 312, 355, 378, 401, 444, 477, 500, 533, 556, 579], 88) := by decide +kernel
theorem dL_law_120 : decode cL_law 120 = .ok (.aload_n 1, 1) := by decide +kernel
theorem dL_law_121 : decode cL_law 121 = .ok (.aload_n 0, 1) := by decide +kernel
theorem dL_law_122 : decode cL_law 122 = .ok (.iload_n 3, 1) := by decide +kernel
theorem dL_law_123 : decode cL_law 123 = .ok (.iconst 1, 1) := by decide +kernel
theorem dL_law_124 : decode cL_law 124 = .ok (.iadd, 1) := by decide +kernel
theorem dL_law_125 : decode cL_law 125 = .ok (.iaload, 1) := by decide +kernel
theorem dL_law_126 : decode cL_law 126 = .ok (.aload_n 0, 1) := by decide +kernel
theorem dL_law_127 : decode cL_law 127 = .ok (.iload_n 3, 1) := by decide +kernel
theorem dL_law_128 : decode cL_law 128 = .ok (.iconst 2, 1) := by decide +kernel
theorem dL_law_129 : decode cL_law 129 = .ok (.iadd, 1) := by decide +kernel
theorem dL_law_130 : decode cL_law 130 = .ok (.iaload, 1) := by decide +kernel
theorem dL_law_131 : decode cL_law 131 = .ok (.aload_n 0, 1) := by decide +kernel
theorem dL_law_132 : decode cL_law 132 = .ok (.iload_n 3, 1) := by decide +kernel
theorem dL_law_133 : decode cL_law 133 = .ok (.iconst 3, 1) := by decide +kernel
theorem dL_law_134 : decode cL_law 134 = .ok (.iadd, 1) := by decide +kernel
theorem dL_law_135 : decode cL_law 135 = .ok (.iaload, 1) := by decide +kernel
theorem dL_law_136 : decode cL_law 136 = .ok (.invokevirtual 13, 3) := by decide +kernel
theorem dL_law_139 : decode cL_law 139 = .ok (.aload_n 2, 1) := by decide +kernel
theorem dL_law_140 : decode cL_law 140 = .ok (.aload_n 0, 1) := by decide +kernel
theorem dL_law_141 : decode cL_law 141 = .ok (.iload_n 3, 1) := by decide +kernel
theorem dL_law_142 : decode cL_law 142 = .ok (.iconst 1, 1) := by decide +kernel
theorem dL_law_143 : decode cL_law 143 = .ok (.iadd, 1) := by decide +kernel
theorem dL_law_144 : decode cL_law 144 = .ok (.iaload, 1) := by decide +kernel
theorem dL_law_145 : decode cL_law 145 = .ok (.aload_n 0, 1) := by decide +kernel
theorem dL_law_146 : decode cL_law 146 = .ok (.iload_n 3, 1) := by decide +kernel
theorem dL_law_147 : decode cL_law 147 = .ok (.iconst 2, 1) := by decide +kernel
theorem dL_law_148 : decode cL_law 148 = .ok (.iadd, 1) := by decide +kernel
theorem dL_law_149 : decode cL_law 149 = .ok (.iaload, 1) := by decide +kernel
theorem dL_law_150 : decode cL_law 150 = .ok (.aload_n 0, 1) := by decide +kernel
theorem dL_law_151 : decode cL_law 151 = .ok (.iload_n 3, 1) := by decide +kernel
theorem dL_law_152 : decode cL_law 152 = .ok (.iconst 3, 1) := by decide +kernel
theorem dL_law_153 : decode cL_law 153 = .ok (.iadd, 1) := by decide +kernel
theorem dL_law_154 : decode cL_law 154 = .ok (.iaload, 1) := by decide +kernel
theorem dL_law_155 : decode cL_law 155 = .ok (.invokevirtual 17, 3) := by decide +kernel
theorem dL_law_158 : decode cL_law 158 = .ok (.if_icmp .eq 476, 3) := by decide +kernel
theorem dL_law_161 : decode cL_law 161 = .ok (.iconst 0, 1) := by decide +kernel
theorem dL_law_162 : decode cL_law 162 = .ok (.ireturn, 1) := by decide +kernel
theorem dL_law_163 : decode cL_law 163 = .ok (.aload_n 1, 1) := by decide +kernel
theorem dL_law_164 : decode cL_law 164 = .ok (.aload_n 0, 1) := by decide +kernel
theorem dL_law_165 : decode cL_law 165 = .ok (.iload_n 3, 1) := by decide +kernel
theorem dL_law_166 : decode cL_law 166 = .ok (.iconst 1, 1) := by decide +kernel
theorem dL_law_167 : decode cL_law 167 = .ok (.iadd, 1) := by decide +kernel
theorem dL_law_168 : decode cL_law 168 = .ok (.iaload, 1) := by decide +kernel
theorem dL_law_169 : decode cL_law 169 = .ok (.invokevirtual 18, 3) := by decide +kernel
theorem dL_law_172 : decode cL_law 172 = .ok (.aload_n 2, 1) := by decide +kernel
theorem dL_law_173 : decode cL_law 173 = .ok (.aload_n 0, 1) := by decide +kernel
theorem dL_law_174 : decode cL_law 174 = .ok (.iload_n 3, 1) := by decide +kernel
theorem dL_law_175 : decode cL_law 175 = .ok (.iconst 1, 1) := by decide +kernel
theorem dL_law_176 : decode cL_law 176 = .ok (.iadd, 1) := by decide +kernel
theorem dL_law_177 : decode cL_law 177 = .ok (.iaload, 1) := by decide +kernel
theorem dL_law_178 : decode cL_law 178 = .ok (.invokevirtual 22, 3) := by decide +kernel
theorem dL_law_181 : decode cL_law 181 = .ok (.if_icmp .eq 453, 3) := by decide +kernel
theorem dL_law_184 : decode cL_law 184 = .ok (.iconst 0, 1) := by decide +kernel
theorem dL_law_185 : decode cL_law 185 = .ok (.ireturn, 1) := by decide +kernel
theorem dL_law_186 : decode cL_law 186 = .ok (.aload_n 1, 1) := by decide +kernel
theorem dL_law_187 : decode cL_law 187 = .ok (.invokevirtual 23, 3) := by decide +kernel
theorem dL_law_190 : decode cL_law 190 = .ok (.aload_n 2, 1) := by decide +kernel
theorem dL_law_191 : decode cL_law 191 = .ok (.invokevirtual 27, 3) := by decide +kernel
theorem dL_law_194 : decode cL_law 194 = .ok (.if_icmp .eq 440, 3) := by decide +kernel
theorem dL_law_197 : decode cL_law 197 = .ok (.iconst 0, 1) := by decide +kernel
theorem dL_law_198 : decode cL_law 198 = .ok (.ireturn, 1) := by decide +kernel
theorem dL_law_199 : decode cL_law 199 = .ok (.aload_n 1, 1) := by decide +kernel
theorem dL_law_200 : decode cL_law 200 = .ok (.aload_n 0, 1) := by decide +kernel
theorem dL_law_201 : decode cL_law 201 = .ok (.iload_n 3, 1) := by decide +kernel
theorem dL_law_202 : decode cL_law 202 = .ok (.iconst 1, 1) := by decide +kernel
theorem dL_law_203 : decode cL_law 203 = .ok (.iadd, 1) := by decide +kernel
theorem dL_law_204 : decode cL_law 204 = .ok (.iaload, 1) := by decide +kernel
theorem dL_law_205 : decode cL_law 205 = .ok (.aload_n 0, 1) := by decide +kernel
theorem dL_law_206 : decode cL_law 206 = .ok (.iload_n 3, 1) := by decide +kernel
theorem dL_law_207 : decode cL_law 207 = .ok (.iconst 2, 1) := by decide +kernel
theorem dL_law_208 : decode cL_law 208 = .ok (.iadd, 1) := by decide +kernel
theorem dL_law_209 : decode cL_law 209 = .ok (.iaload, 1) := by decide +kernel
theorem dL_law_210 : decode cL_law 210 = .ok (.invokevirtual 28, 3) := by decide +kernel
theorem dL_law_213 : decode cL_law 213 = .ok (.aload_n 2, 1) := by decide +kernel
theorem dL_law_214 : decode cL_law 214 = .ok (.aload_n 0, 1) := by decide +kernel
theorem dL_law_215 : decode cL_law 215 = .ok (.iload_n 3, 1) := by decide +kernel
theorem dL_law_216 : decode cL_law 216 = .ok (.iconst 1, 1) := by decide +kernel
theorem dL_law_217 : decode cL_law 217 = .ok (.iadd, 1) := by decide +kernel
theorem dL_law_218 : decode cL_law 218 = .ok (.iaload, 1) := by decide +kernel
theorem dL_law_219 : decode cL_law 219 = .ok (.aload_n 0, 1) := by decide +kernel
theorem dL_law_220 : decode cL_law 220 = .ok (.iload_n 3, 1) := by decide +kernel
theorem dL_law_221 : decode cL_law 221 = .ok (.iconst 2, 1) := by decide +kernel
theorem dL_law_222 : decode cL_law 222 = .ok (.iadd, 1) := by decide +kernel
theorem dL_law_223 : decode cL_law 223 = .ok (.iaload, 1) := by decide +kernel
theorem dL_law_224 : decode cL_law 224 = .ok (.invokevirtual 32, 3) := by decide +kernel
theorem dL_law_227 : decode cL_law 227 = .ok (.if_icmp .eq 407, 3) := by decide +kernel
theorem dL_law_230 : decode cL_law 230 = .ok (.iconst 0, 1) := by decide +kernel
theorem dL_law_231 : decode cL_law 231 = .ok (.ireturn, 1) := by decide +kernel
theorem dL_law_232 : decode cL_law 232 = .ok (.aload_n 1, 1) := by decide +kernel
theorem dL_law_233 : decode cL_law 233 = .ok (.aload_n 0, 1) := by decide +kernel
theorem dL_law_234 : decode cL_law 234 = .ok (.iload_n 3, 1) := by decide +kernel
theorem dL_law_235 : decode cL_law 235 = .ok (.iconst 1, 1) := by decide +kernel
theorem dL_law_236 : decode cL_law 236 = .ok (.iadd, 1) := by decide +kernel
theorem dL_law_237 : decode cL_law 237 = .ok (.iaload, 1) := by decide +kernel
theorem dL_law_238 : decode cL_law 238 = .ok (.aload_n 0, 1) := by decide +kernel
theorem dL_law_239 : decode cL_law 239 = .ok (.iload_n 3, 1) := by decide +kernel
theorem dL_law_240 : decode cL_law 240 = .ok (.iconst 2, 1) := by decide +kernel
theorem dL_law_241 : decode cL_law 241 = .ok (.iadd, 1) := by decide +kernel
theorem dL_law_242 : decode cL_law 242 = .ok (.iaload, 1) := by decide +kernel
theorem dL_law_243 : decode cL_law 243 = .ok (.invokevirtual 33, 3) := by decide +kernel
theorem dL_law_246 : decode cL_law 246 = .ok (.aload_n 2, 1) := by decide +kernel
theorem dL_law_247 : decode cL_law 247 = .ok (.aload_n 0, 1) := by decide +kernel
theorem dL_law_248 : decode cL_law 248 = .ok (.iload_n 3, 1) := by decide +kernel
theorem dL_law_249 : decode cL_law 249 = .ok (.iconst 1, 1) := by decide +kernel
theorem dL_law_250 : decode cL_law 250 = .ok (.iadd, 1) := by decide +kernel
theorem dL_law_251 : decode cL_law 251 = .ok (.iaload, 1) := by decide +kernel
theorem dL_law_252 : decode cL_law 252 = .ok (.aload_n 0, 1) := by decide +kernel
theorem dL_law_253 : decode cL_law 253 = .ok (.iload_n 3, 1) := by decide +kernel
theorem dL_law_254 : decode cL_law 254 = .ok (.iconst 2, 1) := by decide +kernel
theorem dL_law_255 : decode cL_law 255 = .ok (.iadd, 1) := by decide +kernel
theorem dL_law_256 : decode cL_law 256 = .ok (.iaload, 1) := by decide +kernel
theorem dL_law_257 : decode cL_law 257 = .ok (.invokevirtual 36, 3) := by decide +kernel
theorem dL_law_260 : decode cL_law 260 = .ok (.if_icmp .eq 374, 3) := by decide +kernel
theorem dL_law_263 : decode cL_law 263 = .ok (.iconst 0, 1) := by decide +kernel
theorem dL_law_264 : decode cL_law 264 = .ok (.ireturn, 1) := by decide +kernel
theorem dL_law_265 : decode cL_law 265 = .ok (.aload_n 1, 1) := by decide +kernel
theorem dL_law_266 : decode cL_law 266 = .ok (.aload_n 0, 1) := by decide +kernel
theorem dL_law_267 : decode cL_law 267 = .ok (.iload_n 3, 1) := by decide +kernel
theorem dL_law_268 : decode cL_law 268 = .ok (.iconst 1, 1) := by decide +kernel
theorem dL_law_269 : decode cL_law 269 = .ok (.iadd, 1) := by decide +kernel
theorem dL_law_270 : decode cL_law 270 = .ok (.iaload, 1) := by decide +kernel
theorem dL_law_271 : decode cL_law 271 = .ok (.aload_n 0, 1) := by decide +kernel
theorem dL_law_272 : decode cL_law 272 = .ok (.iload_n 3, 1) := by decide +kernel
theorem dL_law_273 : decode cL_law 273 = .ok (.iconst 2, 1) := by decide +kernel
theorem dL_law_274 : decode cL_law 274 = .ok (.iadd, 1) := by decide +kernel
theorem dL_law_275 : decode cL_law 275 = .ok (.iaload, 1) := by decide +kernel
theorem dL_law_276 : decode cL_law 276 = .ok (.invokevirtual 37, 3) := by decide +kernel
theorem dL_law_279 : decode cL_law 279 = .ok (.aload_n 2, 1) := by decide +kernel
theorem dL_law_280 : decode cL_law 280 = .ok (.aload_n 0, 1) := by decide +kernel
theorem dL_law_281 : decode cL_law 281 = .ok (.iload_n 3, 1) := by decide +kernel
theorem dL_law_282 : decode cL_law 282 = .ok (.iconst 1, 1) := by decide +kernel
theorem dL_law_283 : decode cL_law 283 = .ok (.iadd, 1) := by decide +kernel
theorem dL_law_284 : decode cL_law 284 = .ok (.iaload, 1) := by decide +kernel
theorem dL_law_285 : decode cL_law 285 = .ok (.aload_n 0, 1) := by decide +kernel
theorem dL_law_286 : decode cL_law 286 = .ok (.iload_n 3, 1) := by decide +kernel
theorem dL_law_287 : decode cL_law 287 = .ok (.iconst 2, 1) := by decide +kernel
theorem dL_law_288 : decode cL_law 288 = .ok (.iadd, 1) := by decide +kernel
theorem dL_law_289 : decode cL_law 289 = .ok (.iaload, 1) := by decide +kernel
theorem dL_law_290 : decode cL_law 290 = .ok (.invokevirtual 40, 3) := by decide +kernel
theorem dL_law_293 : decode cL_law 293 = .ok (.if_icmp .eq 341, 3) := by decide +kernel
theorem dL_law_296 : decode cL_law 296 = .ok (.iconst 0, 1) := by decide +kernel
theorem dL_law_297 : decode cL_law 297 = .ok (.ireturn, 1) := by decide +kernel
theorem dL_law_298 : decode cL_law 298 = .ok (.aload_n 1, 1) := by decide +kernel
theorem dL_law_299 : decode cL_law 299 = .ok (.aload_n 0, 1) := by decide +kernel
theorem dL_law_300 : decode cL_law 300 = .ok (.iload_n 3, 1) := by decide +kernel
theorem dL_law_301 : decode cL_law 301 = .ok (.iconst 1, 1) := by decide +kernel
theorem dL_law_302 : decode cL_law 302 = .ok (.iadd, 1) := by decide +kernel
theorem dL_law_303 : decode cL_law 303 = .ok (.iaload, 1) := by decide +kernel
theorem dL_law_304 : decode cL_law 304 = .ok (.invokevirtual 41, 3) := by decide +kernel
theorem dL_law_307 : decode cL_law 307 = .ok (.aload_n 2, 1) := by decide +kernel
theorem dL_law_308 : decode cL_law 308 = .ok (.aload_n 0, 1) := by decide +kernel
theorem dL_law_309 : decode cL_law 309 = .ok (.iload_n 3, 1) := by decide +kernel
theorem dL_law_310 : decode cL_law 310 = .ok (.iconst 1, 1) := by decide +kernel
theorem dL_law_311 : decode cL_law 311 = .ok (.iadd, 1) := by decide +kernel
theorem dL_law_312 : decode cL_law 312 = .ok (.iaload, 1) := by decide +kernel
theorem dL_law_313 : decode cL_law 313 = .ok (.invokevirtual 44, 3) := by decide +kernel
