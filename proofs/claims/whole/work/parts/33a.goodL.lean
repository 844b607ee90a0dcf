set_option maxRecDepth 20000 in
theorem ggL_law_X4_init : GoodIn wsL_law wsX4_init := goodIn_r _ [8, 9, 10, 11, 12, 13, 14, 15, 16, 17, 18, 19, 20, 21, 22, 23, 24, 25, 26, 27, 28, 29, 30, 31, 32, 33, 34, 35, 36, 37, 38, 39, 40, 41, 42, 43, 44, 45, 46, 47, 48, 49, 50, 51, 52, 53, 54, 55, 56, 57, 58, 59, 60, 61, 62, 63, 64, 65, 66, 67, 68, 69, 70, 71, 72, 676, 677, 678, 679, 680, 681, 682, 683, 684, 645, 646, 647, 685, 686, 687, 688, 689, 690, 691, 692, 693, 694, 695, 696, 697, 698, 699, 700, 701, 702, 703, 704, 705, 706, 707, 708, 709, 710, 711, 712, 713] rfl (by decide +kernel)
set_option maxRecDepth 20000 in
theorem gL_law_X4_init : GoodIn wsL_law (wsX4_init) := ggL_law_X4_init
set_option maxRecDepth 20000 in
theorem ggL_law_X5_init : GoodIn wsL_law wsX5_init := goodIn_r _ [75, 76, 10, 11, 27, 77, 78, 79, 80, 81, 82, 35, 83, 46, 84, 85, 86, 87, 88, 89, 90, 91, 92, 93, 94, 648, 649, 650, 651, 652, 653, 654, 655, 656, 657, 658, 659, 660, 661, 662, 663, 664, 665, 666, 667, 668, 669, 670, 671, 672, 673, 674, 675] rfl (by decide +kernel)
set_option maxRecDepth 20000 in
theorem gL_law_X5_init : GoodIn wsL_law (wsX5_init) := ggL_law_X5_init
set_option maxRecDepth 20000 in
theorem ggL_law_X4_name : GoodIn wsL_law wsX4_name := goodIn_r _ [98, 15, 99, 100, 2, 101, 102, 103, 104, 105, 106, 107, 108, 19, 23, 109, 110, 111, 18, 112, 113, 114, 115, 116, 117, 118, 22, 119, 120, 121, 122, 123, 14, 124, 125, 28, 29, 30, 645, 646, 647, 685, 686, 687, 688, 689, 690, 691, 692, 693, 694, 695, 696, 697, 698, 699, 700, 701, 702, 703, 704, 676, 677, 678, 679, 680, 681, 682, 683, 684] rfl (by decide +kernel)
set_option maxRecDepth 20000 in
theorem gL_law_X4_name : GoodIn wsL_law (wsV RL 13 RX4 yX4_name wsX4_name) := goodIn_app (goodIn_of _ (by decide +kernel)) ggL_law_X4_name
set_option maxRecDepth 20000 in
theorem ggL_law_X5_name : GoodIn wsL_law wsX5_name := goodIn_r _ [129, 130, 77, 78, 79, 82, 131, 132, 133, 5, 134, 648, 649, 650, 651, 652, 653, 654, 655, 656, 657, 658, 659, 660, 661, 662, 663, 664, 665, 666, 667, 668, 669, 670, 671, 672, 673, 674, 675] rfl (by decide +kernel)
set_option maxRecDepth 20000 in
theorem gL_law_X5_name : GoodIn wsL_law (wsV RL 17 RX5 yX5_name wsX5_name) := goodIn_app (goodIn_of _ (by decide +kernel)) ggL_law_X5_name
set_option maxRecDepth 20000 in
theorem ggL_law_X4_span : GoodIn wsL_law wsX4_span := goodIn_r _ [138, 15, 139, 140, 141, 142, 143, 14, 144, 125, 99, 100, 2, 101, 102, 103, 104, 105, 106, 107, 108, 19, 23, 109, 110, 111, 18, 112, 113, 114, 115, 116, 117, 118, 22, 119, 120, 645, 646, 647, 676, 677, 678, 679, 680, 681, 682, 683, 684, 685, 686, 687, 688, 689, 690, 691, 692, 693, 694, 695, 696, 697, 698, 699, 700, 701, 702, 703, 704] rfl (by decide +kernel)
set_option maxRecDepth 20000 in
theorem gL_law_X4_span : GoodIn wsL_law (wsV RL 18 RX4 yX4_span wsX4_span) := goodIn_app (goodIn_of _ (by decide +kernel)) ggL_law_X4_span
set_option maxRecDepth 20000 in
theorem ggL_law_X5_span : GoodIn wsL_law wsX5_span := goodIn_r _ [148, 77, 78, 131, 149, 150, 151, 5, 152, 130, 132, 133, 134, 648, 649, 650, 651, 652, 653, 654, 655, 656, 657, 658, 659, 660, 661, 662, 663, 664, 665, 666, 667, 668, 669, 670, 671, 672, 673, 674, 675] rfl (by decide +kernel)
set_option maxRecDepth 20000 in
theorem gL_law_X5_span : GoodIn wsL_law (wsV RL 22 RX5 yX5_span wsX5_span) := goodIn_app (goodIn_of _ (by decide +kernel)) ggL_law_X5_span
set_option maxRecDepth 20000 in
theorem ggL_law_X4_cost : GoodIn wsL_law wsX4_cost := goodIn_r _ [156, 15, 157, 141, 142, 143, 14, 144, 125, 102, 103, 2, 104, 105, 106, 107, 108, 19, 23, 109, 110, 111, 18, 112, 113, 114, 115, 116, 117, 118, 22, 119, 120, 645, 646, 647, 676, 677, 678, 679, 680, 681, 682, 683, 684, 685, 686, 687, 688, 689, 690, 691, 692, 693, 694, 695, 696, 697, 698, 699, 700, 701, 702, 703, 704] rfl (by decide +kernel)
set_option maxRecDepth 20000 in
theorem gL_law_X4_cost : GoodIn wsL_law (wsV RL 23 RX4 yX4_cost wsX4_cost) := goodIn_app (goodIn_of _ (by decide +kernel)) ggL_law_X4_cost
set_option maxRecDepth 20000 in
theorem ggL_law_X5_cost : GoodIn wsL_law wsX5_cost := goodIn_r _ [161, 79, 131, 149, 150, 151, 5, 152, 130, 648, 649, 650, 651, 652, 653, 654, 655, 656, 657, 658, 659, 660, 661, 662, 663, 664, 665, 666, 667, 668, 669, 670, 671, 672, 673, 674, 675] rfl (by decide +kernel)
set_option maxRecDepth 20000 in
theorem gL_law_X5_cost : GoodIn wsL_law (wsV RL 26 RX5 yX5_cost wsX5_cost) := goodIn_app (goodIn_of _ (by decide +kernel)) ggL_law_X5_cost
set_option maxRecDepth 20000 in
theorem ggL_law_X4_row : GoodIn wsL_law wsX4_row := goodIn_r _ [165, 15, 102, 103, 2, 104, 105, 106, 107, 108, 19, 23, 109, 110, 111, 18, 112, 113, 114, 115, 116, 117, 118, 22, 119, 120, 166, 167, 168, 14, 169, 170, 31, 32, 36, 34, 645, 646, 647, 685, 686, 687, 688, 689, 690, 691, 692, 693, 694, 695, 696, 697, 698, 699, 700, 701, 702, 703, 704, 676, 677, 678, 679, 680, 681, 682, 683, 684] rfl (by decide +kernel)
set_option maxRecDepth 20000 in
theorem gL_law_X4_row : GoodIn wsL_law (wsV RL 27 RX4 yX4_row wsX4_row) := goodIn_app (goodIn_of _ (by decide +kernel)) ggL_law_X4_row
set_option maxRecDepth 20000 in
theorem ggL_law_X5_row : GoodIn wsL_law wsX5_row := goodIn_r _ [174, 175, 80, 81, 83, 82, 131, 648, 649, 650, 651, 652, 653, 654, 655, 656, 657, 658, 659, 660, 661, 662, 663, 664, 665, 666, 667, 668, 669, 670, 671, 672, 673, 674, 675] rfl (by decide +kernel)
set_option maxRecDepth 20000 in
theorem gL_law_X5_row : GoodIn wsL_law (wsV RL 30 RX5 yX5_row wsX5_row) := goodIn_app (goodIn_of _ (by decide +kernel)) ggL_law_X5_row
set_option maxRecDepth 20000 in
theorem ggL_law_X4_right : GoodIn wsL_law wsX4_right := goodIn_r _ [179, 15, 180, 181, 182, 183, 14, 184, 170, 36, 102, 103, 2, 104, 105, 106, 107, 108, 19, 23, 109, 110, 111, 18, 112, 113, 114, 115, 116, 117, 118, 22, 119, 120, 645, 646, 647, 676, 677, 678, 679, 680, 681, 682, 683, 684, 685, 686, 687, 688, 689, 690, 691, 692, 693, 694, 695, 696, 697, 698, 699, 700, 701, 702, 703, 704] rfl (by decide +kernel)
set_option maxRecDepth 20000 in
theorem gL_law_X4_right : GoodIn wsL_law (wsV RL 31 RX4 yX4_right wsX4_right) := goodIn_app (goodIn_of _ (by decide +kernel)) ggL_law_X4_right
set_option maxRecDepth 20000 in
theorem ggL_law_X5_right : GoodIn wsL_law wsX5_right := goodIn_r _ [188, 81, 131, 189, 190, 191, 5, 192, 175, 83, 648, 649, 650, 651, 652, 653, 654, 655, 656, 657, 658, 659, 660, 661, 662, 663, 664, 665, 666, 667, 668, 669, 670, 671, 672, 673, 674, 675] rfl (by decide +kernel)
set_option maxRecDepth 20000 in
theorem gL_law_X5_right : GoodIn wsL_law (wsV RL 34 RX5 yX5_right wsX5_right) := goodIn_app (goodIn_of _ (by decide +kernel)) ggL_law_X5_right
set_option maxRecDepth 20000 in
theorem ggL_law_X4_factor : GoodIn wsL_law wsX4_factor := goodIn_r _ [196, 15, 197, 181, 182, 183, 14, 184, 170, 36, 141, 142, 143, 144, 125, 102, 103, 2, 104, 105, 106, 107, 108, 19, 23, 109, 110, 111, 18, 112, 113, 114, 115, 116, 117, 118, 22, 119, 120, 645, 646, 647, 676, 677, 678, 679, 680, 681, 682, 683, 684, 685, 686, 687, 688, 689, 690, 691, 692, 693, 694, 695, 696, 697, 698, 699, 700, 701, 702, 703, 704] rfl (by decide +kernel)
set_option maxRecDepth 20000 in
theorem gL_law_X4_factor : GoodIn wsL_law (wsV RL 35 RX4 yX4_factor wsX4_factor) := goodIn_app (goodIn_of _ (by decide +kernel)) ggL_law_X4_factor
set_option maxRecDepth 20000 in
theorem ggL_law_X5_factor : GoodIn wsL_law wsX5_factor := goodIn_r _ [201, 82, 131, 189, 190, 191, 5, 192, 175, 83, 149, 150, 151, 152, 130, 648, 649, 650, 651, 652, 653, 654, 655, 656, 657, 658, 659, 660, 661, 662, 663, 664, 665, 666, 667, 668, 669, 670, 671, 672, 673, 674, 675] rfl (by decide +kernel)
set_option maxRecDepth 20000 in
theorem gL_law_X5_factor : GoodIn wsL_law (wsV RL 38 RX5 yX5_factor wsX5_factor) := goodIn_app (goodIn_of _ (by decide +kernel)) ggL_law_X5_factor
set_option maxRecDepth 20000 in
theorem ggL_law_X4_drop : GoodIn wsL_law wsX4_drop := goodIn_r _ [205, 15, 206, 181, 182, 183, 14, 184, 170, 36, 105, 106, 107, 2, 108, 19, 23, 109, 110, 111, 18, 112, 113, 114, 115, 116, 117, 118, 22, 119, 120, 207, 208, 209, 210, 645, 646, 647, 676, 677, 678, 679, 680, 681, 682, 683, 684, 685, 686, 687, 688, 689, 690, 691, 692, 693, 694, 695, 696, 697, 698, 699, 700, 701, 702, 703, 704] rfl (by decide +kernel)
set_option maxRecDepth 20000 in
theorem gL_law_X4_drop : GoodIn wsL_law (wsV RL 39 RX4 yX4_drop wsX4_drop) := goodIn_app (goodIn_of _ (by decide +kernel)) ggL_law_X4_drop
set_option maxRecDepth 20000 in
theorem ggL_law_X5_drop : GoodIn wsL_law wsX5_drop := goodIn_r _ [214, 83, 131, 189, 190, 191, 5, 192, 175, 215, 216, 217, 218, 648, 649, 650, 651, 652, 653, 654, 655, 656, 657, 658, 659, 660, 661, 662, 663, 664, 665, 666, 667, 668, 669, 670, 671, 672, 673, 674, 675] rfl (by decide +kernel)
set_option maxRecDepth 20000 in
theorem gL_law_X5_drop : GoodIn wsL_law (wsV RL 43 RX5 yX5_drop wsX5_drop) := goodIn_app (goodIn_of _ (by decide +kernel)) ggL_law_X5_drop
set_option maxRecDepth 20000 in
theorem ggL_law_X4_clear : GoodIn wsL_law wsX4_clear := goodIn_r _ [222, 15, 223, 224, 105, 106, 107, 2, 108, 19, 23, 109, 110, 111, 18, 112, 113, 114, 115, 116, 117, 118, 22, 119, 120, 645, 646, 647, 676, 677, 678, 679, 680, 681, 682, 683, 684, 685, 686, 687, 688, 689, 690, 691, 692, 693, 694, 695, 696, 697, 698, 699, 700, 701, 702, 703, 704] rfl (by decide +kernel)
set_option maxRecDepth 20000 in
theorem gL_law_X4_clear : GoodIn wsL_law (wsV RL 44 RX4 yX4_clear wsX4_clear) := goodIn_app (goodIn_of _ (by decide +kernel)) ggL_law_X4_clear
set_option maxRecDepth 20000 in
theorem ggL_law_X5_clear : GoodIn wsL_law wsX5_clear := goodIn_r _ [228, 130, 175, 131, 648, 649, 650, 651, 652, 653, 654, 655, 656, 657, 658, 659, 660, 661, 662, 663, 664, 665, 666, 667, 668, 669, 670, 671, 672, 673, 674, 675] rfl (by decide +kernel)
set_option maxRecDepth 20000 in
theorem gL_law_X5_clear : GoodIn wsL_law (wsV RL 48 RX5 yX5_clear wsX5_clear) := goodIn_app (goodIn_of _ (by decide +kernel)) ggL_law_X5_clear
set_option maxRecDepth 20000 in
theorem ggL_law_X4_run : GoodIn wsL_law wsX4_run := goodIn_r _ [232, 19, 233, 234, 235, 18, 236, 113, 237, 238, 239, 240, 241, 49, 242, 243, 244, 245, 246, 247, 44, 248, 45, 249, 250, 251, 252, 253, 43, 254, 255, 256, 257, 258, 259, 260, 60, 57, 261, 262, 263, 264, 58, 265, 266, 267, 268, 269, 270, 271, 272, 54, 55, 56, 273, 274, 275, 276, 277, 278, 279, 280, 281, 14, 282, 31, 283, 284, 285, 286, 287, 288, 289, 290, 291, 292, 293, 294, 295, 296, 297, 298, 299, 300, 301, 302, 303, 304, 305, 306, 307, 308, 309, 310, 311, 312, 313, 314, 645, 646, 647, 685, 686, 687, 688, 689, 690, 691, 692, 693, 694, 676, 677, 678, 679, 680, 681, 682, 683, 684, 705, 706, 707, 708, 709, 710, 711, 712, 713] rfl (by decide +kernel)
set_option maxRecDepth 20000 in
theorem gL_law_X4_run : GoodIn wsL_law (wsV RL 49 RX4 yX4_run wsX4_run) := goodIn_app (goodIn_of _ (by decide +kernel)) ggL_law_X4_run
set_option maxRecDepth 20000 in
theorem ggL_law_X5_run : GoodIn wsL_law wsX5_run := goodIn_r _ [318, 319, 320, 321, 322, 5, 323, 131, 324, 89, 325, 326, 327, 328, 175, 83, 329, 330, 331, 332, 91, 130, 333, 334, 335, 336, 337, 92, 77, 78, 81, 82, 80, 338, 339, 340, 341, 79, 87, 88, 342, 343, 85, 86, 84, 344, 345, 346, 347, 348, 349, 350, 351, 352, 353, 354, 355, 356, 357, 358, 359, 90, 360, 361, 362, 363, 648, 649, 650, 651, 652, 653, 654, 655, 656, 657, 658, 659, 660, 661, 662, 663, 664, 665, 666, 667, 668, 669, 670, 671, 672, 673, 674, 675] rfl (by decide +kernel)
set_option maxRecDepth 20000 in
theorem gL_law_X5_run : GoodIn wsL_law (wsV RL 52 RX5 yX5_run wsX5_run) := goodIn_app (goodIn_of _ (by decide +kernel)) ggL_law_X5_run
set_option maxRecDepth 20000 in
theorem ggL_law_X4_least : GoodIn wsL_law wsX4_least := goodIn_r _ [367, 368, 19, 369, 370, 371, 2, 372, 233, 234, 235, 18, 236, 113, 237, 238, 239, 240, 241, 49, 242, 243, 244, 245, 246, 247, 44, 248, 45, 249, 250, 251, 252, 253, 43, 254, 255, 256, 257, 258, 259, 260, 60, 57, 261, 262, 263, 264, 58, 265, 266, 267, 268, 269, 270, 271, 272, 54, 55, 56, 273, 274, 275, 276, 277, 278, 279, 280, 281, 14, 282, 31, 283, 284, 285, 286, 287, 288, 289, 290, 291, 292, 293, 294, 295, 296, 297, 298, 299, 300, 301, 302, 303, 304, 305, 306, 307, 308, 309, 310, 311, 312, 313, 314, 373, 374, 375, 376, 377, 47, 48, 378, 379, 380, 381, 114, 382, 383, 384, 385, 386, 387, 388, 389, 390, 391, 392, 393, 394, 59, 395, 396, 397, 398, 399, 400, 401, 402, 403, 404, 405, 406, 407, 408, 409, 410, 411, 412, 413, 414, 415, 416, 417, 418, 419, 420, 421, 422, 423, 424, 425, 426, 427, 428, 429, 645, 646, 647, 685, 686, 687, 688, 689, 690, 691, 692, 693, 694, 676, 677, 678, 679, 680, 681, 682, 683, 684, 705, 706, 707, 708, 709, 710, 711, 712, 713] rfl (by decide +kernel)
set_option maxRecDepth 20000 in
theorem gL_law_X4_least : GoodIn wsL_law (wsV RL 53 RX4 yX4_least wsX4_least) := goodIn_app (goodIn_of _ (by decide +kernel)) ggL_law_X4_least
set_option maxRecDepth 20000 in
theorem ggL_law_X5_least : GoodIn wsL_law wsX5_least := goodIn_r _ [433, 434, 319, 342, 343, 435, 436, 437, 5, 438, 320, 321, 322, 323, 131, 324, 89, 325, 326, 327, 328, 175, 83, 329, 330, 331, 332, 91, 130, 333, 334, 335, 336, 337, 92, 77, 78, 81, 82, 80, 338, 339, 340, 341, 79, 87, 88, 85, 86, 84, 344, 345, 346, 347, 348, 349, 350, 351, 352, 353, 354, 355, 356, 357, 358, 359, 90, 360, 361, 362, 363, 439, 440, 441, 648, 649, 650, 651, 652, 653, 654, 655, 656, 657, 658, 659, 660, 661, 662, 663, 664, 665, 666, 667, 668, 669, 670, 671, 672, 673, 674, 675] rfl (by decide +kernel)
set_option maxRecDepth 20000 in
theorem gL_law_X5_least : GoodIn wsL_law (wsV RL 57 RX5 yX5_least wsX5_least) := goodIn_app (goodIn_of _ (by decide +kernel)) ggL_law_X5_least
set_option maxRecDepth 20000 in
theorem ggL_law_X4_value : GoodIn wsL_law wsX4_value := goodIn_r _ [445, 15, 446, 368, 19, 369, 141, 142, 143, 14, 144, 125, 370, 371, 2, 372, 233, 234, 235, 18, 236, 113, 237, 238, 239, 240, 241, 49, 242, 243, 244, 245, 246, 247, 44, 248, 45, 249, 250, 251, 252, 253, 43, 254, 255, 256, 257, 258, 259, 260, 60, 57, 261, 262, 263, 264, 58, 265, 266, 267, 268, 269, 270, 271, 272, 54, 55, 56, 273, 274, 275, 276, 277, 278, 279, 280, 281, 282, 31, 283, 284, 285, 286, 287, 288, 289, 290, 291, 292, 293, 294, 295, 296, 297, 298, 299, 300, 301, 302, 303, 304, 305, 306, 307, 308, 309, 310, 311, 312, 313, 314, 447, 448, 449, 450, 47, 48, 378, 379, 380, 381, 114, 382, 383, 384, 385, 386, 377, 387, 388, 389, 390, 391, 392, 393, 394, 59, 395, 396, 397, 398, 399, 400, 401, 402, 403, 404, 405, 406, 407, 408, 409, 410, 411, 412, 413, 414, 415, 416, 417, 418, 419, 420, 421, 422, 423, 424, 425, 426, 427, 428, 429, 645, 646, 647, 676, 677, 678, 679, 680, 681, 682, 683, 684, 685, 686, 687, 688, 689, 690, 691, 692, 693, 694, 705, 706, 707, 708, 709, 710, 711, 712, 713] rfl (by decide +kernel)
set_option maxRecDepth 20000 in
theorem gL_law_X4_value : GoodIn wsL_law (wsV RL 58 RX4 yX4_value wsX4_value) := goodIn_app (goodIn_of _ (by decide +kernel)) ggL_law_X4_value
set_option maxRecDepth 20000 in
theorem ggL_law_X5_value : GoodIn wsL_law wsX5_value := goodIn_r _ [454, 455, 434, 319, 84, 344, 435, 149, 150, 151, 5, 152, 130, 436, 437, 438, 320, 321, 322, 323, 131, 324, 89, 325, 326, 327, 328, 175, 83, 329, 330, 331, 332, 91, 333, 334, 335, 336, 337, 92, 77, 78, 81, 82, 80, 338, 339, 340, 341, 79, 87, 88, 342, 343, 85, 86, 345, 346, 347, 348, 349, 350, 351, 352, 353, 354, 355, 356, 357, 358, 359, 90, 360, 361, 362, 363, 439, 440, 441, 648, 649, 650, 651, 652, 653, 654, 655, 656, 657, 658, 659, 660, 661, 662, 663, 664, 665, 666, 667, 668, 669, 670, 671, 672, 673, 674, 675] rfl (by decide +kernel)
set_option maxRecDepth 20000 in
theorem gL_law_X5_value : GoodIn wsL_law (wsV RL 62 RX5 yX5_value wsX5_value) := goodIn_app (goodIn_of _ (by decide +kernel)) ggL_law_X5_value
set_option maxRecDepth 20000 in
theorem ggL_law_X4_tight : GoodIn wsL_law wsX4_tight := goodIn_r _ [459, 15, 19, 181, 182, 183, 14, 184, 170, 36, 233, 234, 235, 18, 236, 113, 237, 238, 239, 240, 241, 49, 242, 243, 244, 245, 246, 247, 44, 248, 45, 249, 250, 251, 252, 253, 43, 254, 255, 256, 257, 258, 259, 260, 60, 57, 261, 262, 263, 264, 58, 265, 266, 267, 268, 269, 270, 271, 272, 54, 55, 56, 273, 274, 275, 276, 277, 278, 279, 280, 281, 282, 31, 283, 284, 285, 286, 287, 288, 289, 290, 291, 292, 293, 294, 295, 296, 297, 298, 299, 300, 301, 302, 303, 304, 305, 306, 307, 308, 309, 310, 311, 312, 313, 314, 460, 461, 462, 463, 47, 48, 378, 379, 380, 381, 114, 382, 383, 384, 385, 386, 377, 387, 388, 389, 390, 391, 392, 393, 394, 59, 395, 396, 397, 398, 399, 400, 401, 402, 403, 404, 405, 406, 407, 408, 409, 410, 411, 412, 413, 414, 415, 416, 417, 418, 419, 420, 421, 422, 645, 646, 647, 676, 677, 678, 679, 680, 681, 682, 683, 684, 685, 686, 687, 688, 689, 690, 691, 692, 693, 694, 705, 706, 707, 708, 709, 710, 711, 712, 713] rfl (by decide +kernel)
set_option maxRecDepth 20000 in
theorem gL_law_X4_tight : GoodIn wsL_law (wsV RL 63 RX4 yX4_tight wsX4_tight) := goodIn_app (goodIn_of _ (by decide +kernel)) ggL_law_X4_tight
set_option maxRecDepth 20000 in
theorem ggL_law_X5_tight : GoodIn wsL_law wsX5_tight := goodIn_r _ [467, 319, 130, 81, 344, 82, 84, 189, 190, 191, 5, 192, 175, 83, 320, 321, 322, 323, 131, 324, 89, 325, 326, 327, 328, 329, 330, 331, 332, 91, 333, 334, 335, 336, 337, 92, 77, 78, 80, 338, 339, 340, 341, 79, 87, 88, 342, 343, 85, 86, 345, 346, 347, 348, 349, 350, 351, 352, 353, 354, 355, 356, 357, 358, 359, 90, 360, 361, 362, 363, 648, 649, 650, 651, 652, 653, 654, 655, 656, 657, 658, 659, 660, 661, 662, 663, 664, 665, 666, 667, 668, 669, 670, 671, 672, 673, 674, 675] rfl (by decide +kernel)
set_option maxRecDepth 20000 in
theorem gL_law_X5_tight : GoodIn wsL_law (wsV RL 66 RX5 yX5_tight wsX5_tight) := goodIn_app (goodIn_of _ (by decide +kernel)) ggL_law_X5_tight
set_option maxRecDepth 20000 in
theorem ggL_law_X4_reach : GoodIn wsL_law wsX4_reach := goodIn_r _ [471, 19, 472, 473, 474, 2, 475, 15, 141, 142, 143, 14, 144, 125, 370, 371, 372, 233, 234, 235, 18, 236, 113, 237, 238, 239, 240, 241, 49, 242, 243, 244, 245, 246, 247, 44, 248, 45, 249, 250, 251, 252, 253, 43, 254, 255, 256, 257, 258, 259, 260, 60, 57, 261, 262, 263, 264, 58, 265, 266, 267, 268, 269, 270, 271, 272, 54, 55, 56, 273, 274, 275, 276, 277, 278, 279, 280, 281, 282, 31, 283, 284, 285, 286, 287, 288, 289, 290, 291, 292, 293, 294, 295, 296, 297, 298, 299, 300, 301, 302, 303, 304, 305, 306, 307, 308, 309, 310, 311, 312, 313, 314, 476, 477, 478, 479, 382, 383, 384, 385, 386, 377, 387, 388, 389, 390, 391, 392, 393, 394, 59, 395, 396, 397, 398, 399, 400, 401, 402, 403, 404, 405, 406, 407, 408, 409, 410, 480, 481, 482, 483, 411, 412, 413, 414, 415, 416, 417, 418, 419, 420, 421, 422, 423, 424, 425, 426, 427, 428, 429, 645, 646, 647, 676, 677, 678, 679, 680, 681, 682, 683, 684, 685, 686, 687, 688, 689, 690, 691, 692, 693, 694, 705, 706, 707, 708, 709, 710, 711, 712, 713] rfl (by decide +kernel)
set_option maxRecDepth 20000 in
theorem gL_law_X4_reach : GoodIn wsL_law (wsV RL 67 RX4 yX4_reach wsX4_reach) := goodIn_app (goodIn_of _ (by decide +kernel)) ggL_law_X4_reach
set_option maxRecDepth 20000 in
theorem ggL_law_X5_reach : GoodIn wsL_law wsX5_reach := goodIn_r _ [487, 455, 434, 319, 85, 86, 435, 149, 150, 151, 5, 152, 130, 436, 437, 438, 320, 321, 322, 323, 131, 324, 89, 325, 326, 327, 328, 175, 83, 329, 330, 331, 332, 91, 333, 334, 335, 336, 337, 92, 77, 78, 81, 82, 80, 338, 339, 340, 341, 79, 87, 88, 342, 343, 84, 344, 345, 346, 347, 348, 349, 350, 351, 352, 353, 354, 355, 356, 357, 358, 359, 90, 360, 361, 362, 363, 439, 440, 441, 648, 649, 650, 651, 652, 653, 654, 655, 656, 657, 658, 659, 660, 661, 662, 663, 664, 665, 666, 667, 668, 669, 670, 671, 672, 673, 674, 675] rfl (by decide +kernel)
set_option maxRecDepth 20000 in
theorem gL_law_X5_reach : GoodIn wsL_law (wsV RL 71 RX5 yX5_reach wsX5_reach) := goodIn_app (goodIn_of _ (by decide +kernel)) ggL_law_X5_reach
set_option maxRecDepth 20000 in
theorem ggL_law_X4_far : GoodIn wsL_law wsX4_far := goodIn_r _ [491, 19, 472, 473, 474, 2, 475, 15, 141, 142, 143, 14, 144, 125, 370, 371, 372, 233, 234, 235, 18, 236, 113, 237, 238, 239, 240, 241, 49, 242, 243, 244, 245, 246, 247, 44, 248, 45, 249, 250, 251, 252, 253, 43, 254, 255, 256, 257, 258, 259, 260, 60, 57, 261, 262, 263, 264, 58, 265, 266, 267, 268, 269, 270, 271, 272, 54, 55, 56, 273, 274, 275, 276, 277, 278, 279, 280, 281, 282, 31, 283, 284, 285, 286, 287, 288, 289, 290, 291, 292, 293, 294, 295, 296, 297, 298, 299, 300, 301, 302, 303, 304, 305, 306, 307, 308, 309, 310, 311, 312, 313, 314, 492, 493, 494, 495, 382, 480, 481, 482, 483, 387, 388, 389, 390, 391, 392, 393, 394, 59, 395, 396, 397, 398, 399, 400, 401, 402, 403, 404, 405, 406, 411, 412, 413, 414, 415, 416, 417, 418, 419, 420, 421, 422, 423, 424, 425, 426, 427, 428, 429, 645, 646, 647, 676, 677, 678, 679, 680, 681, 682, 683, 684, 685, 686, 687, 688, 689, 690, 691, 692, 693, 694, 705, 706, 707, 708, 709, 710, 711, 712, 713] rfl (by decide +kernel)
set_option maxRecDepth 20000 in
theorem gL_law_X4_far : GoodIn wsL_law (wsV RL 72 RX4 yX4_far wsX4_far) := goodIn_app (goodIn_of _ (by decide +kernel)) ggL_law_X4_far
set_option maxRecDepth 20000 in
theorem ggL_law_X5_far : GoodIn wsL_law wsX5_far := goodIn_r _ [499, 455, 434, 319, 87, 88, 435, 149, 150, 151, 5, 152, 130, 436, 437, 438, 320, 321, 322, 323, 131, 324, 89, 325, 326, 327, 328, 175, 83, 329, 330, 331, 332, 91, 333, 334, 335, 336, 337, 92, 77, 78, 81, 82, 80, 338, 339, 340, 341, 79, 342, 343, 85, 86, 84, 344, 345, 346, 347, 348, 349, 350, 351, 352, 353, 354, 355, 356, 357, 358, 359, 90, 360, 361, 362, 363, 439, 440, 441, 648, 649, 650, 651, 652, 653, 654, 655, 656, 657, 658, 659, 660, 661, 662, 663, 664, 665, 666, 667, 668, 669, 670, 671, 672, 673, 674, 675] rfl (by decide +kernel)
set_option maxRecDepth 20000 in
theorem gL_law_X5_far : GoodIn wsL_law (wsV RL 75 RX5 yX5_far wsX5_far) := goodIn_app (goodIn_of _ (by decide +kernel)) ggL_law_X5_far
set_option maxRecDepth 20000 in
theorem ggL_law_X4_barred : GoodIn wsL_law wsX4_barred := goodIn_r _ [503, 19, 233, 234, 235, 18, 236, 113, 237, 238, 239, 240, 241, 49, 242, 243, 244, 245, 246, 247, 44, 248, 45, 249, 250, 251, 252, 253, 43, 254, 255, 256, 257, 258, 259, 260, 60, 57, 261, 262, 263, 264, 58, 265, 266, 267, 268, 269, 270, 271, 272, 54, 55, 56, 273, 274, 275, 276, 277, 278, 279, 280, 281, 14, 282, 31, 283, 284, 285, 286, 287, 288, 289, 290, 291, 292, 293, 294, 295, 296, 297, 298, 299, 300, 301, 302, 303, 304, 305, 306, 307, 308, 309, 310, 311, 312, 313, 314, 504, 505, 506, 507, 508, 509, 510, 511, 512, 115, 645, 646, 647, 685, 686, 687, 688, 689, 690, 691, 692, 693, 694, 676, 677, 678, 679, 680, 681, 682, 683, 684, 705, 706, 707, 708, 709, 710, 711, 712, 713] rfl (by decide +kernel)
set_option maxRecDepth 20000 in
theorem gL_law_X4_barred : GoodIn wsL_law (wsV RL 76 RX4 yX4_barred wsX4_barred) := goodIn_app (goodIn_of _ (by decide +kernel)) ggL_law_X4_barred
set_option maxRecDepth 20000 in
theorem ggL_law_X5_barred : GoodIn wsL_law wsX5_barred := goodIn_r _ [516, 319, 89, 320, 321, 322, 5, 323, 131, 324, 325, 326, 327, 328, 175, 83, 329, 330, 331, 332, 91, 130, 333, 334, 335, 336, 337, 92, 77, 78, 81, 82, 80, 338, 339, 340, 341, 79, 87, 88, 342, 343, 85, 86, 84, 344, 345, 346, 347, 348, 349, 350, 351, 352, 353, 354, 355, 356, 357, 358, 359, 90, 360, 361, 362, 363, 648, 649, 650, 651, 652, 653, 654, 655, 656, 657, 658, 659, 660, 661, 662, 663, 664, 665, 666, 667, 668, 669, 670, 671, 672, 673, 674, 675] rfl (by decide +kernel)
set_option maxRecDepth 20000 in
theorem gL_law_X5_barred : GoodIn wsL_law (wsV RL 79 RX5 yX5_barred wsX5_barred) := goodIn_app (goodIn_of _ (by decide +kernel)) ggL_law_X5_barred
set_option maxRecDepth 20000 in
theorem ggL_law_X4_whole : GoodIn wsL_law wsX4_whole := goodIn_r _ [520, 23, 521, 522, 523, 2, 524, 15, 525, 526, 527, 528, 14, 529, 125, 29, 28, 530, 531, 532, 22, 533, 120, 534, 535, 72, 536, 65, 66, 537, 538, 539, 540, 69, 70, 71, 541, 542, 543, 256, 257, 258, 544, 545, 546, 547, 548, 549, 550, 551, 552, 553, 554, 555, 556, 557, 558, 559, 182, 183, 184, 170, 36, 560, 561, 562, 563, 564, 565, 280, 281, 282, 31, 566, 567, 568, 569, 570, 571, 572, 573, 574, 284, 285, 286, 575, 576, 577, 578, 579, 580, 581, 582, 67, 583, 584, 585, 586, 587, 588, 589, 590, 591, 592, 593, 594, 595, 596, 597, 598, 645, 646, 647, 676, 677, 678, 679, 680, 681, 682, 683, 684, 695, 696, 697, 698, 699, 700, 701, 702, 703, 704] rfl (by decide +kernel)
set_option maxRecDepth 20000 in
theorem gL_law_X4_whole : GoodIn wsL_law (wsV RL 80 RX4 yX4_whole wsX4_whole) := goodIn_app (goodIn_of _ (by decide +kernel)) ggL_law_X4_whole
set_option maxRecDepth 20000 in
theorem ggL_law_X5_whole : GoodIn wsL_law wsX5_whole := goodIn_r _ [602, 603, 604, 605, 606, 5, 607, 130, 78, 77, 608, 609, 610, 611, 612, 93, 79, 94, 613, 614, 615, 616, 175, 83, 81, 82, 80, 648, 649, 650, 651, 652, 653, 654, 655, 656, 657, 658, 659, 660, 661, 662, 663, 664, 665, 666, 667, 668, 669, 670, 671, 672, 673, 674, 675] rfl (by decide +kernel)
set_option maxRecDepth 20000 in
theorem gL_law_X5_whole : GoodIn wsL_law (wsV RL 83 RX5 yX5_whole wsX5_whole) := goodIn_app (goodIn_of _ (by decide +kernel)) ggL_law_X5_whole
set_option maxRecDepth 20000 in
theorem ggL_law_X4_wholeValue : GoodIn wsL_law wsX4_wholeValue := goodIn_r _ [620, 15, 23, 141, 142, 143, 14, 144, 125, 521, 522, 523, 2, 524, 525, 526, 527, 528, 529, 29, 28, 530, 531, 532, 22, 533, 120, 534, 535, 72, 536, 65, 66, 537, 538, 539, 540, 69, 70, 71, 541, 542, 543, 256, 257, 258, 544, 545, 546, 547, 548, 549, 550, 551, 552, 553, 554, 555, 556, 557, 558, 559, 182, 183, 184, 170, 36, 560, 561, 562, 563, 564, 565, 280, 281, 282, 31, 566, 567, 568, 569, 570, 571, 572, 573, 574, 284, 285, 286, 575, 576, 577, 578, 579, 580, 581, 582, 67, 583, 584, 585, 586, 587, 588, 589, 590, 591, 592, 593, 594, 621, 622, 623, 624, 645, 646, 647, 676, 677, 678, 679, 680, 681, 682, 683, 684, 695, 696, 697, 698, 699, 700, 701, 702, 703, 704] rfl (by decide +kernel)
set_option maxRecDepth 20000 in
theorem gL_law_X4_wholeValue : GoodIn wsL_law (wsV RL 84 RX4 yX4_wholeValue wsX4_wholeValue) := goodIn_app (goodIn_of _ (by decide +kernel)) ggL_law_X4_wholeValue
set_option maxRecDepth 20000 in
theorem ggL_law_X5_wholeValue : GoodIn wsL_law wsX5_wholeValue := goodIn_r _ [628, 94, 149, 150, 151, 5, 152, 130, 604, 605, 606, 607, 78, 77, 608, 609, 610, 611, 612, 93, 79, 603, 613, 614, 615, 616, 175, 83, 81, 82, 80, 648, 649, 650, 651, 652, 653, 654, 655, 656, 657, 658, 659, 660, 661, 662, 663, 664, 665, 666, 667, 668, 669, 670, 671, 672, 673, 674, 675] rfl (by decide +kernel)
set_option maxRecDepth 20000 in
theorem gL_law_X5_wholeValue : GoodIn wsL_law (wsV RL 87 RX5 yX5_wholeValue wsX5_wholeValue) := goodIn_app (goodIn_of _ (by decide +kernel)) ggL_law_X5_wholeValue
set_option maxRecDepth 20000 in
theorem ggL_law_X4_isWhole : GoodIn wsL_law wsX4_isWhole := goodIn_r _ [632, 521, 522, 523, 2, 524, 15, 525, 23, 526, 527, 528, 14, 529, 125, 29, 28, 530, 531, 532, 22, 533, 120, 534, 535, 72, 536, 65, 66, 537, 538, 539, 540, 69, 70, 71, 541, 542, 543, 256, 257, 258, 544, 545, 546, 547, 548, 549, 550, 551, 552, 553, 554, 555, 556, 557, 558, 559, 182, 183, 184, 170, 36, 560, 561, 562, 563, 564, 565, 280, 281, 282, 31, 566, 567, 568, 569, 570, 571, 572, 573, 574, 284, 285, 286, 575, 576, 577, 578, 579, 580, 581, 582, 67, 583, 584, 585, 586, 587, 588, 589, 590, 591, 592, 593, 594, 645, 646, 647, 676, 677, 678, 679, 680, 681, 682, 683, 684, 695, 696, 697, 698, 699, 700, 701, 702, 703, 704] rfl (by decide +kernel)
set_option maxRecDepth 20000 in
theorem gL_law_X4_isWhole : GoodIn wsL_law (wsV RL 88 RX4 yX4_isWhole wsX4_isWhole) := goodIn_app (goodIn_of _ (by decide +kernel)) ggL_law_X4_isWhole
set_option maxRecDepth 20000 in
theorem ggL_law_X5_isWhole : GoodIn wsL_law wsX5_isWhole := goodIn_r _ [636, 604, 605, 606, 5, 607, 130, 78, 77, 608, 609, 610, 611, 612, 93, 79, 603, 94, 613, 614, 615, 616, 175, 83, 81, 82, 80, 648, 649, 650, 651, 652, 653, 654, 655, 656, 657, 658, 659, 660, 661, 662, 663, 664, 665, 666, 667, 668, 669, 670, 671, 672, 673, 674, 675] rfl (by decide +kernel)
set_option maxRecDepth 20000 in
theorem gL_law_X5_isWhole : GoodIn wsL_law (wsV RL 91 RX5 yX5_isWhole wsX5_isWhole) := goodIn_app (goodIn_of _ (by decide +kernel)) ggL_law_X5_isWhole
set_option maxRecDepth 20000 in
theorem ggL_law_X4_told : GoodIn wsL_law wsX4_told := goodIn_r _ [640, 15, 223, 224, 207, 208, 209, 14, 210, 170, 36, 645, 646, 647, 676, 677, 678, 679, 680, 681, 682, 683, 684] rfl (by decide +kernel)
set_option maxRecDepth 20000 in
theorem gL_law_X4_told : GoodIn wsL_law (wsV RL 92 RX4 yX4_told wsX4_told) := goodIn_app (goodIn_of _ (by decide +kernel)) ggL_law_X4_told
set_option maxRecDepth 20000 in
theorem ggL_law_X5_told : GoodIn wsL_law wsX5_told := goodIn_r _ [644, 130, 175, 215, 216, 217, 5, 218, 83, 648, 649, 650, 651, 652, 653, 654, 655, 656, 657, 658, 659, 660, 661, 662, 663, 664, 665, 666, 667, 668, 669, 670, 671, 672, 673, 674, 675] rfl (by decide +kernel)
set_option maxRecDepth 20000 in
theorem gL_law_X5_told : GoodIn wsL_law (wsV RL 95 RX5 yX5_told wsX5_told) := goodIn_app (goodIn_of _ (by decide +kernel)) ggL_law_X5_told
