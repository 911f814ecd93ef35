/-! the law: the words of each call -/
set_option maxRecDepth 20000 in
theorem ggL_law_X7_init : GoodIn wsL_law wsX7_init := goodIn_r _ [8, 9, 10, 11, 12, 13, 14, 15, 16, 17, 18, 19, 20, 21, 22, 23, 24, 25, 26, 27, 28, 29, 30, 31, 32, 33, 34, 35, 36, 37, 38, 39, 40, 41, 42, 43, 44, 45, 46, 47, 48, 49, 50, 51, 52, 53, 54, 55, 56, 57, 58, 59, 60, 61, 62, 63, 64, 65, 66, 67, 68, 69, 70, 71, 72, 73, 74, 75, 76, 77, 78, 79, 80, 81, 82, 83, 84, 85, 86, 87, 88, 89, 2, 90, 91, 92, 93, 94, 95, 96, 97, 98, 99, 100, 101, 102, 103, 104, 105, 106, 107, 108, 109, 110, 111, 112, 113, 114, 115, 116, 117, 118, 119, 120, 121, 122, 123, 124, 125, 126, 127, 128, 129, 130, 674, 675, 676, 677, 678, 679, 680, 681, 682, 683, 684, 685, 686, 635, 636, 637, 638, 639, 640, 641, 687, 688, 689, 690, 691, 692, 693, 694, 695, 696, 697, 698, 699, 700, 701, 702, 703, 704, 705, 706, 707, 708, 709] rfl (by decide +kernel)
theorem gL_law_X7_init : GoodIn wsL_law (wsX7_init) := ggL_law_X7_init
set_option maxRecDepth 20000 in
theorem ggL_law_X8_init : GoodIn wsL_law wsX8_init := goodIn_r _ [133, 134, 10, 11, 135, 43, 136, 137, 138, 139, 140, 141, 142, 143, 144, 145, 146, 66, 147, 148, 149, 150, 151, 152, 153, 154, 155, 156, 157, 158, 159, 160, 161, 162, 5, 163, 164, 165, 166, 167, 168, 169, 642, 643, 644, 645, 646, 647, 648, 649, 650, 651, 652, 653, 654, 655, 656, 657, 658, 659, 660, 661, 662, 663, 664, 665, 666, 667, 668, 669, 670, 671, 672, 673] rfl (by decide +kernel)
theorem gL_law_X8_init : GoodIn wsL_law (wsX8_init) := ggL_law_X8_init
set_option maxRecDepth 20000 in
theorem ggL_law_X7_graph : GoodIn wsL_law wsX7_graph := goodIn_r _ [173, 15, 174, 175, 2, 176, 87, 88, 89, 90, 19, 23, 39, 91, 14, 92, 93, 94, 95, 96, 97, 46, 49, 50, 51, 52, 98, 99, 100, 101, 102, 103, 104, 105, 106, 107, 108, 109, 44, 45, 110, 18, 111, 112, 113, 114, 115, 116, 22, 117, 118, 60, 119, 120, 38, 121, 122, 123, 124, 125, 126, 127, 86, 128, 129, 130, 635, 636, 637, 638, 639, 640, 641, 674, 675, 676, 677, 678, 679, 680, 681, 682, 683, 684, 685, 686, 687, 688, 689, 690, 691, 692, 708, 709] rfl (by decide +kernel)
set_option maxRecDepth 20000 in
theorem gL_law_X7_graph : GoodIn wsL_law (wsV RL 13 RX7 yX7_graph wsX7_graph) := goodIn_app (goodIn_r _ [170, 171, 172, 2] rfl (by decide +kernel)) ggL_law_X7_graph
set_option maxRecDepth 20000 in
theorem ggL_law_X8_graph : GoodIn wsL_law wsX8_graph := goodIn_r _ [180, 135, 181, 160, 161, 162, 5, 163, 136, 164, 142, 143, 144, 145, 146, 165, 150, 166, 167, 168, 169, 149, 182, 183, 184, 185, 186, 187, 188, 189, 642, 643, 644, 645, 646, 647, 648, 649, 650, 651, 652, 653, 654, 655, 656, 657, 658, 659, 660, 661, 662, 663, 664, 665, 666, 667, 668, 669, 670, 671, 672, 673] rfl (by decide +kernel)
set_option maxRecDepth 20000 in
theorem gL_law_X8_graph : GoodIn wsL_law (wsV RL 17 RX8 yX8_graph wsX8_graph) := goodIn_app (goodIn_r _ [177, 178, 179, 5] rfl (by decide +kernel)) ggL_law_X8_graph
set_option maxRecDepth 20000 in
theorem ggL_law_X7_arc : GoodIn wsL_law wsX7_arc := goodIn_r _ [193, 15, 194, 14, 195, 196, 49, 197, 198, 199, 200, 94, 174, 175, 2, 176, 201, 202, 203, 48, 97, 47, 204, 205, 206, 207, 44, 45, 46, 95, 208, 209, 210, 211, 51, 52, 635, 636, 637, 638, 639, 640, 641, 674, 675, 676, 677, 678, 679, 680, 681, 682, 683, 684, 685, 686] rfl (by decide +kernel)
set_option maxRecDepth 20000 in
theorem gL_law_X7_arc : GoodIn wsL_law (wsV RL 18 RX7 yX7_arc wsX7_arc) := goodIn_app (goodIn_r _ [190, 191, 192, 2] rfl (by decide +kernel)) ggL_law_X7_arc
set_option maxRecDepth 20000 in
theorem ggL_law_X8_arc : GoodIn wsL_law wsX8_arc := goodIn_r _ [215, 136, 137, 164, 138, 139, 141, 181, 216, 217, 218, 5, 219, 220, 221, 222, 223, 135, 186, 187, 188, 189, 166, 167, 168, 169, 149, 642, 643, 644, 645, 646, 647, 648, 649, 650, 651, 652, 653, 654, 655, 656, 657, 658, 659, 660, 661, 662, 663, 664, 665, 666, 667, 668, 669, 670, 671, 672, 673] rfl (by decide +kernel)
set_option maxRecDepth 20000 in
theorem gL_law_X8_arc : GoodIn wsL_law (wsV RL 22 RX8 yX8_arc wsX8_arc) := goodIn_app (goodIn_r _ [212, 213, 214, 5] rfl (by decide +kernel)) ggL_law_X8_arc
set_option maxRecDepth 20000 in
theorem ggL_law_X7_group : GoodIn wsL_law wsX7_group := goodIn_r _ [227, 15, 198, 14, 199, 200, 94, 174, 175, 2, 176, 635, 636, 637, 638, 639, 640, 641, 674, 675, 676, 677, 678, 679, 680, 681, 682, 683, 684, 685, 686] rfl (by decide +kernel)
set_option maxRecDepth 20000 in
theorem gL_law_X7_group : GoodIn wsL_law (wsV RL 23 RX7 yX7_group wsX7_group) := goodIn_app (goodIn_r _ [224, 225, 226, 2] rfl (by decide +kernel)) ggL_law_X7_group
set_option maxRecDepth 20000 in
theorem ggL_law_X8_group : GoodIn wsL_law wsX8_group := goodIn_r _ [231, 142, 220, 221, 222, 5, 223, 135, 166, 167, 168, 169, 149, 642, 643, 644, 645, 646, 647, 648, 649, 650, 651, 652, 653, 654, 655, 656, 657, 658, 659, 660, 661, 662, 663, 664, 665, 666, 667, 668, 669, 670, 671, 672, 673] rfl (by decide +kernel)
set_option maxRecDepth 20000 in
theorem gL_law_X8_group : GoodIn wsL_law (wsV RL 26 RX8 yX8_group wsX8_group) := goodIn_app (goodIn_r _ [228, 229, 230, 5] rfl (by decide +kernel)) ggL_law_X8_group
set_option maxRecDepth 20000 in
theorem ggL_law_X7_hide : GoodIn wsL_law wsX7_hide := goodIn_r _ [235, 15, 194, 14, 195, 196, 49, 197, 198, 199, 200, 94, 205, 206, 207, 44, 45, 46, 95, 208, 209, 210, 211, 51, 52, 635, 636, 637, 638, 639, 640, 641, 674, 675, 676, 677, 678, 679, 680, 681, 682, 683, 684, 685, 686] rfl (by decide +kernel)
set_option maxRecDepth 20000 in
theorem gL_law_X7_hide : GoodIn wsL_law (wsV RL 27 RX7 yX7_hide wsX7_hide) := goodIn_app (goodIn_r _ [232, 233, 234, 2] rfl (by decide +kernel)) ggL_law_X7_hide
set_option maxRecDepth 20000 in
theorem ggL_law_X8_hide : GoodIn wsL_law wsX8_hide := goodIn_r _ [239, 136, 141, 216, 217, 218, 5, 219, 181, 220, 221, 222, 223, 135, 186, 187, 188, 189, 166, 167, 168, 169, 149, 642, 643, 644, 645, 646, 647, 648, 649, 650, 651, 652, 653, 654, 655, 656, 657, 658, 659, 660, 661, 662, 663, 664, 665, 666, 667, 668, 669, 670, 671, 672, 673] rfl (by decide +kernel)
set_option maxRecDepth 20000 in
theorem gL_law_X8_hide : GoodIn wsL_law (wsV RL 31 RX8 yX8_hide wsX8_hide) := goodIn_app (goodIn_r _ [236, 237, 238, 5] rfl (by decide +kernel)) ggL_law_X8_hide
set_option maxRecDepth 20000 in
theorem ggL_law_X7_since : GoodIn wsL_law wsX7_since := goodIn_r _ [243, 15, 205, 14, 206, 207, 44, 45, 46, 95, 208, 209, 210, 211, 51, 52, 244, 245, 246, 97, 48, 635, 636, 637, 638, 639, 640, 641, 674, 675, 676, 677, 678, 679, 680, 681, 682, 683, 684, 685, 686] rfl (by decide +kernel)
set_option maxRecDepth 20000 in
theorem gL_law_X7_since : GoodIn wsL_law (wsV RL 32 RX7 yX7_since wsX7_since) := goodIn_app (goodIn_r _ [240, 241, 242, 2] rfl (by decide +kernel)) ggL_law_X7_since
set_option maxRecDepth 20000 in
theorem ggL_law_X8_since : GoodIn wsL_law wsX8_since := goodIn_r _ [250, 164, 141, 139, 166, 167, 168, 5, 169, 149, 251, 252, 253, 254, 642, 643, 644, 645, 646, 647, 648, 649, 650, 651, 652, 653, 654, 655, 656, 657, 658, 659, 660, 661, 662, 663, 664, 665, 666, 667, 668, 669, 670, 671, 672, 673] rfl (by decide +kernel)
set_option maxRecDepth 20000 in
theorem gL_law_X8_since : GoodIn wsL_law (wsV RL 36 RX8 yX8_since wsX8_since) := goodIn_app (goodIn_r _ [247, 248, 249, 5] rfl (by decide +kernel)) ggL_law_X8_since
set_option maxRecDepth 20000 in
theorem ggL_law_X7_split : GoodIn wsL_law wsX7_split := goodIn_r _ [258, 35, 15, 174, 175, 2, 176, 259, 34, 260, 261, 262, 263, 264, 265, 266, 267, 205, 14, 206, 207, 44, 45, 46, 95, 208, 209, 210, 211, 51, 52, 244, 245, 246, 97, 48, 635, 636, 637, 638, 639, 640, 641, 674, 675, 676, 677, 678, 679, 680, 681, 682, 683, 684, 685, 686, 707] rfl (by decide +kernel)
set_option maxRecDepth 20000 in
theorem gL_law_X7_split : GoodIn wsL_law (wsV RL 37 RX7 yX7_split wsX7_split) := goodIn_app (goodIn_r _ [255, 256, 257, 2] rfl (by decide +kernel)) ggL_law_X7_split
set_option maxRecDepth 20000 in
theorem ggL_law_X8_split : GoodIn wsL_law wsX8_split := goodIn_r _ [271, 272, 164, 141, 166, 167, 168, 5, 169, 149, 273, 274, 275, 276, 277, 278, 251, 252, 253, 254, 642, 643, 644, 645, 646, 647, 648, 649, 650, 651, 652, 653, 654, 655, 656, 657, 658, 659, 660, 661, 662, 663, 664, 665, 666, 667, 668, 669, 670, 671, 672, 673] rfl (by decide +kernel)
set_option maxRecDepth 20000 in
theorem gL_law_X8_split : GoodIn wsL_law (wsV RL 40 RX8 yX8_split wsX8_split) := goodIn_app (goodIn_r _ [268, 269, 270, 5] rfl (by decide +kernel)) ggL_law_X8_split
set_option maxRecDepth 20000 in
theorem ggL_law_X7_count : GoodIn wsL_law wsX7_count := goodIn_r _ [282, 15, 244, 14, 245, 246, 97, 46, 48, 283, 284, 285, 96, 286, 635, 636, 637, 638, 639, 640, 641, 674, 675, 676, 677, 678, 679, 680, 681, 682, 683, 684, 685, 686] rfl (by decide +kernel)
set_option maxRecDepth 20000 in
theorem gL_law_X7_count : GoodIn wsL_law (wsV RL 41 RX7 yX7_count wsX7_count) := goodIn_app (goodIn_r _ [279, 280, 281, 2] rfl (by decide +kernel)) ggL_law_X7_count
set_option maxRecDepth 20000 in
theorem ggL_law_X8_count : GoodIn wsL_law wsX8_count := goodIn_r _ [290, 135, 164, 182, 183, 184, 5, 185, 186, 187, 188, 189, 181, 251, 252, 253, 254, 141, 291, 292, 293, 294, 154, 295, 155, 296, 153, 297, 298, 299, 300, 301, 302, 303, 304, 136, 305, 306, 307, 308, 143, 309, 310, 311, 312, 149, 147, 148, 220, 221, 222, 223, 313, 314, 315, 316, 317, 318, 319, 320, 321, 322, 323, 324, 325, 326, 327, 328, 329, 330, 331, 332, 333, 334, 335, 336, 337, 338, 339, 340, 341, 342, 343, 344, 144, 145, 345, 346, 347, 348, 151, 152, 349, 350, 351, 352, 146, 353, 354, 355, 356, 142, 357, 358, 359, 360, 361, 642, 643, 644, 645, 646, 647, 648, 649, 650, 651, 652, 653, 654, 655, 656, 657, 658, 659, 660, 661, 662, 663, 664, 665, 666, 667, 668, 669, 670, 671, 672, 673] rfl (by decide +kernel)
set_option maxRecDepth 20000 in
theorem gL_law_X8_count : GoodIn wsL_law (wsV RL 44 RX8 yX8_count wsX8_count) := goodIn_app (goodIn_r _ [287, 288, 289, 5] rfl (by decide +kernel)) ggL_law_X8_count
set_option maxRecDepth 20000 in
theorem ggL_law_X7_paths : GoodIn wsL_law wsX7_paths := goodIn_r _ [365, 19, 174, 175, 2, 176, 110, 18, 111, 112, 113, 114, 115, 635, 636, 637, 638, 639, 640, 641, 687, 688, 689, 690] rfl (by decide +kernel)
set_option maxRecDepth 20000 in
theorem gL_law_X7_paths : GoodIn wsL_law (wsV RL 45 RX7 yX7_paths wsX7_paths) := goodIn_app (goodIn_r _ [362, 363, 364, 2] rfl (by decide +kernel)) ggL_law_X7_paths
set_option maxRecDepth 20000 in
theorem ggL_law_X8_paths : GoodIn wsL_law wsX8_paths := goodIn_r _ [369, 144, 145, 146, 166, 167, 168, 5, 169, 149, 642, 643, 644, 645, 646, 647, 648, 649, 650, 651, 652, 653, 654, 655, 656, 657, 658, 659, 660, 661, 662, 663, 664, 665, 666, 667, 668, 669, 670, 671, 672, 673] rfl (by decide +kernel)
set_option maxRecDepth 20000 in
theorem gL_law_X8_paths : GoodIn wsL_law (wsV RL 48 RX8 yX8_paths wsX8_paths) := goodIn_app (goodIn_r _ [366, 367, 368, 5] rfl (by decide +kernel)) ggL_law_X8_paths
set_option maxRecDepth 20000 in
theorem ggL_law_X7_weigh : GoodIn wsL_law wsX7_weigh := goodIn_r _ [373, 23, 374, 375, 2, 376, 174, 175, 176, 635, 636, 637, 638, 639, 640, 641, 691, 692] rfl (by decide +kernel)
set_option maxRecDepth 20000 in
theorem gL_law_X7_weigh : GoodIn wsL_law (wsV RL 49 RX7 yX7_weigh wsX7_weigh) := goodIn_app (goodIn_r _ [370, 371, 372, 2] rfl (by decide +kernel)) ggL_law_X7_weigh
set_option maxRecDepth 20000 in
theorem ggL_law_X8_weigh : GoodIn wsL_law wsX8_weigh := goodIn_r _ [380, 143, 381, 382, 5, 383, 642, 643, 644, 645, 646, 647, 648, 649, 650, 651, 652, 653, 654, 655, 656, 657, 658, 659, 660, 661, 662, 663, 664, 665, 666, 667, 668, 669, 670, 671, 672, 673] rfl (by decide +kernel)
set_option maxRecDepth 20000 in
theorem gL_law_X8_weigh : GoodIn wsL_law (wsV RL 52 RX8 yX8_weigh wsX8_weigh) := goodIn_app (goodIn_r _ [377, 378, 379, 5] rfl (by decide +kernel)) ggL_law_X8_weigh
set_option maxRecDepth 20000 in
theorem ggL_law_X7_weight : GoodIn wsL_law wsX7_weight := goodIn_r _ [387, 23, 374, 375, 2, 376, 174, 175, 176, 635, 636, 637, 638, 639, 640, 641, 691, 692] rfl (by decide +kernel)
set_option maxRecDepth 20000 in
theorem gL_law_X7_weight : GoodIn wsL_law (wsV RL 53 RX7 yX7_weight wsX7_weight) := goodIn_app (goodIn_r _ [384, 385, 386, 2] rfl (by decide +kernel)) ggL_law_X7_weight
set_option maxRecDepth 20000 in
theorem ggL_law_X8_weight : GoodIn wsL_law wsX8_weight := goodIn_r _ [391, 143, 381, 382, 5, 383, 642, 643, 644, 645, 646, 647, 648, 649, 650, 651, 652, 653, 654, 655, 656, 657, 658, 659, 660, 661, 662, 663, 664, 665, 666, 667, 668, 669, 670, 671, 672, 673] rfl (by decide +kernel)
set_option maxRecDepth 20000 in
theorem gL_law_X8_weight : GoodIn wsL_law (wsV RL 56 RX8 yX8_weight wsX8_weight) := goodIn_app (goodIn_r _ [388, 389, 390, 5] rfl (by decide +kernel)) ggL_law_X8_weight
set_option maxRecDepth 20000 in
theorem ggL_law_X7_score : GoodIn wsL_law wsX7_score := goodIn_r _ [395, 15, 23, 19, 39, 396, 194, 14, 195, 196, 49, 197, 198, 199, 200, 94, 374, 375, 2, 376, 174, 175, 176, 397, 22, 398, 399, 60, 61, 400, 18, 401, 402, 56, 403, 113, 114, 404, 405, 406, 95, 52, 407, 408, 409, 410, 51, 411, 412, 413, 414, 415, 416, 417, 418, 125, 419, 420, 421, 422, 423, 424, 425, 426, 427, 428, 429, 430, 431, 432, 433, 434, 435, 436, 437, 438, 439, 440, 441, 442, 443, 444, 445, 446, 447, 448, 449, 450, 451, 452, 115, 453, 454, 455, 456, 457, 458, 459, 50, 120, 38, 121, 122, 123, 124, 126, 127, 86, 128, 129, 130, 635, 636, 637, 638, 639, 640, 641, 674, 675, 676, 677, 678, 679, 680, 681, 682, 683, 684, 685, 686, 691, 692, 687, 688, 689, 690, 708, 709] rfl (by decide +kernel)
set_option maxRecDepth 20000 in
theorem gL_law_X7_score : GoodIn wsL_law (wsV RL 57 RX7 yX7_score wsX7_score) := goodIn_app (goodIn_r _ [392, 393, 394, 2] rfl (by decide +kernel)) ggL_law_X7_score
set_option maxRecDepth 20000 in
theorem ggL_law_X8_score : GoodIn wsL_law wsX8_score := goodIn_r _ [463, 216, 217, 218, 5, 219, 181, 220, 221, 222, 223, 135, 186, 187, 188, 189, 464, 465, 466, 467, 305, 306, 307, 308, 143, 295, 296, 309, 310, 311, 312, 149, 147, 148, 313, 314, 315, 316, 317, 301, 302, 303, 304, 136, 141, 318, 319, 320, 321, 322, 323, 324, 325, 326, 327, 328, 329, 330, 331, 332, 333, 334, 335, 336, 337, 338, 339, 340, 341, 342, 343, 344, 144, 145, 345, 346, 347, 348, 151, 152, 349, 350, 351, 352, 146, 353, 354, 355, 356, 142, 468, 469, 470, 471, 165, 150, 642, 643, 644, 645, 646, 647, 648, 649, 650, 651, 652, 653, 654, 655, 656, 657, 658, 659, 660, 661, 662, 663, 664, 665, 666, 667, 668, 669, 670, 671, 672, 673] rfl (by decide +kernel)
set_option maxRecDepth 20000 in
theorem gL_law_X8_score : GoodIn wsL_law (wsV RL 60 RX8 yX8_score wsX8_score) := goodIn_app (goodIn_r _ [460, 461, 462, 5] rfl (by decide +kernel)) ggL_law_X8_score
set_option maxRecDepth 20000 in
theorem ggL_law_X7_top : GoodIn wsL_law wsX7_top := goodIn_r _ [475, 39, 635, 636, 637, 638, 639, 640, 641, 708, 709] rfl (by decide +kernel)
set_option maxRecDepth 20000 in
theorem gL_law_X7_top : GoodIn wsL_law (wsV RL 61 RX7 yX7_top wsX7_top) := goodIn_app (goodIn_r _ [472, 473, 474, 2] rfl (by decide +kernel)) ggL_law_X7_top
set_option maxRecDepth 20000 in
theorem ggL_law_X8_top : GoodIn wsL_law wsX8_top := goodIn_r _ [479, 165, 642, 643, 644, 645, 646, 647, 648, 649, 650, 651, 652, 653, 654, 655, 656, 657, 658, 659, 660, 661, 662, 663, 664, 665, 666, 667, 668, 669, 670, 671, 672, 673] rfl (by decide +kernel)
set_option maxRecDepth 20000 in
theorem gL_law_X8_top : GoodIn wsL_law (wsV RL 65 RX8 yX8_top wsX8_top) := goodIn_app (goodIn_r _ [476, 477, 478, 5] rfl (by decide +kernel)) ggL_law_X8_top
set_option maxRecDepth 20000 in
theorem ggL_law_X7_bottom : GoodIn wsL_law wsX7_bottom := goodIn_r _ [483, 39, 635, 636, 637, 638, 639, 640, 641, 708, 709] rfl (by decide +kernel)
set_option maxRecDepth 20000 in
theorem gL_law_X7_bottom : GoodIn wsL_law (wsV RL 66 RX7 yX7_bottom wsX7_bottom) := goodIn_app (goodIn_r _ [480, 481, 482, 2] rfl (by decide +kernel)) ggL_law_X7_bottom
set_option maxRecDepth 20000 in
theorem ggL_law_X8_bottom : GoodIn wsL_law wsX8_bottom := goodIn_r _ [487, 150, 642, 643, 644, 645, 646, 647, 648, 649, 650, 651, 652, 653, 654, 655, 656, 657, 658, 659, 660, 661, 662, 663, 664, 665, 666, 667, 668, 669, 670, 671, 672, 673] rfl (by decide +kernel)
set_option maxRecDepth 20000 in
theorem gL_law_X8_bottom : GoodIn wsL_law (wsV RL 69 RX8 yX8_bottom wsX8_bottom) := goodIn_app (goodIn_r _ [484, 485, 486, 5] rfl (by decide +kernel)) ggL_law_X8_bottom
set_option maxRecDepth 20000 in
theorem ggL_law_X7_ranked : GoodIn wsL_law wsX7_ranked := goodIn_r _ [491, 15, 27, 283, 14, 284, 285, 96, 97, 286, 244, 245, 246, 46, 48, 492, 493, 494, 2, 495, 23, 496, 26, 497, 498, 499, 500, 501, 71, 502, 503, 504, 505, 68, 69, 65, 506, 507, 508, 67, 397, 22, 398, 399, 60, 61, 400, 18, 401, 402, 56, 403, 113, 114, 404, 405, 406, 95, 52, 407, 408, 409, 410, 94, 51, 411, 412, 413, 414, 415, 416, 417, 418, 125, 419, 420, 421, 422, 423, 424, 425, 426, 427, 428, 429, 430, 431, 432, 433, 434, 435, 436, 437, 438, 439, 440, 441, 442, 443, 444, 445, 446, 447, 448, 449, 450, 451, 452, 115, 453, 454, 455, 456, 457, 458, 459, 50, 509, 510, 511, 70, 512, 513, 514, 635, 636, 637, 638, 639, 640, 641, 674, 675, 676, 677, 678, 679, 680, 681, 682, 683, 684, 685, 686, 693, 694, 695, 696, 697, 698, 699, 700, 701, 691, 692, 687, 688, 689, 690] rfl (by decide +kernel)
set_option maxRecDepth 20000 in
theorem gL_law_X7_ranked : GoodIn wsL_law (wsV RL 70 RX7 yX7_ranked wsX7_ranked) := goodIn_app (goodIn_r _ [488, 489, 490, 2] rfl (by decide +kernel)) ggL_law_X7_ranked
set_option maxRecDepth 20000 in
theorem ggL_law_X8_ranked : GoodIn wsL_law wsX8_ranked := goodIn_r _ [518, 153, 291, 292, 293, 5, 294, 135, 154, 295, 155, 296, 186, 187, 188, 189, 181, 297, 298, 299, 300, 301, 302, 303, 304, 136, 141, 305, 306, 307, 308, 143, 309, 310, 311, 312, 149, 147, 148, 220, 221, 222, 223, 313, 314, 315, 316, 317, 318, 319, 320, 321, 322, 323, 324, 325, 326, 327, 328, 329, 330, 331, 332, 333, 334, 335, 336, 337, 338, 339, 340, 341, 342, 343, 344, 144, 145, 345, 346, 347, 348, 151, 152, 349, 350, 351, 352, 146, 353, 354, 355, 356, 142, 357, 358, 359, 360, 361, 642, 643, 644, 645, 646, 647, 648, 649, 650, 651, 652, 653, 654, 655, 656, 657, 658, 659, 660, 661, 662, 663, 664, 665, 666, 667, 668, 669, 670, 671, 672, 673] rfl (by decide +kernel)
set_option maxRecDepth 20000 in
theorem gL_law_X8_ranked : GoodIn wsL_law (wsV RL 73 RX8 yX8_ranked wsX8_ranked) := goodIn_app (goodIn_r _ [515, 516, 517, 5] rfl (by decide +kernel)) ggL_law_X8_ranked
set_option maxRecDepth 20000 in
theorem ggL_law_X7_place : GoodIn wsL_law wsX7_place := goodIn_r _ [522, 15, 27, 194, 14, 195, 196, 49, 197, 198, 199, 200, 94, 492, 493, 494, 2, 495, 23, 496, 26, 497, 498, 499, 500, 501, 71, 502, 503, 504, 505, 68, 69, 65, 506, 507, 508, 67, 397, 22, 398, 399, 60, 61, 400, 18, 401, 402, 56, 403, 113, 114, 404, 405, 406, 95, 52, 407, 408, 409, 410, 51, 411, 412, 413, 414, 415, 416, 417, 418, 125, 419, 420, 421, 422, 423, 424, 425, 426, 427, 428, 429, 430, 431, 432, 433, 434, 435, 436, 437, 438, 439, 440, 441, 442, 443, 444, 445, 446, 447, 448, 449, 450, 451, 452, 115, 453, 454, 455, 456, 457, 458, 459, 50, 509, 510, 511, 70, 523, 524, 525, 526, 512, 513, 514, 635, 636, 637, 638, 639, 640, 641, 674, 675, 676, 677, 678, 679, 680, 681, 682, 683, 684, 685, 686, 693, 694, 695, 696, 697, 698, 699, 700, 701, 691, 692, 687, 688, 689, 690] rfl (by decide +kernel)
set_option maxRecDepth 20000 in
theorem gL_law_X7_place : GoodIn wsL_law (wsV RL 74 RX7 yX7_place wsX7_place) := goodIn_app (goodIn_r _ [519, 520, 521, 2] rfl (by decide +kernel)) ggL_law_X7_place
set_option maxRecDepth 20000 in
theorem ggL_law_X8_place : GoodIn wsL_law wsX8_place := goodIn_r _ [530, 153, 216, 217, 218, 5, 219, 181, 220, 221, 222, 223, 135, 186, 187, 188, 189, 297, 298, 299, 300, 301, 302, 303, 304, 136, 141, 464, 465, 466, 467, 291, 292, 293, 294, 154, 295, 155, 296, 305, 306, 307, 308, 143, 309, 310, 311, 312, 149, 147, 148, 313, 314, 315, 316, 317, 318, 319, 320, 321, 322, 323, 324, 325, 326, 327, 328, 329, 330, 331, 332, 333, 334, 335, 336, 337, 338, 339, 340, 341, 342, 343, 344, 144, 145, 345, 346, 347, 348, 151, 152, 349, 350, 351, 352, 146, 353, 354, 355, 356, 142, 357, 358, 359, 360, 361, 642, 643, 644, 645, 646, 647, 648, 649, 650, 651, 652, 653, 654, 655, 656, 657, 658, 659, 660, 661, 662, 663, 664, 665, 666, 667, 668, 669, 670, 671, 672, 673] rfl (by decide +kernel)
set_option maxRecDepth 20000 in
theorem gL_law_X8_place : GoodIn wsL_law (wsV RL 77 RX8 yX8_place wsX8_place) := goodIn_app (goodIn_r _ [527, 528, 529, 5] rfl (by decide +kernel)) ggL_law_X8_place
set_option maxRecDepth 20000 in
theorem ggL_law_X7_among : GoodIn wsL_law wsX7_among := goodIn_r _ [534, 15, 27, 283, 14, 284, 285, 96, 97, 286, 244, 245, 246, 46, 48, 492, 493, 494, 2, 495, 23, 496, 26, 497, 498, 499, 500, 501, 71, 502, 503, 504, 505, 68, 69, 65, 506, 507, 508, 67, 397, 22, 398, 399, 60, 61, 400, 18, 401, 402, 56, 403, 113, 114, 404, 405, 406, 95, 52, 407, 408, 409, 410, 94, 51, 411, 412, 413, 414, 415, 416, 417, 418, 125, 419, 420, 421, 422, 423, 424, 425, 426, 427, 428, 429, 430, 431, 432, 433, 434, 435, 436, 437, 438, 439, 440, 441, 442, 443, 444, 445, 446, 447, 448, 449, 450, 451, 452, 115, 453, 454, 455, 456, 457, 458, 459, 50, 509, 510, 511, 70, 535, 536, 537, 526, 512, 513, 514, 635, 636, 637, 638, 639, 640, 641, 674, 675, 676, 677, 678, 679, 680, 681, 682, 683, 684, 685, 686, 693, 694, 695, 696, 697, 698, 699, 700, 701, 691, 692, 687, 688, 689, 690] rfl (by decide +kernel)
set_option maxRecDepth 20000 in
theorem gL_law_X7_among : GoodIn wsL_law (wsV RL 78 RX7 yX7_among wsX7_among) := goodIn_app (goodIn_r _ [531, 532, 533, 2] rfl (by decide +kernel)) ggL_law_X7_among
set_option maxRecDepth 20000 in
theorem ggL_law_X8_among : GoodIn wsL_law wsX8_among := goodIn_r _ [541, 153, 291, 292, 293, 5, 294, 135, 154, 295, 155, 296, 186, 187, 188, 189, 181, 297, 298, 299, 300, 301, 302, 303, 304, 136, 141, 305, 306, 307, 308, 143, 309, 310, 311, 312, 149, 147, 148, 220, 221, 222, 223, 313, 314, 315, 316, 317, 318, 319, 320, 321, 322, 323, 324, 325, 326, 327, 328, 329, 330, 331, 332, 333, 334, 335, 336, 337, 338, 339, 340, 341, 342, 343, 344, 144, 145, 345, 346, 347, 348, 151, 152, 349, 350, 351, 352, 146, 353, 354, 355, 356, 142, 357, 358, 359, 360, 361, 542, 543, 544, 545, 642, 643, 644, 645, 646, 647, 648, 649, 650, 651, 652, 653, 654, 655, 656, 657, 658, 659, 660, 661, 662, 663, 664, 665, 666, 667, 668, 669, 670, 671, 672, 673] rfl (by decide +kernel)
set_option maxRecDepth 20000 in
theorem gL_law_X8_among : GoodIn wsL_law (wsV RL 81 RX8 yX8_among wsX8_among) := goodIn_app (goodIn_r _ [538, 539, 540, 5] rfl (by decide +kernel)) ggL_law_X8_among
set_option maxRecDepth 20000 in
theorem ggL_law_X7_share : GoodIn wsL_law wsX7_share := goodIn_r _ [549, 27, 23, 39, 496, 26, 497, 498, 499, 500, 501, 71, 502, 503, 504, 505, 68, 69, 65, 550, 551, 552, 506, 507, 508, 67, 397, 22, 398, 399, 60, 61, 400, 18, 401, 402, 56, 403, 113, 114, 404, 14, 405, 406, 95, 52, 407, 408, 409, 410, 94, 51, 411, 412, 413, 414, 415, 416, 417, 418, 125, 419, 420, 421, 422, 423, 424, 425, 426, 427, 428, 429, 430, 431, 432, 433, 434, 435, 436, 437, 438, 439, 440, 441, 442, 443, 444, 445, 446, 447, 448, 449, 450, 451, 452, 115, 453, 454, 455, 456, 457, 458, 459, 50, 553, 554, 555, 556, 557, 558, 559, 560, 561, 120, 38, 121, 122, 123, 124, 126, 127, 86, 128, 129, 130, 635, 636, 637, 638, 639, 640, 641, 693, 694, 695, 696, 697, 698, 699, 700, 701, 674, 675, 676, 677, 678, 679, 680, 681, 682, 683, 684, 685, 686, 691, 692, 687, 688, 689, 690, 708, 709] rfl (by decide +kernel)
set_option maxRecDepth 20000 in
theorem gL_law_X7_share : GoodIn wsL_law (wsV RL 82 RX7 yX7_share wsX7_share) := goodIn_app (goodIn_r _ [546, 547, 548, 2] rfl (by decide +kernel)) ggL_law_X7_share
set_option maxRecDepth 20000 in
theorem ggL_law_X8_share : GoodIn wsL_law wsX8_share := goodIn_r _ [565, 566, 567, 568, 5, 569, 570, 571, 156, 157, 317, 572, 573, 574, 575, 291, 292, 293, 294, 135, 154, 295, 155, 296, 153, 186, 187, 188, 189, 181, 297, 298, 299, 300, 301, 302, 303, 304, 136, 141, 305, 306, 307, 308, 143, 309, 310, 311, 312, 149, 147, 148, 220, 221, 222, 223, 313, 314, 315, 316, 318, 319, 320, 321, 322, 323, 324, 325, 326, 327, 328, 329, 330, 331, 332, 333, 334, 335, 336, 337, 338, 339, 340, 341, 342, 343, 344, 144, 145, 345, 346, 347, 348, 151, 152, 349, 350, 351, 352, 146, 353, 354, 355, 356, 142, 357, 358, 359, 360, 361, 542, 543, 544, 545, 576, 577, 578, 579, 468, 469, 470, 471, 165, 150, 642, 643, 644, 645, 646, 647, 648, 649, 650, 651, 652, 653, 654, 655, 656, 657, 658, 659, 660, 661, 662, 663, 664, 665, 666, 667, 668, 669, 670, 671, 672, 673] rfl (by decide +kernel)
set_option maxRecDepth 20000 in
theorem gL_law_X8_share : GoodIn wsL_law (wsV RL 86 RX8 yX8_share wsX8_share) := goodIn_app (goodIn_r _ [562, 563, 564, 5] rfl (by decide +kernel)) ggL_law_X8_share
set_option maxRecDepth 20000 in
theorem ggL_law_X7_sample : GoodIn wsL_law wsX7_sample := goodIn_r _ [583, 27, 23, 35, 39, 584, 496, 26, 497, 498, 499, 500, 501, 71, 502, 503, 504, 505, 68, 69, 65, 550, 551, 552, 506, 507, 508, 67, 397, 22, 398, 399, 60, 61, 400, 18, 401, 402, 56, 403, 113, 114, 404, 14, 405, 406, 95, 52, 407, 408, 409, 410, 94, 51, 411, 412, 413, 414, 415, 416, 417, 418, 125, 419, 420, 421, 422, 423, 424, 425, 426, 427, 428, 429, 430, 431, 432, 433, 434, 435, 436, 437, 438, 439, 440, 441, 442, 443, 444, 445, 446, 447, 448, 449, 450, 451, 452, 115, 453, 454, 455, 456, 457, 458, 459, 50, 259, 34, 260, 261, 262, 585, 586, 587, 263, 264, 265, 266, 267, 556, 557, 558, 120, 38, 121, 122, 123, 124, 126, 127, 86, 128, 129, 130, 635, 636, 637, 638, 639, 640, 641, 693, 694, 695, 696, 697, 698, 699, 700, 701, 674, 675, 676, 677, 678, 679, 680, 681, 682, 683, 684, 685, 686, 691, 692, 687, 688, 689, 690, 707, 708, 709] rfl (by decide +kernel)
set_option maxRecDepth 20000 in
theorem gL_law_X7_sample : GoodIn wsL_law (wsV RL 87 RX7 yX7_sample wsX7_sample) := goodIn_app (goodIn_r _ [580, 581, 582, 2] rfl (by decide +kernel)) ggL_law_X7_sample
set_option maxRecDepth 20000 in
theorem ggL_law_X8_sample : GoodIn wsL_law wsX8_sample := goodIn_r _ [591, 272, 570, 156, 157, 571, 317, 572, 573, 574, 5, 575, 291, 292, 293, 294, 135, 154, 295, 155, 296, 153, 186, 187, 188, 189, 181, 297, 298, 299, 300, 301, 302, 303, 304, 136, 141, 305, 306, 307, 308, 143, 309, 310, 311, 312, 149, 147, 148, 220, 221, 222, 223, 313, 314, 315, 316, 318, 319, 320, 321, 322, 323, 324, 325, 326, 327, 328, 329, 330, 331, 332, 333, 334, 335, 336, 337, 338, 339, 340, 341, 342, 343, 344, 144, 145, 345, 346, 347, 348, 151, 152, 349, 350, 351, 352, 146, 353, 354, 355, 356, 142, 357, 358, 359, 360, 361, 542, 543, 544, 545, 273, 274, 275, 276, 277, 278, 576, 577, 578, 579, 468, 469, 470, 471, 165, 150, 642, 643, 644, 645, 646, 647, 648, 649, 650, 651, 652, 653, 654, 655, 656, 657, 658, 659, 660, 661, 662, 663, 664, 665, 666, 667, 668, 669, 670, 671, 672, 673] rfl (by decide +kernel)
set_option maxRecDepth 20000 in
theorem gL_law_X8_sample : GoodIn wsL_law (wsV RL 90 RX8 yX8_sample wsX8_sample) := goodIn_app (goodIn_r _ [588, 589, 590, 5] rfl (by decide +kernel)) ggL_law_X8_sample
set_option maxRecDepth 20000 in
theorem ggL_law_X7_learn : GoodIn wsL_law wsX7_learn := goodIn_r _ [595, 27, 31, 19, 23, 39, 596, 30, 597, 598, 424, 425, 426, 427, 428, 429, 175, 2, 176, 174, 496, 26, 497, 498, 499, 500, 501, 71, 502, 503, 504, 505, 68, 69, 65, 550, 551, 552, 599, 600, 601, 602, 75, 603, 604, 605, 79, 400, 18, 401, 402, 56, 403, 113, 114, 404, 14, 405, 406, 95, 52, 407, 408, 409, 410, 94, 51, 411, 412, 413, 414, 415, 416, 417, 418, 125, 419, 420, 421, 422, 423, 430, 431, 432, 433, 434, 435, 436, 437, 438, 439, 440, 441, 442, 443, 444, 445, 446, 447, 448, 449, 450, 451, 452, 115, 453, 454, 455, 456, 457, 458, 459, 50, 606, 607, 608, 76, 77, 609, 610, 611, 612, 613, 614, 615, 616, 617, 618, 619, 620, 621, 622, 623, 624, 625, 553, 554, 555, 67, 556, 557, 558, 626, 627, 628, 629, 99, 100, 101, 559, 560, 561, 120, 38, 121, 122, 123, 124, 126, 127, 86, 128, 129, 130, 635, 636, 637, 638, 639, 640, 641, 691, 692, 693, 694, 695, 696, 697, 698, 699, 700, 701, 674, 675, 676, 677, 678, 679, 680, 681, 682, 683, 684, 685, 686, 702, 703, 704, 705, 706, 687, 688, 689, 690, 708, 709] rfl (by decide +kernel)
set_option maxRecDepth 20000 in
theorem gL_law_X7_learn : GoodIn wsL_law (wsV RL 91 RX7 yX7_learn wsX7_learn) := goodIn_app (goodIn_r _ [592, 593, 594, 2] rfl (by decide +kernel)) ggL_law_X7_learn
set_option maxRecDepth 20000 in
theorem ggL_law_X8_learn : GoodIn wsL_law wsX8_learn := goodIn_r _ [633, 143, 158, 634, 295, 296, 159, 165, 150, 572, 573, 574, 5, 575, 570, 571, 156, 157, 291, 292, 293, 294, 135, 154, 155, 153, 186, 187, 188, 189, 181, 297, 298, 299, 300, 301, 302, 303, 304, 136, 141, 305, 306, 307, 308, 309, 310, 311, 312, 149, 147, 148, 220, 221, 222, 223, 313, 314, 315, 316, 317, 318, 319, 320, 321, 322, 323, 324, 325, 326, 327, 328, 329, 330, 331, 332, 333, 334, 335, 336, 337, 338, 339, 340, 341, 342, 343, 344, 144, 145, 345, 346, 347, 348, 151, 152, 349, 350, 351, 352, 146, 353, 354, 355, 356, 142, 357, 358, 359, 360, 361, 542, 543, 544, 545, 566, 567, 568, 569, 576, 577, 578, 579, 642, 643, 644, 645, 646, 647, 648, 649, 650, 651, 652, 653, 654, 655, 656, 657, 658, 659, 660, 661, 662, 663, 664, 665, 666, 667, 668, 669, 670, 671, 672, 673] rfl (by decide +kernel)
set_option maxRecDepth 20000 in
theorem gL_law_X8_learn : GoodIn wsL_law (wsV RL 94 RX8 yX8_learn wsX8_learn) := goodIn_app (goodIn_r _ [630, 631, 632, 5] rfl (by decide +kernel)) ggL_law_X8_learn
