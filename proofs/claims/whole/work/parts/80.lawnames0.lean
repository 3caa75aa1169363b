set_option maxRecDepth 20000 in
theorem ggL_law_X5_init : GoodIn wsL_law wsX5_init := goodIn_r _ [9, 10, 11, 12, 13, 14, 15, 16, 17, 18, 19, 20, 21, 22, 23, 24, 25, 26, 27, 28, 29, 30, 31, 32, 33, 34, 35, 36, 37, 38, 39, 40, 41, 42, 43, 44, 45, 46, 47, 48, 49, 50, 51, 52, 53, 54, 55, 56, 57, 58, 59, 60, 61, 62, 63, 64, 65, 66, 651, 652, 653, 654, 655, 656, 657, 658, 659, 660, 685, 686, 687, 688, 689, 690, 691, 692, 693, 694, 695, 696, 697, 698, 699, 700, 701, 702, 703, 704, 705] (by decide +kernel) (by decide +kernel)
set_option maxRecDepth 20000 in
theorem gL_law_X5_init : GoodIn wsL_law (wsX5_init) := ggL_law_X5_init
set_option maxRecDepth 20000 in
theorem ggL_law_X6_init : GoodIn wsL_law wsX6_init := goodIn_r _ [69, 70, 11, 12, 13, 71, 72, 73, 74, 75, 76, 77, 78, 79, 80, 81, 82, 661, 662, 663, 664, 665, 666, 667, 668, 669, 670, 671, 672, 673, 674, 675, 676, 677, 678, 679, 680, 681, 682, 683, 684] (by decide +kernel) (by decide +kernel)
set_option maxRecDepth 20000 in
theorem gL_law_X6_init : GoodIn wsL_law (wsX6_init) := ggL_law_X6_init
set_option maxRecDepth 20000 in
theorem ggL_law_X5_write : GoodIn wsL_law wsX5_write := goodIn_r _ [86, 87, 14, 88, 89, 2, 90, 651, 652, 653, 654, 655, 656, 657, 658, 659, 660] (by decide +kernel) (by decide +kernel)
set_option maxRecDepth 20000 in
theorem gL_law_X5_write : GoodIn wsL_law (wsV RL 13 RX5 yX5_write wsX5_write) := goodIn_app (goodIn_of _ (by decide +kernel)) ggL_law_X5_write
set_option maxRecDepth 20000 in
theorem ggL_law_X6_write : GoodIn wsL_law wsX6_write := goodIn_r _ [94, 95, 96, 76, 97, 98, 5, 99, 661, 662, 663, 664, 665, 666, 667, 668, 669, 670, 671, 672, 673, 674, 675, 676, 677, 678, 679, 680, 681, 682, 683, 684] (by decide +kernel) (by decide +kernel)
set_option maxRecDepth 20000 in
theorem gL_law_X6_write : GoodIn wsL_law (wsV RL 17 RX6 yX6_write wsX6_write) := goodIn_app (goodIn_of _ (by decide +kernel)) ggL_law_X6_write
set_option maxRecDepth 20000 in
theorem ggL_law_X5_wipe : GoodIn wsL_law wsX5_wipe := goodIn_r _ [103, 87, 651, 652, 653, 654, 655, 656, 657, 658, 659, 660] (by decide +kernel) (by decide +kernel)
set_option maxRecDepth 20000 in
theorem gL_law_X5_wipe : GoodIn wsL_law (wsV RL 18 RX5 yX5_wipe wsX5_wipe) := goodIn_app (goodIn_of _ (by decide +kernel)) ggL_law_X5_wipe
set_option maxRecDepth 20000 in
theorem ggL_law_X6_wipe : GoodIn wsL_law wsX6_wipe := goodIn_r _ [107, 96, 661, 662, 663, 664, 665, 666, 667, 668, 669, 670, 671, 672, 673, 674, 675, 676, 677, 678, 679, 680, 681, 682, 683, 684] (by decide +kernel) (by decide +kernel)
set_option maxRecDepth 20000 in
theorem gL_law_X6_wipe : GoodIn wsL_law (wsV RL 22 RX6 yX6_wipe wsX6_wipe) := goodIn_app (goodIn_of _ (by decide +kernel)) ggL_law_X6_wipe
set_option maxRecDepth 20000 in
theorem ggL_law_X5_fault : GoodIn wsL_law wsX5_fault := goodIn_r _ [111, 18, 14, 87, 112, 113, 114, 17, 115, 116, 117, 118, 119, 120, 41, 121, 122, 123, 43, 124, 125, 126, 127, 128, 129, 130, 131, 132, 133, 134, 135, 136, 137, 138, 139, 140, 141, 142, 89, 2, 90, 651, 652, 653, 654, 655, 656, 657, 658, 659, 660, 685, 686, 687, 688, 689, 690, 691, 692, 693, 694, 695, 696, 697, 698, 699] (by decide +kernel) (by decide +kernel)
set_option maxRecDepth 20000 in
theorem gL_law_X5_fault : GoodIn wsL_law (wsV RL 23 RX5 yX5_fault wsX5_fault) := goodIn_app (goodIn_of _ (by decide +kernel)) ggL_law_X5_fault
set_option maxRecDepth 20000 in
theorem ggL_law_X6_fault : GoodIn wsL_law wsX6_fault := goodIn_r _ [146, 147, 148, 149, 5, 150, 151, 152, 153, 154, 155, 96, 76, 156, 157, 158, 159, 160, 161, 97, 98, 99, 162, 163, 164, 165, 166, 167, 168, 74, 75, 661, 662, 663, 664, 665, 666, 667, 668, 669, 670, 671, 672, 673, 674, 675, 676, 677, 678, 679, 680, 681, 682, 683, 684] (by decide +kernel) (by decide +kernel)
set_option maxRecDepth 20000 in
theorem gL_law_X6_fault : GoodIn wsL_law (wsV RL 26 RX6 yX6_fault wsX6_fault) := goodIn_app (goodIn_of _ (by decide +kernel)) ggL_law_X6_fault
set_option maxRecDepth 20000 in
theorem ggL_law_X5_house : GoodIn wsL_law wsX5_house := goodIn_r _ [172, 18, 14, 87, 22, 173, 26, 174, 31, 175, 35, 176, 36, 177, 178, 112, 113, 114, 17, 115, 116, 117, 118, 119, 120, 41, 121, 122, 123, 43, 124, 125, 126, 127, 128, 129, 130, 131, 132, 133, 134, 135, 136, 137, 138, 139, 140, 141, 142, 89, 2, 90, 179, 180, 181, 21, 182, 47, 183, 184, 48, 49, 185, 186, 187, 188, 189, 25, 190, 53, 54, 191, 192, 193, 55, 651, 652, 653, 654, 655, 656, 657, 658, 659, 660, 685, 686, 687, 688, 700, 701, 702, 703, 704, 705, 689, 690, 691, 692, 693, 694, 695, 696, 697, 698, 699] (by decide +kernel) (by decide +kernel)
set_option maxRecDepth 20000 in
theorem gL_law_X5_house : GoodIn wsL_law (wsV RL 27 RX5 yX5_house wsX5_house) := goodIn_app (goodIn_of _ (by decide +kernel)) ggL_law_X5_house
set_option maxRecDepth 20000 in
theorem ggL_law_X6_house : GoodIn wsL_law wsX6_house := goodIn_r _ [197, 156, 82, 153, 198, 154, 199, 73, 71, 74, 72, 75, 155, 200, 80, 147, 148, 149, 5, 150, 151, 152, 96, 76, 157, 158, 159, 160, 161, 97, 98, 99, 162, 163, 164, 165, 166, 167, 168, 661, 662, 663, 664, 665, 666, 667, 668, 669, 670, 671, 672, 673, 674, 675, 676, 677, 678, 679, 680, 681, 682, 683, 684] (by decide +kernel) (by decide +kernel)
set_option maxRecDepth 20000 in
theorem gL_law_X6_house : GoodIn wsL_law (wsV RL 30 RX6 yX6_house wsX6_house) := goodIn_app (goodIn_of _ (by decide +kernel)) ggL_law_X6_house
set_option maxRecDepth 20000 in
theorem ggL_law_X5_casket : GoodIn wsL_law wsX5_casket := goodIn_r _ [204, 22, 205, 26, 206, 207, 208, 209, 210, 21, 211, 183, 212, 213, 2, 214, 215, 216, 217, 25, 218, 53, 219, 220, 221, 177, 222, 223, 224, 225, 226, 227, 228, 229, 230, 231, 232, 233, 234, 235, 236, 237, 238, 239, 240, 241, 242, 243, 244, 245, 246, 247, 248, 651, 652, 653, 654, 655, 656, 657, 658, 659, 660, 689, 690, 691, 692, 693, 694, 695, 696, 697, 698, 699] (by decide +kernel) (by decide +kernel)
set_option maxRecDepth 20000 in
theorem gL_law_X5_casket : GoodIn wsL_law (wsV RL 31 RX5 yX5_casket wsX5_casket) := goodIn_app (goodIn_of _ (by decide +kernel)) ggL_law_X5_casket
set_option maxRecDepth 20000 in
theorem ggL_law_X6_casket : GoodIn wsL_law wsX6_casket := goodIn_r _ [252, 71, 73, 253, 254, 255, 5, 256, 198, 97, 98, 99, 257, 258, 259, 260, 261, 262, 263, 264, 265, 266, 267, 268, 82, 269, 270, 271, 162, 163, 164, 272, 273, 274, 275, 661, 662, 663, 664, 665, 666, 667, 668, 669, 670, 671, 672, 673, 674, 675, 676, 677, 678, 679, 680, 681, 682, 683, 684] (by decide +kernel) (by decide +kernel)
set_option maxRecDepth 20000 in
theorem gL_law_X6_casket : GoodIn wsL_law (wsV RL 35 RX6 yX6_casket wsX6_casket) := goodIn_app (goodIn_of _ (by decide +kernel)) ggL_law_X6_casket
set_option maxRecDepth 20000 in
theorem ggL_law_X5_wooer : GoodIn wsL_law wsX5_wooer := goodIn_r _ [279, 22, 280, 26, 207, 281, 282, 283, 284, 285, 21, 286, 184, 212, 213, 2, 214, 215, 216, 217, 25, 218, 53, 219, 220, 221, 177, 222, 223, 224, 225, 226, 227, 228, 229, 230, 231, 232, 233, 234, 235, 236, 237, 287, 288, 289, 290, 183, 291, 292, 293, 294, 48, 295, 296, 297, 298, 299, 300, 651, 652, 653, 654, 655, 656, 657, 658, 659, 660, 689, 690, 691, 692, 693, 694, 695, 696, 697, 698, 699] (by decide +kernel) (by decide +kernel)
set_option maxRecDepth 20000 in
theorem gL_law_X5_wooer : GoodIn wsL_law (wsV RL 36 RX5 yX5_wooer wsX5_wooer) := goodIn_app (goodIn_of _ (by decide +kernel)) ggL_law_X5_wooer
set_option maxRecDepth 20000 in
theorem ggL_law_X6_wooer : GoodIn wsL_law wsX6_wooer := goodIn_r _ [304, 72, 73, 305, 306, 307, 5, 308, 199, 97, 98, 99, 257, 258, 259, 260, 198, 309, 310, 311, 312, 261, 262, 263, 264, 265, 266, 267, 268, 82, 269, 270, 271, 162, 163, 164, 272, 273, 274, 275, 253, 254, 255, 256, 313, 314, 315, 316, 71, 317, 318, 319, 320, 661, 662, 663, 664, 665, 666, 667, 668, 669, 670, 671, 672, 673, 674, 675, 676, 677, 678, 679, 680, 681, 682, 683, 684] (by decide +kernel) (by decide +kernel)
set_option maxRecDepth 20000 in
theorem gL_law_X6_wooer : GoodIn wsL_law (wsV RL 39 RX6 yX6_wooer wsX6_wooer) := goodIn_app (goodIn_of _ (by decide +kernel)) ggL_law_X6_wooer
set_option maxRecDepth 20000 in
theorem ggL_law_X5_attempt : GoodIn wsL_law wsX5_attempt := goodIn_r _ [324, 26, 22, 31, 325, 326, 327, 25, 328, 193, 192, 329, 330, 331, 332, 30, 333, 334, 59, 60, 61, 335, 336, 337, 89, 2, 90, 338, 339, 340, 341, 342, 191, 55, 54, 213, 214, 343, 216, 217, 218, 53, 219, 220, 221, 177, 222, 223, 224, 225, 226, 227, 228, 229, 230, 231, 232, 233, 234, 235, 236, 237, 344, 288, 289, 21, 290, 183, 291, 292, 293, 294, 48, 295, 296, 297, 298, 299, 300, 651, 652, 653, 654, 655, 656, 657, 658, 659, 660, 694, 695, 696, 697, 698, 699, 689, 690, 691, 692, 693, 700, 701, 702, 703] (by decide +kernel) (by decide +kernel)
set_option maxRecDepth 20000 in
theorem gL_law_X5_attempt : GoodIn wsL_law (wsV RL 40 RX5 yX5_attempt wsX5_attempt) := goodIn_app (goodIn_of _ (by decide +kernel)) ggL_law_X5_attempt
set_option maxRecDepth 20000 in
theorem ggL_law_X6_attempt : GoodIn wsL_law wsX6_attempt := goodIn_r _ [348, 349, 350, 351, 5, 352, 73, 199, 353, 354, 355, 356, 77, 357, 200, 358, 359, 360, 361, 72, 257, 258, 259, 260, 198, 309, 310, 311, 312, 261, 262, 263, 264, 265, 266, 267, 268, 82, 269, 270, 271, 162, 163, 164, 272, 273, 274, 275, 253, 254, 255, 256, 97, 98, 99, 313, 314, 315, 316, 71, 317, 318, 319, 320, 661, 662, 663, 664, 665, 666, 667, 668, 669, 670, 671, 672, 673, 674, 675, 676, 677, 678, 679, 680, 681, 682, 683, 684] (by decide +kernel) (by decide +kernel)
set_option maxRecDepth 20000 in
theorem gL_law_X6_attempt : GoodIn wsL_law (wsV RL 43 RX6 yX6_attempt wsX6_attempt) := goodIn_app (goodIn_of _ (by decide +kernel)) ggL_law_X6_attempt
set_option maxRecDepth 20000 in
theorem ggL_law_X5_mend : GoodIn wsL_law wsX5_mend := goodIn_r _ [365, 22, 26, 206, 31, 208, 209, 210, 21, 211, 183, 212, 213, 2, 214, 330, 331, 332, 30, 333, 334, 59, 60, 61, 335, 336, 337, 89, 90, 88, 366, 367, 368, 651, 652, 653, 654, 655, 656, 657, 658, 659, 660, 694, 695, 696, 697, 698, 699, 689, 690, 691, 692, 693, 700, 701, 702, 703] (by decide +kernel) (by decide +kernel)
set_option maxRecDepth 20000 in
theorem gL_law_X5_mend : GoodIn wsL_law (wsV RL 44 RX5 yX5_mend wsX5_mend) := goodIn_app (goodIn_of _ (by decide +kernel)) ggL_law_X5_mend
set_option maxRecDepth 20000 in
theorem ggL_law_X6_mend : GoodIn wsL_law wsX6_mend := goodIn_r _ [372, 373, 374, 73, 253, 254, 255, 5, 256, 198, 97, 98, 99, 353, 354, 355, 356, 77, 357, 200, 661, 662, 663, 664, 665, 666, 667, 668, 669, 670, 671, 672, 673, 674, 675, 676, 677, 678, 679, 680, 681, 682, 683, 684] (by decide +kernel) (by decide +kernel)
set_option maxRecDepth 20000 in
theorem gL_law_X6_mend : GoodIn wsL_law (wsV RL 48 RX6 yX6_mend wsX6_mend) := goodIn_app (goodIn_of _ (by decide +kernel)) ggL_law_X6_mend
set_option maxRecDepth 20000 in
theorem ggL_law_X5_move : GoodIn wsL_law wsX5_move := goodIn_r _ [378, 22, 26, 379, 31, 208, 209, 210, 21, 211, 183, 330, 331, 332, 30, 333, 334, 59, 60, 61, 335, 336, 337, 89, 2, 90, 651, 652, 653, 654, 655, 656, 657, 658, 659, 660, 694, 695, 696, 697, 698, 699, 689, 690, 691, 692, 693, 700, 701, 702, 703] (by decide +kernel) (by decide +kernel)
set_option maxRecDepth 20000 in
theorem gL_law_X5_move : GoodIn wsL_law (wsV RL 49 RX5 yX5_move wsX5_move) := goodIn_app (goodIn_of _ (by decide +kernel)) ggL_law_X5_move
set_option maxRecDepth 20000 in
theorem ggL_law_X6_move : GoodIn wsL_law wsX6_move := goodIn_r _ [383, 73, 253, 254, 255, 5, 256, 198, 97, 98, 99, 353, 354, 355, 356, 77, 357, 200, 661, 662, 663, 664, 665, 666, 667, 668, 669, 670, 671, 672, 673, 674, 675, 676, 677, 678, 679, 680, 681, 682, 683, 684] (by decide +kernel) (by decide +kernel)
set_option maxRecDepth 20000 in
theorem gL_law_X6_move : GoodIn wsL_law (wsV RL 52 RX6 yX6_move wsX6_move) := goodIn_app (goodIn_of _ (by decide +kernel)) ggL_law_X6_move
set_option maxRecDepth 20000 in
theorem ggL_law_X5_sing : GoodIn wsL_law wsX5_sing := goodIn_r _ [387, 22, 31, 26, 207, 208, 209, 210, 21, 211, 183, 330, 331, 332, 30, 333, 334, 59, 60, 61, 335, 336, 337, 89, 2, 90, 388, 389, 390, 25, 391, 191, 651, 652, 653, 654, 655, 656, 657, 658, 659, 660, 694, 695, 696, 697, 698, 699, 689, 690, 691, 692, 693, 700, 701, 702, 703] (by decide +kernel) (by decide +kernel)
set_option maxRecDepth 20000 in
theorem gL_law_X5_sing : GoodIn wsL_law (wsV RL 53 RX5 yX5_sing wsX5_sing) := goodIn_app (goodIn_of _ (by decide +kernel)) ggL_law_X5_sing
set_option maxRecDepth 20000 in
theorem ggL_law_X6_sing : GoodIn wsL_law wsX6_sing := goodIn_r _ [395, 73, 253, 254, 255, 5, 256, 198, 97, 98, 99, 353, 354, 355, 356, 77, 357, 200, 661, 662, 663, 664, 665, 666, 667, 668, 669, 670, 671, 672, 673, 674, 675, 676, 677, 678, 679, 680, 681, 682, 683, 684] (by decide +kernel) (by decide +kernel)
set_option maxRecDepth 20000 in
theorem gL_law_X6_sing : GoodIn wsL_law (wsV RL 56 RX6 yX6_sing wsX6_sing) := goodIn_app (goodIn_of _ (by decide +kernel)) ggL_law_X6_sing
set_option maxRecDepth 20000 in
theorem ggL_law_X5_undo : GoodIn wsL_law wsX5_undo := goodIn_r _ [399, 31, 175, 26, 400, 401, 402, 212, 213, 2, 214, 403, 404, 405, 25, 406, 192, 407, 408, 409, 410, 193, 53, 54, 89, 90, 411, 389, 390, 391, 191, 651, 652, 653, 654, 655, 656, 657, 658, 659, 660, 700, 701, 702, 703, 694, 695, 696, 697, 698, 699] (by decide +kernel) (by decide +kernel)
set_option maxRecDepth 20000 in
theorem gL_law_X5_undo : GoodIn wsL_law (wsV RL 57 RX5 yX5_undo wsX5_undo) := goodIn_app (goodIn_of _ (by decide +kernel)) ggL_law_X5_undo
set_option maxRecDepth 20000 in
theorem ggL_law_X6_undo : GoodIn wsL_law wsX6_undo := goodIn_r _ [415, 200, 357, 73, 77, 661, 662, 663, 664, 665, 666, 667, 668, 669, 670, 671, 672, 673, 674, 675, 676, 677, 678, 679, 680, 681, 682, 683, 684] (by decide +kernel) (by decide +kernel)
set_option maxRecDepth 20000 in
theorem gL_law_X6_undo : GoodIn wsL_law (wsV RL 60 RX6 yX6_undo wsX6_undo) := goodIn_app (goodIn_of _ (by decide +kernel)) ggL_law_X6_undo
set_option maxRecDepth 20000 in
theorem ggL_law_X5_lines : GoodIn wsL_law wsX5_lines := goodIn_r _ [419, 22, 26, 177, 230, 208, 209, 210, 21, 211, 183, 238, 239, 240, 25, 241, 53, 219, 2, 220, 221, 222, 223, 224, 225, 226, 227, 228, 229, 231, 232, 233, 234, 235, 651, 652, 653, 654, 655, 656, 657, 658, 659, 660, 689, 690, 691, 692, 693, 694, 695, 696, 697, 698, 699] (by decide +kernel) (by decide +kernel)
set_option maxRecDepth 20000 in
theorem gL_law_X5_lines : GoodIn wsL_law (wsV RL 61 RX5 yX5_lines wsX5_lines) := goodIn_app (goodIn_of _ (by decide +kernel)) ggL_law_X5_lines
set_option maxRecDepth 20000 in
theorem ggL_law_X6_lines : GoodIn wsL_law wsX6_lines := goodIn_r _ [423, 253, 254, 255, 5, 256, 198, 97, 98, 99, 257, 258, 259, 260, 265, 266, 267, 268, 82, 269, 270, 271, 162, 163, 164, 272, 273, 274, 275, 73, 661, 662, 663, 664, 665, 666, 667, 668, 669, 670, 671, 672, 673, 674, 675, 676, 677, 678, 679, 680, 681, 682, 683, 684] (by decide +kernel) (by decide +kernel)
set_option maxRecDepth 20000 in
theorem gL_law_X6_lines : GoodIn wsL_law (wsV RL 65 RX6 yX6_lines wsX6_lines) := goodIn_app (goodIn_of _ (by decide +kernel)) ggL_law_X6_lines
set_option maxRecDepth 20000 in
theorem ggL_law_X5_riddle : GoodIn wsL_law wsX5_riddle := goodIn_r _ [427, 26, 379, 22, 231, 428, 429, 430, 2, 431, 207, 287, 288, 289, 21, 290, 183, 291, 292, 293, 294, 48, 295, 296, 297, 298, 299, 300, 215, 216, 217, 25, 218, 53, 219, 220, 221, 177, 222, 223, 224, 225, 226, 227, 228, 229, 230, 232, 233, 234, 235, 236, 237, 432, 433, 434, 435, 206, 436, 437, 366, 367, 368, 438, 439, 440, 441, 651, 652, 653, 654, 655, 656, 657, 658, 659, 660, 694, 695, 696, 697, 698, 699, 689, 690, 691, 692, 693] (by decide +kernel) (by decide +kernel)
set_option maxRecDepth 20000 in
theorem gL_law_X5_riddle : GoodIn wsL_law (wsV RL 66 RX5 yX5_riddle wsX5_riddle) := goodIn_app (goodIn_of _ (by decide +kernel)) ggL_law_X5_riddle
set_option maxRecDepth 20000 in
theorem ggL_law_X6_riddle : GoodIn wsL_law wsX6_riddle := goodIn_r _ [445, 446, 73, 447, 97, 98, 5, 99, 448, 449, 450, 451, 198, 452, 453, 454, 455, 456, 457, 458, 459, 257, 258, 259, 260, 309, 310, 311, 312, 261, 262, 263, 264, 265, 266, 267, 268, 82, 269, 270, 271, 162, 163, 164, 272, 273, 274, 275, 253, 254, 255, 256, 313, 314, 315, 316, 71, 317, 318, 319, 320, 460, 461, 462, 463, 464, 465, 466, 661, 662, 663, 664, 665, 666, 667, 668, 669, 670, 671, 672, 673, 674, 675, 676, 677, 678, 679, 680, 681, 682, 683, 684] (by decide +kernel) (by decide +kernel)
set_option maxRecDepth 20000 in
theorem gL_law_X6_riddle : GoodIn wsL_law (wsV RL 69 RX6 yX6_riddle wsX6_riddle) := goodIn_app (goodIn_of _ (by decide +kernel)) ggL_law_X6_riddle
set_option maxRecDepth 20000 in
theorem ggL_law_X5_songs : GoodIn wsL_law wsX5_songs := goodIn_r _ [470, 22, 26, 379, 280, 177, 207, 283, 284, 285, 21, 286, 184, 212, 213, 2, 214, 215, 216, 217, 25, 218, 53, 219, 220, 221, 222, 223, 224, 225, 226, 227, 228, 229, 230, 231, 232, 233, 234, 235, 236, 237, 471, 472, 473, 474, 475, 476, 477, 287, 288, 289, 290, 183, 291, 292, 293, 294, 48, 295, 296, 297, 298, 299, 300, 651, 652, 653, 654, 655, 656, 657, 658, 659, 660, 694, 695, 696, 697, 698, 699, 689, 690, 691, 692, 693] (by decide +kernel) (by decide +kernel)
set_option maxRecDepth 20000 in
theorem gL_law_X5_songs : GoodIn wsL_law (wsV RL 70 RX5 yX5_songs wsX5_songs) := goodIn_app (goodIn_of _ (by decide +kernel)) ggL_law_X5_songs
set_option maxRecDepth 20000 in
theorem ggL_law_X6_songs : GoodIn wsL_law wsX6_songs := goodIn_r _ [481, 73, 72, 305, 306, 307, 5, 308, 199, 97, 98, 99, 257, 258, 259, 260, 198, 309, 310, 311, 312, 261, 262, 263, 264, 265, 266, 267, 268, 82, 269, 270, 271, 162, 163, 164, 272, 273, 274, 275, 253, 254, 255, 256, 313, 314, 315, 316, 71, 317, 318, 319, 320, 661, 662, 663, 664, 665, 666, 667, 668, 669, 670, 671, 672, 673, 674, 675, 676, 677, 678, 679, 680, 681, 682, 683, 684] (by decide +kernel) (by decide +kernel)
set_option maxRecDepth 20000 in
theorem gL_law_X6_songs : GoodIn wsL_law (wsV RL 73 RX6 yX6_songs wsX6_songs) := goodIn_app (goodIn_of _ (by decide +kernel)) ggL_law_X6_songs
set_option maxRecDepth 20000 in
theorem ggL_law_X5_said : GoodIn wsL_law wsX5_said := goodIn_r _ [485, 22, 26, 379, 206, 208, 209, 210, 21, 211, 183, 436, 219, 2, 220, 221, 177, 222, 223, 224, 225, 226, 227, 228, 229, 230, 231, 232, 233, 234, 235, 437, 236, 237, 366, 367, 368, 651, 652, 653, 654, 655, 656, 657, 658, 659, 660, 694, 695, 696, 697, 698, 699, 689, 690, 691, 692, 693] (by decide +kernel) (by decide +kernel)
set_option maxRecDepth 20000 in
theorem gL_law_X5_said : GoodIn wsL_law (wsV RL 74 RX5 yX5_said wsX5_said) := goodIn_app (goodIn_of _ (by decide +kernel)) ggL_law_X5_said
set_option maxRecDepth 20000 in
theorem ggL_law_X6_said : GoodIn wsL_law wsX6_said := goodIn_r _ [489, 73, 253, 254, 255, 5, 256, 198, 97, 98, 99, 452, 453, 454, 455, 460, 461, 462, 463, 257, 258, 259, 260, 309, 310, 311, 312, 261, 262, 263, 264, 265, 266, 267, 268, 82, 269, 270, 271, 162, 163, 164, 272, 273, 274, 275, 661, 662, 663, 664, 665, 666, 667, 668, 669, 670, 671, 672, 673, 674, 675, 676, 677, 678, 679, 680, 681, 682, 683, 684] (by decide +kernel) (by decide +kernel)
set_option maxRecDepth 20000 in
theorem gL_law_X6_said : GoodIn wsL_law (wsV RL 77 RX6 yX6_said wsX6_said) := goodIn_app (goodIn_of _ (by decide +kernel)) ggL_law_X6_said
set_option maxRecDepth 20000 in
theorem ggL_law_X5_belief : GoodIn wsL_law wsX5_belief := goodIn_r _ [493, 22, 26, 177, 208, 209, 210, 21, 211, 183, 215, 216, 217, 25, 218, 53, 219, 2, 220, 221, 222, 223, 224, 225, 226, 227, 228, 229, 230, 231, 232, 233, 234, 235, 236, 237, 494, 495, 496, 497, 207, 287, 288, 289, 290, 291, 292, 293, 294, 48, 295, 296, 297, 298, 299, 300, 498, 499, 500, 501, 502, 503, 504, 505, 409, 506, 507, 408, 410, 508, 509, 510, 651, 652, 653, 654, 655, 656, 657, 658, 659, 660, 689, 690, 691, 692, 693, 694, 695, 696, 697, 698, 699] (by decide +kernel) (by decide +kernel)
