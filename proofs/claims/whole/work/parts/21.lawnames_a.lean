set_option maxRecDepth 20000 in
theorem ggL_law_X2_init : GoodIn wsL_law wsX2_init := goodIn_r _ [9, 10, 11, 12, 13, 14, 15, 16, 17, 18, 19, 20, 21, 22, 23, 24, 25, 26, 27, 28, 29, 30, 31, 32, 33, 34, 35, 36, 37, 38, 39, 40, 41, 42, 43, 44, 45, 46, 47, 48, 49, 50, 51, 52, 53, 54, 55, 56, 703, 704, 705, 706, 707, 708, 709, 710, 711, 712, 713, 663, 664, 665, 666, 667, 668, 669, 670, 671, 672, 673, 674, 675, 714, 715, 716, 717, 718] (by decide +kernel) (by decide +kernel)
set_option maxRecDepth 20000 in
theorem gL_law_X2_init : GoodIn wsL_law (wsX2_init) := ggL_law_X2_init
set_option maxRecDepth 20000 in
theorem ggL_law_X3_init : GoodIn wsL_law wsX3_init := goodIn_r _ [59, 60, 11, 12, 37, 61, 62, 63, 17, 64, 65, 66, 67, 68, 69, 70, 71, 72, 73, 74, 75, 5, 76, 77, 78, 79, 80, 81, 82, 83, 84, 85, 86, 87, 88, 89, 90, 91, 92, 93, 94, 95, 96, 676, 677, 678, 679, 680, 681, 682, 683, 684, 685, 686, 687, 688, 689, 690, 691, 692, 693, 694, 695, 696, 697, 698, 699, 700, 701, 702] (by decide +kernel) (by decide +kernel)
set_option maxRecDepth 20000 in
theorem gL_law_X3_init : GoodIn wsL_law (wsX3_init) := ggL_law_X3_init
set_option maxRecDepth 20000 in
theorem ggL_law_X2_type : GoodIn wsL_law wsX2_type := goodIn_r _ [100, 16, 101, 102, 103, 104, 15, 105, 39, 38, 663, 664, 665, 666, 667, 668, 669, 670, 671, 672, 673, 674, 675, 703, 704, 705, 706, 707, 708, 709, 710, 711, 712, 713] (by decide +kernel) (by decide +kernel)
set_option maxRecDepth 20000 in
theorem gL_law_X2_type : GoodIn wsL_law (wsV RL 15 RX2 yX2_type wsX2_type) := goodIn_app (goodIn_of _ (by decide +kernel)) ggL_law_X2_type
set_option maxRecDepth 20000 in
theorem ggL_law_X3_type : GoodIn wsL_law wsX3_type := goodIn_r _ [109, 110, 111, 62, 112, 113, 114, 5, 115, 676, 677, 678, 679, 680, 681, 682, 683, 684, 685, 686, 687, 688, 689, 690, 691, 692, 693, 694, 695, 696, 697, 698, 699, 700, 701, 702] (by decide +kernel) (by decide +kernel)
set_option maxRecDepth 20000 in
theorem gL_law_X3_type : GoodIn wsL_law (wsV RL 19 RX3 yX3_type wsX3_type) := goodIn_app (goodIn_of _ (by decide +kernel)) ggL_law_X3_type
set_option maxRecDepth 20000 in
theorem ggL_law_X2_clear : GoodIn wsL_law wsX2_clear := goodIn_r _ [119, 16, 101, 663, 664, 665, 666, 667, 668, 669, 670, 671, 672, 673, 674, 675, 703, 704, 705, 706, 707, 708, 709, 710, 711, 712, 713] (by decide +kernel) (by decide +kernel)
set_option maxRecDepth 20000 in
theorem gL_law_X2_clear : GoodIn wsL_law (wsV RL 20 RX2 yX2_clear wsX2_clear) := goodIn_app (goodIn_of _ (by decide +kernel)) ggL_law_X2_clear
set_option maxRecDepth 20000 in
theorem ggL_law_X3_clear : GoodIn wsL_law wsX3_clear := goodIn_r _ [123, 110, 111, 676, 677, 678, 679, 680, 681, 682, 683, 684, 685, 686, 687, 688, 689, 690, 691, 692, 693, 694, 695, 696, 697, 698, 699, 700, 701, 702] (by decide +kernel) (by decide +kernel)
set_option maxRecDepth 20000 in
theorem gL_law_X3_clear : GoodIn wsL_law (wsV RL 24 RX3 yX3_clear wsX3_clear) := goodIn_app (goodIn_of _ (by decide +kernel)) ggL_law_X3_clear
set_option maxRecDepth 20000 in
theorem ggL_law_X2_given : GoodIn wsL_law wsX2_given := goodIn_r _ [127, 16, 101, 20, 24, 25, 128, 129, 21, 31, 33, 130, 131, 132, 15, 133, 44, 42, 41, 134, 135, 136, 137, 40, 138, 139, 140, 141, 39, 43, 142, 143, 144, 145, 38, 146, 147, 148, 149, 150, 151, 152, 153, 154, 155, 156, 157, 158, 159, 160, 161, 162, 163, 164, 165, 166, 167, 168, 169, 170, 171, 172, 173, 174, 175, 176, 177, 178, 179, 180, 181, 182, 183, 184, 185, 186, 187, 188, 189, 190, 191, 192, 193, 194, 195, 196, 197, 198, 199, 200, 201, 202, 203, 204, 205, 206, 207, 208, 209, 210, 211, 212, 213, 214, 215, 216, 217, 218, 219, 220, 221, 222, 223, 224, 45, 225, 226, 227, 228, 229, 230, 231, 232, 233, 234, 235, 2, 236, 22, 23, 237, 238, 239, 240, 18, 19, 241, 242, 243, 244, 663, 664, 665, 666, 667, 668, 669, 670, 671, 672, 673, 674, 675, 703, 704, 705, 706, 707, 708, 709, 710, 711, 712, 713] (by decide +kernel) (by decide +kernel)
set_option maxRecDepth 20000 in
theorem gL_law_X2_given : GoodIn wsL_law (wsV RL 25 RX2 yX2_given wsX2_given) := goodIn_app (goodIn_of _ (by decide +kernel)) ggL_law_X2_given
set_option maxRecDepth 20000 in
theorem ggL_law_X3_given : GoodIn wsL_law wsX3_given := goodIn_r _ [248, 110, 249, 65, 250, 64, 83, 251, 252, 63, 111, 253, 254, 255, 5, 256, 257, 258, 259, 260, 261, 262, 263, 264, 265, 266, 267, 62, 113, 114, 115, 268, 269, 270, 271, 272, 273, 274, 275, 276, 277, 278, 279, 280, 281, 282, 283, 284, 285, 286, 287, 288, 289, 290, 77, 78, 79, 80, 81, 82, 84, 85, 61, 68, 69, 86, 87, 88, 89, 90, 91, 92, 93, 94, 95, 96, 676, 677, 678, 679, 680, 681, 682, 683, 684, 685, 686, 687, 688, 689, 690, 691, 692, 693, 694, 695, 696, 697, 698, 699, 700, 701, 702] (by decide +kernel) (by decide +kernel)
set_option maxRecDepth 20000 in
theorem gL_law_X3_given : GoodIn wsL_law (wsV RL 28 RX3 yX3_given wsX3_given) := goodIn_app (goodIn_of _ (by decide +kernel)) ggL_law_X3_given
set_option maxRecDepth 20000 in
theorem ggL_law_X2_proof : GoodIn wsL_law wsX2_proof := goodIn_r _ [294, 16, 21, 101, 20, 128, 22, 295, 296, 297, 15, 298, 44, 42, 41, 134, 135, 136, 137, 40, 138, 139, 140, 141, 39, 43, 142, 143, 144, 145, 38, 146, 147, 148, 149, 150, 151, 152, 153, 154, 155, 156, 157, 158, 159, 160, 161, 162, 163, 164, 165, 166, 167, 168, 169, 170, 171, 172, 173, 174, 175, 176, 177, 178, 179, 180, 181, 182, 183, 184, 185, 186, 187, 188, 189, 190, 191, 192, 193, 194, 195, 196, 197, 198, 199, 200, 201, 202, 203, 204, 205, 206, 207, 208, 209, 210, 211, 212, 213, 214, 215, 216, 217, 218, 219, 220, 299, 300, 301, 302, 46, 47, 48, 303, 304, 305, 306, 307, 308, 309, 310, 311, 312, 313, 314, 315, 316, 317, 318, 319, 320, 321, 221, 222, 223, 224, 45, 225, 226, 227, 228, 229, 230, 231, 232, 233, 234, 235, 2, 236, 23, 322, 323, 324, 325, 326, 25, 327, 328, 329, 330, 331, 332, 129, 333, 334, 335, 336, 18, 337, 338, 339, 340, 341, 342, 343, 241, 242, 243, 244, 24, 237, 238, 239, 240, 19, 663, 664, 665, 666, 667, 668, 669, 670, 671, 672, 673, 674, 675, 703, 704, 705, 706, 707, 708, 709, 710, 711, 712, 713] (by decide +kernel) (by decide +kernel)
set_option maxRecDepth 20000 in
theorem gL_law_X2_proof : GoodIn wsL_law (wsV RL 29 RX2 yX2_proof wsX2_proof) := goodIn_app (goodIn_of _ (by decide +kernel)) ggL_law_X2_proof
set_option maxRecDepth 20000 in
theorem ggL_law_X3_proof : GoodIn wsL_law wsX3_proof := goodIn_r _ [347, 110, 249, 250, 252, 251, 63, 111, 66, 64, 67, 83, 253, 254, 255, 5, 256, 257, 258, 259, 260, 261, 262, 263, 264, 265, 266, 267, 62, 113, 114, 115, 268, 269, 270, 271, 272, 273, 274, 275, 276, 277, 278, 279, 280, 281, 282, 283, 284, 285, 286, 348, 349, 350, 351, 287, 288, 289, 290, 74, 75, 76, 352, 353, 354, 90, 91, 92, 355, 356, 357, 358, 359, 360, 361, 82, 87, 88, 89, 676, 677, 678, 679, 680, 681, 682, 683, 684, 685, 686, 687, 688, 689, 690, 691, 692, 693, 694, 695, 696, 697, 698, 699, 700, 701, 702] (by decide +kernel) (by decide +kernel)
set_option maxRecDepth 20000 in
theorem gL_law_X3_proof : GoodIn wsL_law (wsV RL 32 RX3 yX3_proof wsX3_proof) := goodIn_app (goodIn_of _ (by decide +kernel)) ggL_law_X3_proof
set_option maxRecDepth 20000 in
theorem ggL_law_X2_wrong : GoodIn wsL_law wsX2_wrong := goodIn_r _ [365, 23, 663, 664, 665, 666, 667, 668, 669, 670, 671, 672, 673, 674, 675] (by decide +kernel) (by decide +kernel)
set_option maxRecDepth 20000 in
theorem gL_law_X2_wrong : GoodIn wsL_law (wsV RL 33 RX2 yX2_wrong wsX2_wrong) := goodIn_app (goodIn_of _ (by decide +kernel)) ggL_law_X2_wrong
set_option maxRecDepth 20000 in
theorem ggL_law_X3_wrong : GoodIn wsL_law wsX3_wrong := goodIn_r _ [369, 110, 63, 676, 677, 678, 679, 680, 681, 682, 683, 684, 685, 686, 687, 688, 689, 690, 691, 692, 693, 694, 695, 696, 697, 698, 699, 700, 701, 702] (by decide +kernel) (by decide +kernel)
set_option maxRecDepth 20000 in
theorem gL_law_X3_wrong : GoodIn wsL_law (wsV RL 36 RX3 yX3_wrong wsX3_wrong) := goodIn_app (goodIn_of _ (by decide +kernel)) ggL_law_X3_wrong
set_option maxRecDepth 20000 in
theorem ggL_law_X2_end : GoodIn wsL_law wsX2_end := goodIn_r _ [373, 20, 18, 663, 664, 665, 666, 667, 668, 669, 670, 671, 672, 673, 674, 675] (by decide +kernel) (by decide +kernel)
set_option maxRecDepth 20000 in
theorem gL_law_X2_end : GoodIn wsL_law (wsV RL 37 RX2 yX2_end wsX2_end) := goodIn_app (goodIn_of _ (by decide +kernel)) ggL_law_X2_end
set_option maxRecDepth 20000 in
theorem ggL_law_X3_end : GoodIn wsL_law wsX3_end := goodIn_r _ [377, 110, 83, 251, 64, 676, 677, 678, 679, 680, 681, 682, 683, 684, 685, 686, 687, 688, 689, 690, 691, 692, 693, 694, 695, 696, 697, 698, 699, 700, 701, 702] (by decide +kernel) (by decide +kernel)
set_option maxRecDepth 20000 in
theorem gL_law_X3_end : GoodIn wsL_law (wsV RL 40 RX3 yX3_end wsX3_end) := goodIn_app (goodIn_of _ (by decide +kernel)) ggL_law_X3_end
set_option maxRecDepth 20000 in
theorem ggL_law_X2_line : GoodIn wsL_law wsX2_line := goodIn_r _ [381, 333, 334, 335, 2, 336, 18, 337, 338, 339, 340, 20, 663, 664, 665, 666, 667, 668, 669, 670, 671, 672, 673, 674, 675] (by decide +kernel) (by decide +kernel)
set_option maxRecDepth 20000 in
theorem gL_law_X2_line : GoodIn wsL_law (wsV RL 41 RX2 yX2_line wsX2_line) := goodIn_app (goodIn_of _ (by decide +kernel)) ggL_law_X2_line
set_option maxRecDepth 20000 in
theorem ggL_law_X3_line : GoodIn wsL_law wsX3_line := goodIn_r _ [385, 110, 64, 386, 387, 388, 5, 389, 83, 251, 113, 114, 115, 676, 677, 678, 679, 680, 681, 682, 683, 684, 685, 686, 687, 688, 689, 690, 691, 692, 693, 694, 695, 696, 697, 698, 699, 700, 701, 702] (by decide +kernel) (by decide +kernel)
set_option maxRecDepth 20000 in
theorem gL_law_X3_line : GoodIn wsL_law (wsV RL 45 RX3 yX3_line wsX3_line) := goodIn_app (goodIn_of _ (by decide +kernel)) ggL_law_X3_line
set_option maxRecDepth 20000 in
theorem ggL_law_X2_value : GoodIn wsL_law wsX2_value := goodIn_r _ [393, 19, 337, 338, 339, 2, 340, 20, 394, 395, 396, 663, 664, 665, 666, 667, 668, 669, 670, 671, 672, 673, 674, 675] (by decide +kernel) (by decide +kernel)
set_option maxRecDepth 20000 in
theorem gL_law_X2_value : GoodIn wsL_law (wsV RL 46 RX2 yX2_value wsX2_value) := goodIn_app (goodIn_of _ (by decide +kernel)) ggL_law_X2_value
set_option maxRecDepth 20000 in
theorem ggL_law_X3_value : GoodIn wsL_law wsX3_value := goodIn_r _ [400, 110, 64, 386, 387, 388, 5, 389, 83, 251, 113, 114, 115, 87, 88, 89, 90, 91, 92, 676, 677, 678, 679, 680, 681, 682, 683, 684, 685, 686, 687, 688, 689, 690, 691, 692, 693, 694, 695, 696, 697, 698, 699, 700, 701, 702] (by decide +kernel) (by decide +kernel)
set_option maxRecDepth 20000 in
theorem gL_law_X3_value : GoodIn wsL_law (wsV RL 50 RX3 yX3_value wsX3_value) := goodIn_app (goodIn_of _ (by decide +kernel)) ggL_law_X3_value
set_option maxRecDepth 20000 in
theorem ggL_law_X2_lead : GoodIn wsL_law wsX2_lead := goodIn_r _ [404, 18, 337, 338, 339, 2, 340, 20, 405, 406, 407, 408, 409, 410, 411, 394, 395, 396, 412, 316, 317, 318, 319, 320, 321, 663, 664, 665, 666, 667, 668, 669, 670, 671, 672, 673, 674, 675] (by decide +kernel) (by decide +kernel)
set_option maxRecDepth 20000 in
theorem gL_law_X2_lead : GoodIn wsL_law (wsV RL 51 RX2 yX2_lead wsX2_lead) := goodIn_app (goodIn_of _ (by decide +kernel)) ggL_law_X2_lead
set_option maxRecDepth 20000 in
theorem ggL_law_X3_lead : GoodIn wsL_law wsX3_lead := goodIn_r _ [416, 110, 64, 386, 387, 388, 5, 389, 83, 251, 113, 114, 115, 417, 418, 419, 420, 421, 422, 423, 424, 61, 90, 91, 92, 74, 75, 76, 676, 677, 678, 679, 680, 681, 682, 683, 684, 685, 686, 687, 688, 689, 690, 691, 692, 693, 694, 695, 696, 697, 698, 699, 700, 701, 702] (by decide +kernel) (by decide +kernel)
set_option maxRecDepth 20000 in
theorem gL_law_X3_lead : GoodIn wsL_law (wsV RL 54 RX3 yX3_lead wsX3_lead) := goodIn_app (goodIn_of _ (by decide +kernel)) ggL_law_X3_lead
set_option maxRecDepth 20000 in
theorem ggL_law_X2_both : GoodIn wsL_law wsX2_both := goodIn_r _ [428, 18, 337, 338, 339, 2, 340, 20, 341, 342, 343, 241, 242, 243, 244, 24, 663, 664, 665, 666, 667, 668, 669, 670, 671, 672, 673, 674, 675] (by decide +kernel) (by decide +kernel)
set_option maxRecDepth 20000 in
theorem gL_law_X2_both : GoodIn wsL_law (wsV RL 55 RX2 yX2_both wsX2_both) := goodIn_app (goodIn_of _ (by decide +kernel)) ggL_law_X2_both
set_option maxRecDepth 20000 in
theorem ggL_law_X3_both : GoodIn wsL_law wsX3_both := goodIn_r _ [432, 110, 64, 386, 387, 388, 5, 389, 83, 251, 113, 114, 115, 355, 356, 357, 90, 91, 92, 352, 353, 354, 676, 677, 678, 679, 680, 681, 682, 683, 684, 685, 686, 687, 688, 689, 690, 691, 692, 693, 694, 695, 696, 697, 698, 699, 700, 701, 702] (by decide +kernel) (by decide +kernel)
set_option maxRecDepth 20000 in
theorem gL_law_X3_both : GoodIn wsL_law (wsV RL 59 RX3 yX3_both wsX3_both) := goodIn_app (goodIn_of _ (by decide +kernel)) ggL_law_X3_both
set_option maxRecDepth 20000 in
theorem ggL_law_X2_with : GoodIn wsL_law wsX2_with := goodIn_r _ [436, 18, 244, 24, 337, 338, 339, 2, 340, 20, 663, 664, 665, 666, 667, 668, 669, 670, 671, 672, 673, 674, 675] (by decide +kernel) (by decide +kernel)
set_option maxRecDepth 20000 in
theorem gL_law_X2_with : GoodIn wsL_law (wsV RL 60 RX2 yX2_with wsX2_with) := goodIn_app (goodIn_of _ (by decide +kernel)) ggL_law_X2_with
set_option maxRecDepth 20000 in
theorem ggL_law_X3_with : GoodIn wsL_law wsX3_with := goodIn_r _ [440, 110, 64, 386, 387, 388, 5, 389, 83, 251, 113, 114, 115, 90, 91, 92, 676, 677, 678, 679, 680, 681, 682, 683, 684, 685, 686, 687, 688, 689, 690, 691, 692, 693, 694, 695, 696, 697, 698, 699, 700, 701, 702] (by decide +kernel) (by decide +kernel)
set_option maxRecDepth 20000 in
theorem gL_law_X3_with : GoodIn wsL_law (wsV RL 63 RX3 yX3_with wsX3_with) := goodIn_app (goodIn_of _ (by decide +kernel)) ggL_law_X3_with
set_option maxRecDepth 20000 in
theorem ggL_law_X2_common : GoodIn wsL_law wsX2_common := goodIn_r _ [444, 25, 663, 664, 665, 666, 667, 668, 669, 670, 671, 672, 673, 674, 675] (by decide +kernel) (by decide +kernel)
set_option maxRecDepth 20000 in
theorem gL_law_X2_common : GoodIn wsL_law (wsV RL 64 RX2 yX2_common wsX2_common) := goodIn_app (goodIn_of _ (by decide +kernel)) ggL_law_X2_common
