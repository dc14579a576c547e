set_option maxRecDepth 20000 in
theorem ggL_law_X3_common : GoodIn wsL_law wsX3_common := goodIn_r _ [448, 110, 82, 676, 677, 678, 679, 680, 681, 682, 683, 684, 685, 686, 687, 688, 689, 690, 691, 692, 693, 694, 695, 696, 697, 698, 699, 700, 701, 702] (by decide +kernel) (by decide +kernel)
set_option maxRecDepth 20000 in
theorem gL_law_X3_common : GoodIn wsL_law (wsV RL 68 RX3 yX3_common wsX3_common) := goodIn_app (goodIn_of _ (by decide +kernel)) ggL_law_X3_common
set_option maxRecDepth 20000 in
theorem ggL_law_X2_follows : GoodIn wsL_law wsX2_follows := goodIn_r _ [452, 19, 25, 337, 338, 339, 2, 340, 20, 663, 664, 665, 666, 667, 668, 669, 670, 671, 672, 673, 674, 675] (by decide +kernel) (by decide +kernel)
set_option maxRecDepth 20000 in
theorem gL_law_X2_follows : GoodIn wsL_law (wsV RL 69 RX2 yX2_follows wsX2_follows) := goodIn_app (goodIn_of _ (by decide +kernel)) ggL_law_X2_follows
set_option maxRecDepth 20000 in
theorem ggL_law_X3_follows : GoodIn wsL_law wsX3_follows := goodIn_r _ [456, 110, 64, 386, 387, 388, 5, 389, 83, 251, 113, 114, 115, 358, 359, 360, 361, 82, 87, 88, 89, 90, 91, 92, 676, 677, 678, 679, 680, 681, 682, 683, 684, 685, 686, 687, 688, 689, 690, 691, 692, 693, 694, 695, 696, 697, 698, 699, 700, 701, 702] (by decide +kernel) (by decide +kernel)
set_option maxRecDepth 20000 in
theorem gL_law_X3_follows : GoodIn wsL_law (wsV RL 73 RX3 yX3_follows wsX3_follows) := goodIn_app (goodIn_of _ (by decide +kernel)) ggL_law_X3_follows
set_option maxRecDepth 20000 in
theorem ggL_law_X2_standing : GoodIn wsL_law wsX2_standing := goodIn_r _ [460, 461, 462, 463, 2, 464, 30, 465, 24, 466, 467, 468, 469, 31, 25, 470, 21, 18, 471, 472, 473, 29, 474, 55, 56, 475, 476, 477, 478, 479, 480, 481, 405, 406, 407, 408, 409, 410, 411, 394, 395, 396, 412, 316, 317, 318, 319, 320, 321, 482, 483, 484, 485, 341, 342, 343, 241, 242, 243, 244, 486, 487, 488, 489, 52, 490, 491, 492, 493, 53, 54, 663, 664, 665, 666, 667, 668, 669, 670, 671, 672, 673, 674, 675, 714, 715, 716, 717, 718] (by decide +kernel) (by decide +kernel)
set_option maxRecDepth 20000 in
theorem gL_law_X2_standing : GoodIn wsL_law (wsV RL 74 RX2 yX2_standing wsX2_standing) := goodIn_app (goodIn_of _ (by decide +kernel)) ggL_law_X2_standing
set_option maxRecDepth 20000 in
theorem ggL_law_X3_standing : GoodIn wsL_law wsX3_standing := goodIn_r _ [497, 110, 84, 676, 677, 678, 679, 680, 681, 682, 683, 684, 685, 686, 687, 688, 689, 690, 691, 692, 693, 694, 695, 696, 697, 698, 699, 700, 701, 702] (by decide +kernel) (by decide +kernel)
set_option maxRecDepth 20000 in
theorem gL_law_X3_standing : GoodIn wsL_law (wsV RL 77 RX3 yX3_standing wsX3_standing) := goodIn_app (goodIn_of _ (by decide +kernel)) ggL_law_X3_standing
set_option maxRecDepth 20000 in
theorem ggL_law_X2_left : GoodIn wsL_law wsX2_left := goodIn_r _ [501, 333, 334, 335, 2, 336, 18, 337, 338, 339, 340, 20, 502, 503, 504, 505, 30, 466, 467, 468, 469, 31, 25, 470, 21, 471, 472, 473, 29, 474, 55, 56, 475, 476, 477, 478, 479, 480, 481, 405, 406, 407, 408, 409, 410, 411, 394, 395, 396, 412, 316, 317, 318, 319, 320, 321, 482, 483, 484, 485, 341, 342, 343, 241, 242, 243, 244, 24, 486, 487, 488, 489, 52, 490, 491, 492, 493, 53, 54, 506, 507, 508, 509, 663, 664, 665, 666, 667, 668, 669, 670, 671, 672, 673, 674, 675, 714, 715, 716, 717, 718] (by decide +kernel) (by decide +kernel)
set_option maxRecDepth 20000 in
theorem gL_law_X2_left : GoodIn wsL_law (wsV RL 78 RX2 yX2_left wsX2_left) := goodIn_app (goodIn_of _ (by decide +kernel)) ggL_law_X2_left
set_option maxRecDepth 20000 in
theorem ggL_law_X3_left : GoodIn wsL_law wsX3_left := goodIn_r _ [513, 110, 64, 386, 387, 388, 5, 389, 83, 251, 113, 114, 115, 514, 515, 516, 517, 82, 86, 87, 88, 89, 90, 91, 92, 93, 94, 95, 96, 85, 68, 69, 676, 677, 678, 679, 680, 681, 682, 683, 684, 685, 686, 687, 688, 689, 690, 691, 692, 693, 694, 695, 696, 697, 698, 699, 700, 701, 702] (by decide +kernel) (by decide +kernel)
set_option maxRecDepth 20000 in
theorem gL_law_X3_left : GoodIn wsL_law (wsV RL 81 RX3 yX3_left wsX3_left) := goodIn_app (goodIn_of _ (by decide +kernel)) ggL_law_X3_left
set_option maxRecDepth 20000 in
theorem ggL_law_X2_rest : GoodIn wsL_law wsX2_rest := goodIn_r _ [521, 502, 503, 504, 2, 505, 30, 466, 467, 468, 469, 31, 25, 470, 21, 18, 471, 472, 473, 29, 474, 55, 56, 475, 476, 477, 478, 479, 480, 481, 405, 406, 407, 408, 409, 410, 411, 394, 395, 396, 412, 316, 317, 318, 319, 320, 321, 482, 483, 484, 485, 341, 342, 343, 241, 242, 243, 244, 24, 486, 487, 488, 489, 52, 490, 491, 492, 493, 53, 54, 506, 507, 508, 509, 663, 664, 665, 666, 667, 668, 669, 670, 671, 672, 673, 674, 675, 714, 715, 716, 717, 718] (by decide +kernel) (by decide +kernel)
set_option maxRecDepth 20000 in
theorem gL_law_X2_rest : GoodIn wsL_law (wsV RL 82 RX2 yX2_rest wsX2_rest) := goodIn_app (goodIn_of _ (by decide +kernel)) ggL_law_X2_rest
set_option maxRecDepth 20000 in
theorem ggL_law_X3_rest : GoodIn wsL_law wsX3_rest := goodIn_r _ [525, 110, 514, 515, 516, 5, 517, 82, 86, 87, 88, 89, 90, 91, 92, 93, 94, 95, 96, 85, 68, 69, 676, 677, 678, 679, 680, 681, 682, 683, 684, 685, 686, 687, 688, 689, 690, 691, 692, 693, 694, 695, 696, 697, 698, 699, 700, 701, 702] (by decide +kernel) (by decide +kernel)
set_option maxRecDepth 20000 in
theorem gL_law_X3_rest : GoodIn wsL_law (wsV RL 86 RX3 yX3_rest wsX3_rest) := goodIn_app (goodIn_of _ (by decide +kernel)) ggL_law_X3_rest
set_option maxRecDepth 20000 in
theorem ggL_law_X2_base : GoodIn wsL_law wsX2_base := goodIn_r _ [529, 411, 461, 462, 463, 2, 464, 30, 465, 24, 466, 467, 468, 469, 31, 25, 470, 21, 18, 471, 472, 473, 29, 474, 55, 56, 475, 476, 477, 478, 479, 480, 481, 405, 406, 407, 408, 409, 410, 394, 395, 396, 412, 316, 317, 318, 319, 320, 321, 482, 483, 484, 485, 341, 342, 343, 241, 242, 243, 244, 486, 487, 488, 489, 52, 490, 491, 492, 493, 53, 54, 530, 531, 532, 502, 503, 504, 505, 506, 507, 508, 509, 663, 664, 665, 666, 667, 668, 669, 670, 671, 672, 673, 674, 675, 714, 715, 716, 717, 718] (by decide +kernel) (by decide +kernel)
set_option maxRecDepth 20000 in
theorem gL_law_X2_base : GoodIn wsL_law (wsV RL 87 RX2 yX2_base wsX2_base) := goodIn_app (goodIn_of _ (by decide +kernel)) ggL_law_X2_base
set_option maxRecDepth 20000 in
theorem ggL_law_X3_base : GoodIn wsL_law wsX3_base := goodIn_r _ [536, 110, 61, 537, 538, 539, 5, 540, 84, 90, 91, 92, 514, 515, 516, 517, 82, 86, 87, 88, 89, 93, 94, 95, 96, 85, 68, 69, 676, 677, 678, 679, 680, 681, 682, 683, 684, 685, 686, 687, 688, 689, 690, 691, 692, 693, 694, 695, 696, 697, 698, 699, 700, 701, 702] (by decide +kernel) (by decide +kernel)
set_option maxRecDepth 20000 in
theorem gL_law_X3_base : GoodIn wsL_law (wsV RL 90 RX3 yX3_base wsX3_base) := goodIn_app (goodIn_of _ (by decide +kernel)) ggL_law_X3_base
set_option maxRecDepth 20000 in
theorem ggL_law_X2_deep : GoodIn wsL_law wsX2_deep := goodIn_r _ [544, 30, 18, 32, 337, 338, 339, 2, 340, 20, 466, 467, 468, 469, 31, 25, 470, 21, 471, 472, 473, 29, 474, 55, 56, 475, 476, 477, 478, 479, 480, 481, 405, 406, 407, 408, 409, 410, 411, 394, 395, 396, 412, 316, 317, 318, 319, 320, 321, 482, 483, 484, 485, 341, 342, 343, 241, 242, 243, 244, 24, 486, 487, 488, 489, 52, 490, 491, 492, 493, 53, 54, 545, 546, 547, 548, 549, 550, 219, 551, 552, 553, 554, 555, 33, 556, 557, 558, 559, 560, 561, 562, 563, 564, 565, 566, 567, 568, 663, 664, 665, 666, 667, 668, 669, 670, 671, 672, 673, 674, 675, 714, 715, 716, 717, 718] (by decide +kernel) (by decide +kernel)
set_option maxRecDepth 20000 in
theorem gL_law_X2_deep : GoodIn wsL_law (wsV RL 91 RX2 yX2_deep wsX2_deep) := goodIn_app (goodIn_of _ (by decide +kernel)) ggL_law_X2_deep
set_option maxRecDepth 20000 in
theorem ggL_law_X3_deep : GoodIn wsL_law wsX3_deep := goodIn_r _ [572, 110, 64, 386, 387, 388, 5, 389, 83, 251, 113, 114, 115, 573, 574, 575, 576, 577, 578, 579, 580, 72, 73, 417, 418, 419, 420, 421, 422, 423, 424, 61, 90, 91, 92, 74, 75, 76, 352, 353, 354, 581, 582, 583, 584, 70, 585, 586, 587, 588, 589, 590, 591, 592, 676, 677, 678, 679, 680, 681, 682, 683, 684, 685, 686, 687, 688, 689, 690, 691, 692, 693, 694, 695, 696, 697, 698, 699, 700, 701, 702] (by decide +kernel) (by decide +kernel)
set_option maxRecDepth 20000 in
theorem gL_law_X3_deep : GoodIn wsL_law (wsV RL 94 RX3 yX3_deep wsX3_deep) := goodIn_app (goodIn_of _ (by decide +kernel)) ggL_law_X3_deep
set_option maxRecDepth 20000 in
theorem ggL_law_X2_needed : GoodIn wsL_law wsX2_needed := goodIn_r _ [596, 19, 337, 338, 339, 2, 340, 20, 597, 598, 599, 600, 21, 412, 316, 317, 318, 319, 320, 321, 601, 602, 603, 604, 24, 663, 664, 665, 666, 667, 668, 669, 670, 671, 672, 673, 674, 675] (by decide +kernel) (by decide +kernel)
set_option maxRecDepth 20000 in
theorem gL_law_X2_needed : GoodIn wsL_law (wsV RL 95 RX2 yX2_needed wsX2_needed) := goodIn_app (goodIn_of _ (by decide +kernel)) ggL_law_X2_needed
set_option maxRecDepth 20000 in
theorem ggL_law_X3_needed : GoodIn wsL_law wsX3_needed := goodIn_r _ [608, 110, 64, 83, 81, 386, 387, 388, 5, 389, 251, 113, 114, 115, 87, 88, 89, 90, 91, 92, 676, 677, 678, 679, 680, 681, 682, 683, 684, 685, 686, 687, 688, 689, 690, 691, 692, 693, 694, 695, 696, 697, 698, 699, 700, 701, 702] (by decide +kernel) (by decide +kernel)
set_option maxRecDepth 20000 in
theorem gL_law_X3_needed : GoodIn wsL_law (wsV RL 98 RX3 yX3_needed wsX3_needed) := goodIn_app (goodIn_of _ (by decide +kernel)) ggL_law_X3_needed
set_option maxRecDepth 20000 in
theorem ggL_law_X2_weight : GoodIn wsL_law wsX2_weight := goodIn_r _ [612, 337, 338, 339, 2, 340, 20, 613, 614, 615, 616, 26, 333, 334, 335, 336, 18, 475, 476, 477, 478, 479, 480, 481, 617, 618, 619, 620, 621, 241, 242, 243, 244, 24, 622, 623, 624, 625, 626, 560, 550, 219, 551, 405, 406, 407, 408, 409, 410, 411, 394, 395, 396, 412, 316, 317, 318, 319, 320, 321, 627, 628, 629, 630, 631, 502, 503, 504, 505, 30, 466, 467, 468, 469, 31, 25, 470, 21, 471, 472, 473, 29, 474, 55, 56, 482, 483, 484, 485, 341, 342, 343, 486, 487, 488, 489, 52, 490, 491, 492, 493, 53, 54, 506, 507, 508, 509, 663, 664, 665, 666, 667, 668, 669, 670, 671, 672, 673, 674, 675, 714, 715, 716, 717, 718] (by decide +kernel) (by decide +kernel)
set_option maxRecDepth 20000 in
theorem gL_law_X2_weight : GoodIn wsL_law (wsV RL 99 RX2 yX2_weight wsX2_weight) := goodIn_app (goodIn_of _ (by decide +kernel)) ggL_law_X2_weight
set_option maxRecDepth 20000 in
theorem ggL_law_X3_weight : GoodIn wsL_law wsX3_weight := goodIn_r _ [635, 110, 64, 636, 637, 638, 639, 113, 114, 5, 115, 386, 387, 388, 389, 83, 251, 640, 641, 642, 90, 91, 92, 87, 88, 89, 417, 418, 419, 420, 421, 422, 423, 424, 61, 74, 75, 76, 514, 515, 516, 517, 82, 86, 93, 94, 95, 96, 85, 68, 69, 676, 677, 678, 679, 680, 681, 682, 683, 684, 685, 686, 687, 688, 689, 690, 691, 692, 693, 694, 695, 696, 697, 698, 699, 700, 701, 702] (by decide +kernel) (by decide +kernel)
set_option maxRecDepth 20000 in
theorem gL_law_X3_weight : GoodIn wsL_law (wsV RL 102 RX3 yX3_weight wsX3_weight) := goodIn_app (goodIn_of _ (by decide +kernel)) ggL_law_X3_weight
set_option maxRecDepth 20000 in
theorem ggL_law_X2_count : GoodIn wsL_law wsX2_count := goodIn_r _ [646, 21, 20, 22, 25, 16, 101, 647, 648, 649, 2, 650, 461, 462, 463, 464, 30, 465, 24, 466, 467, 468, 469, 31, 470, 18, 471, 472, 473, 29, 474, 55, 56, 475, 476, 477, 478, 479, 480, 481, 405, 406, 407, 408, 409, 410, 411, 394, 395, 396, 412, 316, 317, 318, 319, 320, 321, 482, 483, 484, 485, 341, 342, 343, 241, 242, 243, 244, 486, 487, 488, 489, 52, 490, 491, 492, 493, 53, 54, 530, 531, 532, 663, 664, 665, 666, 667, 668, 669, 670, 671, 672, 673, 674, 675, 703, 704, 705, 706, 707, 708, 709, 710, 711, 712, 713, 714, 715, 716, 717, 718] (by decide +kernel) (by decide +kernel)
set_option maxRecDepth 20000 in
theorem gL_law_X2_count : GoodIn wsL_law (wsV RL 103 RX2 yX2_count wsX2_count) := goodIn_app (goodIn_of _ (by decide +kernel)) ggL_law_X2_count
set_option maxRecDepth 20000 in
theorem ggL_law_X3_count : GoodIn wsL_law wsX3_count := goodIn_r _ [654, 110, 83, 251, 252, 84, 82, 111, 537, 538, 539, 5, 540, 90, 91, 92, 640, 641, 642, 676, 677, 678, 679, 680, 681, 682, 683, 684, 685, 686, 687, 688, 689, 690, 691, 692, 693, 694, 695, 696, 697, 698, 699, 700, 701, 702] (by decide +kernel) (by decide +kernel)
set_option maxRecDepth 20000 in
theorem gL_law_X3_count : GoodIn wsL_law (wsV RL 106 RX3 yX3_count wsX3_count) := goodIn_app (goodIn_of _ (by decide +kernel)) ggL_law_X3_count
set_option maxRecDepth 20000 in
theorem ggL_law_X2_trace : GoodIn wsL_law wsX2_trace := goodIn_r _ [658, 26, 663, 664, 665, 666, 667, 668, 669, 670, 671, 672, 673, 674, 675] (by decide +kernel) (by decide +kernel)
set_option maxRecDepth 20000 in
theorem gL_law_X2_trace : GoodIn wsL_law (wsV RL 107 RX2 yX2_trace wsX2_trace) := goodIn_app (goodIn_of _ (by decide +kernel)) ggL_law_X2_trace
set_option maxRecDepth 20000 in
theorem ggL_law_X3_trace : GoodIn wsL_law wsX3_trace := goodIn_r _ [662, 110, 636, 676, 677, 678, 679, 680, 681, 682, 683, 684, 685, 686, 687, 688, 689, 690, 691, 692, 693, 694, 695, 696, 697, 698, 699, 700, 701, 702] (by decide +kernel) (by decide +kernel)
set_option maxRecDepth 20000 in
theorem gL_law_X3_trace : GoodIn wsL_law (wsV RL 110 RX3 yX3_trace wsX3_trace) := goodIn_app (goodIn_of _ (by decide +kernel)) ggL_law_X3_trace
theorem dL_law_0 : decode cL_law 0 = .ok (.new 7, 3) := by decide +kernel
theorem dL_law_3 : decode cL_law 3 = .ok (.dup, 1) := by decide +kernel
theorem dL_law_4 : decode cL_law 4 = .ok (.invokespecial 9, 3) := by decide +kernel
theorem dL_law_7 : decode cL_law 7 = .ok (.astore_n 1, 1) := by decide +kernel
theorem dL_law_8 : decode cL_law 8 = .ok (.new 10, 3) := by decide +kernel
theorem dL_law_11 : decode cL_law 11 = .ok (.dup, 1) := by decide +kernel
theorem dL_law_12 : decode cL_law 12 = .ok (.invokespecial 12, 3) := by decide +kernel
theorem dL_law_15 : decode cL_law 15 = .ok (.astore_n 2, 1) := by decide +kernel
theorem dL_law_16 : decode cL_law 16 = .ok (.iconst 0, 1) := by decide +kernel
theorem dL_law_17 : decode cL_law 17 = .ok (.istore_n 3, 1) := by decide +kernel
theorem dL_law_18 : decode cL_law 18 = .ok (.iload_n 3, 1) := by decide +kernel
theorem dL_law_19 : decode cL_law 19 = .ok (.aload_n 0, 1) := by decide +kernel
theorem dL_law_20 : decode cL_law 20 = .ok (.arraylength, 1) := by decide +kernel
theorem dL_law_21 : decode cL_law 21 = .ok (.iconst 4, 1) := by decide +kernel
theorem dL_law_22 : decode cL_law 22 = .ok (.isub, 1) := by decide +kernel
theorem dL_law_23 : decode cL_law 23 = .ok (.if_icmp .gt 714, 3) := by decide +kernel
