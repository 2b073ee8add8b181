set_option maxRecDepth 20000 in
theorem ggL_told_X4_told : GoodIn wsL_told wsT := goodIn_ca (goodIn_r _ [6, 7, 8, 9, 10, 11, 12, 13, 14, 15, 16, 17, 18, 19, 20, 5, 21, 22, 23, 24, 25, 26, 27, 28, 29, 30, 31, 32, 33, 34, 35, 36, 37, 38, 39] (by decide +kernel) (by decide +kernel)) (goodIn_sub (fun _ h => List.mem_cons_of_mem _ (List.mem_append_right _ h)) (by decide +kernel))
set_option maxRecDepth 20000 in
theorem gL_told_X4_told : GoodIn wsL_told (wsV RL 7 RX4 yX4_told wsT) := goodIn_app (goodIn_of _ (by decide +kernel)) ggL_told_X4_told
set_option maxRecDepth 20000 in
theorem ggL_law_X4_init : GoodIn wsL_law wsX4_init := goodIn_r _ [9, 10, 11, 12, 13, 14, 15, 16, 17, 18, 19, 20, 21, 22, 23, 24, 25, 26, 27, 28, 29, 30, 31, 32, 33, 34, 35, 36, 37, 38, 39, 40, 41, 42, 43, 44, 45, 46, 47, 48, 49, 50, 51, 52, 53, 54, 55, 56, 57, 58, 59, 60, 61, 62, 63, 64, 65, 66, 67, 68, 69, 70, 71, 72, 73, 74, 75, 76, 77, 78, 79, 80, 81, 82, 83, 84, 85, 86, 87, 88, 691, 692, 693, 694, 695, 696, 697, 698, 699, 647, 648, 649, 650, 651, 652, 700, 701, 702, 703, 704, 705, 706, 707, 708, 709, 710, 711, 712, 713, 714, 715, 716, 717, 718, 719, 720, 721, 722, 723, 724, 725, 726, 727, 728, 729, 730, 731, 732, 733] (by decide +kernel) (by decide +kernel)
set_option maxRecDepth 20000 in
theorem gL_law_X4_init : GoodIn wsL_law (wsX4_init) := ggL_law_X4_init
set_option maxRecDepth 20000 in
theorem ggL_law_X5_init : GoodIn wsL_law wsX5_init := goodIn_r _ [91, 92, 11, 12, 36, 93, 94, 95, 96, 97, 98, 99, 100, 101, 102, 103, 104, 105, 106, 107, 108, 109, 110, 111, 112, 113, 114, 115, 116, 117, 118, 119, 120, 121, 122, 123, 124, 653, 654, 655, 656, 657, 658, 659, 660, 661, 662, 663, 664, 665, 666, 667, 668, 669, 670, 671, 672, 673, 674, 675, 676, 677, 678, 679, 680, 681, 682, 683, 684, 685, 686, 687, 688, 689, 690] (by decide +kernel) (by decide +kernel)
set_option maxRecDepth 20000 in
theorem gL_law_X5_init : GoodIn wsL_law (wsX5_init) := ggL_law_X5_init
set_option maxRecDepth 20000 in
theorem ggL_law_X4_cart : GoodIn wsL_law wsX4_cart := goodIn_r _ [128, 16, 129, 130, 131, 132, 133, 2, 134, 135, 136, 137, 138, 139, 140, 141, 142, 143, 44, 144, 48, 50, 51, 145, 146, 147, 15, 148, 33, 149, 150, 151, 152, 153, 154, 155, 156, 38, 37, 157, 158, 159, 160, 35, 39, 161, 162, 163, 164, 34, 165, 647, 648, 649, 650, 651, 652, 691, 692, 693, 694, 695, 696, 697, 698, 699, 723, 724, 725, 726, 727, 728, 729, 730, 731, 732, 733] (by decide +kernel) (by decide +kernel)
set_option maxRecDepth 20000 in
theorem gL_law_X4_cart : GoodIn wsL_law (wsV RL 19 RX4 yX4_cart wsX4_cart) := goodIn_app (goodIn_of _ (by decide +kernel)) ggL_law_X4_cart
set_option maxRecDepth 20000 in
theorem ggL_law_X5_cart : GoodIn wsL_law wsX5_cart := goodIn_r _ [169, 170, 171, 93, 94, 95, 96, 97, 99, 100, 172, 173, 5, 174, 175, 176, 177, 178, 179, 180, 181, 108, 653, 654, 655, 656, 657, 658, 659, 660, 661, 662, 663, 664, 665, 666, 667, 668, 669, 670, 671, 672, 673, 674, 675, 676, 677, 678, 679, 680, 681, 682, 683, 684, 685, 686, 687, 688, 689, 690] (by decide +kernel) (by decide +kernel)
set_option maxRecDepth 20000 in
theorem gL_law_X5_cart : GoodIn wsL_law (wsV RL 23 RX5 yX5_cart wsX5_cart) := goodIn_app (goodIn_of _ (by decide +kernel)) ggL_law_X5_cart
set_option maxRecDepth 20000 in
theorem ggL_law_X4_stop : GoodIn wsL_law wsX4_stop := goodIn_r _ [185, 16, 130, 186, 187, 188, 189, 2, 190, 129, 135, 136, 137, 138, 139, 140, 191, 192, 193, 44, 194, 53, 55, 195, 196, 197, 198, 57, 145, 146, 147, 15, 148, 33, 149, 150, 151, 152, 153, 154, 155, 156, 38, 37, 157, 158, 159, 160, 35, 39, 161, 162, 163, 164, 34, 165, 647, 648, 649, 650, 651, 652, 691, 692, 693, 694, 695, 696, 697, 698, 699, 723, 724, 725, 726, 727, 728, 729, 730, 731, 732, 733] (by decide +kernel) (by decide +kernel)
set_option maxRecDepth 20000 in
theorem gL_law_X4_stop : GoodIn wsL_law (wsV RL 24 RX4 yX4_stop wsX4_stop) := goodIn_app (goodIn_of _ (by decide +kernel)) ggL_law_X4_stop
set_option maxRecDepth 20000 in
theorem ggL_law_X5_stop : GoodIn wsL_law wsX5_stop := goodIn_r _ [202, 170, 97, 100, 99, 203, 204, 205, 5, 206, 171, 175, 176, 177, 207, 208, 209, 210, 211, 112, 172, 173, 174, 178, 179, 180, 181, 108, 653, 654, 655, 656, 657, 658, 659, 660, 661, 662, 663, 664, 665, 666, 667, 668, 669, 670, 671, 672, 673, 674, 675, 676, 677, 678, 679, 680, 681, 682, 683, 684, 685, 686, 687, 688, 689, 690] (by decide +kernel) (by decide +kernel)
set_option maxRecDepth 20000 in
theorem gL_law_X5_stop : GoodIn wsL_law (wsV RL 28 RX5 yX5_stop wsX5_stop) := goodIn_app (goodIn_of _ (by decide +kernel)) ggL_law_X5_stop
set_option maxRecDepth 20000 in
theorem ggL_law_X4_change : GoodIn wsL_law wsX4_change := goodIn_r _ [215, 16, 130, 187, 188, 189, 2, 190, 129, 135, 136, 137, 132, 133, 134, 195, 196, 197, 44, 198, 57, 141, 142, 143, 144, 48, 50, 51, 216, 158, 159, 15, 160, 35, 39, 161, 162, 163, 164, 34, 33, 165, 149, 150, 647, 648, 649, 650, 651, 652, 691, 692, 693, 694, 695, 696, 697, 698, 699, 723, 724, 725, 726, 727, 728, 729, 730, 731, 732, 733] (by decide +kernel) (by decide +kernel)
set_option maxRecDepth 20000 in
theorem gL_law_X4_change : GoodIn wsL_law (wsV RL 29 RX4 yX4_change wsX4_change) := goodIn_app (goodIn_of _ (by decide +kernel)) ggL_law_X4_change
set_option maxRecDepth 20000 in
theorem ggL_law_X5_change : GoodIn wsL_law wsX5_change := goodIn_r _ [220, 170, 93, 95, 96, 203, 204, 205, 5, 206, 171, 172, 173, 174, 207, 208, 209, 210, 211, 112, 178, 179, 180, 181, 108, 653, 654, 655, 656, 657, 658, 659, 660, 661, 662, 663, 664, 665, 666, 667, 668, 669, 670, 671, 672, 673, 674, 675, 676, 677, 678, 679, 680, 681, 682, 683, 684, 685, 686, 687, 688, 689, 690] (by decide +kernel) (by decide +kernel)
set_option maxRecDepth 20000 in
theorem gL_law_X5_change : GoodIn wsL_law (wsV RL 33 RX5 yX5_change wsX5_change) := goodIn_app (goodIn_of _ (by decide +kernel)) ggL_law_X5_change
set_option maxRecDepth 20000 in
theorem ggL_law_X4_snow : GoodIn wsL_law wsX4_snow := goodIn_r _ [224, 24, 25, 16, 130, 187, 188, 189, 2, 190, 129, 135, 136, 137, 225, 226, 227, 44, 228, 56, 229, 230, 231, 232, 216, 158, 159, 15, 160, 35, 39, 161, 162, 163, 164, 34, 33, 165, 149, 150, 647, 648, 649, 650, 651, 652, 691, 692, 693, 694, 695, 696, 697, 698, 699, 723, 724, 725, 726, 727, 728, 729, 730, 731, 732, 733] (by decide +kernel) (by decide +kernel)
set_option maxRecDepth 20000 in
theorem gL_law_X4_snow : GoodIn wsL_law (wsV RL 34 RX4 yX4_snow wsX4_snow) := goodIn_app (goodIn_of _ (by decide +kernel)) ggL_law_X4_snow
set_option maxRecDepth 20000 in
theorem ggL_law_X5_snow : GoodIn wsL_law wsX5_snow := goodIn_r _ [236, 170, 237, 102, 238, 203, 204, 205, 5, 206, 171, 172, 173, 174, 178, 179, 180, 181, 108, 653, 654, 655, 656, 657, 658, 659, 660, 661, 662, 663, 664, 665, 666, 667, 668, 669, 670, 671, 672, 673, 674, 675, 676, 677, 678, 679, 680, 681, 682, 683, 684, 685, 686, 687, 688, 689, 690] (by decide +kernel) (by decide +kernel)
set_option maxRecDepth 20000 in
theorem gL_law_X5_snow : GoodIn wsL_law (wsV RL 38 RX5 yX5_snow wsX5_snow) := goodIn_app (goodIn_of _ (by decide +kernel)) ggL_law_X5_snow
set_option maxRecDepth 20000 in
theorem ggL_law_X4_runs : GoodIn wsL_law wsX4_runs := goodIn_r _ [242, 16, 130, 187, 188, 189, 2, 190, 129, 135, 136, 137, 243, 244, 245, 44, 246, 48, 56, 647, 648, 649, 650, 651, 652, 691, 692, 693, 694, 695, 696, 697, 698, 699, 723, 724, 725, 726, 727, 728, 729, 730, 731, 732, 733] (by decide +kernel) (by decide +kernel)
set_option maxRecDepth 20000 in
theorem gL_law_X4_runs : GoodIn wsL_law (wsV RL 39 RX4 yX4_runs wsX4_runs) := goodIn_app (goodIn_of _ (by decide +kernel)) ggL_law_X4_runs
set_option maxRecDepth 20000 in
theorem ggL_law_X5_runs : GoodIn wsL_law wsX5_runs := goodIn_r _ [250, 170, 203, 204, 205, 5, 206, 171, 172, 173, 174, 251, 252, 253, 254, 93, 102, 653, 654, 655, 656, 657, 658, 659, 660, 661, 662, 663, 664, 665, 666, 667, 668, 669, 670, 671, 672, 673, 674, 675, 676, 677, 678, 679, 680, 681, 682, 683, 684, 685, 686, 687, 688, 689, 690] (by decide +kernel) (by decide +kernel)
set_option maxRecDepth 20000 in
theorem gL_law_X5_runs : GoodIn wsL_law (wsV RL 42 RX5 yX5_runs wsX5_runs) := goodIn_app (goodIn_of _ (by decide +kernel)) ggL_law_X5_runs
set_option maxRecDepth 20000 in
theorem ggL_law_X4_soon : GoodIn wsL_law wsX4_soon := goodIn_r _ [258, 16, 138, 139, 2, 140, 135, 136, 137, 259, 260, 261, 15, 262, 42, 39, 40, 263, 264, 265, 266, 267, 268, 269, 270, 33, 150, 149, 271, 272, 273, 274, 38, 275, 276, 277, 278, 279, 280, 281, 282, 37, 283, 284, 285, 286, 287, 288, 289, 44, 290, 49, 55, 291, 292, 293, 294, 295, 244, 245, 246, 48, 56, 647, 648, 649, 650, 651, 652, 691, 692, 693, 694, 695, 696, 697, 698, 699, 723, 724, 725, 726, 727, 728, 729, 730, 731, 732, 733] (by decide +kernel) (by decide +kernel)
set_option maxRecDepth 20000 in
theorem gL_law_X4_soon : GoodIn wsL_law (wsV RL 43 RX4 yX4_soon wsX4_soon) := goodIn_app (goodIn_of _ (by decide +kernel)) ggL_law_X4_soon
set_option maxRecDepth 20000 in
theorem ggL_law_X5_soon : GoodIn wsL_law wsX5_soon := goodIn_r _ [299, 170, 300, 175, 176, 5, 177, 301, 302, 303, 172, 173, 174, 304, 305, 306, 307, 106, 108, 104, 107, 308, 309, 310, 311, 171, 312, 313, 314, 315, 97, 99, 251, 252, 253, 254, 93, 102, 316, 317, 318, 319, 94, 100, 653, 654, 655, 656, 657, 658, 659, 660, 661, 662, 663, 664, 665, 666, 667, 668, 669, 670, 671, 672, 673, 674, 675, 676, 677, 678, 679, 680, 681, 682, 683, 684, 685, 686, 687, 688, 689, 690] (by decide +kernel) (by decide +kernel)
set_option maxRecDepth 20000 in
theorem gL_law_X5_soon : GoodIn wsL_law (wsV RL 46 RX5 yX5_soon wsX5_soon) := goodIn_app (goodIn_of _ (by decide +kernel)) ggL_law_X5_soon
set_option maxRecDepth 20000 in
theorem ggL_law_X4_reach : GoodIn wsL_law wsX4_reach := goodIn_r _ [323, 16, 324, 325, 138, 139, 2, 140, 135, 136, 137, 259, 260, 261, 15, 262, 42, 39, 40, 263, 264, 265, 266, 267, 268, 269, 270, 33, 150, 149, 271, 272, 273, 274, 38, 275, 276, 277, 278, 279, 280, 281, 282, 37, 283, 284, 285, 286, 287, 288, 289, 44, 290, 49, 55, 291, 292, 293, 294, 295, 244, 245, 246, 48, 56, 647, 648, 649, 650, 651, 652, 691, 692, 693, 694, 695, 696, 697, 698, 699, 723, 724, 725, 726, 727, 728, 729, 730, 731, 732, 733] (by decide +kernel) (by decide +kernel)
set_option maxRecDepth 20000 in
theorem gL_law_X4_reach : GoodIn wsL_law (wsV RL 47 RX4 yX4_reach wsX4_reach) := goodIn_app (goodIn_of _ (by decide +kernel)) ggL_law_X4_reach
set_option maxRecDepth 20000 in
theorem ggL_law_X5_reach : GoodIn wsL_law wsX5_reach := goodIn_r _ [329, 170, 175, 176, 5, 177, 301, 302, 303, 172, 173, 174, 304, 305, 306, 307, 106, 108, 104, 107, 308, 309, 310, 311, 300, 171, 312, 313, 314, 315, 97, 99, 251, 252, 253, 254, 93, 102, 316, 317, 318, 319, 94, 100, 653, 654, 655, 656, 657, 658, 659, 660, 661, 662, 663, 664, 665, 666, 667, 668, 669, 670, 671, 672, 673, 674, 675, 676, 677, 678, 679, 680, 681, 682, 683, 684, 685, 686, 687, 688, 689, 690] (by decide +kernel) (by decide +kernel)
set_option maxRecDepth 20000 in
theorem gL_law_X5_reach : GoodIn wsL_law (wsV RL 50 RX5 yX5_reach wsX5_reach) := goodIn_app (goodIn_of _ (by decide +kernel)) ggL_law_X5_reach
set_option maxRecDepth 20000 in
theorem ggL_law_X4_cut : GoodIn wsL_law wsX4_cut := goodIn_r _ [333, 16, 187, 188, 189, 2, 190, 129, 135, 136, 137, 138, 139, 140, 334, 335, 336, 15, 337, 41, 338, 339, 340, 341, 40, 263, 264, 265, 266, 342, 343, 344, 345, 33, 150, 346, 313, 314, 315, 271, 272, 273, 274, 38, 275, 276, 277, 278, 279, 280, 281, 282, 37, 283, 284, 285, 286, 287, 288, 289, 44, 290, 49, 55, 347, 348, 349, 350, 295, 244, 245, 246, 48, 56, 647, 648, 649, 650, 651, 652, 691, 692, 693, 694, 695, 696, 697, 698, 699, 723, 724, 725, 726, 727, 728, 729, 730, 731, 732, 733] (by decide +kernel) (by decide +kernel)
set_option maxRecDepth 20000 in
theorem gL_law_X4_cut : GoodIn wsL_law (wsV RL 51 RX4 yX4_cut wsX4_cut) := goodIn_app (goodIn_of _ (by decide +kernel)) ggL_law_X4_cut
set_option maxRecDepth 20000 in
theorem ggL_law_X5_cut : GoodIn wsL_law wsX5_cut := goodIn_r _ [354, 170, 300, 107, 203, 204, 205, 5, 206, 171, 301, 302, 303, 172, 173, 174, 175, 176, 177, 304, 305, 306, 307, 106, 108, 104, 308, 309, 310, 311, 312, 313, 314, 315, 97, 99, 251, 252, 253, 254, 93, 102, 316, 317, 318, 319, 94, 100, 653, 654, 655, 656, 657, 658, 659, 660, 661, 662, 663, 664, 665, 666, 667, 668, 669, 670, 671, 672, 673, 674, 675, 676, 677, 678, 679, 680, 681, 682, 683, 684, 685, 686, 687, 688, 689, 690] (by decide +kernel) (by decide +kernel)
set_option maxRecDepth 20000 in
theorem gL_law_X5_cut : GoodIn wsL_law (wsV RL 54 RX5 yX5_cut wsX5_cut) := goodIn_app (goodIn_of _ (by decide +kernel)) ggL_law_X5_cut
set_option maxRecDepth 20000 in
theorem ggL_law_X4_parcel : GoodIn wsL_law wsX4_parcel := goodIn_r _ [358, 23, 22, 138, 139, 2, 140, 135, 136, 137, 359, 360, 361, 27, 362, 79, 77, 78, 647, 648, 649, 650, 651, 652, 711, 712, 713, 714, 715, 716, 717, 718, 719, 720, 721, 722] (by decide +kernel) (by decide +kernel)
set_option maxRecDepth 20000 in
theorem gL_law_X4_parcel : GoodIn wsL_law (wsV RL 55 RX4 yX4_parcel wsX4_parcel) := goodIn_app (goodIn_of _ (by decide +kernel)) ggL_law_X4_parcel
set_option maxRecDepth 20000 in
theorem ggL_law_X5_parcel : GoodIn wsL_law wsX5_parcel := goodIn_r _ [366, 170, 211, 109, 110, 111, 112, 113, 114, 116, 175, 176, 5, 177, 172, 173, 174, 653, 654, 655, 656, 657, 658, 659, 660, 661, 662, 663, 664, 665, 666, 667, 668, 669, 670, 671, 672, 673, 674, 675, 676, 677, 678, 679, 680, 681, 682, 683, 684, 685, 686, 687, 688, 689, 690] (by decide +kernel) (by decide +kernel)
set_option maxRecDepth 20000 in
theorem gL_law_X5_parcel : GoodIn wsL_law (wsV RL 58 RX5 yX5_parcel wsX5_parcel) := goodIn_app (goodIn_of _ (by decide +kernel)) ggL_law_X5_parcel
set_option maxRecDepth 20000 in
theorem ggL_law_X4_tick : GoodIn wsL_law wsX4_tick := goodIn_r _ [370, 24, 16, 135, 136, 2, 137, 371, 372, 373, 374, 23, 22, 375, 376, 130, 377, 378, 379, 380, 381, 44, 382, 57, 52, 51, 383, 384, 385, 27, 386, 83, 79, 77, 84, 80, 81, 82, 387, 388, 389, 15, 390, 275, 276, 277, 278, 38, 271, 272, 273, 274, 391, 392, 393, 394, 395, 396, 397, 398, 399, 400, 401, 402, 403, 404, 405, 280, 281, 282, 37, 406, 284, 285, 286, 407, 288, 289, 290, 49, 55, 408, 409, 410, 411, 54, 53, 243, 244, 245, 246, 48, 56, 412, 413, 414, 415, 58, 50, 416, 417, 418, 419, 420, 421, 422, 423, 259, 260, 261, 262, 42, 39, 40, 263, 264, 265, 266, 267, 268, 269, 270, 33, 150, 149, 279, 283, 287, 291, 292, 293, 294, 295, 424, 425, 339, 340, 341, 342, 343, 344, 345, 346, 313, 314, 315, 347, 348, 349, 350, 426, 427, 428, 429, 430, 431, 432, 433, 434, 435, 436, 437, 438, 439, 440, 441, 442, 85, 647, 648, 649, 650, 651, 652, 711, 712, 713, 714, 715, 716, 717, 718, 719, 720, 721, 722, 691, 692, 693, 694, 695, 696, 697, 698, 699, 723, 724, 725, 726, 727, 728, 729, 730, 731, 732, 733] (by decide +kernel) (by decide +kernel)
set_option maxRecDepth 20000 in
theorem gL_law_X4_tick : GoodIn wsL_law (wsV RL 59 RX4 yX4_tick wsX4_tick) := goodIn_app (goodIn_of _ (by decide +kernel)) ggL_law_X4_tick
set_option maxRecDepth 20000 in
theorem ggL_law_X5_tick : GoodIn wsL_law wsX5_tick := goodIn_r _ [446, 170, 237, 172, 173, 5, 174, 447, 448, 449, 450, 211, 112, 114, 98, 110, 96, 111, 115, 113, 109, 116, 451, 452, 453, 454, 300, 171, 312, 313, 314, 315, 97, 99, 117, 304, 305, 306, 307, 106, 108, 104, 107, 308, 309, 310, 311, 251, 252, 253, 254, 93, 102, 316, 317, 318, 319, 94, 100, 455, 456, 457, 458, 95, 653, 654, 655, 656, 657, 658, 659, 660, 661, 662, 663, 664, 665, 666, 667, 668, 669, 670, 671, 672, 673, 674, 675, 676, 677, 678, 679, 680, 681, 682, 683, 684, 685, 686, 687, 688, 689, 690] (by decide +kernel) (by decide +kernel)
set_option maxRecDepth 20000 in
theorem gL_law_X5_tick : GoodIn wsL_law (wsV RL 63 RX5 yX5_tick wsX5_tick) := goodIn_app (goodIn_of _ (by decide +kernel)) ggL_law_X5_tick
set_option maxRecDepth 20000 in
theorem ggL_law_L_told : GoodIn wsL_law wsL_told := goodIn_ca (goodIn_r _ [462, 463, 464, 465, 466, 2, 467, 468, 469, 23, 22, 423, 378, 400, 375, 377, 376, 395, 470, 135, 136, 137, 647, 648, 649, 650, 651, 652, 711, 712, 713, 714, 715, 716, 717, 718, 719, 720, 721, 722] (by decide +kernel) (by decide +kernel)) (goodIn_sub (fun _ h => List.mem_append_right _ h) (by decide +kernel))
set_option maxRecDepth 20000 in
theorem gL_law_L_told : GoodIn wsL_law (va_wsS RL 64 yL_told wsL_told) := goodIn_app (goodIn_of _ (by decide +kernel)) ggL_law_L_told
set_option maxRecDepth 20000 in
theorem ggL_law_X5_told : GoodIn wsL_law wsX5_told := goodIn_r _ [474, 211, 170, 109, 110, 111, 112, 113, 114, 116, 117, 172, 173, 5, 174, 653, 654, 655, 656, 657, 658, 659, 660, 661, 662, 663, 664, 665, 666, 667, 668, 669, 670, 671, 672, 673, 674, 675, 676, 677, 678, 679, 680, 681, 682, 683, 684, 685, 686, 687, 688, 689, 690] (by decide +kernel) (by decide +kernel)
set_option maxRecDepth 20000 in
theorem gL_law_X5_told : GoodIn wsL_law (wsV RL 69 RX5 yX5_told wsX5_told) := goodIn_app (goodIn_of _ (by decide +kernel)) ggL_law_X5_told
set_option maxRecDepth 20000 in
theorem ggL_law_X4_waiting : GoodIn wsL_law wsX4_waiting := goodIn_r _ [478, 23, 22, 400, 395, 138, 139, 2, 140, 135, 136, 137, 647, 648, 649, 650, 651, 652, 711, 712, 713, 714, 715, 716, 717, 718, 719, 720, 721, 722] (by decide +kernel) (by decide +kernel)
set_option maxRecDepth 20000 in
theorem gL_law_X4_waiting : GoodIn wsL_law (wsV RL 70 RX4 yX4_waiting wsX4_waiting) := goodIn_app (goodIn_of _ (by decide +kernel)) ggL_law_X4_waiting
set_option maxRecDepth 20000 in
theorem ggL_law_X5_waiting : GoodIn wsL_law wsX5_waiting := goodIn_r _ [482, 170, 211, 111, 116, 175, 176, 5, 177, 653, 654, 655, 656, 657, 658, 659, 660, 661, 662, 663, 664, 665, 666, 667, 668, 669, 670, 671, 672, 673, 674, 675, 676, 677, 678, 679, 680, 681, 682, 683, 684, 685, 686, 687, 688, 689, 690] (by decide +kernel) (by decide +kernel)
set_option maxRecDepth 20000 in
theorem gL_law_X5_waiting : GoodIn wsL_law (wsV RL 73 RX5 yX5_waiting wsX5_waiting) := goodIn_app (goodIn_of _ (by decide +kernel)) ggL_law_X5_waiting
set_option maxRecDepth 20000 in
theorem ggL_law_X4_fares : GoodIn wsL_law wsX4_fares := goodIn_r _ [486, 16, 130, 487, 187, 188, 189, 2, 190, 129, 135, 136, 137, 647, 648, 649, 650, 651, 652, 691, 692, 693, 694, 695, 696, 697, 698, 699, 723, 724, 725, 726, 727, 728, 729, 730, 731, 732, 733] (by decide +kernel) (by decide +kernel)
set_option maxRecDepth 20000 in
theorem gL_law_X4_fares : GoodIn wsL_law (wsV RL 74 RX4 yX4_fares wsX4_fares) := goodIn_app (goodIn_of _ (by decide +kernel)) ggL_law_X4_fares
set_option maxRecDepth 20000 in
theorem ggL_law_X5_fares : GoodIn wsL_law wsX5_fares := goodIn_r _ [491, 170, 98, 203, 204, 205, 5, 206, 171, 653, 654, 655, 656, 657, 658, 659, 660, 661, 662, 663, 664, 665, 666, 667, 668, 669, 670, 671, 672, 673, 674, 675, 676, 677, 678, 679, 680, 681, 682, 683, 684, 685, 686, 687, 688, 689, 690] (by decide +kernel) (by decide +kernel)
set_option maxRecDepth 20000 in
theorem gL_law_X5_fares : GoodIn wsL_law (wsV RL 77 RX5 yX5_fares wsX5_fares) := goodIn_app (goodIn_of _ (by decide +kernel)) ggL_law_X5_fares
set_option maxRecDepth 20000 in
theorem ggL_law_X4_room : GoodIn wsL_law wsX4_room := goodIn_r _ [495, 16, 130, 187, 188, 189, 2, 190, 129, 135, 136, 137, 243, 244, 245, 44, 246, 48, 56, 412, 413, 414, 415, 58, 50, 57, 647, 648, 649, 650, 651, 652, 691, 692, 693, 694, 695, 696, 697, 698, 699, 723, 724, 725, 726, 727, 728, 729, 730, 731, 732, 733] (by decide +kernel) (by decide +kernel)
set_option maxRecDepth 20000 in
theorem gL_law_X4_room : GoodIn wsL_law (wsV RL 78 RX4 yX4_room wsX4_room) := goodIn_app (goodIn_of _ (by decide +kernel)) ggL_law_X4_room
set_option maxRecDepth 20000 in
theorem ggL_law_X5_room : GoodIn wsL_law wsX5_room := goodIn_r _ [499, 170, 203, 204, 205, 5, 206, 171, 172, 173, 174, 251, 252, 253, 254, 93, 102, 455, 456, 457, 458, 95, 211, 112, 113, 110, 653, 654, 655, 656, 657, 658, 659, 660, 661, 662, 663, 664, 665, 666, 667, 668, 669, 670, 671, 672, 673, 674, 675, 676, 677, 678, 679, 680, 681, 682, 683, 684, 685, 686, 687, 688, 689, 690] (by decide +kernel) (by decide +kernel)
set_option maxRecDepth 20000 in
theorem gL_law_X5_room : GoodIn wsL_law (wsV RL 81 RX5 yX5_room wsX5_room) := goodIn_app (goodIn_of _ (by decide +kernel)) ggL_law_X5_room
set_option maxRecDepth 20000 in
theorem ggL_law_X4_walk : GoodIn wsL_law wsX4_walk := goodIn_r _ [503, 20, 135, 136, 2, 137, 504, 505, 506, 19, 507, 63, 508, 509, 510, 511, 68, 69, 647, 648, 649, 650, 651, 652, 700, 701, 702, 703, 704, 705, 706, 707, 708, 709, 710] (by decide +kernel) (by decide +kernel)
set_option maxRecDepth 20000 in
theorem gL_law_X4_walk : GoodIn wsL_law (wsV RL 82 RX4 yX4_walk wsX4_walk) := goodIn_app (goodIn_of _ (by decide +kernel)) ggL_law_X4_walk
set_option maxRecDepth 20000 in
theorem ggL_law_X5_walk : GoodIn wsL_law wsX5_walk := goodIn_r _ [515, 170, 118, 172, 173, 5, 174, 653, 654, 655, 656, 657, 658, 659, 660, 661, 662, 663, 664, 665, 666, 667, 668, 669, 670, 671, 672, 673, 674, 675, 676, 677, 678, 679, 680, 681, 682, 683, 684, 685, 686, 687, 688, 689, 690] (by decide +kernel) (by decide +kernel)
set_option maxRecDepth 20000 in
theorem gL_law_X5_walk : GoodIn wsL_law (wsV RL 86 RX5 yX5_walk wsX5_walk) := goodIn_app (goodIn_of _ (by decide +kernel)) ggL_law_X5_walk
set_option maxRecDepth 20000 in
theorem ggL_law_X4_errand : GoodIn wsL_law wsX4_errand := goodIn_r _ [519, 20, 135, 136, 2, 137, 520, 521, 522, 19, 523, 67, 64, 65, 524, 525, 526, 508, 509, 510, 511, 68, 69, 647, 648, 649, 650, 651, 652, 700, 701, 702, 703, 704, 705, 706, 707, 708, 709, 710] (by decide +kernel) (by decide +kernel)
set_option maxRecDepth 20000 in
theorem gL_law_X4_errand : GoodIn wsL_law (wsV RL 87 RX4 yX4_errand wsX4_errand) := goodIn_app (goodIn_of _ (by decide +kernel)) ggL_law_X4_errand
set_option maxRecDepth 20000 in
theorem ggL_law_X5_errand : GoodIn wsL_law wsX5_errand := goodIn_r _ [530, 170, 119, 120, 123, 172, 173, 5, 174, 653, 654, 655, 656, 657, 658, 659, 660, 661, 662, 663, 664, 665, 666, 667, 668, 669, 670, 671, 672, 673, 674, 675, 676, 677, 678, 679, 680, 681, 682, 683, 684, 685, 686, 687, 688, 689, 690] (by decide +kernel) (by decide +kernel)
set_option maxRecDepth 20000 in
theorem gL_law_X5_errand : GoodIn wsL_law (wsV RL 90 RX5 yX5_errand wsX5_errand) := goodIn_app (goodIn_of _ (by decide +kernel)) ggL_law_X5_errand
set_option maxRecDepth 20000 in
theorem ggL_law_X4_clear : GoodIn wsL_law wsX4_clear := goodIn_r _ [534, 20, 535, 536, 537, 19, 538, 67, 508, 509, 510, 511, 68, 69, 647, 648, 649, 650, 651, 652, 700, 701, 702, 703, 704, 705, 706, 707, 708, 709, 710] (by decide +kernel) (by decide +kernel)
set_option maxRecDepth 20000 in
theorem gL_law_X4_clear : GoodIn wsL_law (wsV RL 91 RX4 yX4_clear wsX4_clear) := goodIn_app (goodIn_of _ (by decide +kernel)) ggL_law_X4_clear
set_option maxRecDepth 20000 in
theorem ggL_law_X5_clear : GoodIn wsL_law wsX5_clear := goodIn_r _ [542, 170, 123, 653, 654, 655, 656, 657, 658, 659, 660, 661, 662, 663, 664, 665, 666, 667, 668, 669, 670, 671, 672, 673, 674, 675, 676, 677, 678, 679, 680, 681, 682, 683, 684, 685, 686, 687, 688, 689, 690] (by decide +kernel) (by decide +kernel)
set_option maxRecDepth 20000 in
theorem gL_law_X5_clear : GoodIn wsL_law (wsV RL 94 RX5 yX5_clear wsX5_clear) := goodIn_app (goodIn_of _ (by decide +kernel)) ggL_law_X5_clear
set_option maxRecDepth 20000 in
theorem ggL_law_X4_best : GoodIn wsL_law wsX4_best := goodIn_r _ [546, 20, 547, 548, 549, 135, 136, 2, 137, 550, 551, 552, 19, 553, 68, 69, 67, 66, 554, 555, 556, 557, 558, 559, 560, 561, 63, 562, 563, 564, 314, 565, 524, 525, 526, 566, 567, 568, 569, 64, 570, 571, 572, 573, 70, 71, 72, 73, 574, 575, 576, 577, 578, 579, 580, 581, 65, 582, 583, 584, 585, 586, 587, 588, 589, 590, 591, 592, 593, 594, 595, 596, 647, 648, 649, 650, 651, 652, 700, 701, 702, 703, 704, 705, 706, 707, 708, 709, 710] (by decide +kernel) (by decide +kernel)
set_option maxRecDepth 20000 in
theorem gL_law_X4_best : GoodIn wsL_law (wsV RL 95 RX4 yX4_best wsX4_best) := goodIn_app (goodIn_of _ (by decide +kernel)) ggL_law_X4_best
set_option maxRecDepth 20000 in
theorem ggL_law_X5_best : GoodIn wsL_law wsX5_best := goodIn_r _ [600, 601, 602, 603, 604, 605, 606, 5, 607, 170, 608, 172, 173, 174, 609, 610, 611, 612, 118, 122, 121, 119, 123, 124, 120, 653, 654, 655, 656, 657, 658, 659, 660, 661, 662, 663, 664, 665, 666, 667, 668, 669, 670, 671, 672, 673, 674, 675, 676, 677, 678, 679, 680, 681, 682, 683, 684, 685, 686, 687, 688, 689, 690] (by decide +kernel) (by decide +kernel)
set_option maxRecDepth 20000 in
theorem gL_law_X5_best : GoodIn wsL_law (wsV RL 98 RX5 yX5_best wsX5_best) := goodIn_app (goodIn_of _ (by decide +kernel)) ggL_law_X5_best
set_option maxRecDepth 20000 in
theorem ggL_law_X4_round : GoodIn wsL_law wsX4_round := goodIn_r _ [616, 20, 135, 136, 2, 137, 550, 551, 552, 19, 553, 68, 69, 67, 66, 554, 555, 556, 557, 558, 559, 560, 561, 63, 562, 563, 564, 314, 565, 524, 525, 526, 566, 567, 568, 569, 64, 570, 571, 572, 573, 70, 71, 72, 73, 574, 575, 576, 577, 578, 579, 580, 581, 65, 582, 583, 584, 585, 586, 587, 588, 589, 617, 618, 619, 620, 647, 648, 649, 650, 651, 652, 700, 701, 702, 703, 704, 705, 706, 707, 708, 709, 710] (by decide +kernel) (by decide +kernel)
set_option maxRecDepth 20000 in
theorem gL_law_X4_round : GoodIn wsL_law (wsV RL 99 RX4 yX4_round wsX4_round) := goodIn_app (goodIn_of _ (by decide +kernel)) ggL_law_X4_round
set_option maxRecDepth 20000 in
theorem ggL_law_X5_round : GoodIn wsL_law wsX5_round := goodIn_r _ [624, 603, 122, 604, 605, 606, 5, 607, 170, 608, 172, 173, 174, 609, 610, 611, 612, 118, 601, 602, 121, 119, 123, 124, 120, 653, 654, 655, 656, 657, 658, 659, 660, 661, 662, 663, 664, 665, 666, 667, 668, 669, 670, 671, 672, 673, 674, 675, 676, 677, 678, 679, 680, 681, 682, 683, 684, 685, 686, 687, 688, 689, 690] (by decide +kernel) (by decide +kernel)
set_option maxRecDepth 20000 in
theorem gL_law_X5_round : GoodIn wsL_law (wsV RL 102 RX5 yX5_round wsX5_round) := goodIn_app (goodIn_of _ (by decide +kernel)) ggL_law_X5_round
set_option maxRecDepth 20000 in
theorem ggL_law_X4_count : GoodIn wsL_law wsX4_count := goodIn_r _ [628, 24, 16, 129, 23, 25, 20, 629, 630, 631, 632, 2, 633, 22, 395, 634, 635, 636, 637, 375, 638, 639, 640, 15, 641, 34, 33, 642, 590, 591, 592, 593, 594, 595, 596, 647, 648, 649, 650, 651, 652, 691, 692, 693, 694, 695, 696, 697, 698, 699, 700, 701, 702, 703, 704, 705, 706, 707, 708, 709, 710, 711, 712, 713, 714, 715, 716, 717, 718, 719, 720, 721, 722, 723, 724, 725, 726, 727, 728, 729, 730, 731, 732, 733] (by decide +kernel) (by decide +kernel)
set_option maxRecDepth 20000 in
theorem gL_law_X4_count : GoodIn wsL_law (wsV RL 103 RX4 yX4_count wsX4_count) := goodIn_app (goodIn_of _ (by decide +kernel)) ggL_law_X4_count
set_option maxRecDepth 20000 in
theorem ggL_law_X5_count : GoodIn wsL_law wsX5_count := goodIn_r _ [646, 170, 237, 171, 211, 116, 112, 238, 98, 123, 653, 654, 655, 656, 657, 658, 659, 660, 661, 662, 663, 664, 665, 666, 667, 668, 669, 670, 671, 672, 673, 674, 675, 676, 677, 678, 679, 680, 681, 682, 683, 684, 685, 686, 687, 688, 689, 690] (by decide +kernel) (by decide +kernel)
set_option maxRecDepth 20000 in
theorem gL_law_X5_count : GoodIn wsL_law (wsV RL 106 RX5 yX5_count wsX5_count) := goodIn_app (goodIn_of _ (by decide +kernel)) ggL_law_X5_count
