set_option maxRecDepth 20000 in
theorem gL_law_X6_loosen : GoodIn wsL_law (wsV RL 49 RX6 yX6_loosen wsX6_loosen) := goodIn_app (goodIn_of _ (by decide +kernel)) ggL_law_X6_loosen
set_option maxRecDepth 20000 in
theorem ggL_law_X7_loosen : GoodIn wsL_law wsX7_loosen := goodIn_r _ [510, 105, 427, 428, 429, 5, 430, 131, 132, 133, 363, 364, 365, 431, 432, 433, 434, 435, 436, 437, 438, 403, 439, 440, 441, 442, 495, 496, 497, 498, 499, 500, 501, 906, 907, 908, 909, 910, 911, 912, 913, 914, 915, 916, 917, 918, 919] (by decide +kernel) (by decide +kernel)
set_option maxRecDepth 20000 in
theorem gL_law_X7_loosen : GoodIn wsL_law (wsV RL 52 RX7 yX7_loosen wsX7_loosen) := goodIn_app (goodIn_of _ (by decide +kernel)) ggL_law_X7_loosen
set_option maxRecDepth 20000 in
theorem ggL_law_X6_move : GoodIn wsL_law wsX6_move := goodIn_r _ [514, 30, 15, 18, 515, 516, 517, 2, 518, 409, 410, 411, 14, 412, 55, 519, 520, 521, 522, 523, 524, 525, 526, 49, 281, 282, 283, 284, 527, 292, 293, 294, 50, 270, 271, 528, 529, 530, 531, 532, 533, 534, 535, 47, 536, 537, 538, 539, 48, 480, 481, 482, 483, 484, 485, 486, 413, 414, 415, 29, 416, 78, 76, 75, 417, 418, 419, 420, 421, 151, 152, 153, 46, 540, 296, 297, 298, 896, 897, 898, 899, 900, 901, 902, 903, 904, 905, 920, 921, 922, 923, 924, 925, 934, 935, 936] (by decide +kernel) (by decide +kernel)
set_option maxRecDepth 20000 in
theorem gL_law_X6_move : GoodIn wsL_law (wsV RL 53 RX6 yX6_move wsX6_move) := goodIn_app (goodIn_of _ (by decide +kernel)) ggL_law_X6_move
set_option maxRecDepth 20000 in
theorem ggL_law_X7_move : GoodIn wsL_law wsX7_move := goodIn_r _ [544, 427, 428, 429, 5, 430, 105, 131, 132, 133, 545, 546, 547, 548, 108, 374, 375, 376, 377, 386, 387, 388, 389, 435, 436, 437, 438, 403, 439, 440, 441, 442, 549, 550, 551, 552, 553, 554, 555, 556, 557, 558, 559, 560, 561, 562, 563, 564, 363, 364, 365, 906, 907, 908, 909, 910, 911, 912, 913, 914, 915, 916, 917, 918, 919] (by decide +kernel) (by decide +kernel)
set_option maxRecDepth 20000 in
theorem gL_law_X7_move : GoodIn wsL_law (wsV RL 56 RX7 yX7_move wsX7_move) := goodIn_app (goodIn_of _ (by decide +kernel)) ggL_law_X7_move
set_option maxRecDepth 20000 in
theorem ggL_law_X6_settle : GoodIn wsL_law wsX6_settle := goodIn_r _ [568, 41, 15, 30, 569, 570, 571, 572, 573, 40, 574, 95, 94, 575, 98, 90, 91, 576, 577, 578, 14, 579, 55, 46, 47, 49, 50, 48, 580, 151, 152, 153, 581, 582, 583, 584, 97, 96, 585, 586, 537, 538, 539, 270, 2, 271, 587, 588, 589, 590, 591, 592, 593, 99, 285, 286, 594, 595, 596, 597, 598, 481, 482, 483, 484, 485, 486, 599, 600, 601, 602, 92, 413, 414, 415, 29, 416, 78, 76, 75, 417, 418, 419, 420, 421, 540, 296, 297, 298, 896, 897, 898, 899, 900, 901, 902, 903, 904, 905, 943, 944, 945, 946, 947, 948, 949, 950, 951, 920, 921, 922, 923, 924, 925, 934, 935, 936] (by decide +kernel) (by decide +kernel)
set_option maxRecDepth 20000 in
theorem gL_law_X6_settle : GoodIn wsL_law (wsV RL 57 RX6 yX6_settle wsX6_settle) := goodIn_app (goodIn_of _ (by decide +kernel)) ggL_law_X6_settle
set_option maxRecDepth 20000 in
theorem ggL_law_X7_settle : GoodIn wsL_law wsX7_settle := goodIn_r _ [606, 111, 607, 608, 609, 5, 610, 105, 108, 611, 612, 613, 614, 110, 615, 616, 617, 618, 363, 364, 365, 619, 620, 621, 622, 623, 624, 625, 626, 499, 500, 501, 627, 628, 629, 630, 374, 375, 376, 377, 631, 632, 633, 634, 435, 436, 437, 438, 403, 439, 440, 441, 442, 549, 550, 551, 552, 906, 907, 908, 909, 910, 911, 912, 913, 914, 915, 916, 917, 918, 919] (by decide +kernel) (by decide +kernel)
set_option maxRecDepth 20000 in
theorem gL_law_X7_settle : GoodIn wsL_law (wsV RL 60 RX7 yX7_settle wsX7_settle) := goodIn_app (goodIn_of _ (by decide +kernel)) ggL_law_X7_settle
set_option maxRecDepth 20000 in
theorem ggL_law_X6_undo : GoodIn wsL_law wsX6_undo := goodIn_r _ [638, 30, 639, 15, 640, 641, 642, 29, 643, 75, 76, 78, 421, 151, 152, 14, 153, 55, 46, 47, 49, 50, 48, 896, 897, 898, 899, 900, 901, 902, 903, 904, 905, 934, 935, 936, 920, 921, 922, 923, 924, 925] (by decide +kernel) (by decide +kernel)
set_option maxRecDepth 20000 in
theorem gL_law_X6_undo : GoodIn wsL_law (wsV RL 61 RX6 yX6_undo wsX6_undo) := goodIn_app (goodIn_of _ (by decide +kernel)) ggL_law_X6_undo
set_option maxRecDepth 20000 in
theorem ggL_law_X7_undo : GoodIn wsL_law wsX7_undo := goodIn_r _ [647, 403, 439, 440, 441, 5, 442, 105, 906, 907, 908, 909, 910, 911, 912, 913, 914, 915, 916, 917, 918, 919] (by decide +kernel) (by decide +kernel)
set_option maxRecDepth 20000 in
theorem gL_law_X7_undo : GoodIn wsL_law (wsV RL 64 RX7 yX7_undo wsX7_undo) := goodIn_app (goodIn_of _ (by decide +kernel)) ggL_law_X7_undo
set_option maxRecDepth 20000 in
theorem ggL_law_X6_keep : GoodIn wsL_law wsX6_keep := goodIn_r _ [651, 31, 15, 33, 652, 150, 151, 152, 14, 153, 55, 46, 47, 49, 50, 48, 528, 529, 530, 531, 532, 533, 534, 535, 536, 537, 538, 539, 270, 2, 271, 480, 481, 482, 483, 484, 485, 486, 896, 897, 898, 899, 900, 901, 902, 903, 904, 905, 920, 921, 922, 923, 924, 925] (by decide +kernel) (by decide +kernel)
set_option maxRecDepth 20000 in
theorem gL_law_X6_keep : GoodIn wsL_law (wsV RL 65 RX6 yX6_keep wsX6_keep) := goodIn_app (goodIn_of _ (by decide +kernel)) ggL_law_X6_keep
set_option maxRecDepth 20000 in
theorem ggL_law_X7_keep : GoodIn wsL_law wsX7_keep := goodIn_r _ [656, 106, 131, 132, 5, 133, 439, 440, 441, 442, 105, 553, 554, 555, 556, 557, 558, 559, 560, 561, 562, 563, 564, 363, 364, 365, 374, 375, 376, 377, 906, 907, 908, 909, 910, 911, 912, 913, 914, 915, 916, 917, 918, 919] (by decide +kernel) (by decide +kernel)
set_option maxRecDepth 20000 in
theorem gL_law_X7_keep : GoodIn wsL_law (wsV RL 68 RX7 yX7_keep wsX7_keep) := goodIn_app (goodIn_of _ (by decide +kernel)) ggL_law_X7_keep
set_option maxRecDepth 20000 in
theorem ggL_law_X6_back : GoodIn wsL_law wsX6_back := goodIn_r _ [660, 33, 15, 31, 30, 652, 150, 151, 152, 14, 153, 55, 46, 47, 49, 50, 48, 395, 396, 397, 29, 398, 75, 528, 529, 530, 531, 532, 533, 534, 535, 536, 537, 538, 539, 270, 2, 271, 480, 481, 482, 483, 484, 485, 486, 896, 897, 898, 899, 900, 901, 902, 903, 904, 905, 920, 921, 922, 923, 924, 925, 934, 935, 936] (by decide +kernel) (by decide +kernel)
set_option maxRecDepth 20000 in
theorem gL_law_X6_back : GoodIn wsL_law (wsV RL 69 RX6 yX6_back wsX6_back) := goodIn_app (goodIn_of _ (by decide +kernel)) ggL_law_X6_back
set_option maxRecDepth 20000 in
theorem ggL_law_X7_back : GoodIn wsL_law wsX7_back := goodIn_r _ [664, 106, 403, 131, 132, 5, 133, 439, 440, 441, 442, 105, 553, 554, 555, 556, 557, 558, 559, 560, 561, 562, 563, 564, 363, 364, 365, 374, 375, 376, 377, 906, 907, 908, 909, 910, 911, 912, 913, 914, 915, 916, 917, 918, 919] (by decide +kernel) (by decide +kernel)
set_option maxRecDepth 20000 in
theorem gL_law_X7_back : GoodIn wsL_law (wsV RL 72 RX7 yX7_back wsX7_back) := goodIn_app (goodIn_of _ (by decide +kernel)) ggL_law_X7_back
set_option maxRecDepth 20000 in
theorem ggL_law_X6_at : GoodIn wsL_law wsX6_at := goodIn_r _ [668, 15, 652, 519, 520, 521, 14, 522, 55, 896, 897, 898, 899, 900, 901, 902, 903, 904, 905, 920, 921, 922, 923, 924, 925] (by decide +kernel) (by decide +kernel)
set_option maxRecDepth 20000 in
theorem gL_law_X6_at : GoodIn wsL_law (wsV RL 73 RX6 yX6_at wsX6_at) := goodIn_app (goodIn_of _ (by decide +kernel)) ggL_law_X6_at
set_option maxRecDepth 20000 in
theorem ggL_law_X7_at : GoodIn wsL_law wsX7_at := goodIn_r _ [672, 105, 427, 428, 429, 5, 430, 131, 132, 133, 906, 907, 908, 909, 910, 911, 912, 913, 914, 915, 916, 917, 918, 919] (by decide +kernel) (by decide +kernel)
set_option maxRecDepth 20000 in
theorem gL_law_X7_at : GoodIn wsL_law (wsV RL 76 RX7 yX7_at wsX7_at) := goodIn_app (goodIn_of _ (by decide +kernel)) ggL_law_X7_at
set_option maxRecDepth 20000 in
theorem ggL_law_X6_section : GoodIn wsL_law wsX6_section := goodIn_r _ [676, 15, 408, 447, 37, 474, 409, 410, 411, 14, 412, 55, 677, 282, 283, 284, 49, 678, 537, 538, 539, 48, 270, 2, 271, 679, 680, 681, 682, 47, 281, 536, 683, 684, 685, 686, 687, 688, 689, 690, 285, 286, 691, 692, 693, 694, 695, 696, 697, 36, 698, 699, 700, 84, 85, 701, 702, 703, 704, 705, 896, 897, 898, 899, 900, 901, 902, 903, 904, 905, 920, 921, 922, 923, 924, 925, 937, 938, 939, 940, 941, 942] (by decide +kernel) (by decide +kernel)
set_option maxRecDepth 20000 in
theorem gL_law_X6_section : GoodIn wsL_law (wsV RL 77 RX6 yX6_section wsX6_section) := goodIn_app (goodIn_of _ (by decide +kernel)) ggL_law_X6_section
set_option maxRecDepth 20000 in
theorem ggL_law_X7_section : GoodIn wsL_law wsX7_section := goodIn_r _ [709, 105, 427, 428, 429, 5, 430, 131, 132, 133, 374, 375, 376, 377, 710, 711, 712, 713, 561, 562, 563, 564, 363, 364, 365, 714, 715, 716, 717, 557, 558, 559, 560, 718, 719, 720, 721, 722, 723, 724, 725, 726, 727, 728, 729, 906, 907, 908, 909, 910, 911, 912, 913, 914, 915, 916, 917, 918, 919] (by decide +kernel) (by decide +kernel)
set_option maxRecDepth 20000 in
theorem gL_law_X7_section : GoodIn wsL_law (wsV RL 80 RX7 yX7_section wsX7_section) := goodIn_app (goodIn_of _ (by decide +kernel)) ggL_law_X7_section
set_option maxRecDepth 20000 in
theorem ggL_law_X6_term : GoodIn wsL_law wsX6_term := goodIn_r _ [733, 15, 465, 652, 448, 259, 2, 260, 734, 735, 736, 14, 737, 55, 47, 285, 286, 270, 271, 738, 688, 689, 690, 48, 49, 739, 740, 741, 742, 46, 743, 744, 745, 746, 747, 896, 897, 898, 899, 900, 901, 902, 903, 904, 905, 920, 921, 922, 923, 924, 925] (by decide +kernel) (by decide +kernel)
set_option maxRecDepth 20000 in
theorem gL_law_X6_term : GoodIn wsL_law (wsV RL 81 RX6 yX6_term wsX6_term) := goodIn_app (goodIn_of _ (by decide +kernel)) ggL_law_X6_term
set_option maxRecDepth 20000 in
theorem ggL_law_X7_term : GoodIn wsL_law wsX7_term := goodIn_r _ [751, 105, 457, 458, 5, 459, 460, 131, 132, 133, 623, 624, 625, 626, 363, 364, 365, 557, 558, 559, 560, 561, 562, 563, 564, 374, 375, 376, 377, 752, 753, 754, 755, 906, 907, 908, 909, 910, 911, 912, 913, 914, 915, 916, 917, 918, 919] (by decide +kernel) (by decide +kernel)
set_option maxRecDepth 20000 in
theorem gL_law_X7_term : GoodIn wsL_law (wsV RL 84 RX7 yX7_term wsX7_term) := goodIn_app (goodIn_of _ (by decide +kernel)) ggL_law_X7_term
set_option maxRecDepth 20000 in
theorem ggL_law_X6_ring : GoodIn wsL_law wsX6_ring := goodIn_r _ [759, 37, 15, 760, 761, 695, 696, 697, 36, 698, 699, 700, 84, 85, 701, 692, 693, 14, 694, 48, 47, 285, 2, 286, 270, 271, 762, 763, 764, 765, 766, 767, 768, 769, 770, 86, 771, 772, 773, 774, 775, 776, 777, 778, 83, 779, 780, 781, 782, 896, 897, 898, 899, 900, 901, 902, 903, 904, 905, 937, 938, 939, 940, 941, 942, 920, 921, 922, 923, 924, 925] (by decide +kernel) (by decide +kernel)
set_option maxRecDepth 20000 in
theorem gL_law_X6_ring : GoodIn wsL_law (wsV RL 85 RX6 yX6_ring wsX6_ring) := goodIn_app (goodIn_of _ (by decide +kernel)) ggL_law_X6_ring
set_option maxRecDepth 20000 in
theorem ggL_law_X7_ring : GoodIn wsL_law wsX7_ring := goodIn_r _ [786, 787, 788, 789, 5, 790, 105, 791, 792, 793, 794, 718, 719, 720, 721, 363, 364, 365, 906, 907, 908, 909, 910, 911, 912, 913, 914, 915, 916, 917, 918, 919] (by decide +kernel) (by decide +kernel)
set_option maxRecDepth 20000 in
theorem gL_law_X7_ring : GoodIn wsL_law (wsV RL 88 RX7 yX7_ring wsX7_ring) := goodIn_app (goodIn_of _ (by decide +kernel)) ggL_law_X7_ring
set_option maxRecDepth 20000 in
theorem ggL_law_X6_best : GoodIn wsL_law wsX6_best := goodIn_r _ [798, 15, 41, 569, 519, 520, 521, 14, 522, 55, 571, 572, 573, 40, 574, 95, 94, 575, 98, 90, 91, 576, 577, 578, 579, 46, 47, 49, 50, 48, 580, 151, 152, 153, 581, 582, 583, 584, 97, 96, 585, 586, 537, 538, 539, 270, 2, 271, 587, 588, 589, 590, 591, 592, 593, 99, 285, 286, 594, 595, 596, 597, 598, 481, 482, 483, 484, 485, 486, 599, 600, 601, 602, 92, 896, 897, 898, 899, 900, 901, 902, 903, 904, 905, 943, 944, 945, 946, 947, 948, 949, 950, 951, 920, 921, 922, 923, 924, 925] (by decide +kernel) (by decide +kernel)
set_option maxRecDepth 20000 in
theorem gL_law_X6_best : GoodIn wsL_law (wsV RL 89 RX6 yX6_best wsX6_best) := goodIn_app (goodIn_of _ (by decide +kernel)) ggL_law_X6_best
set_option maxRecDepth 20000 in
theorem ggL_law_X7_best : GoodIn wsL_law wsX7_best := goodIn_r _ [802, 108, 427, 428, 429, 5, 430, 105, 131, 132, 133, 607, 608, 609, 610, 611, 612, 613, 614, 110, 111, 615, 616, 617, 618, 363, 364, 365, 619, 620, 621, 622, 623, 624, 625, 626, 499, 500, 501, 627, 628, 629, 630, 374, 375, 376, 377, 631, 632, 633, 634, 906, 907, 908, 909, 910, 911, 912, 913, 914, 915, 916, 917, 918, 919] (by decide +kernel) (by decide +kernel)
set_option maxRecDepth 20000 in
theorem gL_law_X7_best : GoodIn wsL_law (wsV RL 92 RX7 yX7_best wsX7_best) := goodIn_app (goodIn_of _ (by decide +kernel)) ggL_law_X7_best
set_option maxRecDepth 20000 in
theorem ggL_law_X6_least : GoodIn wsL_law wsX6_least := goodIn_r _ [806, 41, 15, 569, 807, 570, 571, 572, 573, 40, 574, 95, 94, 575, 98, 90, 91, 576, 577, 578, 14, 579, 55, 46, 47, 49, 50, 48, 580, 151, 152, 153, 581, 582, 583, 584, 97, 96, 585, 586, 537, 538, 539, 270, 2, 271, 587, 588, 589, 590, 591, 592, 593, 99, 285, 286, 594, 595, 596, 597, 598, 481, 482, 483, 484, 485, 486, 599, 600, 601, 602, 92, 808, 533, 534, 535, 536, 809, 810, 811, 812, 813, 740, 741, 742, 896, 897, 898, 899, 900, 901, 902, 903, 904, 905, 943, 944, 945, 946, 947, 948, 949, 950, 951, 920, 921, 922, 923, 924, 925] (by decide +kernel) (by decide +kernel)
set_option maxRecDepth 20000 in
theorem gL_law_X6_least : GoodIn wsL_law (wsV RL 93 RX6 yX6_least wsX6_least) := goodIn_app (goodIn_of _ (by decide +kernel)) ggL_law_X6_least
set_option maxRecDepth 20000 in
theorem ggL_law_X7_least : GoodIn wsL_law wsX7_least := goodIn_r _ [817, 818, 110, 111, 131, 132, 5, 133, 607, 608, 609, 610, 105, 108, 611, 612, 613, 614, 615, 616, 617, 618, 363, 364, 365, 619, 620, 621, 622, 623, 624, 625, 626, 499, 500, 501, 627, 628, 629, 630, 374, 375, 376, 377, 631, 632, 633, 634, 819, 820, 821, 822, 549, 550, 551, 552, 823, 824, 825, 826, 752, 753, 754, 755, 557, 558, 559, 560, 561, 562, 563, 564, 906, 907, 908, 909, 910, 911, 912, 913, 914, 915, 916, 917, 918, 919] (by decide +kernel) (by decide +kernel)
set_option maxRecDepth 20000 in
theorem gL_law_X7_least : GoodIn wsL_law (wsV RL 96 RX7 yX7_least wsX7_least) := goodIn_app (goodIn_of _ (by decide +kernel)) ggL_law_X7_least
set_option maxRecDepth 20000 in
theorem ggL_law_X6_would : GoodIn wsL_law wsX6_would := goodIn_r _ [830, 15, 16, 447, 41, 807, 409, 410, 411, 14, 412, 55, 448, 259, 2, 260, 150, 151, 152, 153, 46, 47, 49, 50, 48, 449, 270, 271, 571, 572, 573, 40, 574, 95, 94, 575, 98, 90, 91, 576, 577, 578, 579, 580, 581, 582, 583, 584, 97, 96, 585, 586, 537, 538, 539, 587, 588, 589, 590, 591, 592, 593, 99, 285, 286, 594, 595, 596, 597, 598, 481, 482, 483, 484, 485, 486, 599, 600, 601, 602, 92, 896, 897, 898, 899, 900, 901, 902, 903, 904, 905, 920, 921, 922, 923, 924, 925, 943, 944, 945, 946, 947, 948, 949, 950, 951] (by decide +kernel) (by decide +kernel)
set_option maxRecDepth 20000 in
theorem gL_law_X6_would : GoodIn wsL_law (wsV RL 97 RX6 yX6_would wsX6_would) := goodIn_app (goodIn_of _ (by decide +kernel)) ggL_law_X6_would
set_option maxRecDepth 20000 in
theorem ggL_law_X7_would : GoodIn wsL_law wsX7_would := goodIn_r _ [834, 105, 110, 427, 428, 429, 5, 430, 131, 132, 133, 457, 458, 459, 460, 611, 612, 613, 614, 111, 615, 616, 617, 618, 363, 364, 365, 619, 620, 621, 622, 623, 624, 625, 626, 499, 500, 501, 627, 628, 629, 630, 374, 375, 376, 377, 906, 907, 908, 909, 910, 911, 912, 913, 914, 915, 916, 917, 918, 919] (by decide +kernel) (by decide +kernel)
set_option maxRecDepth 20000 in
theorem gL_law_X7_would : GoodIn wsL_law (wsV RL 100 RX7 yX7_would wsX7_would) := goodIn_app (goodIn_of _ (by decide +kernel)) ggL_law_X7_would
set_option maxRecDepth 20000 in
theorem ggL_law_X6_after : GoodIn wsL_law wsX6_after := goodIn_r _ [838, 515, 516, 517, 2, 518, 15, 18, 409, 410, 411, 14, 412, 55, 519, 520, 521, 522, 523, 524, 525, 526, 49, 281, 282, 283, 284, 527, 292, 293, 294, 50, 270, 271, 528, 529, 530, 531, 532, 533, 534, 535, 47, 536, 537, 538, 539, 48, 480, 481, 482, 483, 484, 485, 486, 896, 897, 898, 899, 900, 901, 902, 903, 904, 905, 920, 921, 922, 923, 924, 925] (by decide +kernel) (by decide +kernel)
set_option maxRecDepth 20000 in
theorem gL_law_X6_after : GoodIn wsL_law (wsV RL 101 RX6 yX6_after wsX6_after) := goodIn_app (goodIn_of _ (by decide +kernel)) ggL_law_X6_after
set_option maxRecDepth 20000 in
theorem ggL_law_X7_after : GoodIn wsL_law wsX7_after := goodIn_r _ [842, 427, 428, 429, 5, 430, 105, 131, 132, 133, 545, 546, 547, 548, 108, 374, 375, 376, 377, 386, 387, 388, 389, 549, 550, 551, 552, 553, 554, 555, 556, 557, 558, 559, 560, 561, 562, 563, 564, 363, 364, 365, 906, 907, 908, 909, 910, 911, 912, 913, 914, 915, 916, 917, 918, 919] (by decide +kernel) (by decide +kernel)
set_option maxRecDepth 20000 in
theorem gL_law_X7_after : GoodIn wsL_law (wsV RL 104 RX7 yX7_after wsX7_after) := goodIn_app (goodIn_of _ (by decide +kernel)) ggL_law_X7_after
set_option maxRecDepth 20000 in
theorem ggL_law_X6_count : GoodIn wsL_law wsX6_count := goodIn_r _ [846, 15, 847, 652, 37, 30, 639, 22, 120, 528, 529, 530, 14, 531, 532, 533, 534, 535, 55, 47, 536, 537, 538, 539, 48, 270, 2, 271, 480, 481, 482, 483, 484, 485, 486, 848, 849, 850, 851, 852, 744, 745, 746, 747, 735, 736, 737, 285, 286, 853, 854, 855, 856, 857, 858, 859, 860, 861, 862, 863, 864, 865, 680, 681, 682, 49, 281, 282, 283, 284, 476, 477, 478, 479, 50, 809, 810, 811, 812, 813, 740, 741, 742, 46, 695, 696, 697, 36, 698, 699, 700, 84, 85, 701, 692, 693, 694, 866, 867, 868, 869, 870, 703, 704, 705, 871, 872, 873, 874, 875, 896, 897, 898, 899, 900, 901, 902, 903, 904, 905, 920, 921, 922, 923, 924, 925, 934, 935, 936, 926, 927, 928, 929, 930, 937, 938, 939, 940, 941, 942] (by decide +kernel) (by decide +kernel)
set_option maxRecDepth 20000 in
theorem gL_law_X6_count : GoodIn wsL_law (wsV RL 105 RX6 yX6_count wsX6_count) := goodIn_app (goodIn_of _ (by decide +kernel)) ggL_law_X6_count
set_option maxRecDepth 20000 in
theorem ggL_law_X7_count : GoodIn wsL_law wsX7_count := goodIn_r _ [879, 105, 403, 130, 553, 554, 555, 5, 556, 557, 558, 559, 560, 561, 562, 563, 564, 363, 364, 365, 374, 375, 376, 377, 880, 881, 882, 883, 623, 624, 625, 626, 884, 885, 886, 887, 888, 889, 890, 891, 499, 500, 501, 495, 496, 497, 498, 823, 824, 825, 826, 752, 753, 754, 755, 892, 893, 894, 895, 722, 723, 724, 725, 726, 727, 728, 729, 718, 719, 720, 721, 906, 907, 908, 909, 910, 911, 912, 913, 914, 915, 916, 917, 918, 919] (by decide +kernel) (by decide +kernel)
set_option maxRecDepth 20000 in
theorem gL_law_X7_count : GoodIn wsL_law (wsV RL 108 RX7 yX7_count wsX7_count) := goodIn_app (goodIn_of _ (by decide +kernel)) ggL_law_X7_count
