/-! THE LAW'S CALLS' WORDS -/
set_option maxRecDepth 20000 in
theorem ggL_law_X5_year : GoodIn wsL_law wsX5_year := goodIn_r _ [455, 19, 245, 23, 456, 395, 397, 291, 457, 458, 459, 18, 460, 257, 292, 293, 294, 295, 461, 462, 463, 464, 43, 380, 322, 2, 323, 447, 269, 270, 22, 271, 50, 51, 52, 710, 711, 712, 713, 714, 715, 716, 717, 743, 744, 745, 746, 747, 748, 749, 750, 751, 752, 753, 754, 755, 756] (by decide +kernel) (by decide +kernel)
set_option maxRecDepth 20000 in
theorem gL_law_X5_year : GoodIn wsL_law (wsV RL 56 RX5 yX5_year wsX5_year) := goodIn_app (goodIn_of _ (by decide +kernel)) ggL_law_X5_year
set_option maxRecDepth 20000 in
theorem ggL_law_X6_year : GoodIn wsL_law wsX6_year := goodIn_r _ [468, 277, 278, 81, 80, 102, 103, 5, 104, 469, 470, 471, 472, 473, 474, 475, 476, 281, 282, 283, 284, 718, 719, 720, 721, 722, 723, 724, 725, 726, 727, 728, 729, 730, 731, 732, 733, 734, 735, 736, 737, 738, 739] (by decide +kernel) (by decide +kernel)
set_option maxRecDepth 20000 in
theorem gL_law_X6_year : GoodIn wsL_law (wsV RL 59 RX6 yX6_year wsX6_year) := goodIn_app (goodIn_of _ (by decide +kernel)) ggL_law_X6_year
set_option maxRecDepth 20000 in
theorem ggL_law_X5_forgive : GoodIn wsL_law wsX5_forgive := goodIn_r _ [480, 19, 245, 23, 396, 447, 269, 270, 22, 271, 50, 51, 52, 710, 711, 712, 713, 714, 715, 716, 717, 743, 744, 745, 746, 747, 748, 749, 750, 751, 752, 753, 754, 755, 756] (by decide +kernel) (by decide +kernel)
set_option maxRecDepth 20000 in
theorem gL_law_X5_forgive : GoodIn wsL_law (wsV RL 60 RX5 yX5_forgive wsX5_forgive) := goodIn_app (goodIn_of _ (by decide +kernel)) ggL_law_X5_forgive
set_option maxRecDepth 20000 in
theorem ggL_law_X6_forgive : GoodIn wsL_law wsX6_forgive := goodIn_r _ [484, 277, 81, 281, 282, 283, 5, 284, 718, 719, 720, 721, 722, 723, 724, 725, 726, 727, 728, 729, 730, 731, 732, 733, 734, 735, 736, 737, 738, 739] (by decide +kernel) (by decide +kernel)
set_option maxRecDepth 20000 in
theorem gL_law_X6_forgive : GoodIn wsL_law (wsV RL 63 RX6 yX6_forgive wsX6_forgive) := goodIn_app (goodIn_of _ (by decide +kernel)) ggL_law_X6_forgive
set_option maxRecDepth 20000 in
theorem ggL_law_X5_odds : GoodIn wsL_law wsX5_odds := goodIn_r _ [488, 489, 19, 490, 245, 23, 396, 395, 394, 491, 457, 458, 459, 18, 460, 257, 376, 377, 378, 379, 43, 44, 380, 293, 294, 295, 317, 2, 318, 319, 163, 160, 164, 320, 159, 161, 321, 322, 323, 492, 493, 494, 710, 711, 712, 713, 714, 715, 716, 717, 743, 744, 745, 746, 747, 748, 749, 750, 751, 752, 753, 754, 755, 756] (by decide +kernel) (by decide +kernel)
set_option maxRecDepth 20000 in
theorem gL_law_X5_odds : GoodIn wsL_law (wsV RL 64 RX5 yX5_odds wsX5_odds) := goodIn_app (goodIn_of _ (by decide +kernel)) ggL_law_X5_odds
set_option maxRecDepth 20000 in
theorem ggL_law_X6_odds : GoodIn wsL_law wsX6_odds := goodIn_r _ [498, 499, 500, 501, 102, 103, 5, 104, 469, 470, 471, 472, 277, 502, 503, 504, 505, 81, 506, 415, 416, 417, 418, 386, 387, 388, 389, 80, 356, 357, 358, 507, 508, 509, 718, 719, 720, 721, 722, 723, 724, 725, 726, 727, 728, 729, 730, 731, 732, 733, 734, 735, 736, 737, 738, 739] (by decide +kernel) (by decide +kernel)
set_option maxRecDepth 20000 in
theorem gL_law_X6_odds : GoodIn wsL_law (wsV RL 68 RX6 yX6_odds wsX6_odds) := goodIn_app (goodIn_of _ (by decide +kernel)) ggL_law_X6_odds
set_option maxRecDepth 20000 in
theorem ggL_law_X5_match : GoodIn wsL_law wsX5_match := goodIn_r _ [513, 19, 28, 23, 514, 515, 457, 458, 459, 18, 460, 257, 516, 517, 518, 27, 519, 68, 520, 67, 69, 521, 522, 293, 294, 295, 523, 424, 425, 22, 426, 427, 297, 298, 299, 50, 428, 429, 430, 431, 432, 433, 434, 524, 399, 400, 401, 259, 525, 526, 527, 528, 66, 529, 530, 159, 160, 161, 531, 377, 378, 379, 43, 44, 380, 317, 2, 318, 319, 163, 164, 320, 321, 322, 323, 532, 533, 534, 70, 535, 536, 537, 538, 710, 711, 712, 713, 714, 715, 716, 717, 757, 758, 759, 760, 761, 762, 743, 744, 745, 746, 747, 748, 749, 750, 751, 752, 753, 754, 755, 756] (by decide +kernel) (by decide +kernel)
set_option maxRecDepth 20000 in
theorem gL_law_X5_match : GoodIn wsL_law (wsV RL 69 RX5 yX5_match wsX5_match) := goodIn_app (goodIn_of _ (by decide +kernel)) ggL_law_X5_match
set_option maxRecDepth 20000 in
theorem ggL_law_X6_match : GoodIn wsL_law wsX6_match := goodIn_r _ [542, 506, 543, 102, 103, 5, 104, 469, 470, 471, 472, 277, 544, 545, 546, 547, 276, 82, 83, 548, 549, 550, 551, 81, 386, 387, 388, 389, 80, 356, 357, 358, 340, 341, 342, 343, 440, 441, 442, 552, 553, 554, 718, 719, 720, 721, 722, 723, 724, 725, 726, 727, 728, 729, 730, 731, 732, 733, 734, 735, 736, 737, 738, 739] (by decide +kernel) (by decide +kernel)
set_option maxRecDepth 20000 in
theorem gL_law_X6_match : GoodIn wsL_law (wsV RL 72 RX6 yX6_match wsX6_match) := goodIn_app (goodIn_of _ (by decide +kernel)) ggL_law_X6_match
set_option maxRecDepth 20000 in
theorem ggL_law_X5_see : GoodIn wsL_law wsX5_see := goodIn_r _ [558, 19, 23, 312, 313, 314, 315, 292, 293, 294, 18, 295, 257, 710, 711, 712, 713, 714, 715, 716, 717, 748, 749, 750, 751, 752, 753, 754, 755, 756, 743, 744, 745, 746, 747] (by decide +kernel) (by decide +kernel)
set_option maxRecDepth 20000 in
theorem gL_law_X5_see : GoodIn wsL_law (wsV RL 73 RX5 yX5_see wsX5_see) := goodIn_app (goodIn_of _ (by decide +kernel)) ggL_law_X5_see
set_option maxRecDepth 20000 in
theorem ggL_law_X6_see : GoodIn wsL_law wsX6_see := goodIn_r _ [562, 385, 279, 84, 332, 333, 334, 5, 335, 276, 102, 103, 104, 718, 719, 720, 721, 722, 723, 724, 725, 726, 727, 728, 729, 730, 731, 732, 733, 734, 735, 736, 737, 738, 739] (by decide +kernel) (by decide +kernel)
set_option maxRecDepth 20000 in
theorem gL_law_X6_see : GoodIn wsL_law (wsV RL 77 RX6 yX6_see wsX6_see) := goodIn_app (goodIn_of _ (by decide +kernel)) ggL_law_X6_see
set_option maxRecDepth 20000 in
theorem ggL_law_X5_forget : GoodIn wsL_law wsX5_forget := goodIn_r _ [566, 23, 312, 710, 711, 712, 713, 714, 715, 716, 717, 748, 749, 750, 751, 752, 753, 754, 755, 756] (by decide +kernel) (by decide +kernel)
set_option maxRecDepth 20000 in
theorem gL_law_X5_forget : GoodIn wsL_law (wsV RL 78 RX5 yX5_forget wsX5_forget) := goodIn_app (goodIn_of _ (by decide +kernel)) ggL_law_X5_forget
