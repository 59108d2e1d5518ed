/-! THE LAW'S CALLS' WORDS -/
set_option maxRecDepth 20000 in
theorem ggL_law_X6_keeper : GoodIn wsL_law wsX6_keeper := goodIn_r _ [331, 332, 333, 334, 5, 335, 276, 102, 103, 104, 336, 337, 338, 339, 80, 340, 341, 342, 343, 277, 81, 344, 345, 346, 347, 348, 349, 350, 351, 352, 353, 354, 355, 279, 84, 356, 357, 358, 359, 360, 361, 362, 718, 719, 720, 721, 722, 723, 724, 725, 726, 727, 728, 729, 730, 731, 732, 733, 734, 735, 736, 737, 738, 739] (by decide +kernel) (by decide +kernel)
set_option maxRecDepth 20000 in
theorem gL_law_X6_keeper : GoodIn wsL_law (wsV RL 35 RX6 yX6_keeper wsX6_keeper) := goodIn_app (goodIn_of _ (by decide +kernel)) ggL_law_X6_keeper
set_option maxRecDepth 20000 in
theorem ggL_law_X5_as : GoodIn wsL_law wsX5_as := goodIn_r _ [366, 19, 289, 292, 293, 294, 18, 295, 257, 321, 322, 2, 323, 710, 711, 712, 713, 714, 715, 716, 717, 743, 744, 745, 746, 747] (by decide +kernel) (by decide +kernel)
set_option maxRecDepth 20000 in
theorem gL_law_X5_as : GoodIn wsL_law (wsV RL 36 RX5 yX5_as wsX5_as) := goodIn_app (goodIn_of _ (by decide +kernel)) ggL_law_X5_as
set_option maxRecDepth 20000 in
theorem ggL_law_X6_as : GoodIn wsL_law wsX6_as := goodIn_r _ [370, 371, 80, 332, 333, 334, 5, 335, 276, 102, 103, 104, 718, 719, 720, 721, 722, 723, 724, 725, 726, 727, 728, 729, 730, 731, 732, 733, 734, 735, 736, 737, 738, 739] (by decide +kernel) (by decide +kernel)
set_option maxRecDepth 20000 in
theorem gL_law_X6_as : GoodIn wsL_law (wsV RL 39 RX6 yX6_as wsX6_as) := goodIn_app (goodIn_of _ (by decide +kernel)) ggL_law_X6_as
set_option maxRecDepth 20000 in
theorem ggL_law_X5_keeps : GoodIn wsL_law wsX5_keeps := goodIn_r _ [375, 19, 292, 293, 294, 18, 295, 257, 376, 377, 378, 379, 43, 44, 380, 317, 2, 318, 319, 163, 160, 164, 320, 159, 161, 321, 322, 323, 710, 711, 712, 713, 714, 715, 716, 717, 743, 744, 745, 746, 747] (by decide +kernel) (by decide +kernel)
set_option maxRecDepth 20000 in
theorem gL_law_X5_keeps : GoodIn wsL_law (wsV RL 40 RX5 yX5_keeps wsX5_keeps) := goodIn_app (goodIn_of _ (by decide +kernel)) ggL_law_X5_keeps
set_option maxRecDepth 20000 in
theorem ggL_law_X6_keeps : GoodIn wsL_law wsX6_keeps := goodIn_r _ [384, 385, 332, 333, 334, 5, 335, 276, 102, 103, 104, 386, 387, 388, 389, 80, 356, 357, 358, 718, 719, 720, 721, 722, 723, 724, 725, 726, 727, 728, 729, 730, 731, 732, 733, 734, 735, 736, 737, 738, 739] (by decide +kernel) (by decide +kernel)
set_option maxRecDepth 20000 in
theorem gL_law_X6_keeps : GoodIn wsL_law (wsV RL 43 RX6 yX6_keeps wsX6_keeps) := goodIn_app (goodIn_of _ (by decide +kernel)) ggL_law_X6_keeps
set_option maxRecDepth 20000 in
theorem ggL_law_X5_hole : GoodIn wsL_law wsX5_hole := goodIn_r _ [393, 19, 394, 23, 395, 396, 397, 398, 399, 400, 18, 401, 259, 376, 377, 378, 379, 43, 44, 380, 293, 294, 295, 257, 317, 2, 318, 319, 163, 160, 164, 320, 159, 161, 321, 322, 323, 710, 711, 712, 713, 714, 715, 716, 717, 743, 744, 745, 746, 747, 748, 749, 750, 751, 752, 753, 754, 755, 756] (by decide +kernel) (by decide +kernel)
set_option maxRecDepth 20000 in
theorem gL_law_X5_hole : GoodIn wsL_law (wsV RL 44 RX5 yX5_hole wsX5_hole) := goodIn_app (goodIn_of _ (by decide +kernel)) ggL_law_X5_hole
set_option maxRecDepth 20000 in
theorem ggL_law_X6_hole : GoodIn wsL_law wsX6_hole := goodIn_r _ [405, 406, 407, 408, 5, 409, 277, 102, 103, 104, 410, 411, 412, 413, 414, 81, 415, 416, 417, 418, 386, 387, 388, 389, 80, 356, 357, 358, 718, 719, 720, 721, 722, 723, 724, 725, 726, 727, 728, 729, 730, 731, 732, 733, 734, 735, 736, 737, 738, 739] (by decide +kernel) (by decide +kernel)
set_option maxRecDepth 20000 in
theorem gL_law_X6_hole : GoodIn wsL_law (wsV RL 47 RX6 yX6_hole wsX6_hole) := goodIn_app (goodIn_of _ (by decide +kernel)) ggL_law_X6_hole
set_option maxRecDepth 20000 in
theorem ggL_law_X5_let : GoodIn wsL_law wsX5_let := goodIn_r _ [422, 19, 23, 396, 395, 398, 399, 400, 18, 401, 259, 292, 293, 294, 295, 257, 423, 424, 425, 22, 426, 427, 297, 298, 299, 50, 428, 429, 430, 431, 432, 433, 434, 296, 435, 710, 711, 712, 713, 714, 715, 716, 717, 748, 749, 750, 751, 752, 753, 754, 755, 756, 743, 744, 745, 746, 747] (by decide +kernel) (by decide +kernel)
set_option maxRecDepth 20000 in
theorem gL_law_X5_let : GoodIn wsL_law (wsV RL 48 RX5 yX5_let wsX5_let) := goodIn_app (goodIn_of _ (by decide +kernel)) ggL_law_X5_let
set_option maxRecDepth 20000 in
theorem ggL_law_X6_let : GoodIn wsL_law wsX6_let := goodIn_r _ [439, 81, 406, 407, 408, 5, 409, 277, 102, 103, 104, 332, 333, 334, 335, 276, 340, 341, 342, 343, 440, 441, 442, 718, 719, 720, 721, 722, 723, 724, 725, 726, 727, 728, 729, 730, 731, 732, 733, 734, 735, 736, 737, 738, 739] (by decide +kernel) (by decide +kernel)
set_option maxRecDepth 20000 in
theorem gL_law_X6_let : GoodIn wsL_law (wsV RL 51 RX6 yX6_let wsX6_let) := goodIn_app (goodIn_of _ (by decide +kernel)) ggL_law_X6_let
set_option maxRecDepth 20000 in
theorem ggL_law_X5_leave : GoodIn wsL_law wsX5_leave := goodIn_r _ [446, 19, 23, 396, 397, 398, 399, 400, 18, 401, 259, 447, 269, 270, 22, 271, 50, 51, 52, 710, 711, 712, 713, 714, 715, 716, 717, 748, 749, 750, 751, 752, 753, 754, 755, 756, 743, 744, 745, 746, 747] (by decide +kernel) (by decide +kernel)
set_option maxRecDepth 20000 in
theorem gL_law_X5_leave : GoodIn wsL_law (wsV RL 52 RX5 yX5_leave wsX5_leave) := goodIn_app (goodIn_of _ (by decide +kernel)) ggL_law_X5_leave
set_option maxRecDepth 20000 in
theorem ggL_law_X6_leave : GoodIn wsL_law wsX6_leave := goodIn_r _ [451, 81, 406, 407, 408, 5, 409, 277, 102, 103, 104, 281, 282, 283, 284, 718, 719, 720, 721, 722, 723, 724, 725, 726, 727, 728, 729, 730, 731, 732, 733, 734, 735, 736, 737, 738, 739] (by decide +kernel) (by decide +kernel)
set_option maxRecDepth 20000 in
theorem gL_law_X6_leave : GoodIn wsL_law (wsV RL 55 RX6 yX6_leave wsX6_leave) := goodIn_app (goodIn_of _ (by decide +kernel)) ggL_law_X6_leave
