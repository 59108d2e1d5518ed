/-! THE LAW'S CALLS' WORDS -/

set_option maxRecDepth 20000 in
theorem ggL_law_X5_init : GoodIn wsL_law wsX5_init := goodIn_r _ [8, 9, 10, 11, 12, 13, 14, 15, 16, 17, 18, 19, 20, 21, 22, 23, 24, 25, 26, 27, 28, 29, 30, 31, 32, 33, 34, 35, 36, 37, 38, 39, 40, 41, 42, 43, 44, 45, 46, 47, 48, 49, 50, 51, 52, 53, 54, 55, 56, 57, 58, 59, 60, 61, 62, 63, 64, 65, 66, 67, 68, 69, 70, 71, 72, 73, 74, 740, 741, 742, 710, 711, 712, 713, 714, 715, 716, 717, 743, 744, 745, 746, 747, 748, 749, 750, 751, 752, 753, 754, 755, 756, 757, 758, 759, 760, 761, 762, 763, 764, 765] (by decide +kernel) (by decide +kernel)
set_option maxRecDepth 20000 in
theorem gL_law_X5_init : GoodIn wsL_law (wsX5_init) := ggL_law_X5_init
set_option maxRecDepth 20000 in
theorem ggL_law_X6_init : GoodIn wsL_law wsX6_init := goodIn_r _ [77, 78, 10, 11, 38, 79, 80, 81, 82, 83, 84, 85, 86, 87, 88, 89, 718, 719, 720, 721, 722, 723, 724, 725, 726, 727, 728, 729, 730, 731, 732, 733, 734, 735, 736, 737, 738, 739] (by decide +kernel) (by decide +kernel)
set_option maxRecDepth 20000 in
theorem gL_law_X6_init : GoodIn wsL_law (wsX6_init) := ggL_law_X6_init
set_option maxRecDepth 20000 in
theorem ggL_law_X5_letter : GoodIn wsL_law wsX5_letter := goodIn_r _ [93, 15, 94, 95, 710, 711, 712, 713, 714, 715, 716, 717, 740, 741, 742] (by decide +kernel) (by decide +kernel)
set_option maxRecDepth 20000 in
theorem gL_law_X5_letter : GoodIn wsL_law (wsV RL 13 RX5 yX5_letter wsX5_letter) := goodIn_app (goodIn_of _ (by decide +kernel)) ggL_law_X5_letter
set_option maxRecDepth 20000 in
theorem ggL_law_X6_letter : GoodIn wsL_law wsX6_letter := goodIn_r _ [99, 100, 101, 79, 102, 103, 5, 104, 718, 719, 720, 721, 722, 723, 724, 725, 726, 727, 728, 729, 730, 731, 732, 733, 734, 735, 736, 737, 738, 739] (by decide +kernel) (by decide +kernel)
set_option maxRecDepth 20000 in
theorem gL_law_X6_letter : GoodIn wsL_law (wsV RL 17 RX6 yX6_letter wsX6_letter) := goodIn_app (goodIn_of _ (by decide +kernel)) ggL_law_X6_letter
set_option maxRecDepth 20000 in
theorem ggL_law_X5_blank : GoodIn wsL_law wsX5_blank := goodIn_r _ [108, 15, 94, 710, 711, 712, 713, 714, 715, 716, 717, 740, 741, 742] (by decide +kernel) (by decide +kernel)
set_option maxRecDepth 20000 in
theorem gL_law_X5_blank : GoodIn wsL_law (wsV RL 18 RX5 yX5_blank wsX5_blank) := goodIn_app (goodIn_of _ (by decide +kernel)) ggL_law_X5_blank
set_option maxRecDepth 20000 in
theorem ggL_law_X6_blank : GoodIn wsL_law wsX6_blank := goodIn_r _ [112, 101, 718, 719, 720, 721, 722, 723, 724, 725, 726, 727, 728, 729, 730, 731, 732, 733, 734, 735, 736, 737, 738, 739] (by decide +kernel) (by decide +kernel)
set_option maxRecDepth 20000 in
theorem gL_law_X6_blank : GoodIn wsL_law (wsV RL 22 RX6 yX6_blank wsX6_blank) := goodIn_app (goodIn_of _ (by decide +kernel)) ggL_law_X6_blank
set_option maxRecDepth 20000 in
theorem ggL_law_X5_fault : GoodIn wsL_law wsX5_fault := goodIn_r _ [116, 15, 117, 118, 119, 14, 120, 121, 122, 123, 124, 125, 126, 39, 127, 128, 129, 130, 131, 132, 133, 134, 135, 136, 137, 138, 139, 140, 141, 142, 143, 144, 145, 146, 147, 148, 149, 150, 151, 152, 153, 154, 155, 156, 157, 158, 159, 160, 161, 162, 163, 164, 165, 166, 167, 168, 169, 170, 171, 172, 173, 174, 175, 176, 177, 178, 179, 180, 181, 182, 183, 184, 185, 186, 187, 188, 189, 190, 191, 192, 193, 194, 195, 196, 197, 198, 199, 200, 201, 202, 203, 204, 205, 206, 207, 208, 209, 210, 211, 212, 213, 214, 215, 216, 217, 218, 219, 220, 221, 222, 710, 711, 712, 713, 714, 715, 716, 717, 740, 741, 742] (by decide +kernel) (by decide +kernel)
set_option maxRecDepth 20000 in
theorem gL_law_X5_fault : GoodIn wsL_law (wsV RL 23 RX5 yX5_fault wsX5_fault) := goodIn_app (goodIn_of _ (by decide +kernel)) ggL_law_X5_fault
set_option maxRecDepth 20000 in
theorem ggL_law_X6_fault : GoodIn wsL_law wsX6_fault := goodIn_r _ [226, 227, 228, 229, 5, 230, 231, 101, 232, 233, 234, 235, 79, 236, 237, 102, 103, 104, 238, 239, 240, 718, 719, 720, 721, 722, 723, 724, 725, 726, 727, 728, 729, 730, 731, 732, 733, 734, 735, 736, 737, 738, 739] (by decide +kernel) (by decide +kernel)
set_option maxRecDepth 20000 in
theorem gL_law_X6_fault : GoodIn wsL_law (wsV RL 26 RX6 yX6_fault wsX6_fault) := goodIn_app (goodIn_of _ (by decide +kernel)) ggL_law_X6_fault
set_option maxRecDepth 20000 in
theorem ggL_law_X5_tower : GoodIn wsL_law wsX5_tower := goodIn_r _ [244, 15, 19, 23, 33, 34, 94, 245, 246, 247, 248, 14, 249, 122, 121, 250, 118, 119, 120, 123, 124, 125, 126, 39, 127, 128, 129, 130, 131, 132, 133, 134, 135, 136, 137, 138, 139, 140, 141, 142, 143, 144, 145, 146, 147, 148, 149, 150, 151, 152, 153, 154, 155, 156, 157, 158, 159, 160, 161, 162, 163, 164, 165, 166, 167, 168, 169, 170, 171, 172, 173, 174, 175, 176, 177, 178, 179, 180, 181, 182, 183, 184, 185, 186, 187, 188, 189, 190, 191, 192, 193, 194, 195, 196, 197, 198, 199, 200, 201, 202, 203, 204, 205, 206, 207, 208, 209, 210, 211, 212, 213, 214, 215, 216, 217, 218, 219, 220, 221, 222, 251, 252, 253, 18, 254, 255, 256, 257, 258, 259, 43, 260, 44, 45, 261, 262, 263, 264, 22, 265, 53, 266, 267, 268, 269, 270, 271, 50, 51, 52, 58, 59, 60, 61, 710, 711, 712, 713, 714, 715, 716, 717, 740, 741, 742, 743, 744, 745, 746, 747, 748, 749, 750, 751, 752, 753, 754, 755, 756] (by decide +kernel) (by decide +kernel)
set_option maxRecDepth 20000 in
theorem gL_law_X5_tower : GoodIn wsL_law (wsV RL 27 RX5 yX5_tower wsX5_tower) := goodIn_app (goodIn_of _ (by decide +kernel)) ggL_law_X5_tower
set_option maxRecDepth 20000 in
theorem ggL_law_X6_tower : GoodIn wsL_law wsX6_tower := goodIn_r _ [275, 101, 231, 276, 80, 79, 277, 81, 278, 279, 280, 227, 228, 229, 5, 230, 232, 233, 234, 235, 236, 237, 102, 103, 104, 238, 239, 240, 281, 282, 283, 284, 718, 719, 720, 721, 722, 723, 724, 725, 726, 727, 728, 729, 730, 731, 732, 733, 734, 735, 736, 737, 738, 739] (by decide +kernel) (by decide +kernel)
set_option maxRecDepth 20000 in
theorem gL_law_X6_tower : GoodIn wsL_law (wsV RL 30 RX6 yX6_tower wsX6_tower) := goodIn_app (goodIn_of _ (by decide +kernel)) ggL_law_X6_tower
set_option maxRecDepth 20000 in
theorem ggL_law_X5_keeper : GoodIn wsL_law wsX5_keeper := goodIn_r _ [288, 19, 289, 290, 23, 291, 292, 293, 294, 18, 295, 257, 296, 297, 298, 22, 299, 50, 300, 301, 302, 303, 52, 304, 305, 306, 2, 307, 308, 309, 310, 311, 312, 313, 314, 315, 316, 317, 318, 319, 163, 160, 164, 320, 159, 161, 321, 322, 323, 324, 325, 326, 327, 710, 711, 712, 713, 714, 715, 716, 717, 743, 744, 745, 746, 747, 748, 749, 750, 751, 752, 753, 754, 755, 756] (by decide +kernel) (by decide +kernel)
set_option maxRecDepth 20000 in
theorem gL_law_X5_keeper : GoodIn wsL_law (wsV RL 31 RX5 yX5_keeper wsX5_keeper) := goodIn_app (goodIn_of _ (by decide +kernel)) ggL_law_X5_keeper
