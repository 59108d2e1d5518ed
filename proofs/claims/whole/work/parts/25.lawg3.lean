/-! THE LAW'S CALLS' WORDS -/
set_option maxRecDepth 20000 in
theorem ggL_law_X6_forget : GoodIn wsL_law wsX6_forget := goodIn_r _ [570, 279, 718, 719, 720, 721, 722, 723, 724, 725, 726, 727, 728, 729, 730, 731, 732, 733, 734, 735, 736, 737, 738, 739] (by decide +kernel) (by decide +kernel)
set_option maxRecDepth 20000 in
theorem gL_law_X6_forget : GoodIn wsL_law (wsV RL 81 RX6 yX6_forget wsX6_forget) := goodIn_app (goodIn_of _ (by decide +kernel)) ggL_law_X6_forget
set_option maxRecDepth 20000 in
theorem ggL_law_X5_centuries : GoodIn wsL_law wsX5_centuries := goodIn_r _ [574, 19, 32, 23, 575, 576, 457, 458, 459, 18, 460, 257, 577, 578, 579, 31, 580, 581, 74, 582, 536, 537, 538, 583, 584, 585, 586, 587, 588, 589, 590, 591, 592, 593, 594, 595, 596, 597, 598, 599, 600, 601, 602, 377, 378, 379, 43, 44, 380, 293, 294, 295, 317, 2, 318, 319, 163, 160, 164, 320, 159, 161, 321, 322, 323, 603, 462, 463, 464, 604, 605, 606, 607, 608, 609, 710, 711, 712, 713, 714, 715, 716, 717, 763, 764, 765, 743, 744, 745, 746, 747, 748, 749, 750, 751, 752, 753, 754, 755, 756] (by decide +kernel) (by decide +kernel)
set_option maxRecDepth 20000 in
theorem gL_law_X5_centuries : GoodIn wsL_law (wsV RL 82 RX5 yX5_centuries wsX5_centuries) := goodIn_app (goodIn_of _ (by decide +kernel)) ggL_law_X5_centuries
set_option maxRecDepth 20000 in
theorem ggL_law_X6_centuries : GoodIn wsL_law wsX6_centuries := goodIn_r _ [613, 614, 499, 81, 85, 615, 277, 80, 102, 103, 5, 104, 469, 470, 471, 472, 552, 553, 554, 616, 617, 618, 619, 620, 621, 622, 623, 415, 416, 417, 418, 386, 387, 388, 389, 356, 357, 358, 344, 345, 346, 347, 718, 719, 720, 721, 722, 723, 724, 725, 726, 727, 728, 729, 730, 731, 732, 733, 734, 735, 736, 737, 738, 739] (by decide +kernel) (by decide +kernel)
set_option maxRecDepth 20000 in
theorem gL_law_X6_centuries : GoodIn wsL_law (wsV RL 86 RX6 yX6_centuries wsX6_centuries) := goodIn_app (goodIn_of _ (by decide +kernel)) ggL_law_X6_centuries
set_option maxRecDepth 20000 in
theorem ggL_law_X5_image : GoodIn wsL_law wsX5_image := goodIn_r _ [627, 19, 24, 23, 33, 456, 457, 458, 459, 18, 460, 257, 628, 629, 630, 22, 631, 50, 632, 536, 537, 538, 51, 52, 53, 54, 55, 57, 266, 267, 710, 711, 712, 713, 714, 715, 716, 717, 748, 749, 750, 751, 752, 753, 754, 755, 756, 743, 744, 745, 746, 747] (by decide +kernel) (by decide +kernel)
set_option maxRecDepth 20000 in
theorem gL_law_X5_image : GoodIn wsL_law (wsV RL 87 RX5 yX5_image wsX5_image) := goodIn_app (goodIn_of _ (by decide +kernel)) ggL_law_X5_image
set_option maxRecDepth 20000 in
theorem ggL_law_X6_image : GoodIn wsL_law wsX6_image := goodIn_r _ [636, 80, 86, 81, 87, 84, 88, 278, 637, 279, 638, 280, 89, 469, 470, 471, 5, 472, 277, 552, 553, 554, 718, 719, 720, 721, 722, 723, 724, 725, 726, 727, 728, 729, 730, 731, 732, 733, 734, 735, 736, 737, 738, 739] (by decide +kernel) (by decide +kernel)
set_option maxRecDepth 20000 in
theorem gL_law_X6_image : GoodIn wsL_law (wsV RL 90 RX6 yX6_image wsX6_image) := goodIn_app (goodIn_of _ (by decide +kernel)) ggL_law_X6_image
set_option maxRecDepth 20000 in
theorem ggL_law_X5_restore : GoodIn wsL_law wsX5_restore := goodIn_r _ [642, 33, 23, 24, 456, 628, 629, 630, 22, 631, 50, 632, 536, 537, 538, 51, 52, 53, 54, 55, 57, 266, 267, 710, 711, 712, 713, 714, 715, 716, 717, 748, 749, 750, 751, 752, 753, 754, 755, 756] (by decide +kernel) (by decide +kernel)
set_option maxRecDepth 20000 in
theorem gL_law_X5_restore : GoodIn wsL_law (wsV RL 91 RX5 yX5_restore wsX5_restore) := goodIn_app (goodIn_of _ (by decide +kernel)) ggL_law_X5_restore
set_option maxRecDepth 20000 in
theorem ggL_law_X6_restore : GoodIn wsL_law wsX6_restore := goodIn_r _ [646, 89, 280, 86, 80, 87, 81, 88, 84, 637, 278, 638, 279, 552, 553, 5, 554, 718, 719, 720, 721, 722, 723, 724, 725, 726, 727, 728, 729, 730, 731, 732, 733, 734, 735, 736, 737, 738, 739] (by decide +kernel) (by decide +kernel)
set_option maxRecDepth 20000 in
theorem gL_law_X6_restore : GoodIn wsL_law (wsV RL 94 RX6 yX6_restore wsX6_restore) := goodIn_app (goodIn_of _ (by decide +kernel)) ggL_law_X6_restore
set_option maxRecDepth 20000 in
theorem ggL_law_X5_count : GoodIn wsL_law wsX5_count := goodIn_r _ [650, 19, 651, 245, 23, 397, 291, 456, 312, 15, 94, 34, 652, 653, 654, 22, 655, 51, 656, 608, 2, 609, 710, 711, 712, 713, 714, 715, 716, 717, 743, 744, 745, 746, 747, 748, 749, 750, 751, 752, 753, 754, 755, 756, 740, 741, 742] (by decide +kernel) (by decide +kernel)
set_option maxRecDepth 20000 in
theorem gL_law_X5_count : GoodIn wsL_law (wsV RL 95 RX5 yX5_count wsX5_count) := goodIn_app (goodIn_of _ (by decide +kernel)) ggL_law_X5_count
set_option maxRecDepth 20000 in
theorem ggL_law_X6_count : GoodIn wsL_law wsX6_count := goodIn_r _ [660, 661, 662, 663, 5, 664, 276, 277, 278, 279, 101, 280, 665, 666, 667, 668, 81, 344, 345, 346, 347, 669, 670, 671, 672, 80, 718, 719, 720, 721, 722, 723, 724, 725, 726, 727, 728, 729, 730, 731, 732, 733, 734, 735, 736, 737, 738, 739] (by decide +kernel) (by decide +kernel)
set_option maxRecDepth 20000 in
theorem gL_law_X6_count : GoodIn wsL_law (wsV RL 98 RX6 yX6_count wsX6_count) := goodIn_app (goodIn_of _ (by decide +kernel)) ggL_law_X6_count
set_option maxRecDepth 20000 in
theorem ggL_law_X5_digest : GoodIn wsL_law wsX5_digest := goodIn_r _ [676, 677, 19, 651, 245, 15, 94, 95, 678, 679, 680, 2, 681, 682, 286, 287, 288, 289, 290, 23, 291, 292, 293, 294, 18, 295, 257, 296, 297, 298, 22, 299, 50, 300, 301, 302, 303, 52, 304, 305, 306, 307, 308, 309, 310, 311, 312, 313, 314, 315, 316, 317, 318, 319, 163, 160, 164, 320, 159, 161, 321, 322, 323, 324, 325, 326, 327, 683, 684, 685, 686, 687, 373, 374, 375, 376, 377, 378, 379, 43, 44, 380, 688, 391, 392, 393, 394, 395, 396, 397, 398, 399, 400, 401, 259, 457, 458, 459, 460, 689, 690, 691, 692, 28, 514, 515, 693, 486, 487, 488, 489, 490, 491, 492, 493, 494, 516, 517, 518, 27, 519, 68, 520, 67, 69, 521, 522, 523, 424, 425, 426, 427, 428, 429, 430, 431, 432, 433, 434, 524, 525, 526, 527, 528, 66, 529, 530, 531, 532, 533, 534, 70, 535, 536, 537, 538, 694, 648, 649, 650, 456, 34, 652, 653, 654, 655, 51, 656, 608, 609, 710, 711, 712, 713, 714, 715, 716, 717, 743, 744, 745, 746, 747, 740, 741, 742, 748, 749, 750, 751, 752, 753, 754, 755, 756, 757, 758, 759, 760, 761, 762] (by decide +kernel) (by decide +kernel)
set_option maxRecDepth 20000 in
theorem gL_law_X5_digest : GoodIn wsL_law (wsV RL 99 RX5 yX5_digest wsX5_digest) := goodIn_app (goodIn_of _ (by decide +kernel)) ggL_law_X5_digest
set_option maxRecDepth 20000 in
theorem ggL_law_X6_digest : GoodIn wsL_law wsX6_digest := goodIn_r _ [698, 699, 700, 276, 277, 101, 79, 701, 702, 703, 5, 704, 336, 337, 338, 339, 80, 340, 341, 342, 343, 81, 344, 345, 346, 347, 348, 349, 350, 351, 352, 353, 354, 355, 279, 84, 356, 357, 358, 359, 360, 361, 362, 705, 706, 707, 708, 709, 386, 387, 388, 389, 410, 411, 412, 413, 414, 102, 103, 104, 415, 416, 417, 418, 469, 470, 471, 472, 502, 503, 504, 505, 506, 507, 508, 509, 544, 545, 546, 547, 82, 83, 548, 549, 550, 551, 440, 441, 442, 552, 553, 554, 661, 662, 663, 664, 278, 280, 665, 666, 667, 668, 669, 670, 671, 672, 718, 719, 720, 721, 722, 723, 724, 725, 726, 727, 728, 729, 730, 731, 732, 733, 734, 735, 736, 737, 738, 739] (by decide +kernel) (by decide +kernel)
set_option maxRecDepth 20000 in
theorem gL_law_X6_digest : GoodIn wsL_law (wsV RL 103 RX6 yX6_digest wsX6_digest) := goodIn_app (goodIn_of _ (by decide +kernel)) ggL_law_X6_digest
