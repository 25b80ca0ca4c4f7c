set_option maxRecDepth 20000 in
theorem ggL_law_X7_plain : GoodIn wsL_law wsX7_plain := goodIn_r _ [629, 630, 548, 549, 5, 550, 94, 480, 490, 491, 493, 85, 275, 494, 95, 90, 551, 552, 553, 121, 122, 123, 481, 482, 483, 484, 485, 486, 487, 269, 270, 488, 489, 492, 477, 478, 479, 120, 271, 272, 273, 274, 84, 86, 87, 88, 89, 495, 496, 497, 498, 83, 91, 92, 93, 499, 500, 501, 502, 503, 504, 505, 506, 507, 508, 509, 510, 511, 512, 513, 514, 515, 516, 517, 518, 519, 520, 521, 522, 523, 524, 525, 526, 527, 528, 529, 530, 531, 532, 533, 534, 669, 670, 671, 672, 673, 674, 675, 676, 677, 678, 679, 680, 681, 682, 683, 684, 685, 686, 687, 688, 689, 690, 691, 692, 693, 694, 695, 696, 697, 698, 699, 700, 701] (by decide +kernel) (by decide +kernel)
set_option maxRecDepth 20000 in
theorem gL_law_X7_plain : GoodIn wsL_law (wsV RL 59 RX7 yX7_plain wsX7_plain) := goodIn_app (goodIn_of _ (by decide +kernel)) ggL_law_X7_plain
set_option maxRecDepth 20000 in
theorem ggL_law_X6_told : GoodIn wsL_law wsX6_told := goodIn_r _ [634, 21, 635, 368, 369, 20, 370, 48, 661, 662, 663, 664, 665, 666, 667, 668, 704, 705, 706, 707, 708, 709, 710, 711, 712, 713, 714, 715] (by decide +kernel) (by decide +kernel)
set_option maxRecDepth 20000 in
theorem gL_law_X6_told : GoodIn wsL_law (wsV RL 60 RX6 yX6_told wsX6_told) := goodIn_app (goodIn_of _ (by decide +kernel)) ggL_law_X6_told
set_option maxRecDepth 20000 in
theorem ggL_law_X7_told : GoodIn wsL_law wsX7_told := goodIn_r _ [639, 94, 121, 122, 5, 123, 669, 670, 671, 672, 673, 674, 675, 676, 677, 678, 679, 680, 681, 682, 683, 684, 685, 686, 687, 688, 689, 690, 691, 692, 693, 694, 695, 696, 697, 698, 699, 700, 701] (by decide +kernel) (by decide +kernel)
set_option maxRecDepth 20000 in
theorem gL_law_X7_told : GoodIn wsL_law (wsV RL 63 RX7 yX7_told wsX7_told) := goodIn_app (goodIn_of _ (by decide +kernel)) ggL_law_X7_told
set_option maxRecDepth 20000 in
theorem ggL_law_X6_given : GoodIn wsL_law wsX6_given := goodIn_r _ [643, 21, 644, 219, 220, 46, 221, 53, 661, 662, 663, 664, 665, 666, 667, 668, 704, 705, 706, 707, 708, 709, 710, 711, 712, 713, 714, 715, 739, 740] (by decide +kernel) (by decide +kernel)
set_option maxRecDepth 20000 in
theorem gL_law_X6_given : GoodIn wsL_law (wsV RL 64 RX6 yX6_given wsX6_given) := goodIn_app (goodIn_of _ (by decide +kernel)) ggL_law_X6_given
set_option maxRecDepth 20000 in
theorem ggL_law_X7_given : GoodIn wsL_law wsX7_given := goodIn_r _ [648, 94, 95, 121, 122, 5, 123, 669, 670, 671, 672, 673, 674, 675, 676, 677, 678, 679, 680, 681, 682, 683, 684, 685, 686, 687, 688, 689, 690, 691, 692, 693, 694, 695, 696, 697, 698, 699, 700, 701] (by decide +kernel) (by decide +kernel)
set_option maxRecDepth 20000 in
theorem gL_law_X7_given : GoodIn wsL_law (wsV RL 67 RX7 yX7_given wsX7_given) := goodIn_app (goodIn_of _ (by decide +kernel)) ggL_law_X7_given
set_option maxRecDepth 20000 in
theorem ggL_law_X6_shorter : GoodIn wsL_law wsX6_shorter := goodIn_r _ [652, 16, 17, 31, 539, 540, 2, 541, 112, 113, 114, 15, 115, 107, 326, 327, 328, 329, 40, 330, 331, 332, 333, 334, 335, 336, 25, 337, 63, 338, 339, 62, 340, 341, 342, 20, 343, 344, 345, 346, 47, 48, 49, 347, 348, 349, 350, 351, 352, 353, 186, 187, 46, 188, 189, 354, 355, 356, 357, 358, 58, 64, 59, 60, 61, 359, 195, 196, 197, 360, 361, 362, 363, 364, 365, 231, 366, 367, 368, 369, 370, 371, 372, 373, 374, 375, 376, 377, 378, 379, 380, 381, 382, 383, 384, 385, 386, 387, 388, 389, 390, 391, 392, 393, 394, 395, 396, 397, 398, 399, 145, 146, 147, 148, 141, 142, 143, 400, 401, 402, 403, 404, 405, 406, 215, 216, 217, 218, 219, 220, 221, 53, 407, 408, 409, 410, 411, 412, 413, 414, 415, 416, 417, 418, 419, 230, 232, 420, 421, 422, 423, 424, 425, 426, 427, 428, 429, 430, 431, 432, 433, 434, 435, 436, 437, 438, 439, 440, 441, 442, 443, 444, 445, 446, 234, 235, 236, 237, 238, 239, 240, 447, 448, 449, 450, 451, 452, 453, 454, 455, 254, 255, 653, 654, 655, 656, 661, 662, 663, 664, 665, 666, 667, 668, 702, 703, 716, 717, 718, 719, 720, 721, 722, 723, 724, 725, 726, 727, 704, 705, 706, 707, 708, 709, 710, 711, 712, 713, 714, 715, 739, 740] (by decide +kernel) (by decide +kernel)
set_option maxRecDepth 20000 in
theorem gL_law_X6_shorter : GoodIn wsL_law (wsV RL 68 RX6 yX6_shorter wsX6_shorter) := goodIn_app (goodIn_of _ (by decide +kernel)) ggL_law_X6_shorter
set_option maxRecDepth 20000 in
theorem ggL_law_X7_shorter : GoodIn wsL_law wsX7_shorter := goodIn_r _ [660, 480, 120, 83, 551, 552, 5, 553, 121, 122, 123, 481, 482, 483, 484, 485, 486, 487, 269, 270, 488, 489, 490, 491, 492, 493, 275, 494, 477, 478, 479, 271, 272, 273, 274, 84, 85, 86, 87, 88, 89, 495, 496, 497, 498, 91, 92, 93, 499, 500, 501, 502, 503, 504, 505, 506, 507, 508, 509, 510, 511, 512, 513, 514, 90, 515, 516, 517, 518, 519, 520, 521, 522, 523, 524, 525, 526, 527, 528, 529, 530, 531, 532, 533, 534, 669, 670, 671, 672, 673, 674, 675, 676, 677, 678, 679, 680, 681, 682, 683, 684, 685, 686, 687, 688, 689, 690, 691, 692, 693, 694, 695, 696, 697, 698, 699, 700, 701] (by decide +kernel) (by decide +kernel)
set_option maxRecDepth 20000 in
theorem gL_law_X7_shorter : GoodIn wsL_law (wsV RL 71 RX7 yX7_shorter wsX7_shorter) := goodIn_app (goodIn_of _ (by decide +kernel)) ggL_law_X7_shorter
