/-! THE LAW's callees' words, 3 -/
set_option maxRecDepth 20000 in
theorem ggL_law_X6_climb : GoodIn wsL_law wsX6_climb := goodIn_r _ [565, 73, 248, 249, 250, 5, 251, 222, 223, 224, 259, 260, 261, 262, 547, 548, 549, 550, 551, 552, 553, 448, 449, 450, 451, 282, 283, 284, 285, 286, 287, 256, 257, 258, 288, 289, 290, 291, 292, 293, 294, 295, 296, 977, 978, 979, 980, 981, 982, 983, 984, 985, 986, 987, 988, 989, 990, 991, 992, 993, 994, 995, 996, 997, 998] (by decide +kernel) (by decide +kernel)
set_option maxRecDepth 20000 in
theorem gL_law_X6_climb : GoodIn wsL_law (wsV RL 113 RX6 yX6_climb wsX6_climb) := goodIn_app (goodIn_of _ (by decide +kernel)) ggL_law_X6_climb
set_option maxRecDepth 20000 in
theorem ggL_law_X5_clearing : GoodIn wsL_law wsX5_clearing := goodIn_r _ [569, 16, 30, 342, 343, 344, 15, 345, 121, 570, 571, 572, 29, 573, 574, 575, 60, 576, 62, 577, 174, 175, 176, 122, 45, 44, 46, 177, 2, 178, 179, 180, 181, 182, 119, 42, 183, 184, 185, 186, 43, 40, 41, 123, 47, 187, 188, 578, 579, 580, 581, 582, 583, 584, 585, 586, 587, 346, 588, 589, 590, 591, 592, 593, 594, 595, 968, 969, 970, 971, 972, 973, 974, 975, 976, 999, 1000, 1001, 1002, 1003, 1004, 1005, 1006, 1007, 1008, 1009, 1010, 1011, 1021, 1022, 1023] (by decide +kernel) (by decide +kernel)
set_option maxRecDepth 20000 in
theorem gL_law_X5_clearing : GoodIn wsL_law (wsV RL 114 RX5 yX5_clearing wsX5_clearing) := goodIn_app (goodIn_of _ (by decide +kernel)) ggL_law_X5_clearing
set_option maxRecDepth 20000 in
theorem ggL_law_X6_clearing : GoodIn wsL_law wsX6_clearing := goodIn_r _ [599, 600, 79, 351, 352, 353, 5, 354, 73, 222, 223, 224, 601, 602, 603, 604, 78, 551, 552, 553, 279, 280, 281, 267, 268, 269, 256, 257, 258, 282, 283, 284, 285, 286, 287, 288, 289, 290, 291, 292, 293, 294, 295, 296, 977, 978, 979, 980, 981, 982, 983, 984, 985, 986, 987, 988, 989, 990, 991, 992, 993, 994, 995, 996, 997, 998] (by decide +kernel) (by decide +kernel)
set_option maxRecDepth 20000 in
theorem gL_law_X6_clearing : GoodIn wsL_law (wsV RL 117 RX6 yX6_clearing wsX6_clearing) := goodIn_app (goodIn_of _ (by decide +kernel)) ggL_law_X6_clearing
set_option maxRecDepth 20000 in
theorem ggL_law_X5_quarrel : GoodIn wsL_law wsX5_quarrel := goodIn_r _ [608, 16, 308, 158, 159, 15, 160, 119, 609, 610, 611, 612, 120, 193, 194, 195, 196, 40, 41, 43, 123, 187, 2, 188, 968, 969, 970, 971, 972, 973, 974, 975, 976, 999, 1000, 1001, 1002, 1003, 1004, 1005, 1006, 1007, 1008, 1009, 1010, 1011] (by decide +kernel) (by decide +kernel)
set_option maxRecDepth 20000 in
theorem gL_law_X5_quarrel : GoodIn wsL_law (wsV RL 118 RX5 yX5_quarrel wsX5_quarrel) := goodIn_app (goodIn_of _ (by decide +kernel)) ggL_law_X5_quarrel
set_option maxRecDepth 20000 in
theorem ggL_law_X6_quarrel : GoodIn wsL_law wsX6_quarrel := goodIn_r _ [616, 73, 259, 260, 261, 5, 262, 222, 223, 224, 617, 618, 619, 288, 289, 290, 256, 257, 258, 291, 292, 293, 294, 295, 296, 977, 978, 979, 980, 981, 982, 983, 984, 985, 986, 987, 988, 989, 990, 991, 992, 993, 994, 995, 996, 997, 998] (by decide +kernel) (by decide +kernel)
set_option maxRecDepth 20000 in
theorem gL_law_X6_quarrel : GoodIn wsL_law (wsV RL 121 RX6 yX6_quarrel wsX6_quarrel) := goodIn_app (goodIn_of _ (by decide +kernel)) ggL_law_X6_quarrel
set_option maxRecDepth 20000 in
theorem ggL_law_X5_shortest : GoodIn wsL_law wsX5_shortest := goodIn_r _ [623, 20, 34, 624, 94, 95, 2, 96, 97, 98, 99, 22, 100, 101, 625, 626, 627, 92, 93, 628, 145, 146, 629, 630, 631, 33, 632, 633, 634, 635, 636, 66, 67, 637, 638, 639, 640, 641, 642, 643, 644, 586, 645, 646, 647, 648, 649, 177, 178, 650, 651, 652, 653, 654, 655, 656, 657, 68, 968, 969, 970, 971, 972, 973, 974, 975, 976, 1024, 1025, 1026, 1012, 1013, 1014, 1015, 1016, 1017] (by decide +kernel) (by decide +kernel)
set_option maxRecDepth 20000 in
theorem gL_law_X5_shortest : GoodIn wsL_law (wsV RL 122 RX5 yX5_shortest wsX5_shortest) := goodIn_app (goodIn_of _ (by decide +kernel)) ggL_law_X5_shortest
set_option maxRecDepth 20000 in
theorem ggL_law_X6_shortest : GoodIn wsL_law wsX6_shortest := goodIn_r _ [661, 85, 86, 662, 80, 222, 223, 5, 224, 215, 216, 217, 218, 81, 84, 219, 220, 221, 663, 664, 665, 666, 667, 668, 669, 670, 977, 978, 979, 980, 981, 982, 983, 984, 985, 986, 987, 988, 989, 990, 991, 992, 993, 994, 995, 996, 997, 998] (by decide +kernel) (by decide +kernel)
set_option maxRecDepth 20000 in
theorem gL_law_X6_shortest : GoodIn wsL_law (wsV RL 125 RX6 yX6_shortest wsX6_shortest) := goodIn_app (goodIn_of _ (by decide +kernel)) ggL_law_X6_shortest
set_option maxRecDepth 20000 in
theorem ggL_law_X5_lent : GoodIn wsL_law wsX5_lent := goodIn_r _ [674, 16, 20, 675, 94, 95, 2, 96, 318, 150, 151, 15, 152, 120, 97, 98, 99, 22, 100, 101, 676, 677, 678, 679, 92, 93, 308, 158, 159, 160, 119, 680, 681, 682, 443, 184, 185, 186, 43, 40, 41, 123, 47, 187, 188, 391, 202, 203, 204, 205, 206, 207, 968, 969, 970, 971, 972, 973, 974, 975, 976, 999, 1000, 1001, 1002, 1003, 1004, 1005, 1006, 1007, 1008, 1009, 1010, 1011, 1012, 1013, 1014, 1015, 1016, 1017] (by decide +kernel) (by decide +kernel)
set_option maxRecDepth 20000 in
theorem gL_law_X5_lent : GoodIn wsL_law (wsV RL 126 RX5 yX5_lent wsX5_lent) := goodIn_app (goodIn_of _ (by decide +kernel)) ggL_law_X5_lent
set_option maxRecDepth 20000 in
theorem ggL_law_X6_lent : GoodIn wsL_law wsX6_lent := goodIn_r _ [686, 85, 86, 73, 248, 249, 250, 5, 251, 222, 223, 224, 215, 216, 217, 218, 81, 84, 219, 220, 221, 259, 260, 261, 262, 282, 283, 284, 285, 286, 287, 256, 257, 258, 288, 289, 290, 291, 292, 293, 294, 295, 296, 399, 400, 401, 977, 978, 979, 980, 981, 982, 983, 984, 985, 986, 987, 988, 989, 990, 991, 992, 993, 994, 995, 996, 997, 998] (by decide +kernel) (by decide +kernel)
set_option maxRecDepth 20000 in
theorem gL_law_X6_lent : GoodIn wsL_law (wsV RL 129 RX6 yX6_lent wsX6_lent) := goodIn_app (goodIn_of _ (by decide +kernel)) ggL_law_X6_lent
set_option maxRecDepth 20000 in
theorem ggL_law_X5_whatIs : GoodIn wsL_law wsX5_whatIs := goodIn_r _ [690, 16, 20, 304, 305, 317, 94, 95, 2, 96, 318, 150, 151, 15, 152, 120, 308, 158, 159, 160, 119, 97, 98, 99, 22, 100, 101, 691, 692, 693, 694, 92, 93, 695, 696, 697, 698, 699, 700, 51, 701, 702, 187, 188, 968, 969, 970, 971, 972, 973, 974, 975, 976, 999, 1000, 1001, 1002, 1003, 1004, 1005, 1006, 1007, 1008, 1009, 1010, 1011, 1012, 1013, 1014, 1015, 1016, 1017] (by decide +kernel) (by decide +kernel)
set_option maxRecDepth 20000 in
theorem gL_law_X5_whatIs : GoodIn wsL_law (wsV RL 130 RX5 yX5_whatIs wsX5_whatIs) := goodIn_app (goodIn_of _ (by decide +kernel)) ggL_law_X5_whatIs
set_option maxRecDepth 20000 in
theorem ggL_law_X6_whatIs : GoodIn wsL_law wsX6_whatIs := goodIn_r _ [706, 85, 86, 84, 73, 248, 249, 250, 5, 251, 222, 223, 224, 259, 260, 261, 262, 215, 216, 217, 218, 81, 219, 220, 221, 707, 708, 709, 710, 256, 257, 258, 291, 292, 293, 294, 295, 296, 977, 978, 979, 980, 981, 982, 983, 984, 985, 986, 987, 988, 989, 990, 991, 992, 993, 994, 995, 996, 997, 998] (by decide +kernel) (by decide +kernel)
set_option maxRecDepth 20000 in
theorem gL_law_X6_whatIs : GoodIn wsL_law (wsV RL 133 RX6 yX6_whatIs wsX6_whatIs) := goodIn_app (goodIn_of _ (by decide +kernel)) ggL_law_X6_whatIs
set_option maxRecDepth 20000 in
theorem ggL_law_X5_tastes : GoodIn wsL_law wsX5_tastes := goodIn_r _ [714, 16, 20, 92, 675, 94, 95, 2, 96, 318, 150, 151, 15, 152, 120, 97, 98, 99, 22, 100, 101, 715, 716, 717, 718, 93, 304, 305, 695, 696, 697, 698, 699, 700, 51, 701, 702, 187, 188, 968, 969, 970, 971, 972, 973, 974, 975, 976, 1012, 1013, 1014, 1015, 1016, 1017, 999, 1000, 1001, 1002, 1003, 1004, 1005, 1006, 1007, 1008, 1009, 1010, 1011] (by decide +kernel) (by decide +kernel)
set_option maxRecDepth 20000 in
theorem gL_law_X5_tastes : GoodIn wsL_law (wsV RL 134 RX5 yX5_tastes wsX5_tastes) := goodIn_app (goodIn_of _ (by decide +kernel)) ggL_law_X5_tastes
set_option maxRecDepth 20000 in
theorem ggL_law_X6_tastes : GoodIn wsL_law wsX6_tastes := goodIn_r _ [722, 85, 73, 74, 86, 84, 248, 249, 250, 5, 251, 222, 223, 224, 215, 216, 217, 218, 81, 219, 220, 221, 237, 238, 239, 707, 708, 709, 710, 288, 289, 290, 256, 257, 258, 291, 292, 293, 294, 295, 296, 977, 978, 979, 980, 981, 982, 983, 984, 985, 986, 987, 988, 989, 990, 991, 992, 993, 994, 995, 996, 997, 998] (by decide +kernel) (by decide +kernel)
set_option maxRecDepth 20000 in
theorem gL_law_X6_tastes : GoodIn wsL_law (wsV RL 137 RX6 yX6_tastes wsX6_tastes) := goodIn_app (goodIn_of _ (by decide +kernel)) ggL_law_X6_tastes
set_option maxRecDepth 20000 in
theorem ggL_law_X5_two : GoodIn wsL_law wsX5_two := goodIn_r _ [726, 16, 318, 150, 151, 15, 152, 120, 319, 180, 181, 182, 119, 42, 464, 190, 191, 192, 193, 194, 195, 196, 40, 41, 43, 123, 187, 2, 188, 177, 178, 727, 728, 729, 730, 731, 732, 733, 734, 422, 968, 969, 970, 971, 972, 973, 974, 975, 976, 999, 1000, 1001, 1002, 1003, 1004, 1005, 1006, 1007, 1008, 1009, 1010, 1011] (by decide +kernel) (by decide +kernel)
set_option maxRecDepth 20000 in
theorem gL_law_X5_two : GoodIn wsL_law (wsV RL 138 RX5 yX5_two wsX5_two) := goodIn_app (goodIn_of _ (by decide +kernel)) ggL_law_X5_two
set_option maxRecDepth 20000 in
theorem ggL_law_X6_two : GoodIn wsL_law wsX6_two := goodIn_r _ [738, 248, 249, 250, 5, 251, 73, 222, 223, 224, 515, 516, 517, 518, 256, 257, 258, 288, 289, 290, 291, 292, 293, 294, 295, 296, 739, 740, 741, 742, 977, 978, 979, 980, 981, 982, 983, 984, 985, 986, 987, 988, 989, 990, 991, 992, 993, 994, 995, 996, 997, 998] (by decide +kernel) (by decide +kernel)
set_option maxRecDepth 20000 in
theorem gL_law_X6_two : GoodIn wsL_law (wsV RL 141 RX6 yX6_two wsX6_two) := goodIn_app (goodIn_of _ (by decide +kernel)) ggL_law_X6_two
set_option maxRecDepth 20000 in
theorem ggL_law_X5_market : GoodIn wsL_law wsX5_market := goodIn_r _ [746, 16, 747, 502, 318, 150, 151, 15, 152, 120, 308, 158, 159, 160, 119, 443, 184, 185, 186, 43, 40, 41, 123, 47, 187, 2, 188, 319, 180, 181, 182, 42, 748, 749, 750, 751, 752, 753, 968, 969, 970, 971, 972, 973, 974, 975, 976, 999, 1000, 1001, 1002, 1003, 1004, 1005, 1006, 1007, 1008, 1009, 1010, 1011] (by decide +kernel) (by decide +kernel)
set_option maxRecDepth 20000 in
theorem gL_law_X5_market : GoodIn wsL_law (wsV RL 142 RX5 yX5_market wsX5_market) := goodIn_app (goodIn_of _ (by decide +kernel)) ggL_law_X5_market
set_option maxRecDepth 20000 in
theorem ggL_law_X6_market : GoodIn wsL_law wsX6_market := goodIn_r _ [757, 758, 73, 248, 249, 250, 5, 251, 222, 223, 224, 259, 260, 261, 262, 448, 449, 450, 451, 282, 283, 284, 285, 286, 287, 256, 257, 258, 288, 289, 290, 291, 292, 293, 294, 295, 296, 328, 329, 330, 759, 760, 761, 762, 763, 764, 977, 978, 979, 980, 981, 982, 983, 984, 985, 986, 987, 988, 989, 990, 991, 992, 993, 994, 995, 996, 997, 998] (by decide +kernel) (by decide +kernel)
set_option maxRecDepth 20000 in
theorem gL_law_X6_market : GoodIn wsL_law (wsV RL 146 RX6 yX6_market wsX6_market) := goodIn_app (goodIn_of _ (by decide +kernel)) ggL_law_X6_market
set_option maxRecDepth 20000 in
theorem ggL_law_X5_mean : GoodIn wsL_law wsX5_mean := goodIn_r _ [768, 16, 747, 675, 318, 150, 151, 15, 152, 120, 422, 194, 195, 196, 40, 41, 43, 123, 187, 2, 188, 748, 749, 750, 751, 752, 753, 968, 969, 970, 971, 972, 973, 974, 975, 976, 999, 1000, 1001, 1002, 1003, 1004, 1005, 1006, 1007, 1008, 1009, 1010, 1011] (by decide +kernel) (by decide +kernel)
set_option maxRecDepth 20000 in
theorem gL_law_X5_mean : GoodIn wsL_law (wsV RL 147 RX5 yX5_mean wsX5_mean) := goodIn_app (goodIn_of _ (by decide +kernel)) ggL_law_X5_mean
set_option maxRecDepth 20000 in
theorem ggL_law_X6_mean : GoodIn wsL_law wsX6_mean := goodIn_r _ [772, 758, 73, 248, 249, 250, 5, 251, 222, 223, 224, 288, 289, 290, 256, 257, 258, 291, 292, 293, 294, 295, 296, 759, 760, 761, 762, 763, 764, 977, 978, 979, 980, 981, 982, 983, 984, 985, 986, 987, 988, 989, 990, 991, 992, 993, 994, 995, 996, 997, 998] (by decide +kernel) (by decide +kernel)
set_option maxRecDepth 20000 in
theorem gL_law_X6_mean : GoodIn wsL_law (wsV RL 150 RX6 yX6_mean wsX6_mean) := goodIn_app (goodIn_of _ (by decide +kernel)) ggL_law_X6_mean
set_option maxRecDepth 20000 in
theorem ggL_law_X5_forged : GoodIn wsL_law wsX5_forged := goodIn_r _ [776, 16, 20, 92, 93, 94, 95, 2, 96, 318, 150, 151, 15, 152, 120, 97, 98, 99, 22, 100, 101, 308, 158, 159, 160, 119, 431, 432, 433, 434, 183, 184, 185, 186, 43, 40, 41, 123, 47, 187, 188, 177, 178, 968, 969, 970, 971, 972, 973, 974, 975, 976, 1012, 1013, 1014, 1015, 1016, 1017, 999, 1000, 1001, 1002, 1003, 1004, 1005, 1006, 1007, 1008, 1009, 1010, 1011] (by decide +kernel) (by decide +kernel)
set_option maxRecDepth 20000 in
theorem gL_law_X5_forged : GoodIn wsL_law (wsV RL 151 RX5 yX5_forged wsX5_forged) := goodIn_app (goodIn_of _ (by decide +kernel)) ggL_law_X5_forged
set_option maxRecDepth 20000 in
theorem ggL_law_X6_forged : GoodIn wsL_law wsX6_forged := goodIn_r _ [780, 85, 86, 73, 248, 249, 250, 5, 251, 222, 223, 224, 215, 216, 217, 218, 81, 84, 219, 220, 221, 259, 260, 261, 262, 282, 283, 284, 285, 286, 287, 256, 257, 258, 288, 289, 290, 291, 292, 293, 294, 295, 296, 977, 978, 979, 980, 981, 982, 983, 984, 985, 986, 987, 988, 989, 990, 991, 992, 993, 994, 995, 996, 997, 998] (by decide +kernel) (by decide +kernel)
set_option maxRecDepth 20000 in
theorem gL_law_X6_forged : GoodIn wsL_law (wsV RL 154 RX6 yX6_forged wsX6_forged) := goodIn_app (goodIn_of _ (by decide +kernel)) ggL_law_X6_forged
set_option maxRecDepth 20000 in
theorem ggL_law_X5_judge : GoodIn wsL_law wsX5_judge := goodIn_r _ [784, 20, 17, 16, 92, 93, 341, 94, 95, 2, 96, 97, 98, 99, 22, 100, 101, 111, 112, 113, 15, 114, 40, 115, 116, 117, 118, 41, 42, 119, 43, 120, 44, 45, 46, 121, 122, 47, 123, 696, 697, 698, 699, 700, 51, 701, 391, 202, 203, 204, 205, 206, 207, 477, 170, 171, 172, 173, 174, 175, 176, 177, 178, 179, 180, 181, 182, 183, 184, 185, 186, 187, 188, 189, 190, 191, 192, 193, 194, 195, 196, 197, 198, 199, 200, 968, 969, 970, 971, 972, 973, 974, 975, 976, 1012, 1013, 1014, 1015, 1016, 1017, 999, 1000, 1001, 1002, 1003, 1004, 1005, 1006, 1007, 1008, 1009, 1010, 1011] (by decide +kernel) (by decide +kernel)
set_option maxRecDepth 20000 in
theorem gL_law_X5_judge : GoodIn wsL_law (wsV RL 155 RX5 yX5_judge wsX5_judge) := goodIn_app (goodIn_of _ (by decide +kernel)) ggL_law_X5_judge
set_option maxRecDepth 20000 in
theorem ggL_law_X6_judge : GoodIn wsL_law wsX6_judge := goodIn_r _ [788, 73, 74, 85, 86, 84, 215, 216, 217, 5, 218, 81, 219, 220, 221, 222, 223, 224, 237, 238, 239, 707, 708, 709, 710, 396, 397, 398, 267, 268, 269, 399, 400, 401, 273, 274, 275, 276, 277, 278, 279, 280, 281, 256, 257, 258, 282, 283, 284, 285, 286, 287, 288, 289, 290, 291, 292, 293, 294, 295, 296, 297, 298, 299, 977, 978, 979, 980, 981, 982, 983, 984, 985, 986, 987, 988, 989, 990, 991, 992, 993, 994, 995, 996, 997, 998] (by decide +kernel) (by decide +kernel)
set_option maxRecDepth 20000 in
theorem gL_law_X6_judge : GoodIn wsL_law (wsV RL 158 RX6 yX6_judge wsX6_judge) := goodIn_app (goodIn_of _ (by decide +kernel)) ggL_law_X6_judge
