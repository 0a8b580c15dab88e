/-! THE LAW's callees' words, 2 -/
set_option maxRecDepth 20000 in
theorem ggL_law_X5_worth : GoodIn wsL_law wsX5_worth := goodIn_r _ [421, 16, 318, 150, 151, 15, 152, 120, 308, 158, 159, 160, 119, 422, 194, 195, 196, 40, 41, 43, 123, 187, 2, 188, 968, 969, 970, 971, 972, 973, 974, 975, 976, 999, 1000, 1001, 1002, 1003, 1004, 1005, 1006, 1007, 1008, 1009, 1010, 1011] (by decide +kernel) (by decide +kernel)
set_option maxRecDepth 20000 in
theorem gL_law_X5_worth : GoodIn wsL_law (wsV RL 63 RX5 yX5_worth wsX5_worth) := goodIn_app (goodIn_of _ (by decide +kernel)) ggL_law_X5_worth
set_option maxRecDepth 20000 in
theorem ggL_law_X6_worth : GoodIn wsL_law wsX6_worth := goodIn_r _ [426, 73, 248, 249, 250, 5, 251, 222, 223, 224, 259, 260, 261, 262, 288, 289, 290, 256, 257, 258, 291, 292, 293, 294, 295, 296, 977, 978, 979, 980, 981, 982, 983, 984, 985, 986, 987, 988, 989, 990, 991, 992, 993, 994, 995, 996, 997, 998] (by decide +kernel) (by decide +kernel)
set_option maxRecDepth 20000 in
theorem gL_law_X6_worth : GoodIn wsL_law (wsV RL 66 RX6 yX6_worth wsX6_worth) := goodIn_app (goodIn_of _ (by decide +kernel)) ggL_law_X6_worth
set_option maxRecDepth 20000 in
theorem ggL_law_X5_would : GoodIn wsL_law wsX5_would := goodIn_r _ [430, 16, 318, 150, 151, 15, 152, 120, 308, 158, 159, 160, 119, 431, 432, 433, 434, 183, 184, 185, 186, 43, 40, 41, 123, 47, 187, 2, 188, 177, 178, 968, 969, 970, 971, 972, 973, 974, 975, 976, 999, 1000, 1001, 1002, 1003, 1004, 1005, 1006, 1007, 1008, 1009, 1010, 1011] (by decide +kernel) (by decide +kernel)
set_option maxRecDepth 20000 in
theorem gL_law_X5_would : GoodIn wsL_law (wsV RL 67 RX5 yX5_would wsX5_would) := goodIn_app (goodIn_of _ (by decide +kernel)) ggL_law_X5_would
set_option maxRecDepth 20000 in
theorem ggL_law_X6_would : GoodIn wsL_law wsX6_would := goodIn_r _ [438, 73, 248, 249, 250, 5, 251, 222, 223, 224, 259, 260, 261, 262, 282, 283, 284, 285, 286, 287, 256, 257, 258, 288, 289, 290, 291, 292, 293, 294, 295, 296, 977, 978, 979, 980, 981, 982, 983, 984, 985, 986, 987, 988, 989, 990, 991, 992, 993, 994, 995, 996, 997, 998] (by decide +kernel) (by decide +kernel)
set_option maxRecDepth 20000 in
theorem gL_law_X6_would : GoodIn wsL_law (wsV RL 71 RX6 yX6_would wsX6_would) := goodIn_app (goodIn_of _ (by decide +kernel)) ggL_law_X6_would
set_option maxRecDepth 20000 in
theorem ggL_law_X5_takes : GoodIn wsL_law wsX5_takes := goodIn_r _ [442, 16, 318, 150, 151, 15, 152, 120, 308, 158, 159, 160, 119, 443, 184, 185, 186, 43, 40, 41, 123, 47, 187, 2, 188, 968, 969, 970, 971, 972, 973, 974, 975, 976, 999, 1000, 1001, 1002, 1003, 1004, 1005, 1006, 1007, 1008, 1009, 1010, 1011] (by decide +kernel) (by decide +kernel)
set_option maxRecDepth 20000 in
theorem gL_law_X5_takes : GoodIn wsL_law (wsV RL 72 RX5 yX5_takes wsX5_takes) := goodIn_app (goodIn_of _ (by decide +kernel)) ggL_law_X5_takes
set_option maxRecDepth 20000 in
theorem ggL_law_X6_takes : GoodIn wsL_law wsX6_takes := goodIn_r _ [447, 248, 249, 250, 5, 251, 73, 222, 223, 224, 259, 260, 261, 262, 448, 449, 450, 451, 282, 283, 284, 285, 286, 287, 256, 257, 258, 288, 289, 290, 291, 292, 293, 294, 295, 296, 977, 978, 979, 980, 981, 982, 983, 984, 985, 986, 987, 988, 989, 990, 991, 992, 993, 994, 995, 996, 997, 998] (by decide +kernel) (by decide +kernel)
set_option maxRecDepth 20000 in
theorem gL_law_X6_takes : GoodIn wsL_law (wsV RL 75 RX6 yX6_takes wsX6_takes) := goodIn_app (goodIn_of _ (by decide +kernel)) ggL_law_X6_takes
set_option maxRecDepth 20000 in
theorem ggL_law_X5_canPay : GoodIn wsL_law wsX5_canPay := goodIn_r _ [455, 16, 342, 343, 344, 15, 345, 121, 389, 174, 175, 176, 122, 45, 44, 46, 177, 2, 178, 179, 180, 181, 182, 119, 42, 183, 184, 185, 186, 43, 40, 41, 123, 47, 187, 188, 968, 969, 970, 971, 972, 973, 974, 975, 976, 999, 1000, 1001, 1002, 1003, 1004, 1005, 1006, 1007, 1008, 1009, 1010, 1011] (by decide +kernel) (by decide +kernel)
set_option maxRecDepth 20000 in
theorem gL_law_X5_canPay : GoodIn wsL_law (wsV RL 76 RX5 yX5_canPay wsX5_canPay) := goodIn_app (goodIn_of _ (by decide +kernel)) ggL_law_X5_canPay
set_option maxRecDepth 20000 in
theorem ggL_law_X6_canPay : GoodIn wsL_law wsX6_canPay := goodIn_r _ [459, 73, 351, 352, 353, 5, 354, 222, 223, 224, 279, 280, 281, 267, 268, 269, 256, 257, 258, 282, 283, 284, 285, 286, 287, 288, 289, 290, 291, 292, 293, 294, 295, 296, 977, 978, 979, 980, 981, 982, 983, 984, 985, 986, 987, 988, 989, 990, 991, 992, 993, 994, 995, 996, 997, 998] (by decide +kernel) (by decide +kernel)
set_option maxRecDepth 20000 in
theorem gL_law_X6_canPay : GoodIn wsL_law (wsV RL 79 RX6 yX6_canPay wsX6_canPay) := goodIn_app (goodIn_of _ (by decide +kernel)) ggL_law_X6_canPay
set_option maxRecDepth 20000 in
theorem ggL_law_X5_bestPayment : GoodIn wsL_law wsX5_bestPayment := goodIn_r _ [463, 16, 338, 342, 343, 344, 15, 345, 121, 389, 174, 175, 176, 122, 45, 44, 46, 177, 2, 178, 179, 180, 181, 182, 119, 42, 183, 184, 185, 186, 43, 40, 41, 123, 47, 187, 188, 464, 190, 191, 192, 193, 194, 195, 196, 968, 969, 970, 971, 972, 973, 974, 975, 976, 999, 1000, 1001, 1002, 1003, 1004, 1005, 1006, 1007, 1008, 1009, 1010, 1011] (by decide +kernel) (by decide +kernel)
set_option maxRecDepth 20000 in
theorem gL_law_X5_bestPayment : GoodIn wsL_law (wsV RL 80 RX5 yX5_bestPayment wsX5_bestPayment) := goodIn_app (goodIn_of _ (by decide +kernel)) ggL_law_X5_bestPayment
set_option maxRecDepth 20000 in
theorem ggL_law_X6_bestPayment : GoodIn wsL_law wsX6_bestPayment := goodIn_r _ [468, 73, 351, 352, 353, 5, 354, 222, 223, 224, 267, 268, 269, 279, 280, 281, 256, 257, 258, 282, 283, 284, 285, 286, 287, 288, 289, 290, 291, 292, 293, 294, 295, 296, 977, 978, 979, 980, 981, 982, 983, 984, 985, 986, 987, 988, 989, 990, 991, 992, 993, 994, 995, 996, 997, 998] (by decide +kernel) (by decide +kernel)
set_option maxRecDepth 20000 in
theorem gL_law_X6_bestPayment : GoodIn wsL_law (wsV RL 83 RX6 yX6_bestPayment wsX6_bestPayment) := goodIn_app (goodIn_of _ (by decide +kernel)) ggL_law_X6_bestPayment
set_option maxRecDepth 20000 in
theorem ggL_law_X5_hasThen : GoodIn wsL_law wsX5_hasThen := goodIn_r _ [472, 16, 17, 306, 308, 158, 159, 15, 160, 119, 473, 474, 475, 2, 476, 111, 112, 113, 114, 40, 115, 116, 117, 118, 41, 42, 43, 120, 44, 45, 46, 121, 122, 47, 123, 477, 170, 171, 172, 173, 174, 175, 176, 177, 178, 179, 180, 181, 182, 183, 184, 185, 186, 187, 188, 189, 190, 191, 192, 193, 194, 195, 196, 197, 198, 199, 200, 968, 969, 970, 971, 972, 973, 974, 975, 976, 999, 1000, 1001, 1002, 1003, 1004, 1005, 1006, 1007, 1008, 1009, 1010, 1011] (by decide +kernel) (by decide +kernel)
set_option maxRecDepth 20000 in
theorem gL_law_X5_hasThen : GoodIn wsL_law (wsV RL 84 RX5 yX5_hasThen wsX5_hasThen) := goodIn_app (goodIn_of _ (by decide +kernel)) ggL_law_X5_hasThen
set_option maxRecDepth 20000 in
theorem ggL_law_X6_hasThen : GoodIn wsL_law wsX6_hasThen := goodIn_r _ [481, 73, 74, 259, 260, 261, 5, 262, 222, 223, 224, 237, 238, 239, 270, 271, 272, 273, 274, 275, 276, 277, 278, 267, 268, 269, 279, 280, 281, 256, 257, 258, 282, 283, 284, 285, 286, 287, 288, 289, 290, 291, 292, 293, 294, 295, 296, 297, 298, 299, 977, 978, 979, 980, 981, 982, 983, 984, 985, 986, 987, 988, 989, 990, 991, 992, 993, 994, 995, 996, 997, 998] (by decide +kernel) (by decide +kernel)
set_option maxRecDepth 20000 in
theorem gL_law_X6_hasThen : GoodIn wsL_law (wsV RL 87 RX6 yX6_hasThen wsX6_hasThen) := goodIn_app (goodIn_of _ (by decide +kernel)) ggL_law_X6_hasThen
set_option maxRecDepth 20000 in
theorem ggL_law_X5_openThen : GoodIn wsL_law wsX5_openThen := goodIn_r _ [485, 17, 341, 473, 474, 475, 2, 476, 16, 111, 112, 113, 15, 114, 40, 115, 116, 117, 118, 41, 42, 119, 43, 120, 44, 45, 46, 121, 122, 47, 123, 477, 170, 171, 172, 173, 174, 175, 176, 177, 178, 179, 180, 181, 182, 183, 184, 185, 186, 187, 188, 189, 190, 191, 192, 193, 194, 195, 196, 197, 198, 199, 200, 391, 202, 203, 204, 205, 206, 207, 968, 969, 970, 971, 972, 973, 974, 975, 976, 999, 1000, 1001, 1002, 1003, 1004, 1005, 1006, 1007, 1008, 1009, 1010, 1011] (by decide +kernel) (by decide +kernel)
set_option maxRecDepth 20000 in
theorem gL_law_X5_openThen : GoodIn wsL_law (wsV RL 88 RX5 yX5_openThen wsX5_openThen) := goodIn_app (goodIn_of _ (by decide +kernel)) ggL_law_X5_openThen
set_option maxRecDepth 20000 in
theorem ggL_law_X6_openThen : GoodIn wsL_law wsX6_openThen := goodIn_r _ [489, 73, 74, 222, 223, 5, 224, 237, 238, 239, 270, 271, 272, 273, 274, 275, 276, 277, 278, 267, 268, 269, 279, 280, 281, 256, 257, 258, 282, 283, 284, 285, 286, 287, 288, 289, 290, 291, 292, 293, 294, 295, 296, 297, 298, 299, 396, 397, 398, 399, 400, 401, 977, 978, 979, 980, 981, 982, 983, 984, 985, 986, 987, 988, 989, 990, 991, 992, 993, 994, 995, 996, 997, 998] (by decide +kernel) (by decide +kernel)
set_option maxRecDepth 20000 in
theorem gL_law_X6_openThen : GoodIn wsL_law (wsV RL 91 RX6 yX6_openThen wsX6_openThen) := goodIn_app (goodIn_of _ (by decide +kernel)) ggL_law_X6_openThen
set_option maxRecDepth 20000 in
theorem ggL_law_X5_cleared : GoodIn wsL_law wsX5_cleared := goodIn_r _ [493, 17, 16, 341, 111, 112, 113, 15, 114, 40, 115, 116, 117, 118, 41, 42, 119, 43, 120, 44, 45, 46, 121, 122, 47, 123, 477, 170, 171, 172, 173, 174, 175, 176, 177, 2, 178, 179, 180, 181, 182, 183, 184, 185, 186, 187, 188, 189, 190, 191, 192, 193, 194, 195, 196, 197, 198, 199, 200, 968, 969, 970, 971, 972, 973, 974, 975, 976, 999, 1000, 1001, 1002, 1003, 1004, 1005, 1006, 1007, 1008, 1009, 1010, 1011] (by decide +kernel) (by decide +kernel)
set_option maxRecDepth 20000 in
theorem gL_law_X5_cleared : GoodIn wsL_law (wsV RL 92 RX5 yX5_cleared wsX5_cleared) := goodIn_app (goodIn_of _ (by decide +kernel)) ggL_law_X5_cleared
set_option maxRecDepth 20000 in
theorem ggL_law_X6_cleared : GoodIn wsL_law wsX6_cleared := goodIn_r _ [497, 73, 74, 237, 238, 5, 239, 396, 397, 398, 267, 268, 269, 273, 274, 275, 276, 277, 278, 279, 280, 281, 256, 257, 258, 282, 283, 284, 285, 286, 287, 288, 289, 290, 291, 292, 293, 294, 295, 296, 297, 298, 299, 977, 978, 979, 980, 981, 982, 983, 984, 985, 986, 987, 988, 989, 990, 991, 992, 993, 994, 995, 996, 997, 998] (by decide +kernel) (by decide +kernel)
set_option maxRecDepth 20000 in
theorem gL_law_X6_cleared : GoodIn wsL_law (wsV RL 96 RX6 yX6_cleared wsX6_cleared) := goodIn_app (goodIn_of _ (by decide +kernel)) ggL_law_X6_cleared
set_option maxRecDepth 20000 in
theorem ggL_law_X5_richest : GoodIn wsL_law wsX5_richest := goodIn_r _ [501, 16, 502, 320, 321, 322, 15, 323, 119, 42, 193, 194, 195, 196, 40, 41, 43, 123, 187, 2, 188, 968, 969, 970, 971, 972, 973, 974, 975, 976, 999, 1000, 1001, 1002, 1003, 1004, 1005, 1006, 1007, 1008, 1009, 1010, 1011] (by decide +kernel) (by decide +kernel)
set_option maxRecDepth 20000 in
theorem gL_law_X5_richest : GoodIn wsL_law (wsV RL 97 RX5 yX5_richest wsX5_richest) := goodIn_app (goodIn_of _ (by decide +kernel)) ggL_law_X5_richest
set_option maxRecDepth 20000 in
theorem ggL_law_X6_richest : GoodIn wsL_law wsX6_richest := goodIn_r _ [506, 73, 331, 332, 5, 333, 256, 257, 258, 288, 289, 290, 291, 292, 293, 294, 295, 296, 977, 978, 979, 980, 981, 982, 983, 984, 985, 986, 987, 988, 989, 990, 991, 992, 993, 994, 995, 996, 997, 998] (by decide +kernel) (by decide +kernel)
set_option maxRecDepth 20000 in
theorem gL_law_X6_richest : GoodIn wsL_law (wsV RL 100 RX6 yX6_richest wsX6_richest) := goodIn_app (goodIn_of _ (by decide +kernel)) ggL_law_X6_richest
set_option maxRecDepth 20000 in
theorem ggL_law_X5_worst : GoodIn wsL_law wsX5_worst := goodIn_r _ [510, 16, 318, 150, 151, 15, 152, 120, 319, 180, 181, 182, 119, 42, 464, 190, 191, 192, 193, 194, 195, 196, 40, 41, 43, 123, 187, 2, 188, 177, 178, 968, 969, 970, 971, 972, 973, 974, 975, 976, 999, 1000, 1001, 1002, 1003, 1004, 1005, 1006, 1007, 1008, 1009, 1010, 1011] (by decide +kernel) (by decide +kernel)
set_option maxRecDepth 20000 in
theorem gL_law_X5_worst : GoodIn wsL_law (wsV RL 101 RX5 yX5_worst wsX5_worst) := goodIn_app (goodIn_of _ (by decide +kernel)) ggL_law_X5_worst
set_option maxRecDepth 20000 in
theorem ggL_law_X6_worst : GoodIn wsL_law wsX6_worst := goodIn_r _ [514, 248, 249, 250, 5, 251, 73, 222, 223, 224, 515, 516, 517, 518, 256, 257, 258, 288, 289, 290, 291, 292, 293, 294, 295, 296, 977, 978, 979, 980, 981, 982, 983, 984, 985, 986, 987, 988, 989, 990, 991, 992, 993, 994, 995, 996, 997, 998] (by decide +kernel) (by decide +kernel)
set_option maxRecDepth 20000 in
theorem gL_law_X6_worst : GoodIn wsL_law (wsV RL 104 RX6 yX6_worst wsX6_worst) := goodIn_app (goodIn_of _ (by decide +kernel)) ggL_law_X6_worst
set_option maxRecDepth 20000 in
theorem ggL_law_X5_chain : GoodIn wsL_law wsX5_chain := goodIn_r _ [522, 16, 26, 523, 318, 150, 151, 15, 152, 120, 308, 158, 159, 160, 119, 524, 525, 526, 25, 527, 528, 529, 55, 530, 184, 185, 186, 43, 40, 41, 123, 47, 187, 2, 188, 531, 532, 533, 534, 56, 535, 536, 537, 538, 177, 178, 539, 540, 541, 542, 968, 969, 970, 971, 972, 973, 974, 975, 976, 1018, 1019, 1020, 999, 1000, 1001, 1002, 1003, 1004, 1005, 1006, 1007, 1008, 1009, 1010, 1011] (by decide +kernel) (by decide +kernel)
set_option maxRecDepth 20000 in
theorem gL_law_X5_chain : GoodIn wsL_law (wsV RL 105 RX5 yX5_chain wsX5_chain) := goodIn_app (goodIn_of _ (by decide +kernel)) ggL_law_X5_chain
set_option maxRecDepth 20000 in
theorem ggL_law_X6_chain : GoodIn wsL_law wsX6_chain := goodIn_r _ [546, 73, 248, 249, 250, 5, 251, 222, 223, 224, 259, 260, 261, 262, 547, 548, 549, 550, 551, 552, 553, 448, 449, 450, 451, 282, 283, 284, 285, 286, 287, 256, 257, 258, 288, 289, 290, 291, 292, 293, 294, 295, 296, 977, 978, 979, 980, 981, 982, 983, 984, 985, 986, 987, 988, 989, 990, 991, 992, 993, 994, 995, 996, 997, 998] (by decide +kernel) (by decide +kernel)
set_option maxRecDepth 20000 in
theorem gL_law_X6_chain : GoodIn wsL_law (wsV RL 109 RX6 yX6_chain wsX6_chain) := goodIn_app (goodIn_of _ (by decide +kernel)) ggL_law_X6_chain
set_option maxRecDepth 20000 in
theorem ggL_law_X5_climb : GoodIn wsL_law wsX5_climb := goodIn_r _ [557, 16, 26, 318, 150, 151, 15, 152, 120, 308, 158, 159, 160, 119, 524, 525, 526, 25, 527, 528, 529, 55, 530, 184, 185, 186, 43, 40, 41, 123, 47, 187, 2, 188, 558, 559, 560, 561, 177, 178, 464, 190, 191, 192, 193, 194, 195, 196, 422, 968, 969, 970, 971, 972, 973, 974, 975, 976, 999, 1000, 1001, 1002, 1003, 1004, 1005, 1006, 1007, 1008, 1009, 1010, 1011, 1018, 1019, 1020] (by decide +kernel) (by decide +kernel)
set_option maxRecDepth 20000 in
theorem gL_law_X5_climb : GoodIn wsL_law (wsV RL 110 RX5 yX5_climb wsX5_climb) := goodIn_app (goodIn_of _ (by decide +kernel)) ggL_law_X5_climb
