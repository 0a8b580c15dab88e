/-! THE LAW's callees' words -/
set_option maxRecDepth 20000 in
theorem ggL_element_X5_element : GoodIn wsL_element wsX5_element := goodIn_ca (goodIn_ca (goodIn_r _ [7, 8, 9, 10, 11, 12, 13, 14, 15, 6, 16, 17, 18, 19, 20, 21, 22, 23, 24, 25, 26, 27, 28, 29, 30, 31, 32, 33, 34, 35, 36, 37, 38, 39, 40, 41, 42] (by decide +kernel) (by decide +kernel)) (goodIn_sub (fun _ h => List.mem_cons_of_mem _ (List.mem_append_left _ (List.mem_append_right _ h))) (by decide +kernel))) (goodIn_sub (fun _ h => List.mem_cons_of_mem _ (List.mem_append_right _ h)) (by decide +kernel))
set_option maxRecDepth 20000 in
theorem gL_element_X5_element : GoodIn wsL_element (wsV RL 7 RX5 yX5_element wsX5_element) := goodIn_app (goodIn_of _ (by decide +kernel)) ggL_element_X5_element
theorem dL_element_0 : decode cL_element 0 = .ok (.aload_n 3, 1) := by decide +kernel
theorem dL_element_1 : decode cL_element 1 = .ok (.iconst 0, 1) := by decide +kernel
theorem dL_element_2 : decode cL_element 2 = .ok (.aload_n 0, 1) := by decide +kernel
theorem dL_element_3 : decode cL_element 3 = .ok (.iload_n 1, 1) := by decide +kernel
theorem dL_element_4 : decode cL_element 4 = .ok (.iload_n 2, 1) := by decide +kernel
theorem dL_element_5 : decode cL_element 5 = .ok (.invokevirtual 7, 3) := by decide +kernel
theorem dL_element_8 : decode cL_element 8 = .ok (.lastore, 1) := by decide +kernel
theorem dL_element_9 : decode cL_element 9 = .ok (.goto 11, 3) := by decide +kernel
theorem dL_element_12 : decode cL_element 12 = .ok (.astore 4, 2) := by decide +kernel
theorem dL_element_14 : decode cL_element 14 = .ok (.iconst 1, 1) := by decide +kernel
theorem dL_element_15 : decode cL_element 15 = .ok (.ireturn, 1) := by decide +kernel
theorem dL_element_16 : decode cL_element 16 = .ok (.astore 4, 2) := by decide +kernel
theorem dL_element_18 : decode cL_element 18 = .ok (.iconst 2, 1) := by decide +kernel
theorem dL_element_19 : decode cL_element 19 = .ok (.ireturn, 1) := by decide +kernel
theorem dL_element_20 : decode cL_element 20 = .ok (.iconst 0, 1) := by decide +kernel
theorem dL_element_21 : decode cL_element 21 = .ok (.ireturn, 1) := by decide +kernel
set_option maxRecDepth 20000 in
theorem ggL_law_X5_init : GoodIn wsL_law wsX5_init := goodIn_r _ [9, 10, 11, 12, 13, 14, 15, 16, 17, 18, 19, 20, 21, 22, 23, 24, 25, 26, 27, 28, 29, 30, 31, 32, 33, 34, 35, 36, 37, 38, 39, 40, 41, 42, 43, 44, 45, 46, 47, 48, 49, 50, 51, 52, 53, 54, 55, 56, 57, 58, 59, 60, 61, 62, 63, 64, 65, 66, 67, 68, 999, 1000, 1001, 1002, 1003, 1004, 1005, 1006, 1007, 1008, 1009, 1010, 1011, 968, 969, 970, 971, 972, 973, 974, 975, 976, 1012, 1013, 1014, 1015, 1016, 1017, 1018, 1019, 1020, 1021, 1022, 1023, 1024, 1025, 1026] (by decide +kernel) (by decide +kernel)
set_option maxRecDepth 20000 in
theorem gL_law_X5_init : GoodIn wsL_law (wsX5_init) := ggL_law_X5_init
set_option maxRecDepth 20000 in
theorem ggL_law_X6_init : GoodIn wsL_law wsX6_init := goodIn_r _ [71, 72, 11, 12, 39, 73, 74, 75, 76, 77, 78, 79, 80, 81, 82, 83, 84, 85, 86, 977, 978, 979, 980, 981, 982, 983, 984, 985, 986, 987, 988, 989, 990, 991, 992, 993, 994, 995, 996, 997, 998] (by decide +kernel) (by decide +kernel)
set_option maxRecDepth 20000 in
theorem gL_law_X6_init : GoodIn wsL_law (wsX6_init) := ggL_law_X6_init
set_option maxRecDepth 20000 in
theorem ggL_law_X5_town : GoodIn wsL_law wsX5_town := goodIn_r _ [90, 20, 91, 17, 16, 92, 93, 94, 95, 2, 96, 97, 98, 99, 22, 100, 101, 102, 103, 104, 105, 106, 107, 108, 109, 110, 111, 112, 113, 15, 114, 40, 115, 116, 117, 118, 41, 42, 119, 43, 120, 44, 45, 46, 121, 122, 47, 123, 124, 125, 126, 127, 128, 129, 130, 131, 51, 132, 133, 134, 135, 136, 137, 138, 139, 140, 141, 142, 143, 144, 145, 146, 147, 148, 149, 150, 151, 152, 153, 154, 155, 156, 157, 158, 159, 160, 161, 162, 163, 164, 165, 166, 167, 168, 169, 170, 171, 172, 173, 174, 175, 176, 177, 178, 179, 180, 181, 182, 183, 184, 185, 186, 187, 188, 189, 190, 191, 192, 193, 194, 195, 196, 197, 198, 199, 200, 201, 202, 203, 204, 205, 206, 207, 968, 969, 970, 971, 972, 973, 974, 975, 976, 1012, 1013, 1014, 1015, 1016, 1017, 999, 1000, 1001, 1002, 1003, 1004, 1005, 1006, 1007, 1008, 1009, 1010, 1011] (by decide +kernel) (by decide +kernel)
set_option maxRecDepth 20000 in
theorem gL_law_X5_town : GoodIn wsL_law (wsV RL 21 RX5 yX5_town wsX5_town) := goodIn_app (goodIn_of _ (by decide +kernel)) ggL_law_X5_town
set_option maxRecDepth 20000 in
theorem ggL_law_X6_town : GoodIn wsL_law wsX6_town := goodIn_r _ [211, 212, 85, 213, 214, 73, 76, 215, 216, 217, 5, 218, 81, 84, 219, 220, 221, 222, 223, 224, 225, 226, 227, 228, 229, 230, 231, 232, 86, 233, 234, 235, 236, 77, 237, 238, 239, 240, 241, 242, 243, 244, 245, 246, 247, 248, 249, 250, 251, 252, 253, 254, 255, 256, 257, 258, 259, 260, 261, 262, 263, 264, 265, 266, 267, 268, 269, 270, 271, 272, 273, 274, 275, 276, 277, 278, 279, 280, 281, 282, 283, 284, 285, 286, 287, 288, 289, 290, 291, 292, 293, 294, 295, 296, 297, 298, 299, 977, 978, 979, 980, 981, 982, 983, 984, 985, 986, 987, 988, 989, 990, 991, 992, 993, 994, 995, 996, 997, 998] (by decide +kernel) (by decide +kernel)
set_option maxRecDepth 20000 in
theorem gL_law_X6_town : GoodIn wsL_law (wsV RL 25 RX6 yX6_town wsX6_town) := goodIn_app (goodIn_of _ (by decide +kernel)) ggL_law_X6_town
set_option maxRecDepth 20000 in
theorem ggL_law_X5_good : GoodIn wsL_law wsX5_good := goodIn_r _ [303, 16, 304, 305, 306, 307, 308, 158, 159, 15, 160, 119, 968, 969, 970, 971, 972, 973, 974, 975, 976, 999, 1000, 1001, 1002, 1003, 1004, 1005, 1006, 1007, 1008, 1009, 1010, 1011] (by decide +kernel) (by decide +kernel)
set_option maxRecDepth 20000 in
theorem gL_law_X5_good : GoodIn wsL_law (wsV RL 26 RX5 yX5_good wsX5_good) := goodIn_app (goodIn_of _ (by decide +kernel)) ggL_law_X5_good
set_option maxRecDepth 20000 in
theorem ggL_law_X6_good : GoodIn wsL_law wsX6_good := goodIn_r _ [312, 73, 259, 260, 261, 5, 262, 222, 223, 224, 256, 257, 258, 977, 978, 979, 980, 981, 982, 983, 984, 985, 986, 987, 988, 989, 990, 991, 992, 993, 994, 995, 996, 997, 998] (by decide +kernel) (by decide +kernel)
set_option maxRecDepth 20000 in
theorem gL_law_X6_good : GoodIn wsL_law (wsV RL 30 RX6 yX6_good wsX6_good) := goodIn_app (goodIn_of _ (by decide +kernel)) ggL_law_X6_good
set_option maxRecDepth 20000 in
theorem ggL_law_X5_person : GoodIn wsL_law wsX5_person := goodIn_r _ [316, 16, 317, 318, 150, 151, 15, 152, 120, 319, 180, 181, 182, 119, 42, 320, 321, 322, 323, 193, 194, 195, 196, 40, 41, 43, 123, 187, 2, 188, 968, 969, 970, 971, 972, 973, 974, 975, 976, 999, 1000, 1001, 1002, 1003, 1004, 1005, 1006, 1007, 1008, 1009, 1010, 1011] (by decide +kernel) (by decide +kernel)
set_option maxRecDepth 20000 in
theorem gL_law_X5_person : GoodIn wsL_law (wsV RL 31 RX5 yX5_person wsX5_person) := goodIn_app (goodIn_of _ (by decide +kernel)) ggL_law_X5_person
set_option maxRecDepth 20000 in
theorem ggL_law_X6_person : GoodIn wsL_law wsX6_person := goodIn_r _ [327, 73, 248, 249, 250, 5, 251, 222, 223, 224, 328, 329, 330, 256, 257, 258, 331, 332, 333, 288, 289, 290, 291, 292, 293, 294, 295, 296, 977, 978, 979, 980, 981, 982, 983, 984, 985, 986, 987, 988, 989, 990, 991, 992, 993, 994, 995, 996, 997, 998] (by decide +kernel) (by decide +kernel)
set_option maxRecDepth 20000 in
theorem gL_law_X6_person : GoodIn wsL_law (wsV RL 34 RX6 yX6_person wsX6_person) := goodIn_app (goodIn_of _ (by decide +kernel)) ggL_law_X6_person
set_option maxRecDepth 20000 in
theorem ggL_law_X5_loan : GoodIn wsL_law wsX5_loan := goodIn_r _ [337, 16, 338, 339, 340, 341, 342, 343, 344, 15, 345, 121, 346, 177, 2, 178, 968, 969, 970, 971, 972, 973, 974, 975, 976, 999, 1000, 1001, 1002, 1003, 1004, 1005, 1006, 1007, 1008, 1009, 1010, 1011] (by decide +kernel) (by decide +kernel)
set_option maxRecDepth 20000 in
theorem gL_law_X5_loan : GoodIn wsL_law (wsV RL 35 RX5 yX5_loan wsX5_loan) := goodIn_app (goodIn_of _ (by decide +kernel)) ggL_law_X5_loan
set_option maxRecDepth 20000 in
theorem ggL_law_X6_loan : GoodIn wsL_law wsX6_loan := goodIn_r _ [350, 73, 351, 352, 353, 5, 354, 222, 223, 224, 267, 268, 269, 977, 978, 979, 980, 981, 982, 983, 984, 985, 986, 987, 988, 989, 990, 991, 992, 993, 994, 995, 996, 997, 998] (by decide +kernel) (by decide +kernel)
set_option maxRecDepth 20000 in
theorem gL_law_X6_loan : GoodIn wsL_law (wsV RL 38 RX6 yX6_loan wsX6_loan) := goodIn_app (goodIn_of _ (by decide +kernel)) ggL_law_X6_loan
set_option maxRecDepth 20000 in
theorem ggL_law_X5_comes : GoodIn wsL_law wsX5_comes := goodIn_r _ [358, 16, 137, 138, 139, 15, 140, 120, 43, 968, 969, 970, 971, 972, 973, 974, 975, 976, 999, 1000, 1001, 1002, 1003, 1004, 1005, 1006, 1007, 1008, 1009, 1010, 1011] (by decide +kernel) (by decide +kernel)
set_option maxRecDepth 20000 in
theorem gL_law_X5_comes : GoodIn wsL_law (wsV RL 39 RX5 yX5_comes wsX5_comes) := goodIn_app (goodIn_of _ (by decide +kernel)) ggL_law_X5_comes
set_option maxRecDepth 20000 in
theorem ggL_law_X6_comes : GoodIn wsL_law wsX6_comes := goodIn_r _ [362, 73, 222, 223, 5, 224, 244, 245, 246, 247, 977, 978, 979, 980, 981, 982, 983, 984, 985, 986, 987, 988, 989, 990, 991, 992, 993, 994, 995, 996, 997, 998] (by decide +kernel) (by decide +kernel)
set_option maxRecDepth 20000 in
theorem gL_law_X6_comes : GoodIn wsL_law (wsV RL 42 RX6 yX6_comes wsX6_comes) := goodIn_app (goodIn_of _ (by decide +kernel)) ggL_law_X6_comes
set_option maxRecDepth 20000 in
theorem ggL_law_X5_brings : GoodIn wsL_law wsX5_brings := goodIn_r _ [366, 16, 20, 367, 368, 94, 95, 2, 96, 318, 150, 151, 15, 152, 120, 97, 98, 99, 22, 100, 101, 141, 142, 143, 144, 119, 40, 41, 42, 145, 146, 147, 148, 149, 968, 969, 970, 971, 972, 973, 974, 975, 976, 1012, 1013, 1014, 1015, 1016, 1017, 999, 1000, 1001, 1002, 1003, 1004, 1005, 1006, 1007, 1008, 1009, 1010, 1011] (by decide +kernel) (by decide +kernel)
set_option maxRecDepth 20000 in
theorem gL_law_X5_brings : GoodIn wsL_law (wsV RL 43 RX5 yX5_brings wsX5_brings) := goodIn_app (goodIn_of _ (by decide +kernel)) ggL_law_X5_brings
set_option maxRecDepth 20000 in
theorem ggL_law_X6_brings : GoodIn wsL_law wsX6_brings := goodIn_r _ [372, 73, 82, 83, 248, 249, 250, 5, 251, 222, 223, 224, 373, 374, 375, 376, 81, 219, 220, 221, 252, 253, 254, 255, 256, 257, 258, 977, 978, 979, 980, 981, 982, 983, 984, 985, 986, 987, 988, 989, 990, 991, 992, 993, 994, 995, 996, 997, 998] (by decide +kernel) (by decide +kernel)
set_option maxRecDepth 20000 in
theorem gL_law_X6_brings : GoodIn wsL_law (wsV RL 46 RX6 yX6_brings wsX6_brings) := goodIn_app (goodIn_of _ (by decide +kernel)) ggL_law_X6_brings
set_option maxRecDepth 20000 in
theorem ggL_law_X5_lends : GoodIn wsL_law wsX5_lends := goodIn_r _ [380, 16, 153, 154, 155, 15, 156, 42, 121, 44, 45, 46, 122, 157, 158, 159, 160, 119, 149, 150, 151, 152, 120, 968, 969, 970, 971, 972, 973, 974, 975, 976, 999, 1000, 1001, 1002, 1003, 1004, 1005, 1006, 1007, 1008, 1009, 1010, 1011] (by decide +kernel) (by decide +kernel)
set_option maxRecDepth 20000 in
theorem gL_law_X5_lends : GoodIn wsL_law (wsV RL 47 RX5 yX5_lends wsX5_lends) := goodIn_app (goodIn_of _ (by decide +kernel)) ggL_law_X5_lends
set_option maxRecDepth 20000 in
theorem ggL_law_X6_lends : GoodIn wsL_law wsX6_lends := goodIn_r _ [384, 73, 259, 260, 261, 5, 262, 222, 223, 224, 248, 249, 250, 251, 256, 257, 258, 263, 264, 265, 266, 267, 268, 269, 977, 978, 979, 980, 981, 982, 983, 984, 985, 986, 987, 988, 989, 990, 991, 992, 993, 994, 995, 996, 997, 998] (by decide +kernel) (by decide +kernel)
set_option maxRecDepth 20000 in
theorem gL_law_X6_lends : GoodIn wsL_law (wsV RL 50 RX6 yX6_lends wsX6_lends) := goodIn_app (goodIn_of _ (by decide +kernel)) ggL_law_X6_lends
set_option maxRecDepth 20000 in
theorem ggL_law_X5_pays : GoodIn wsL_law wsX5_pays := goodIn_r _ [388, 16, 341, 342, 343, 344, 15, 345, 121, 308, 158, 159, 160, 119, 389, 174, 175, 176, 122, 45, 44, 46, 177, 2, 178, 179, 180, 181, 182, 42, 183, 184, 185, 186, 43, 40, 41, 123, 47, 187, 188, 346, 390, 198, 199, 200, 391, 202, 203, 204, 205, 206, 207, 968, 969, 970, 971, 972, 973, 974, 975, 976, 999, 1000, 1001, 1002, 1003, 1004, 1005, 1006, 1007, 1008, 1009, 1010, 1011] (by decide +kernel) (by decide +kernel)
set_option maxRecDepth 20000 in
theorem gL_law_X5_pays : GoodIn wsL_law (wsV RL 51 RX5 yX5_pays wsX5_pays) := goodIn_app (goodIn_of _ (by decide +kernel)) ggL_law_X5_pays
set_option maxRecDepth 20000 in
theorem ggL_law_X6_pays : GoodIn wsL_law wsX6_pays := goodIn_r _ [395, 73, 351, 352, 353, 5, 354, 222, 223, 224, 259, 260, 261, 262, 279, 280, 281, 267, 268, 269, 256, 257, 258, 282, 283, 284, 285, 286, 287, 288, 289, 290, 291, 292, 293, 294, 295, 296, 297, 298, 299, 396, 397, 398, 399, 400, 401, 977, 978, 979, 980, 981, 982, 983, 984, 985, 986, 987, 988, 989, 990, 991, 992, 993, 994, 995, 996, 997, 998] (by decide +kernel) (by decide +kernel)
set_option maxRecDepth 20000 in
theorem gL_law_X6_pays : GoodIn wsL_law (wsV RL 54 RX6 yX6_pays wsX6_pays) := goodIn_app (goodIn_of _ (by decide +kernel)) ggL_law_X6_pays
set_option maxRecDepth 20000 in
theorem ggL_law_X5_sames : GoodIn wsL_law wsX5_sames := goodIn_r _ [405, 16, 161, 162, 163, 15, 164, 47, 145, 2, 146, 968, 969, 970, 971, 972, 973, 974, 975, 976, 999, 1000, 1001, 1002, 1003, 1004, 1005, 1006, 1007, 1008, 1009, 1010, 1011] (by decide +kernel) (by decide +kernel)
set_option maxRecDepth 20000 in
theorem gL_law_X5_sames : GoodIn wsL_law (wsV RL 55 RX5 yX5_sames wsX5_sames) := goodIn_app (goodIn_of _ (by decide +kernel)) ggL_law_X5_sames
set_option maxRecDepth 20000 in
theorem ggL_law_X6_sames : GoodIn wsL_law wsX6_sames := goodIn_r _ [409, 73, 222, 223, 5, 224, 977, 978, 979, 980, 981, 982, 983, 984, 985, 986, 987, 988, 989, 990, 991, 992, 993, 994, 995, 996, 997, 998] (by decide +kernel) (by decide +kernel)
set_option maxRecDepth 20000 in
theorem gL_law_X6_sames : GoodIn wsL_law (wsV RL 58 RX6 yX6_sames wsX6_sames) := goodIn_app (goodIn_of _ (by decide +kernel)) ggL_law_X6_sames
set_option maxRecDepth 20000 in
theorem ggL_law_X5_weeks : GoodIn wsL_law wsX5_weeks := goodIn_r _ [413, 16, 165, 166, 167, 15, 168, 123, 122, 169, 170, 171, 172, 121, 45, 173, 174, 175, 176, 44, 46, 177, 2, 178, 179, 180, 181, 182, 119, 42, 183, 184, 185, 186, 43, 40, 41, 47, 187, 188, 189, 190, 191, 192, 193, 194, 195, 196, 197, 198, 199, 200, 201, 202, 203, 204, 205, 206, 207, 968, 969, 970, 971, 972, 973, 974, 975, 976, 999, 1000, 1001, 1002, 1003, 1004, 1005, 1006, 1007, 1008, 1009, 1010, 1011] (by decide +kernel) (by decide +kernel)
set_option maxRecDepth 20000 in
theorem gL_law_X5_weeks : GoodIn wsL_law (wsV RL 59 RX5 yX5_weeks wsX5_weeks) := goodIn_app (goodIn_of _ (by decide +kernel)) ggL_law_X5_weeks
set_option maxRecDepth 20000 in
theorem ggL_law_X6_weeks : GoodIn wsL_law wsX6_weeks := goodIn_r _ [417, 73, 222, 223, 5, 224, 270, 271, 272, 273, 274, 275, 276, 277, 278, 267, 268, 269, 279, 280, 281, 256, 257, 258, 282, 283, 284, 285, 286, 287, 288, 289, 290, 291, 292, 293, 294, 295, 296, 297, 298, 299, 396, 397, 398, 399, 400, 401, 977, 978, 979, 980, 981, 982, 983, 984, 985, 986, 987, 988, 989, 990, 991, 992, 993, 994, 995, 996, 997, 998] (by decide +kernel) (by decide +kernel)
set_option maxRecDepth 20000 in
theorem gL_law_X6_weeks : GoodIn wsL_law (wsV RL 62 RX6 yX6_weeks wsX6_weeks) := goodIn_app (goodIn_of _ (by decide +kernel)) ggL_law_X6_weeks
set_option maxRecDepth 20000 in
theorem ggL_law_X5_worth : GoodIn wsL_law wsX5_worth := goodIn_r _ [421, 16, 318, 150, 151, 15, 152, 120, 308, 158, 159, 160, 119, 422, 194, 195, 196, 40, 41, 43, 123, 187, 2, 188, 968, 969, 970, 971, 972, 973, 974, 975, 976, 999, 1000, 1001, 1002, 1003, 1004, 1005, 1006, 1007, 1008, 1009, 1010, 1011] (by decide +kernel) (by decide +kernel)
set_option maxRecDepth 20000 in
theorem gL_law_X5_worth : GoodIn wsL_law (wsV RL 63 RX5 yX5_worth wsX5_worth) := goodIn_app (goodIn_of _ (by decide +kernel)) ggL_law_X5_worth
set_option maxRecDepth 20000 in
theorem ggL_law_X6_worth : GoodIn wsL_law wsX6_worth := goodIn_r _ [426, 73, 248, 249, 250, 5, 251, 222, 223, 224, 259, 260, 261, 262, 288, 289, 290, 256, 257, 258, 291, 292, 293, 294, 295, 296, 977, 978, 979, 980, 981, 982, 983, 984, 985, 986, 987, 988, 989, 990, 991, 992, 993, 994, 995, 996, 997, 998] (by decide +kernel) (by decide +kernel)
set_option maxRecDepth 20000 in
theorem gL_law_X6_worth : GoodIn wsL_law (wsV RL 66 RX6 yX6_worth wsX6_worth) := goodIn_app (goodIn_of _ (by decide +kernel)) ggL_law_X6_worth
set_option maxRecDepth 20000 in
theorem ggL_law_X5_would : GoodIn wsL_law wsX5_would := goodIn_r _ [430, 16, 318, 150, 151, 15, 152, 120, 308, 158, 159, 160, 119, 431, 432, 433, 434, 183, 184, 185, 186, 43, 40, 41, 123, 47, 187, 2, 188, 177, 178, 968, 969, 970, 971, 972, 973, 974, 975, 976, 999, 1000, 1001, 1002, 1003, 1004, 1005, 1006, 1007, 1008, 1009, 1010, 1011] (by decide +kernel) (by decide +kernel)
set_option maxRecDepth 20000 in
theorem gL_law_X5_would : GoodIn wsL_law (wsV RL 67 RX5 yX5_would wsX5_would) := goodIn_app (goodIn_of _ (by decide +kernel)) ggL_law_X5_would
set_option maxRecDepth 20000 in
theorem ggL_law_X6_would : GoodIn wsL_law wsX6_would := goodIn_r _ [438, 73, 248, 249, 250, 5, 251, 222, 223, 224, 259, 260, 261, 262, 282, 283, 284, 285, 286, 287, 256, 257, 258, 288, 289, 290, 291, 292, 293, 294, 295, 296, 977, 978, 979, 980, 981, 982, 983, 984, 985, 986, 987, 988, 989, 990, 991, 992, 993, 994, 995, 996, 997, 998] (by decide +kernel) (by decide +kernel)
set_option maxRecDepth 20000 in
theorem gL_law_X6_would : GoodIn wsL_law (wsV RL 71 RX6 yX6_would wsX6_would) := goodIn_app (goodIn_of _ (by decide +kernel)) ggL_law_X6_would
set_option maxRecDepth 20000 in
theorem ggL_law_X5_takes : GoodIn wsL_law wsX5_takes := goodIn_r _ [442, 16, 318, 150, 151, 15, 152, 120, 308, 158, 159, 160, 119, 443, 184, 185, 186, 43, 40, 41, 123, 47, 187, 2, 188, 968, 969, 970, 971, 972, 973, 974, 975, 976, 999, 1000, 1001, 1002, 1003, 1004, 1005, 1006, 1007, 1008, 1009, 1010, 1011] (by decide +kernel) (by decide +kernel)
set_option maxRecDepth 20000 in
theorem gL_law_X5_takes : GoodIn wsL_law (wsV RL 72 RX5 yX5_takes wsX5_takes) := goodIn_app (goodIn_of _ (by decide +kernel)) ggL_law_X5_takes
set_option maxRecDepth 20000 in
theorem ggL_law_X6_takes : GoodIn wsL_law wsX6_takes := goodIn_r _ [447, 248, 249, 250, 5, 251, 73, 222, 223, 224, 259, 260, 261, 262, 448, 449, 450, 451, 282, 283, 284, 285, 286, 287, 256, 257, 258, 288, 289, 290, 291, 292, 293, 294, 295, 296, 977, 978, 979, 980, 981, 982, 983, 984, 985, 986, 987, 988, 989, 990, 991, 992, 993, 994, 995, 996, 997, 998] (by decide +kernel) (by decide +kernel)
set_option maxRecDepth 20000 in
theorem gL_law_X6_takes : GoodIn wsL_law (wsV RL 75 RX6 yX6_takes wsX6_takes) := goodIn_app (goodIn_of _ (by decide +kernel)) ggL_law_X6_takes
set_option maxRecDepth 20000 in
theorem ggL_law_X5_canPay : GoodIn wsL_law wsX5_canPay := goodIn_r _ [455, 16, 342, 343, 344, 15, 345, 121, 389, 174, 175, 176, 122, 45, 44, 46, 177, 2, 178, 179, 180, 181, 182, 119, 42, 183, 184, 185, 186, 43, 40, 41, 123, 47, 187, 188, 968, 969, 970, 971, 972, 973, 974, 975, 976, 999, 1000, 1001, 1002, 1003, 1004, 1005, 1006, 1007, 1008, 1009, 1010, 1011] (by decide +kernel) (by decide +kernel)
set_option maxRecDepth 20000 in
theorem gL_law_X5_canPay : GoodIn wsL_law (wsV RL 76 RX5 yX5_canPay wsX5_canPay) := goodIn_app (goodIn_of _ (by decide +kernel)) ggL_law_X5_canPay
set_option maxRecDepth 20000 in
theorem ggL_law_X6_canPay : GoodIn wsL_law wsX6_canPay := goodIn_r _ [459, 73, 351, 352, 353, 5, 354, 222, 223, 224, 279, 280, 281, 267, 268, 269, 256, 257, 258, 282, 283, 284, 285, 286, 287, 288, 289, 290, 291, 292, 293, 294, 295, 296, 977, 978, 979, 980, 981, 982, 983, 984, 985, 986, 987, 988, 989, 990, 991, 992, 993, 994, 995, 996, 997, 998] (by decide +kernel) (by decide +kernel)
set_option maxRecDepth 20000 in
theorem gL_law_X6_canPay : GoodIn wsL_law (wsV RL 79 RX6 yX6_canPay wsX6_canPay) := goodIn_app (goodIn_of _ (by decide +kernel)) ggL_law_X6_canPay
set_option maxRecDepth 20000 in
theorem ggL_law_X5_bestPayment : GoodIn wsL_law wsX5_bestPayment := goodIn_r _ [463, 16, 338, 342, 343, 344, 15, 345, 121, 389, 174, 175, 176, 122, 45, 44, 46, 177, 2, 178, 179, 180, 181, 182, 119, 42, 183, 184, 185, 186, 43, 40, 41, 123, 47, 187, 188, 464, 190, 191, 192, 193, 194, 195, 196, 968, 969, 970, 971, 972, 973, 974, 975, 976, 999, 1000, 1001, 1002, 1003, 1004, 1005, 1006, 1007, 1008, 1009, 1010, 1011] (by decide +kernel) (by decide +kernel)
set_option maxRecDepth 20000 in
theorem gL_law_X5_bestPayment : GoodIn wsL_law (wsV RL 80 RX5 yX5_bestPayment wsX5_bestPayment) := goodIn_app (goodIn_of _ (by decide +kernel)) ggL_law_X5_bestPayment
set_option maxRecDepth 20000 in
theorem ggL_law_X6_bestPayment : GoodIn wsL_law wsX6_bestPayment := goodIn_r _ [468, 73, 351, 352, 353, 5, 354, 222, 223, 224, 267, 268, 269, 279, 280, 281, 256, 257, 258, 282, 283, 284, 285, 286, 287, 288, 289, 290, 291, 292, 293, 294, 295, 296, 977, 978, 979, 980, 981, 982, 983, 984, 985, 986, 987, 988, 989, 990, 991, 992, 993, 994, 995, 996, 997, 998] (by decide +kernel) (by decide +kernel)
set_option maxRecDepth 20000 in
theorem gL_law_X6_bestPayment : GoodIn wsL_law (wsV RL 83 RX6 yX6_bestPayment wsX6_bestPayment) := goodIn_app (goodIn_of _ (by decide +kernel)) ggL_law_X6_bestPayment
set_option maxRecDepth 20000 in
theorem ggL_law_X5_hasThen : GoodIn wsL_law wsX5_hasThen := goodIn_r _ [472, 16, 17, 306, 308, 158, 159, 15, 160, 119, 473, 474, 475, 2, 476, 111, 112, 113, 114, 40, 115, 116, 117, 118, 41, 42, 43, 120, 44, 45, 46, 121, 122, 47, 123, 477, 170, 171, 172, 173, 174, 175, 176, 177, 178, 179, 180, 181, 182, 183, 184, 185, 186, 187, 188, 189, 190, 191, 192, 193, 194, 195, 196, 197, 198, 199, 200, 968, 969, 970, 971, 972, 973, 974, 975, 976, 999, 1000, 1001, 1002, 1003, 1004, 1005, 1006, 1007, 1008, 1009, 1010, 1011] (by decide +kernel) (by decide +kernel)
set_option maxRecDepth 20000 in
theorem gL_law_X5_hasThen : GoodIn wsL_law (wsV RL 84 RX5 yX5_hasThen wsX5_hasThen) := goodIn_app (goodIn_of _ (by decide +kernel)) ggL_law_X5_hasThen
set_option maxRecDepth 20000 in
theorem ggL_law_X6_hasThen : GoodIn wsL_law wsX6_hasThen := goodIn_r _ [481, 73, 74, 259, 260, 261, 5, 262, 222, 223, 224, 237, 238, 239, 270, 271, 272, 273, 274, 275, 276, 277, 278, 267, 268, 269, 279, 280, 281, 256, 257, 258, 282, 283, 284, 285, 286, 287, 288, 289, 290, 291, 292, 293, 294, 295, 296, 297, 298, 299, 977, 978, 979, 980, 981, 982, 983, 984, 985, 986, 987, 988, 989, 990, 991, 992, 993, 994, 995, 996, 997, 998] (by decide +kernel) (by decide +kernel)
set_option maxRecDepth 20000 in
theorem gL_law_X6_hasThen : GoodIn wsL_law (wsV RL 87 RX6 yX6_hasThen wsX6_hasThen) := goodIn_app (goodIn_of _ (by decide +kernel)) ggL_law_X6_hasThen
set_option maxRecDepth 20000 in
theorem ggL_law_X5_openThen : GoodIn wsL_law wsX5_openThen := goodIn_r _ [485, 17, 341, 473, 474, 475, 2, 476, 16, 111, 112, 113, 15, 114, 40, 115, 116, 117, 118, 41, 42, 119, 43, 120, 44, 45, 46, 121, 122, 47, 123, 477, 170, 171, 172, 173, 174, 175, 176, 177, 178, 179, 180, 181, 182, 183, 184, 185, 186, 187, 188, 189, 190, 191, 192, 193, 194, 195, 196, 197, 198, 199, 200, 391, 202, 203, 204, 205, 206, 207, 968, 969, 970, 971, 972, 973, 974, 975, 976, 999, 1000, 1001, 1002, 1003, 1004, 1005, 1006, 1007, 1008, 1009, 1010, 1011] (by decide +kernel) (by decide +kernel)
set_option maxRecDepth 20000 in
theorem gL_law_X5_openThen : GoodIn wsL_law (wsV RL 88 RX5 yX5_openThen wsX5_openThen) := goodIn_app (goodIn_of _ (by decide +kernel)) ggL_law_X5_openThen
set_option maxRecDepth 20000 in
theorem ggL_law_X6_openThen : GoodIn wsL_law wsX6_openThen := goodIn_r _ [489, 73, 74, 222, 223, 5, 224, 237, 238, 239, 270, 271, 272, 273, 274, 275, 276, 277, 278, 267, 268, 269, 279, 280, 281, 256, 257, 258, 282, 283, 284, 285, 286, 287, 288, 289, 290, 291, 292, 293, 294, 295, 296, 297, 298, 299, 396, 397, 398, 399, 400, 401, 977, 978, 979, 980, 981, 982, 983, 984, 985, 986, 987, 988, 989, 990, 991, 992, 993, 994, 995, 996, 997, 998] (by decide +kernel) (by decide +kernel)
set_option maxRecDepth 20000 in
theorem gL_law_X6_openThen : GoodIn wsL_law (wsV RL 91 RX6 yX6_openThen wsX6_openThen) := goodIn_app (goodIn_of _ (by decide +kernel)) ggL_law_X6_openThen
set_option maxRecDepth 20000 in
theorem ggL_law_X5_cleared : GoodIn wsL_law wsX5_cleared := goodIn_r _ [493, 17, 16, 341, 111, 112, 113, 15, 114, 40, 115, 116, 117, 118, 41, 42, 119, 43, 120, 44, 45, 46, 121, 122, 47, 123, 477, 170, 171, 172, 173, 174, 175, 176, 177, 2, 178, 179, 180, 181, 182, 183, 184, 185, 186, 187, 188, 189, 190, 191, 192, 193, 194, 195, 196, 197, 198, 199, 200, 968, 969, 970, 971, 972, 973, 974, 975, 976, 999, 1000, 1001, 1002, 1003, 1004, 1005, 1006, 1007, 1008, 1009, 1010, 1011] (by decide +kernel) (by decide +kernel)
set_option maxRecDepth 20000 in
theorem gL_law_X5_cleared : GoodIn wsL_law (wsV RL 92 RX5 yX5_cleared wsX5_cleared) := goodIn_app (goodIn_of _ (by decide +kernel)) ggL_law_X5_cleared
set_option maxRecDepth 20000 in
theorem ggL_law_X6_cleared : GoodIn wsL_law wsX6_cleared := goodIn_r _ [497, 73, 74, 237, 238, 5, 239, 396, 397, 398, 267, 268, 269, 273, 274, 275, 276, 277, 278, 279, 280, 281, 256, 257, 258, 282, 283, 284, 285, 286, 287, 288, 289, 290, 291, 292, 293, 294, 295, 296, 297, 298, 299, 977, 978, 979, 980, 981, 982, 983, 984, 985, 986, 987, 988, 989, 990, 991, 992, 993, 994, 995, 996, 997, 998] (by decide +kernel) (by decide +kernel)
set_option maxRecDepth 20000 in
theorem gL_law_X6_cleared : GoodIn wsL_law (wsV RL 96 RX6 yX6_cleared wsX6_cleared) := goodIn_app (goodIn_of _ (by decide +kernel)) ggL_law_X6_cleared
set_option maxRecDepth 20000 in
theorem ggL_law_X5_richest : GoodIn wsL_law wsX5_richest := goodIn_r _ [501, 16, 502, 320, 321, 322, 15, 323, 119, 42, 193, 194, 195, 196, 40, 41, 43, 123, 187, 2, 188, 968, 969, 970, 971, 972, 973, 974, 975, 976, 999, 1000, 1001, 1002, 1003, 1004, 1005, 1006, 1007, 1008, 1009, 1010, 1011] (by decide +kernel) (by decide +kernel)
set_option maxRecDepth 20000 in
theorem gL_law_X5_richest : GoodIn wsL_law (wsV RL 97 RX5 yX5_richest wsX5_richest) := goodIn_app (goodIn_of _ (by decide +kernel)) ggL_law_X5_richest
set_option maxRecDepth 20000 in
theorem ggL_law_X6_richest : GoodIn wsL_law wsX6_richest := goodIn_r _ [506, 73, 331, 332, 5, 333, 256, 257, 258, 288, 289, 290, 291, 292, 293, 294, 295, 296, 977, 978, 979, 980, 981, 982, 983, 984, 985, 986, 987, 988, 989, 990, 991, 992, 993, 994, 995, 996, 997, 998] (by decide +kernel) (by decide +kernel)
set_option maxRecDepth 20000 in
theorem gL_law_X6_richest : GoodIn wsL_law (wsV RL 100 RX6 yX6_richest wsX6_richest) := goodIn_app (goodIn_of _ (by decide +kernel)) ggL_law_X6_richest
set_option maxRecDepth 20000 in
theorem ggL_law_X5_worst : GoodIn wsL_law wsX5_worst := goodIn_r _ [510, 16, 318, 150, 151, 15, 152, 120, 319, 180, 181, 182, 119, 42, 464, 190, 191, 192, 193, 194, 195, 196, 40, 41, 43, 123, 187, 2, 188, 177, 178, 968, 969, 970, 971, 972, 973, 974, 975, 976, 999, 1000, 1001, 1002, 1003, 1004, 1005, 1006, 1007, 1008, 1009, 1010, 1011] (by decide +kernel) (by decide +kernel)
set_option maxRecDepth 20000 in
theorem gL_law_X5_worst : GoodIn wsL_law (wsV RL 101 RX5 yX5_worst wsX5_worst) := goodIn_app (goodIn_of _ (by decide +kernel)) ggL_law_X5_worst
set_option maxRecDepth 20000 in
theorem ggL_law_X6_worst : GoodIn wsL_law wsX6_worst := goodIn_r _ [514, 248, 249, 250, 5, 251, 73, 222, 223, 224, 515, 516, 517, 518, 256, 257, 258, 288, 289, 290, 291, 292, 293, 294, 295, 296, 977, 978, 979, 980, 981, 982, 983, 984, 985, 986, 987, 988, 989, 990, 991, 992, 993, 994, 995, 996, 997, 998] (by decide +kernel) (by decide +kernel)
set_option maxRecDepth 20000 in
theorem gL_law_X6_worst : GoodIn wsL_law (wsV RL 104 RX6 yX6_worst wsX6_worst) := goodIn_app (goodIn_of _ (by decide +kernel)) ggL_law_X6_worst
set_option maxRecDepth 20000 in
theorem ggL_law_X5_chain : GoodIn wsL_law wsX5_chain := goodIn_r _ [522, 16, 26, 523, 318, 150, 151, 15, 152, 120, 308, 158, 159, 160, 119, 524, 525, 526, 25, 527, 528, 529, 55, 530, 184, 185, 186, 43, 40, 41, 123, 47, 187, 2, 188, 531, 532, 533, 534, 56, 535, 536, 537, 538, 177, 178, 539, 540, 541, 542, 968, 969, 970, 971, 972, 973, 974, 975, 976, 1018, 1019, 1020, 999, 1000, 1001, 1002, 1003, 1004, 1005, 1006, 1007, 1008, 1009, 1010, 1011] (by decide +kernel) (by decide +kernel)
set_option maxRecDepth 20000 in
theorem gL_law_X5_chain : GoodIn wsL_law (wsV RL 105 RX5 yX5_chain wsX5_chain) := goodIn_app (goodIn_of _ (by decide +kernel)) ggL_law_X5_chain
set_option maxRecDepth 20000 in
theorem ggL_law_X6_chain : GoodIn wsL_law wsX6_chain := goodIn_r _ [546, 73, 248, 249, 250, 5, 251, 222, 223, 224, 259, 260, 261, 262, 547, 548, 549, 550, 551, 552, 553, 448, 449, 450, 451, 282, 283, 284, 285, 286, 287, 256, 257, 258, 288, 289, 290, 291, 292, 293, 294, 295, 296, 977, 978, 979, 980, 981, 982, 983, 984, 985, 986, 987, 988, 989, 990, 991, 992, 993, 994, 995, 996, 997, 998] (by decide +kernel) (by decide +kernel)
set_option maxRecDepth 20000 in
theorem gL_law_X6_chain : GoodIn wsL_law (wsV RL 109 RX6 yX6_chain wsX6_chain) := goodIn_app (goodIn_of _ (by decide +kernel)) ggL_law_X6_chain
set_option maxRecDepth 20000 in
theorem ggL_law_X5_climb : GoodIn wsL_law wsX5_climb := goodIn_r _ [557, 16, 26, 318, 150, 151, 15, 152, 120, 308, 158, 159, 160, 119, 524, 525, 526, 25, 527, 528, 529, 55, 530, 184, 185, 186, 43, 40, 41, 123, 47, 187, 2, 188, 558, 559, 560, 561, 177, 178, 464, 190, 191, 192, 193, 194, 195, 196, 422, 968, 969, 970, 971, 972, 973, 974, 975, 976, 999, 1000, 1001, 1002, 1003, 1004, 1005, 1006, 1007, 1008, 1009, 1010, 1011, 1018, 1019, 1020] (by decide +kernel) (by decide +kernel)
set_option maxRecDepth 20000 in
theorem gL_law_X5_climb : GoodIn wsL_law (wsV RL 110 RX5 yX5_climb wsX5_climb) := goodIn_app (goodIn_of _ (by decide +kernel)) ggL_law_X5_climb
set_option maxRecDepth 20000 in
theorem ggL_law_X6_climb : GoodIn wsL_law wsX6_climb := goodIn_r _ [565, 73, 248, 249, 250, 5, 251, 222, 223, 224, 259, 260, 261, 262, 547, 548, 549, 550, 551, 552, 553, 448, 449, 450, 451, 282, 283, 284, 285, 286, 287, 256, 257, 258, 288, 289, 290, 291, 292, 293, 294, 295, 296, 977, 978, 979, 980, 981, 982, 983, 984, 985, 986, 987, 988, 989, 990, 991, 992, 993, 994, 995, 996, 997, 998] (by decide +kernel) (by decide +kernel)
set_option maxRecDepth 20000 in
theorem gL_law_X6_climb : GoodIn wsL_law (wsV RL 113 RX6 yX6_climb wsX6_climb) := goodIn_app (goodIn_of _ (by decide +kernel)) ggL_law_X6_climb
set_option maxRecDepth 20000 in
theorem ggL_law_X5_clearing : GoodIn wsL_law wsX5_clearing := goodIn_r _ [569, 16, 30, 342, 343, 344, 15, 345, 121, 570, 571, 572, 29, 573, 574, 575, 60, 576, 62, 577, 174, 175, 176, 122, 45, 44, 46, 177, 2, 178, 179, 180, 181, 182, 119, 42, 183, 184, 185, 186, 43, 40, 41, 123, 47, 187, 188, 578, 579, 580, 581, 582, 583, 584, 585, 586, 587, 346, 588, 589, 590, 591, 592, 593, 594, 595, 968, 969, 970, 971, 972, 973, 974, 975, 976, 999, 1000, 1001, 1002, 1003, 1004, 1005, 1006, 1007, 1008, 1009, 1010, 1011, 1021, 1022, 1023] (by decide +kernel) (by decide +kernel)
set_option maxRecDepth 20000 in
theorem gL_law_X5_clearing : GoodIn wsL_law (wsV RL 114 RX5 yX5_clearing wsX5_clearing) := goodIn_app (goodIn_of _ (by decide +kernel)) ggL_law_X5_clearing
set_option maxRecDepth 20000 in
theorem ggL_law_X6_clearing : GoodIn wsL_law wsX6_clearing := goodIn_r _ [599, 600, 79, 351, 352, 353, 5, 354, 73, 222, 223, 224, 601, 602, 603, 604, 78, 551, 552, 553, 279, 280, 281, 267, 268, 269, 256, 257, 258, 282, 283, 284, 285, 286, 287, 288, 289, 290, 291, 292, 293, 294, 295, 296, 977, 978, 979, 980, 981, 982, 983, 984, 985, 986, 987, 988, 989, 990, 991, 992, 993, 994, 995, 996, 997, 998] (by decide +kernel) (by decide +kernel)
set_option maxRecDepth 20000 in
theorem gL_law_X6_clearing : GoodIn wsL_law (wsV RL 117 RX6 yX6_clearing wsX6_clearing) := goodIn_app (goodIn_of _ (by decide +kernel)) ggL_law_X6_clearing
set_option maxRecDepth 20000 in
theorem ggL_law_X5_quarrel : GoodIn wsL_law wsX5_quarrel := goodIn_r _ [608, 16, 308, 158, 159, 15, 160, 119, 609, 610, 611, 612, 120, 193, 194, 195, 196, 40, 41, 43, 123, 187, 2, 188, 968, 969, 970, 971, 972, 973, 974, 975, 976, 999, 1000, 1001, 1002, 1003, 1004, 1005, 1006, 1007, 1008, 1009, 1010, 1011] (by decide +kernel) (by decide +kernel)
set_option maxRecDepth 20000 in
theorem gL_law_X5_quarrel : GoodIn wsL_law (wsV RL 118 RX5 yX5_quarrel wsX5_quarrel) := goodIn_app (goodIn_of _ (by decide +kernel)) ggL_law_X5_quarrel
set_option maxRecDepth 20000 in
theorem ggL_law_X6_quarrel : GoodIn wsL_law wsX6_quarrel := goodIn_r _ [616, 73, 259, 260, 261, 5, 262, 222, 223, 224, 617, 618, 619, 288, 289, 290, 256, 257, 258, 291, 292, 293, 294, 295, 296, 977, 978, 979, 980, 981, 982, 983, 984, 985, 986, 987, 988, 989, 990, 991, 992, 993, 994, 995, 996, 997, 998] (by decide +kernel) (by decide +kernel)
set_option maxRecDepth 20000 in
theorem gL_law_X6_quarrel : GoodIn wsL_law (wsV RL 121 RX6 yX6_quarrel wsX6_quarrel) := goodIn_app (goodIn_of _ (by decide +kernel)) ggL_law_X6_quarrel
set_option maxRecDepth 20000 in
theorem ggL_law_X5_shortest : GoodIn wsL_law wsX5_shortest := goodIn_r _ [623, 20, 34, 624, 94, 95, 2, 96, 97, 98, 99, 22, 100, 101, 625, 626, 627, 92, 93, 628, 145, 146, 629, 630, 631, 33, 632, 633, 634, 635, 636, 66, 67, 637, 638, 639, 640, 641, 642, 643, 644, 586, 645, 646, 647, 648, 649, 177, 178, 650, 651, 652, 653, 654, 655, 656, 657, 68, 968, 969, 970, 971, 972, 973, 974, 975, 976, 1024, 1025, 1026, 1012, 1013, 1014, 1015, 1016, 1017] (by decide +kernel) (by decide +kernel)
set_option maxRecDepth 20000 in
theorem gL_law_X5_shortest : GoodIn wsL_law (wsV RL 122 RX5 yX5_shortest wsX5_shortest) := goodIn_app (goodIn_of _ (by decide +kernel)) ggL_law_X5_shortest
set_option maxRecDepth 20000 in
theorem ggL_law_X6_shortest : GoodIn wsL_law wsX6_shortest := goodIn_r _ [661, 85, 86, 662, 80, 222, 223, 5, 224, 215, 216, 217, 218, 81, 84, 219, 220, 221, 663, 664, 665, 666, 667, 668, 669, 670, 977, 978, 979, 980, 981, 982, 983, 984, 985, 986, 987, 988, 989, 990, 991, 992, 993, 994, 995, 996, 997, 998] (by decide +kernel) (by decide +kernel)
set_option maxRecDepth 20000 in
theorem gL_law_X6_shortest : GoodIn wsL_law (wsV RL 125 RX6 yX6_shortest wsX6_shortest) := goodIn_app (goodIn_of _ (by decide +kernel)) ggL_law_X6_shortest
set_option maxRecDepth 20000 in
theorem ggL_law_X5_lent : GoodIn wsL_law wsX5_lent := goodIn_r _ [674, 16, 20, 675, 94, 95, 2, 96, 318, 150, 151, 15, 152, 120, 97, 98, 99, 22, 100, 101, 676, 677, 678, 679, 92, 93, 308, 158, 159, 160, 119, 680, 681, 682, 443, 184, 185, 186, 43, 40, 41, 123, 47, 187, 188, 391, 202, 203, 204, 205, 206, 207, 968, 969, 970, 971, 972, 973, 974, 975, 976, 999, 1000, 1001, 1002, 1003, 1004, 1005, 1006, 1007, 1008, 1009, 1010, 1011, 1012, 1013, 1014, 1015, 1016, 1017] (by decide +kernel) (by decide +kernel)
set_option maxRecDepth 20000 in
theorem gL_law_X5_lent : GoodIn wsL_law (wsV RL 126 RX5 yX5_lent wsX5_lent) := goodIn_app (goodIn_of _ (by decide +kernel)) ggL_law_X5_lent
set_option maxRecDepth 20000 in
theorem ggL_law_X6_lent : GoodIn wsL_law wsX6_lent := goodIn_r _ [686, 85, 86, 73, 248, 249, 250, 5, 251, 222, 223, 224, 215, 216, 217, 218, 81, 84, 219, 220, 221, 259, 260, 261, 262, 282, 283, 284, 285, 286, 287, 256, 257, 258, 288, 289, 290, 291, 292, 293, 294, 295, 296, 399, 400, 401, 977, 978, 979, 980, 981, 982, 983, 984, 985, 986, 987, 988, 989, 990, 991, 992, 993, 994, 995, 996, 997, 998] (by decide +kernel) (by decide +kernel)
set_option maxRecDepth 20000 in
theorem gL_law_X6_lent : GoodIn wsL_law (wsV RL 129 RX6 yX6_lent wsX6_lent) := goodIn_app (goodIn_of _ (by decide +kernel)) ggL_law_X6_lent
set_option maxRecDepth 20000 in
theorem ggL_law_X5_whatIs : GoodIn wsL_law wsX5_whatIs := goodIn_r _ [690, 16, 20, 304, 305, 317, 94, 95, 2, 96, 318, 150, 151, 15, 152, 120, 308, 158, 159, 160, 119, 97, 98, 99, 22, 100, 101, 691, 692, 693, 694, 92, 93, 695, 696, 697, 698, 699, 700, 51, 701, 702, 187, 188, 968, 969, 970, 971, 972, 973, 974, 975, 976, 999, 1000, 1001, 1002, 1003, 1004, 1005, 1006, 1007, 1008, 1009, 1010, 1011, 1012, 1013, 1014, 1015, 1016, 1017] (by decide +kernel) (by decide +kernel)
set_option maxRecDepth 20000 in
theorem gL_law_X5_whatIs : GoodIn wsL_law (wsV RL 130 RX5 yX5_whatIs wsX5_whatIs) := goodIn_app (goodIn_of _ (by decide +kernel)) ggL_law_X5_whatIs
set_option maxRecDepth 20000 in
theorem ggL_law_X6_whatIs : GoodIn wsL_law wsX6_whatIs := goodIn_r _ [706, 85, 86, 84, 73, 248, 249, 250, 5, 251, 222, 223, 224, 259, 260, 261, 262, 215, 216, 217, 218, 81, 219, 220, 221, 707, 708, 709, 710, 256, 257, 258, 291, 292, 293, 294, 295, 296, 977, 978, 979, 980, 981, 982, 983, 984, 985, 986, 987, 988, 989, 990, 991, 992, 993, 994, 995, 996, 997, 998] (by decide +kernel) (by decide +kernel)
set_option maxRecDepth 20000 in
theorem gL_law_X6_whatIs : GoodIn wsL_law (wsV RL 133 RX6 yX6_whatIs wsX6_whatIs) := goodIn_app (goodIn_of _ (by decide +kernel)) ggL_law_X6_whatIs
set_option maxRecDepth 20000 in
theorem ggL_law_X5_tastes : GoodIn wsL_law wsX5_tastes := goodIn_r _ [714, 16, 20, 92, 675, 94, 95, 2, 96, 318, 150, 151, 15, 152, 120, 97, 98, 99, 22, 100, 101, 715, 716, 717, 718, 93, 304, 305, 695, 696, 697, 698, 699, 700, 51, 701, 702, 187, 188, 968, 969, 970, 971, 972, 973, 974, 975, 976, 1012, 1013, 1014, 1015, 1016, 1017, 999, 1000, 1001, 1002, 1003, 1004, 1005, 1006, 1007, 1008, 1009, 1010, 1011] (by decide +kernel) (by decide +kernel)
set_option maxRecDepth 20000 in
theorem gL_law_X5_tastes : GoodIn wsL_law (wsV RL 134 RX5 yX5_tastes wsX5_tastes) := goodIn_app (goodIn_of _ (by decide +kernel)) ggL_law_X5_tastes
set_option maxRecDepth 20000 in
theorem ggL_law_X6_tastes : GoodIn wsL_law wsX6_tastes := goodIn_r _ [722, 85, 73, 74, 86, 84, 248, 249, 250, 5, 251, 222, 223, 224, 215, 216, 217, 218, 81, 219, 220, 221, 237, 238, 239, 707, 708, 709, 710, 288, 289, 290, 256, 257, 258, 291, 292, 293, 294, 295, 296, 977, 978, 979, 980, 981, 982, 983, 984, 985, 986, 987, 988, 989, 990, 991, 992, 993, 994, 995, 996, 997, 998] (by decide +kernel) (by decide +kernel)
set_option maxRecDepth 20000 in
theorem gL_law_X6_tastes : GoodIn wsL_law (wsV RL 137 RX6 yX6_tastes wsX6_tastes) := goodIn_app (goodIn_of _ (by decide +kernel)) ggL_law_X6_tastes
set_option maxRecDepth 20000 in
theorem ggL_law_X5_two : GoodIn wsL_law wsX5_two := goodIn_r _ [726, 16, 318, 150, 151, 15, 152, 120, 319, 180, 181, 182, 119, 42, 464, 190, 191, 192, 193, 194, 195, 196, 40, 41, 43, 123, 187, 2, 188, 177, 178, 727, 728, 729, 730, 731, 732, 733, 734, 422, 968, 969, 970, 971, 972, 973, 974, 975, 976, 999, 1000, 1001, 1002, 1003, 1004, 1005, 1006, 1007, 1008, 1009, 1010, 1011] (by decide +kernel) (by decide +kernel)
set_option maxRecDepth 20000 in
theorem gL_law_X5_two : GoodIn wsL_law (wsV RL 138 RX5 yX5_two wsX5_two) := goodIn_app (goodIn_of _ (by decide +kernel)) ggL_law_X5_two
set_option maxRecDepth 20000 in
theorem ggL_law_X6_two : GoodIn wsL_law wsX6_two := goodIn_r _ [738, 248, 249, 250, 5, 251, 73, 222, 223, 224, 515, 516, 517, 518, 256, 257, 258, 288, 289, 290, 291, 292, 293, 294, 295, 296, 739, 740, 741, 742, 977, 978, 979, 980, 981, 982, 983, 984, 985, 986, 987, 988, 989, 990, 991, 992, 993, 994, 995, 996, 997, 998] (by decide +kernel) (by decide +kernel)
set_option maxRecDepth 20000 in
theorem gL_law_X6_two : GoodIn wsL_law (wsV RL 141 RX6 yX6_two wsX6_two) := goodIn_app (goodIn_of _ (by decide +kernel)) ggL_law_X6_two
set_option maxRecDepth 20000 in
theorem ggL_law_X5_market : GoodIn wsL_law wsX5_market := goodIn_r _ [746, 16, 747, 502, 318, 150, 151, 15, 152, 120, 308, 158, 159, 160, 119, 443, 184, 185, 186, 43, 40, 41, 123, 47, 187, 2, 188, 319, 180, 181, 182, 42, 748, 749, 750, 751, 752, 753, 968, 969, 970, 971, 972, 973, 974, 975, 976, 999, 1000, 1001, 1002, 1003, 1004, 1005, 1006, 1007, 1008, 1009, 1010, 1011] (by decide +kernel) (by decide +kernel)
set_option maxRecDepth 20000 in
theorem gL_law_X5_market : GoodIn wsL_law (wsV RL 142 RX5 yX5_market wsX5_market) := goodIn_app (goodIn_of _ (by decide +kernel)) ggL_law_X5_market
set_option maxRecDepth 20000 in
theorem ggL_law_X6_market : GoodIn wsL_law wsX6_market := goodIn_r _ [757, 758, 73, 248, 249, 250, 5, 251, 222, 223, 224, 259, 260, 261, 262, 448, 449, 450, 451, 282, 283, 284, 285, 286, 287, 256, 257, 258, 288, 289, 290, 291, 292, 293, 294, 295, 296, 328, 329, 330, 759, 760, 761, 762, 763, 764, 977, 978, 979, 980, 981, 982, 983, 984, 985, 986, 987, 988, 989, 990, 991, 992, 993, 994, 995, 996, 997, 998] (by decide +kernel) (by decide +kernel)
set_option maxRecDepth 20000 in
theorem gL_law_X6_market : GoodIn wsL_law (wsV RL 146 RX6 yX6_market wsX6_market) := goodIn_app (goodIn_of _ (by decide +kernel)) ggL_law_X6_market
set_option maxRecDepth 20000 in
theorem ggL_law_X5_mean : GoodIn wsL_law wsX5_mean := goodIn_r _ [768, 16, 747, 675, 318, 150, 151, 15, 152, 120, 422, 194, 195, 196, 40, 41, 43, 123, 187, 2, 188, 748, 749, 750, 751, 752, 753, 968, 969, 970, 971, 972, 973, 974, 975, 976, 999, 1000, 1001, 1002, 1003, 1004, 1005, 1006, 1007, 1008, 1009, 1010, 1011] (by decide +kernel) (by decide +kernel)
set_option maxRecDepth 20000 in
theorem gL_law_X5_mean : GoodIn wsL_law (wsV RL 147 RX5 yX5_mean wsX5_mean) := goodIn_app (goodIn_of _ (by decide +kernel)) ggL_law_X5_mean
set_option maxRecDepth 20000 in
theorem ggL_law_X6_mean : GoodIn wsL_law wsX6_mean := goodIn_r _ [772, 758, 73, 248, 249, 250, 5, 251, 222, 223, 224, 288, 289, 290, 256, 257, 258, 291, 292, 293, 294, 295, 296, 759, 760, 761, 762, 763, 764, 977, 978, 979, 980, 981, 982, 983, 984, 985, 986, 987, 988, 989, 990, 991, 992, 993, 994, 995, 996, 997, 998] (by decide +kernel) (by decide +kernel)
set_option maxRecDepth 20000 in
theorem gL_law_X6_mean : GoodIn wsL_law (wsV RL 150 RX6 yX6_mean wsX6_mean) := goodIn_app (goodIn_of _ (by decide +kernel)) ggL_law_X6_mean
set_option maxRecDepth 20000 in
theorem ggL_law_X5_forged : GoodIn wsL_law wsX5_forged := goodIn_r _ [776, 16, 20, 92, 93, 94, 95, 2, 96, 318, 150, 151, 15, 152, 120, 97, 98, 99, 22, 100, 101, 308, 158, 159, 160, 119, 431, 432, 433, 434, 183, 184, 185, 186, 43, 40, 41, 123, 47, 187, 188, 177, 178, 968, 969, 970, 971, 972, 973, 974, 975, 976, 1012, 1013, 1014, 1015, 1016, 1017, 999, 1000, 1001, 1002, 1003, 1004, 1005, 1006, 1007, 1008, 1009, 1010, 1011] (by decide +kernel) (by decide +kernel)
set_option maxRecDepth 20000 in
theorem gL_law_X5_forged : GoodIn wsL_law (wsV RL 151 RX5 yX5_forged wsX5_forged) := goodIn_app (goodIn_of _ (by decide +kernel)) ggL_law_X5_forged
set_option maxRecDepth 20000 in
theorem ggL_law_X6_forged : GoodIn wsL_law wsX6_forged := goodIn_r _ [780, 85, 86, 73, 248, 249, 250, 5, 251, 222, 223, 224, 215, 216, 217, 218, 81, 84, 219, 220, 221, 259, 260, 261, 262, 282, 283, 284, 285, 286, 287, 256, 257, 258, 288, 289, 290, 291, 292, 293, 294, 295, 296, 977, 978, 979, 980, 981, 982, 983, 984, 985, 986, 987, 988, 989, 990, 991, 992, 993, 994, 995, 996, 997, 998] (by decide +kernel) (by decide +kernel)
set_option maxRecDepth 20000 in
theorem gL_law_X6_forged : GoodIn wsL_law (wsV RL 154 RX6 yX6_forged wsX6_forged) := goodIn_app (goodIn_of _ (by decide +kernel)) ggL_law_X6_forged
set_option maxRecDepth 20000 in
theorem ggL_law_X5_judge : GoodIn wsL_law wsX5_judge := goodIn_r _ [784, 20, 17, 16, 92, 93, 341, 94, 95, 2, 96, 97, 98, 99, 22, 100, 101, 111, 112, 113, 15, 114, 40, 115, 116, 117, 118, 41, 42, 119, 43, 120, 44, 45, 46, 121, 122, 47, 123, 696, 697, 698, 699, 700, 51, 701, 391, 202, 203, 204, 205, 206, 207, 477, 170, 171, 172, 173, 174, 175, 176, 177, 178, 179, 180, 181, 182, 183, 184, 185, 186, 187, 188, 189, 190, 191, 192, 193, 194, 195, 196, 197, 198, 199, 200, 968, 969, 970, 971, 972, 973, 974, 975, 976, 1012, 1013, 1014, 1015, 1016, 1017, 999, 1000, 1001, 1002, 1003, 1004, 1005, 1006, 1007, 1008, 1009, 1010, 1011] (by decide +kernel) (by decide +kernel)
set_option maxRecDepth 20000 in
theorem gL_law_X5_judge : GoodIn wsL_law (wsV RL 155 RX5 yX5_judge wsX5_judge) := goodIn_app (goodIn_of _ (by decide +kernel)) ggL_law_X5_judge
set_option maxRecDepth 20000 in
theorem ggL_law_X6_judge : GoodIn wsL_law wsX6_judge := goodIn_r _ [788, 73, 74, 85, 86, 84, 215, 216, 217, 5, 218, 81, 219, 220, 221, 222, 223, 224, 237, 238, 239, 707, 708, 709, 710, 396, 397, 398, 267, 268, 269, 399, 400, 401, 273, 274, 275, 276, 277, 278, 279, 280, 281, 256, 257, 258, 282, 283, 284, 285, 286, 287, 288, 289, 290, 291, 292, 293, 294, 295, 296, 297, 298, 299, 977, 978, 979, 980, 981, 982, 983, 984, 985, 986, 987, 988, 989, 990, 991, 992, 993, 994, 995, 996, 997, 998] (by decide +kernel) (by decide +kernel)
set_option maxRecDepth 20000 in
theorem gL_law_X6_judge : GoodIn wsL_law (wsV RL 158 RX6 yX6_judge wsX6_judge) := goodIn_app (goodIn_of _ (by decide +kernel)) ggL_law_X6_judge
set_option maxRecDepth 20000 in
theorem ggL_law_X5_towns : GoodIn wsL_law wsX5_towns := goodIn_r _ [792, 16, 502, 793, 17, 794, 795, 796, 2, 797, 675, 306, 317, 111, 112, 113, 15, 114, 40, 115, 116, 117, 118, 41, 42, 119, 43, 120, 44, 45, 46, 121, 122, 47, 123, 798, 799, 800, 801, 802, 803, 804, 805, 806, 807, 808, 809, 610, 611, 612, 193, 194, 195, 196, 187, 188, 810, 811, 812, 813, 814, 321, 322, 323, 968, 969, 970, 971, 972, 973, 974, 975, 976, 999, 1000, 1001, 1002, 1003, 1004, 1005, 1006, 1007, 1008, 1009, 1010, 1011] (by decide +kernel) (by decide +kernel)
set_option maxRecDepth 20000 in
theorem gL_law_X5_towns : GoodIn wsL_law (wsV RL 159 RX5 yX5_towns wsX5_towns) := goodIn_app (goodIn_of _ (by decide +kernel)) ggL_law_X5_towns
set_option maxRecDepth 20000 in
theorem ggL_law_X6_towns : GoodIn wsL_law wsX6_towns := goodIn_r _ [818, 73, 819, 74, 222, 223, 5, 224, 237, 238, 239, 256, 257, 258, 820, 821, 822, 823, 824, 825, 826, 827, 828, 829, 617, 618, 619, 288, 289, 290, 291, 292, 293, 294, 295, 296, 830, 831, 832, 331, 332, 333, 977, 978, 979, 980, 981, 982, 983, 984, 985, 986, 987, 988, 989, 990, 991, 992, 993, 994, 995, 996, 997, 998] (by decide +kernel) (by decide +kernel)
set_option maxRecDepth 20000 in
theorem gL_law_X6_towns : GoodIn wsL_law (wsV RL 162 RX6 yX6_towns wsX6_towns) := goodIn_app (goodIn_of _ (by decide +kernel)) ggL_law_X6_towns
set_option maxRecDepth 20000 in
theorem ggL_law_X5_image : GoodIn wsL_law wsX5_image := goodIn_r _ [836, 18, 16, 837, 695, 111, 112, 113, 15, 114, 40, 115, 116, 117, 118, 41, 42, 119, 43, 120, 44, 45, 46, 121, 122, 47, 123, 968, 969, 970, 971, 972, 973, 974, 975, 976, 999, 1000, 1001, 1002, 1003, 1004, 1005, 1006, 1007, 1008, 1009, 1010, 1011] (by decide +kernel) (by decide +kernel)
set_option maxRecDepth 20000 in
theorem gL_law_X5_image : GoodIn wsL_law (wsV RL 163 RX5 yX5_image wsX5_image) := goodIn_app (goodIn_of _ (by decide +kernel)) ggL_law_X5_image
set_option maxRecDepth 20000 in
theorem ggL_law_X6_image : GoodIn wsL_law wsX6_image := goodIn_r _ [841, 73, 75, 842, 237, 238, 5, 239, 977, 978, 979, 980, 981, 982, 983, 984, 985, 986, 987, 988, 989, 990, 991, 992, 993, 994, 995, 996, 997, 998] (by decide +kernel) (by decide +kernel)
set_option maxRecDepth 20000 in
theorem gL_law_X6_image : GoodIn wsL_law (wsV RL 166 RX6 yX6_image wsX6_image) := goodIn_app (goodIn_of _ (by decide +kernel)) ggL_law_X6_image
set_option maxRecDepth 20000 in
theorem ggL_law_X5_restore : GoodIn wsL_law wsX5_restore := goodIn_r _ [846, 837, 16, 18, 695, 111, 112, 113, 15, 114, 40, 115, 116, 117, 118, 41, 42, 119, 43, 120, 44, 45, 46, 121, 122, 47, 123, 968, 969, 970, 971, 972, 973, 974, 975, 976, 999, 1000, 1001, 1002, 1003, 1004, 1005, 1006, 1007, 1008, 1009, 1010, 1011] (by decide +kernel) (by decide +kernel)
set_option maxRecDepth 20000 in
theorem gL_law_X5_restore : GoodIn wsL_law (wsV RL 167 RX5 yX5_restore wsX5_restore) := goodIn_app (goodIn_of _ (by decide +kernel)) ggL_law_X5_restore
set_option maxRecDepth 20000 in
theorem ggL_law_X6_restore : GoodIn wsL_law wsX6_restore := goodIn_r _ [850, 842, 75, 73, 237, 238, 5, 239, 977, 978, 979, 980, 981, 982, 983, 984, 985, 986, 987, 988, 989, 990, 991, 992, 993, 994, 995, 996, 997, 998] (by decide +kernel) (by decide +kernel)
set_option maxRecDepth 20000 in
theorem gL_law_X6_restore : GoodIn wsL_law (wsV RL 170 RX6 yX6_restore wsX6_restore) := goodIn_app (goodIn_of _ (by decide +kernel)) ggL_law_X6_restore
set_option maxRecDepth 20000 in
theorem ggL_law_X5_count : GoodIn wsL_law wsX5_count := goodIn_r _ [854, 16, 675, 502, 855, 341, 695, 856, 857, 858, 15, 859, 47, 201, 202, 203, 204, 205, 206, 207, 810, 811, 812, 813, 120, 814, 321, 322, 323, 119, 42, 193, 194, 195, 196, 40, 41, 43, 123, 187, 2, 188, 968, 969, 970, 971, 972, 973, 974, 975, 976, 999, 1000, 1001, 1002, 1003, 1004, 1005, 1006, 1007, 1008, 1009, 1010, 1011] (by decide +kernel) (by decide +kernel)
set_option maxRecDepth 20000 in
theorem gL_law_X5_count : GoodIn wsL_law (wsV RL 171 RX5 yX5_count wsX5_count) := goodIn_app (goodIn_of _ (by decide +kernel)) ggL_law_X5_count
set_option maxRecDepth 20000 in
theorem ggL_law_X6_count : GoodIn wsL_law wsX6_count := goodIn_r _ [863, 73, 222, 223, 5, 224, 396, 397, 398, 267, 268, 269, 399, 400, 401, 830, 831, 832, 331, 332, 333, 256, 257, 258, 288, 289, 290, 291, 292, 293, 294, 295, 296, 977, 978, 979, 980, 981, 982, 983, 984, 985, 986, 987, 988, 989, 990, 991, 992, 993, 994, 995, 996, 997, 998] (by decide +kernel) (by decide +kernel)
set_option maxRecDepth 20000 in
theorem gL_law_X6_count : GoodIn wsL_law (wsV RL 174 RX6 yX6_count wsX6_count) := goodIn_app (goodIn_of _ (by decide +kernel)) ggL_law_X6_count
set_option maxRecDepth 20000 in
theorem ggL_law_X5_keep : GoodIn wsL_law wsX5_keep := goodIn_r _ [867, 20, 868, 94, 95, 2, 96, 628, 145, 146, 869, 147, 148, 870, 871, 872, 22, 873, 101, 874, 875, 968, 969, 970, 971, 972, 973, 974, 975, 976, 1012, 1013, 1014, 1015, 1016, 1017] (by decide +kernel) (by decide +kernel)
set_option maxRecDepth 20000 in
theorem gL_law_X5_keep : GoodIn wsL_law (wsV RL 175 RX5 yX5_keep wsX5_keep) := goodIn_app (goodIn_of _ (by decide +kernel)) ggL_law_X5_keep
set_option maxRecDepth 20000 in
theorem ggL_law_X6_keep : GoodIn wsL_law wsX6_keep := goodIn_r _ [879, 81, 82, 83, 219, 220, 5, 221, 222, 223, 224, 977, 978, 979, 980, 981, 982, 983, 984, 985, 986, 987, 988, 989, 990, 991, 992, 993, 994, 995, 996, 997, 998] (by decide +kernel) (by decide +kernel)
set_option maxRecDepth 20000 in
theorem gL_law_X6_keep : GoodIn wsL_law (wsV RL 178 RX6 yX6_keep wsX6_keep) := goodIn_app (goodIn_of _ (by decide +kernel)) ggL_law_X6_keep
set_option maxRecDepth 20000 in
theorem ggL_law_X5_row : GoodIn wsL_law wsX5_row := goodIn_r _ [883, 20, 94, 95, 2, 96, 884, 885, 886, 22, 887, 101, 700, 136, 51, 968, 969, 970, 971, 972, 973, 974, 975, 976, 1012, 1013, 1014, 1015, 1016, 1017] (by decide +kernel) (by decide +kernel)
set_option maxRecDepth 20000 in
theorem gL_law_X5_row : GoodIn wsL_law (wsV RL 179 RX5 yX5_row wsX5_row) := goodIn_app (goodIn_of _ (by decide +kernel)) ggL_law_X5_row
set_option maxRecDepth 20000 in
theorem ggL_law_X6_row : GoodIn wsL_law wsX6_row := goodIn_r _ [891, 81, 84, 85, 86, 219, 220, 5, 221, 222, 223, 224, 977, 978, 979, 980, 981, 982, 983, 984, 985, 986, 987, 988, 989, 990, 991, 992, 993, 994, 995, 996, 997, 998] (by decide +kernel) (by decide +kernel)
set_option maxRecDepth 20000 in
theorem gL_law_X6_row : GoodIn wsL_law (wsV RL 182 RX6 yX6_row wsX6_row) := goodIn_app (goodIn_of _ (by decide +kernel)) ggL_law_X6_row
set_option maxRecDepth 20000 in
theorem ggL_law_X5_put : GoodIn wsL_law wsX5_put := goodIn_r _ [895, 20, 94, 95, 2, 96, 97, 98, 99, 22, 100, 101, 896, 133, 134, 135, 136, 897, 898, 899, 900, 700, 51, 968, 969, 970, 971, 972, 973, 974, 975, 976, 1012, 1013, 1014, 1015, 1016, 1017] (by decide +kernel) (by decide +kernel)
set_option maxRecDepth 20000 in
theorem gL_law_X5_put : GoodIn wsL_law (wsV RL 183 RX5 yX5_put wsX5_put) := goodIn_app (goodIn_of _ (by decide +kernel)) ggL_law_X5_put
set_option maxRecDepth 20000 in
theorem ggL_law_X6_put : GoodIn wsL_law wsX6_put := goodIn_r _ [904, 85, 86, 84, 215, 216, 217, 5, 218, 81, 219, 220, 221, 222, 223, 224, 977, 978, 979, 980, 981, 982, 983, 984, 985, 986, 987, 988, 989, 990, 991, 992, 993, 994, 995, 996, 997, 998] (by decide +kernel) (by decide +kernel)
set_option maxRecDepth 20000 in
theorem gL_law_X6_put : GoodIn wsL_law (wsV RL 186 RX6 yX6_put wsX6_put) := goodIn_app (goodIn_of _ (by decide +kernel)) ggL_law_X6_put
set_option maxRecDepth 20000 in
theorem ggL_law_L_element : GoodIn wsL_law wsL_element := goodIn_ca (goodIn_ca (goodIn_r _ [908, 909, 910, 911, 912, 913, 2, 914, 915, 916, 917, 918, 20, 93, 94, 95, 96, 97, 98, 99, 22, 100, 101, 896, 133, 134, 135, 136, 968, 969, 970, 971, 972, 973, 974, 975, 976, 1012, 1013, 1014, 1015, 1016, 1017] (by decide +kernel) (by decide +kernel)) (goodIn_sub (fun _ h => List.mem_append_left _ (List.mem_append_left _ (List.mem_append_right _ h))) (by decide +kernel))) (goodIn_sub (fun _ h => List.mem_append_left _ (List.mem_append_right _ h)) (by decide +kernel))
set_option maxRecDepth 20000 in
theorem gL_law_L_element : GoodIn wsL_law (va_wsS RL 187 yL_element wsL_element) := goodIn_app (goodIn_of _ (by decide +kernel)) ggL_law_L_element
set_option maxRecDepth 20000 in
theorem ggL_law_X6_element : GoodIn wsL_law wsX6_element := goodIn_r _ [922, 81, 85, 923, 86, 219, 220, 5, 221, 222, 223, 224, 977, 978, 979, 980, 981, 982, 983, 984, 985, 986, 987, 988, 989, 990, 991, 992, 993, 994, 995, 996, 997, 998] (by decide +kernel) (by decide +kernel)
set_option maxRecDepth 20000 in
theorem gL_law_X6_element : GoodIn wsL_law (wsV RL 192 RX6 yX6_element wsX6_element) := goodIn_app (goodIn_of _ (by decide +kernel)) ggL_law_X6_element
set_option maxRecDepth 20000 in
theorem ggL_law_X6_thrown : GoodIn wsL_law wsX6_thrown := goodIn_r _ [927, 923, 977, 978, 979, 980, 981, 982, 983, 984, 985, 986, 987, 988, 989, 990, 991, 992, 993, 994, 995, 996, 997, 998] (by decide +kernel) (by decide +kernel)
set_option maxRecDepth 20000 in
theorem gL_law_X6_thrown : GoodIn wsL_law (wsV RL 193 RX6 yX6_thrown wsX6_thrown) := goodIn_app (goodIn_of _ (by decide +kernel)) ggL_law_X6_thrown
set_option maxRecDepth 20000 in
theorem ggL_law_X5_copy : GoodIn wsL_law wsX5_copy := goodIn_r _ [931, 20, 868, 91, 93, 932, 116, 117, 118, 94, 95, 2, 96, 933, 934, 935, 22, 936, 136, 968, 969, 970, 971, 972, 973, 974, 975, 976, 1012, 1013, 1014, 1015, 1016, 1017] (by decide +kernel) (by decide +kernel)
set_option maxRecDepth 20000 in
theorem gL_law_X5_copy : GoodIn wsL_law (wsV RL 196 RX5 yX5_copy wsX5_copy) := goodIn_app (goodIn_of _ (by decide +kernel)) ggL_law_X5_copy
set_option maxRecDepth 20000 in
theorem ggL_law_X6_copy : GoodIn wsL_law wsX6_copy := goodIn_r _ [940, 81, 84, 85, 86, 219, 220, 5, 221, 222, 223, 224, 977, 978, 979, 980, 981, 982, 983, 984, 985, 986, 987, 988, 989, 990, 991, 992, 993, 994, 995, 996, 997, 998] (by decide +kernel) (by decide +kernel)
set_option maxRecDepth 20000 in
theorem gL_law_X6_copy : GoodIn wsL_law (wsV RL 200 RX6 yX6_copy wsX6_copy) := goodIn_app (goodIn_of _ (by decide +kernel)) ggL_law_X6_copy
set_option maxRecDepth 20000 in
theorem ggL_law_X5_cost : GoodIn wsL_law wsX5_cost := goodIn_r _ [944, 20, 367, 368, 94, 95, 2, 96, 97, 98, 99, 22, 100, 101, 945, 946, 947, 968, 969, 970, 971, 972, 973, 974, 975, 976, 1012, 1013, 1014, 1015, 1016, 1017] (by decide +kernel) (by decide +kernel)
set_option maxRecDepth 20000 in
theorem gL_law_X5_cost : GoodIn wsL_law (wsV RL 201 RX5 yX5_cost wsX5_cost) := goodIn_app (goodIn_of _ (by decide +kernel)) ggL_law_X5_cost
set_option maxRecDepth 20000 in
theorem ggL_law_X6_cost : GoodIn wsL_law wsX6_cost := goodIn_r _ [951, 82, 83, 373, 374, 375, 5, 376, 81, 219, 220, 221, 222, 223, 224, 952, 953, 954, 977, 978, 979, 980, 981, 982, 983, 984, 985, 986, 987, 988, 989, 990, 991, 992, 993, 994, 995, 996, 997, 998] (by decide +kernel) (by decide +kernel)
set_option maxRecDepth 20000 in
theorem gL_law_X6_cost : GoodIn wsL_law (wsV RL 204 RX6 yX6_cost wsX6_cost) := goodIn_app (goodIn_of _ (by decide +kernel)) ggL_law_X6_cost
set_option maxRecDepth 20000 in
theorem ggL_law_X5_toss : GoodIn wsL_law wsX5_toss := goodIn_ca (goodIn_ca (goodIn_ca (goodIn_r _ [958, 959, 917, 915, 20, 367, 368, 94, 95, 2, 96, 97, 98, 99, 22, 100, 101, 960, 961, 962, 963, 918, 916, 945, 946, 947, 968, 969, 970, 971, 972, 973, 974, 975, 976, 1012, 1013, 1014, 1015, 1016, 1017] (by decide +kernel) (by decide +kernel)) (goodIn_sub (fun _ h => List.mem_append_right _ h) (by decide +kernel))) (goodIn_sub (fun _ h => List.mem_append_left _ (List.mem_append_right _ h)) (by decide +kernel))) (goodIn_sub (fun _ h => List.mem_append_left _ (List.mem_append_left _ (List.mem_append_right _ h))) (by decide +kernel))
set_option maxRecDepth 20000 in
theorem gL_law_X5_toss : GoodIn wsL_law (wsV RL 205 RX5 yX5_toss wsX5_toss) := goodIn_app (goodIn_of _ (by decide +kernel)) ggL_law_X5_toss
set_option maxRecDepth 20000 in
theorem ggL_law_X6_toss : GoodIn wsL_law wsX6_toss := goodIn_r _ [967, 82, 83, 373, 374, 375, 5, 376, 81, 219, 220, 221, 222, 223, 224, 952, 953, 954, 977, 978, 979, 980, 981, 982, 983, 984, 985, 986, 987, 988, 989, 990, 991, 992, 993, 994, 995, 996, 997, 998] (by decide +kernel) (by decide +kernel)
set_option maxRecDepth 20000 in
theorem gL_law_X6_toss : GoodIn wsL_law (wsV RL 208 RX6 yX6_toss wsX6_toss) := goodIn_app (goodIn_of _ (by decide +kernel)) ggL_law_X6_toss
