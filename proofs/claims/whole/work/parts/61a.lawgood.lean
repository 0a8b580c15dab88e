/-! THE LAW's callees' words, 1 -/
set_option maxRecDepth 20000 in
theorem ggL_element_X5_element : GoodIn wsL_element wsX5_element := goodIn_ca (goodIn_ca (goodIn_r _ [7, 8, 9, 10, 11, 12, 13, 14, 15, 6, 16, 17, 18, 19, 20, 21, 22, 23, 24, 25, 26, 27, 28, 29, 30, 31, 32, 33, 34, 35, 36, 37, 38, 39, 40, 41, 42] (by decide +kernel) (by decide +kernel)) (goodIn_sub (fun _ h => List.mem_cons_of_mem _ (List.mem_append_left _ (List.mem_append_right _ h))) (by decide +kernel))) (goodIn_sub (fun _ h => List.mem_cons_of_mem _ (List.mem_append_right _ h)) (by decide +kernel))
set_option maxRecDepth 20000 in
theorem gL_element_X5_element : GoodIn wsL_element (wsV RL 7 RX5 yX5_element wsX5_element) := goodIn_app (goodIn_of _ (by decide +kernel)) ggL_element_X5_element
theorem dL_element_0 : decode cL_element 0 = .ok (.aload_n 3, 1) := by decide +kernel
theorem dL_element_1 : decode cL_element 1 = .ok (.iconst 0, 1) := by decide +kernel
theorem dL_element_2 : decode cL_element 2 = .ok (.aload_n 0, 1) := by decide +kernel
theorem dL_element_3 : decode cL_element 3 = .ok (.iload_n 1, 1) := by decide +kernel
theorem dL_element_4 : decode cL_element 4 = .ok (.iload_n 2, 1) := by decide +kernel
theorem dL_element_5 : decode cL_element 5 = .ok (.invokevirtual 7, 3) := by decide +kernel
theorem dL_element_8 : decode cL_element 8 = .ok (.lastore, 1) := by decide +kernel
theorem dL_element_9 : decode cL_element 9 = .ok (.goto 11, 3) := by decide +kernel
theorem dL_element_12 : decode cL_element 12 = .ok (.astore 4, 2) := by decide +kernel
theorem dL_element_14 : decode cL_element 14 = .ok (.iconst 1, 1) := by decide +kernel
theorem dL_element_15 : decode cL_element 15 = .ok (.ireturn, 1) := by decide +kernel
theorem dL_element_16 : decode cL_element 16 = .ok (.astore 4, 2) := by decide +kernel
theorem dL_element_18 : decode cL_element 18 = .ok (.iconst 2, 1) := by decide +kernel
theorem dL_element_19 : decode cL_element 19 = .ok (.ireturn, 1) := by decide +kernel
theorem dL_element_20 : decode cL_element 20 = .ok (.iconst 0, 1) := by decide +kernel
theorem dL_element_21 : decode cL_element 21 = .ok (.ireturn, 1) := by decide +kernel
set_option maxRecDepth 20000 in
theorem ggL_law_X5_init : GoodIn wsL_law wsX5_init := goodIn_r _ [9, 10, 11, 12, 13, 14, 15, 16, 17, 18, 19, 20, 21, 22, 23, 24, 25, 26, 27, 28, 29, 30, 31, 32, 33, 34, 35, 36, 37, 38, 39, 40, 41, 42, 43, 44, 45, 46, 47, 48, 49, 50, 51, 52, 53, 54, 55, 56, 57, 58, 59, 60, 61, 62, 63, 64, 65, 66, 67, 68, 999, 1000, 1001, 1002, 1003, 1004, 1005, 1006, 1007, 1008, 1009, 1010, 1011, 968, 969, 970, 971, 972, 973, 974, 975, 976, 1012, 1013, 1014, 1015, 1016, 1017, 1018, 1019, 1020, 1021, 1022, 1023, 1024, 1025, 1026] (by decide +kernel) (by decide +kernel)
set_option maxRecDepth 20000 in
theorem gL_law_X5_init : GoodIn wsL_law (wsX5_init) := ggL_law_X5_init
set_option maxRecDepth 20000 in
theorem ggL_law_X6_init : GoodIn wsL_law wsX6_init := goodIn_r _ [71, 72, 11, 12, 39, 73, 74, 75, 76, 77, 78, 79, 80, 81, 82, 83, 84, 85, 86, 977, 978, 979, 980, 981, 982, 983, 984, 985, 986, 987, 988, 989, 990, 991, 992, 993, 994, 995, 996, 997, 998] (by decide +kernel) (by decide +kernel)
set_option maxRecDepth 20000 in
theorem gL_law_X6_init : GoodIn wsL_law (wsX6_init) := ggL_law_X6_init
set_option maxRecDepth 20000 in
theorem ggL_law_X5_town : GoodIn wsL_law wsX5_town := goodIn_r _ [90, 20, 91, 17, 16, 92, 93, 94, 95, 2, 96, 97, 98, 99, 22, 100, 101, 102, 103, 104, 105, 106, 107, 108, 109, 110, 111, 112, 113, 15, 114, 40, 115, 116, 117, 118, 41, 42, 119, 43, 120, 44, 45, 46, 121, 122, 47, 123, 124, 125, 126, 127, 128, 129, 130, 131, 51, 132, 133, 134, 135, 136, 137, 138, 139, 140, 141, 142, 143, 144, 145, 146, 147, 148, 149, 150, 151, 152, 153, 154, 155, 156, 157, 158, 159, 160, 161, 162, 163, 164, 165, 166, 167, 168, 169, 170, 171, 172, 173, 174, 175, 176, 177, 178, 179, 180, 181, 182, 183, 184, 185, 186, 187, 188, 189, 190, 191, 192, 193, 194, 195, 196, 197, 198, 199, 200, 201, 202, 203, 204, 205, 206, 207, 968, 969, 970, 971, 972, 973, 974, 975, 976, 1012, 1013, 1014, 1015, 1016, 1017, 999, 1000, 1001, 1002, 1003, 1004, 1005, 1006, 1007, 1008, 1009, 1010, 1011] (by decide +kernel) (by decide +kernel)
set_option maxRecDepth 20000 in
theorem gL_law_X5_town : GoodIn wsL_law (wsV RL 21 RX5 yX5_town wsX5_town) := goodIn_app (goodIn_of _ (by decide +kernel)) ggL_law_X5_town
set_option maxRecDepth 20000 in
theorem ggL_law_X6_town : GoodIn wsL_law wsX6_town := goodIn_r _ [211, 212, 85, 213, 214, 73, 76, 215, 216, 217, 5, 218, 81, 84, 219, 220, 221, 222, 223, 224, 225, 226, 227, 228, 229, 230, 231, 232, 86, 233, 234, 235, 236, 77, 237, 238, 239, 240, 241, 242, 243, 244, 245, 246, 247, 248, 249, 250, 251, 252, 253, 254, 255, 256, 257, 258, 259, 260, 261, 262, 263, 264, 265, 266, 267, 268, 269, 270, 271, 272, 273, 274, 275, 276, 277, 278, 279, 280, 281, 282, 283, 284, 285, 286, 287, 288, 289, 290, 291, 292, 293, 294, 295, 296, 297, 298, 299, 977, 978, 979, 980, 981, 982, 983, 984, 985, 986, 987, 988, 989, 990, 991, 992, 993, 994, 995, 996, 997, 998] (by decide +kernel) (by decide +kernel)
set_option maxRecDepth 20000 in
theorem gL_law_X6_town : GoodIn wsL_law (wsV RL 25 RX6 yX6_town wsX6_town) := goodIn_app (goodIn_of _ (by decide +kernel)) ggL_law_X6_town
set_option maxRecDepth 20000 in
theorem ggL_law_X5_good : GoodIn wsL_law wsX5_good := goodIn_r _ [303, 16, 304, 305, 306, 307, 308, 158, 159, 15, 160, 119, 968, 969, 970, 971, 972, 973, 974, 975, 976, 999, 1000, 1001, 1002, 1003, 1004, 1005, 1006, 1007, 1008, 1009, 1010, 1011] (by decide +kernel) (by decide +kernel)
set_option maxRecDepth 20000 in
theorem gL_law_X5_good : GoodIn wsL_law (wsV RL 26 RX5 yX5_good wsX5_good) := goodIn_app (goodIn_of _ (by decide +kernel)) ggL_law_X5_good
set_option maxRecDepth 20000 in
theorem ggL_law_X6_good : GoodIn wsL_law wsX6_good := goodIn_r _ [312, 73, 259, 260, 261, 5, 262, 222, 223, 224, 256, 257, 258, 977, 978, 979, 980, 981, 982, 983, 984, 985, 986, 987, 988, 989, 990, 991, 992, 993, 994, 995, 996, 997, 998] (by decide +kernel) (by decide +kernel)
set_option maxRecDepth 20000 in
theorem gL_law_X6_good : GoodIn wsL_law (wsV RL 30 RX6 yX6_good wsX6_good) := goodIn_app (goodIn_of _ (by decide +kernel)) ggL_law_X6_good
set_option maxRecDepth 20000 in
theorem ggL_law_X5_person : GoodIn wsL_law wsX5_person := goodIn_r _ [316, 16, 317, 318, 150, 151, 15, 152, 120, 319, 180, 181, 182, 119, 42, 320, 321, 322, 323, 193, 194, 195, 196, 40, 41, 43, 123, 187, 2, 188, 968, 969, 970, 971, 972, 973, 974, 975, 976, 999, 1000, 1001, 1002, 1003, 1004, 1005, 1006, 1007, 1008, 1009, 1010, 1011] (by decide +kernel) (by decide +kernel)
set_option maxRecDepth 20000 in
theorem gL_law_X5_person : GoodIn wsL_law (wsV RL 31 RX5 yX5_person wsX5_person) := goodIn_app (goodIn_of _ (by decide +kernel)) ggL_law_X5_person
set_option maxRecDepth 20000 in
theorem ggL_law_X6_person : GoodIn wsL_law wsX6_person := goodIn_r _ [327, 73, 248, 249, 250, 5, 251, 222, 223, 224, 328, 329, 330, 256, 257, 258, 331, 332, 333, 288, 289, 290, 291, 292, 293, 294, 295, 296, 977, 978, 979, 980, 981, 982, 983, 984, 985, 986, 987, 988, 989, 990, 991, 992, 993, 994, 995, 996, 997, 998] (by decide +kernel) (by decide +kernel)
set_option maxRecDepth 20000 in
theorem gL_law_X6_person : GoodIn wsL_law (wsV RL 34 RX6 yX6_person wsX6_person) := goodIn_app (goodIn_of _ (by decide +kernel)) ggL_law_X6_person
set_option maxRecDepth 20000 in
theorem ggL_law_X5_loan : GoodIn wsL_law wsX5_loan := goodIn_r _ [337, 16, 338, 339, 340, 341, 342, 343, 344, 15, 345, 121, 346, 177, 2, 178, 968, 969, 970, 971, 972, 973, 974, 975, 976, 999, 1000, 1001, 1002, 1003, 1004, 1005, 1006, 1007, 1008, 1009, 1010, 1011] (by decide +kernel) (by decide +kernel)
set_option maxRecDepth 20000 in
theorem gL_law_X5_loan : GoodIn wsL_law (wsV RL 35 RX5 yX5_loan wsX5_loan) := goodIn_app (goodIn_of _ (by decide +kernel)) ggL_law_X5_loan
set_option maxRecDepth 20000 in
theorem ggL_law_X6_loan : GoodIn wsL_law wsX6_loan := goodIn_r _ [350, 73, 351, 352, 353, 5, 354, 222, 223, 224, 267, 268, 269, 977, 978, 979, 980, 981, 982, 983, 984, 985, 986, 987, 988, 989, 990, 991, 992, 993, 994, 995, 996, 997, 998] (by decide +kernel) (by decide +kernel)
set_option maxRecDepth 20000 in
theorem gL_law_X6_loan : GoodIn wsL_law (wsV RL 38 RX6 yX6_loan wsX6_loan) := goodIn_app (goodIn_of _ (by decide +kernel)) ggL_law_X6_loan
set_option maxRecDepth 20000 in
theorem ggL_law_X5_comes : GoodIn wsL_law wsX5_comes := goodIn_r _ [358, 16, 137, 138, 139, 15, 140, 120, 43, 968, 969, 970, 971, 972, 973, 974, 975, 976, 999, 1000, 1001, 1002, 1003, 1004, 1005, 1006, 1007, 1008, 1009, 1010, 1011] (by decide +kernel) (by decide +kernel)
set_option maxRecDepth 20000 in
theorem gL_law_X5_comes : GoodIn wsL_law (wsV RL 39 RX5 yX5_comes wsX5_comes) := goodIn_app (goodIn_of _ (by decide +kernel)) ggL_law_X5_comes
set_option maxRecDepth 20000 in
theorem ggL_law_X6_comes : GoodIn wsL_law wsX6_comes := goodIn_r _ [362, 73, 222, 223, 5, 224, 244, 245, 246, 247, 977, 978, 979, 980, 981, 982, 983, 984, 985, 986, 987, 988, 989, 990, 991, 992, 993, 994, 995, 996, 997, 998] (by decide +kernel) (by decide +kernel)
set_option maxRecDepth 20000 in
theorem gL_law_X6_comes : GoodIn wsL_law (wsV RL 42 RX6 yX6_comes wsX6_comes) := goodIn_app (goodIn_of _ (by decide +kernel)) ggL_law_X6_comes
set_option maxRecDepth 20000 in
theorem ggL_law_X5_brings : GoodIn wsL_law wsX5_brings := goodIn_r _ [366, 16, 20, 367, 368, 94, 95, 2, 96, 318, 150, 151, 15, 152, 120, 97, 98, 99, 22, 100, 101, 141, 142, 143, 144, 119, 40, 41, 42, 145, 146, 147, 148, 149, 968, 969, 970, 971, 972, 973, 974, 975, 976, 1012, 1013, 1014, 1015, 1016, 1017, 999, 1000, 1001, 1002, 1003, 1004, 1005, 1006, 1007, 1008, 1009, 1010, 1011] (by decide +kernel) (by decide +kernel)
set_option maxRecDepth 20000 in
theorem gL_law_X5_brings : GoodIn wsL_law (wsV RL 43 RX5 yX5_brings wsX5_brings) := goodIn_app (goodIn_of _ (by decide +kernel)) ggL_law_X5_brings
set_option maxRecDepth 20000 in
theorem ggL_law_X6_brings : GoodIn wsL_law wsX6_brings := goodIn_r _ [372, 73, 82, 83, 248, 249, 250, 5, 251, 222, 223, 224, 373, 374, 375, 376, 81, 219, 220, 221, 252, 253, 254, 255, 256, 257, 258, 977, 978, 979, 980, 981, 982, 983, 984, 985, 986, 987, 988, 989, 990, 991, 992, 993, 994, 995, 996, 997, 998] (by decide +kernel) (by decide +kernel)
set_option maxRecDepth 20000 in
theorem gL_law_X6_brings : GoodIn wsL_law (wsV RL 46 RX6 yX6_brings wsX6_brings) := goodIn_app (goodIn_of _ (by decide +kernel)) ggL_law_X6_brings
set_option maxRecDepth 20000 in
theorem ggL_law_X5_lends : GoodIn wsL_law wsX5_lends := goodIn_r _ [380, 16, 153, 154, 155, 15, 156, 42, 121, 44, 45, 46, 122, 157, 158, 159, 160, 119, 149, 150, 151, 152, 120, 968, 969, 970, 971, 972, 973, 974, 975, 976, 999, 1000, 1001, 1002, 1003, 1004, 1005, 1006, 1007, 1008, 1009, 1010, 1011] (by decide +kernel) (by decide +kernel)
set_option maxRecDepth 20000 in
theorem gL_law_X5_lends : GoodIn wsL_law (wsV RL 47 RX5 yX5_lends wsX5_lends) := goodIn_app (goodIn_of _ (by decide +kernel)) ggL_law_X5_lends
set_option maxRecDepth 20000 in
theorem ggL_law_X6_lends : GoodIn wsL_law wsX6_lends := goodIn_r _ [384, 73, 259, 260, 261, 5, 262, 222, 223, 224, 248, 249, 250, 251, 256, 257, 258, 263, 264, 265, 266, 267, 268, 269, 977, 978, 979, 980, 981, 982, 983, 984, 985, 986, 987, 988, 989, 990, 991, 992, 993, 994, 995, 996, 997, 998] (by decide +kernel) (by decide +kernel)
set_option maxRecDepth 20000 in
theorem gL_law_X6_lends : GoodIn wsL_law (wsV RL 50 RX6 yX6_lends wsX6_lends) := goodIn_app (goodIn_of _ (by decide +kernel)) ggL_law_X6_lends
set_option maxRecDepth 20000 in
theorem ggL_law_X5_pays : GoodIn wsL_law wsX5_pays := goodIn_r _ [388, 16, 341, 342, 343, 344, 15, 345, 121, 308, 158, 159, 160, 119, 389, 174, 175, 176, 122, 45, 44, 46, 177, 2, 178, 179, 180, 181, 182, 42, 183, 184, 185, 186, 43, 40, 41, 123, 47, 187, 188, 346, 390, 198, 199, 200, 391, 202, 203, 204, 205, 206, 207, 968, 969, 970, 971, 972, 973, 974, 975, 976, 999, 1000, 1001, 1002, 1003, 1004, 1005, 1006, 1007, 1008, 1009, 1010, 1011] (by decide +kernel) (by decide +kernel)
set_option maxRecDepth 20000 in
theorem gL_law_X5_pays : GoodIn wsL_law (wsV RL 51 RX5 yX5_pays wsX5_pays) := goodIn_app (goodIn_of _ (by decide +kernel)) ggL_law_X5_pays
set_option maxRecDepth 20000 in
theorem ggL_law_X6_pays : GoodIn wsL_law wsX6_pays := goodIn_r _ [395, 73, 351, 352, 353, 5, 354, 222, 223, 224, 259, 260, 261, 262, 279, 280, 281, 267, 268, 269, 256, 257, 258, 282, 283, 284, 285, 286, 287, 288, 289, 290, 291, 292, 293, 294, 295, 296, 297, 298, 299, 396, 397, 398, 399, 400, 401, 977, 978, 979, 980, 981, 982, 983, 984, 985, 986, 987, 988, 989, 990, 991, 992, 993, 994, 995, 996, 997, 998] (by decide +kernel) (by decide +kernel)
set_option maxRecDepth 20000 in
theorem gL_law_X6_pays : GoodIn wsL_law (wsV RL 54 RX6 yX6_pays wsX6_pays) := goodIn_app (goodIn_of _ (by decide +kernel)) ggL_law_X6_pays
set_option maxRecDepth 20000 in
theorem ggL_law_X5_sames : GoodIn wsL_law wsX5_sames := goodIn_r _ [405, 16, 161, 162, 163, 15, 164, 47, 145, 2, 146, 968, 969, 970, 971, 972, 973, 974, 975, 976, 999, 1000, 1001, 1002, 1003, 1004, 1005, 1006, 1007, 1008, 1009, 1010, 1011] (by decide +kernel) (by decide +kernel)
set_option maxRecDepth 20000 in
theorem gL_law_X5_sames : GoodIn wsL_law (wsV RL 55 RX5 yX5_sames wsX5_sames) := goodIn_app (goodIn_of _ (by decide +kernel)) ggL_law_X5_sames
set_option maxRecDepth 20000 in
theorem ggL_law_X6_sames : GoodIn wsL_law wsX6_sames := goodIn_r _ [409, 73, 222, 223, 5, 224, 977, 978, 979, 980, 981, 982, 983, 984, 985, 986, 987, 988, 989, 990, 991, 992, 993, 994, 995, 996, 997, 998] (by decide +kernel) (by decide +kernel)
set_option maxRecDepth 20000 in
theorem gL_law_X6_sames : GoodIn wsL_law (wsV RL 58 RX6 yX6_sames wsX6_sames) := goodIn_app (goodIn_of _ (by decide +kernel)) ggL_law_X6_sames
set_option maxRecDepth 20000 in
theorem ggL_law_X5_weeks : GoodIn wsL_law wsX5_weeks := goodIn_r _ [413, 16, 165, 166, 167, 15, 168, 123, 122, 169, 170, 171, 172, 121, 45, 173, 174, 175, 176, 44, 46, 177, 2, 178, 179, 180, 181, 182, 119, 42, 183, 184, 185, 186, 43, 40, 41, 47, 187, 188, 189, 190, 191, 192, 193, 194, 195, 196, 197, 198, 199, 200, 201, 202, 203, 204, 205, 206, 207, 968, 969, 970, 971, 972, 973, 974, 975, 976, 999, 1000, 1001, 1002, 1003, 1004, 1005, 1006, 1007, 1008, 1009, 1010, 1011] (by decide +kernel) (by decide +kernel)
set_option maxRecDepth 20000 in
theorem gL_law_X5_weeks : GoodIn wsL_law (wsV RL 59 RX5 yX5_weeks wsX5_weeks) := goodIn_app (goodIn_of _ (by decide +kernel)) ggL_law_X5_weeks
set_option maxRecDepth 20000 in
theorem ggL_law_X6_weeks : GoodIn wsL_law wsX6_weeks := goodIn_r _ [417, 73, 222, 223, 5, 224, 270, 271, 272, 273, 274, 275, 276, 277, 278, 267, 268, 269, 279, 280, 281, 256, 257, 258, 282, 283, 284, 285, 286, 287, 288, 289, 290, 291, 292, 293, 294, 295, 296, 297, 298, 299, 396, 397, 398, 399, 400, 401, 977, 978, 979, 980, 981, 982, 983, 984, 985, 986, 987, 988, 989, 990, 991, 992, 993, 994, 995, 996, 997, 998] (by decide +kernel) (by decide +kernel)
set_option maxRecDepth 20000 in
theorem gL_law_X6_weeks : GoodIn wsL_law (wsV RL 62 RX6 yX6_weeks wsX6_weeks) := goodIn_app (goodIn_of _ (by decide +kernel)) ggL_law_X6_weeks
