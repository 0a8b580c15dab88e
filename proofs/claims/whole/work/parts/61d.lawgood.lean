/-! THE LAW's callees' words, 4 -/
set_option maxRecDepth 20000 in
theorem ggL_law_X5_towns : GoodIn wsL_law wsX5_towns := goodIn_r _ [792, 16, 502, 793, 17, 794, 795, 796, 2, 797, 675, 306, 317, 111, 112, 113, 15, 114, 40, 115, 116, 117, 118, 41, 42, 119, 43, 120, 44, 45, 46, 121, 122, 47, 123, 798, 799, 800, 801, 802, 803, 804, 805, 806, 807, 808, 809, 610, 611, 612, 193, 194, 195, 196, 187, 188, 810, 811, 812, 813, 814, 321, 322, 323, 968, 969, 970, 971, 972, 973, 974, 975, 976, 999, 1000, 1001, 1002, 1003, 1004, 1005, 1006, 1007, 1008, 1009, 1010, 1011] (by decide +kernel) (by decide +kernel)
set_option maxRecDepth 20000 in
theorem gL_law_X5_towns : GoodIn wsL_law (wsV RL 159 RX5 yX5_towns wsX5_towns) := goodIn_app (goodIn_of _ (by decide +kernel)) ggL_law_X5_towns
set_option maxRecDepth 20000 in
theorem ggL_law_X6_towns : GoodIn wsL_law wsX6_towns := goodIn_r _ [818, 73, 819, 74, 222, 223, 5, 224, 237, 238, 239, 256, 257, 258, 820, 821, 822, 823, 824, 825, 826, 827, 828, 829, 617, 618, 619, 288, 289, 290, 291, 292, 293, 294, 295, 296, 830, 831, 832, 331, 332, 333, 977, 978, 979, 980, 981, 982, 983, 984, 985, 986, 987, 988, 989, 990, 991, 992, 993, 994, 995, 996, 997, 998] (by decide +kernel) (by decide +kernel)
set_option maxRecDepth 20000 in
theorem gL_law_X6_towns : GoodIn wsL_law (wsV RL 162 RX6 yX6_towns wsX6_towns) := goodIn_app (goodIn_of _ (by decide +kernel)) ggL_law_X6_towns
set_option maxRecDepth 20000 in
theorem ggL_law_X5_image : GoodIn wsL_law wsX5_image := goodIn_r _ [836, 18, 16, 837, 695, 111, 112, 113, 15, 114, 40, 115, 116, 117, 118, 41, 42, 119, 43, 120, 44, 45, 46, 121, 122, 47, 123, 968, 969, 970, 971, 972, 973, 974, 975, 976, 999, 1000, 1001, 1002, 1003, 1004, 1005, 1006, 1007, 1008, 1009, 1010, 1011] (by decide +kernel) (by decide +kernel)
set_option maxRecDepth 20000 in
theorem gL_law_X5_image : GoodIn wsL_law (wsV RL 163 RX5 yX5_image wsX5_image) := goodIn_app (goodIn_of _ (by decide +kernel)) ggL_law_X5_image
set_option maxRecDepth 20000 in
theorem ggL_law_X6_image : GoodIn wsL_law wsX6_image := goodIn_r _ [841, 73, 75, 842, 237, 238, 5, 239, 977, 978, 979, 980, 981, 982, 983, 984, 985, 986, 987, 988, 989, 990, 991, 992, 993, 994, 995, 996, 997, 998] (by decide +kernel) (by decide +kernel)
set_option maxRecDepth 20000 in
theorem gL_law_X6_image : GoodIn wsL_law (wsV RL 166 RX6 yX6_image wsX6_image) := goodIn_app (goodIn_of _ (by decide +kernel)) ggL_law_X6_image
set_option maxRecDepth 20000 in
theorem ggL_law_X5_restore : GoodIn wsL_law wsX5_restore := goodIn_r _ [846, 837, 16, 18, 695, 111, 112, 113, 15, 114, 40, 115, 116, 117, 118, 41, 42, 119, 43, 120, 44, 45, 46, 121, 122, 47, 123, 968, 969, 970, 971, 972, 973, 974, 975, 976, 999, 1000, 1001, 1002, 1003, 1004, 1005, 1006, 1007, 1008, 1009, 1010, 1011] (by decide +kernel) (by decide +kernel)
set_option maxRecDepth 20000 in
theorem gL_law_X5_restore : GoodIn wsL_law (wsV RL 167 RX5 yX5_restore wsX5_restore) := goodIn_app (goodIn_of _ (by decide +kernel)) ggL_law_X5_restore
set_option maxRecDepth 20000 in
theorem ggL_law_X6_restore : GoodIn wsL_law wsX6_restore := goodIn_r _ [850, 842, 75, 73, 237, 238, 5, 239, 977, 978, 979, 980, 981, 982, 983, 984, 985, 986, 987, 988, 989, 990, 991, 992, 993, 994, 995, 996, 997, 998] (by decide +kernel) (by decide +kernel)
set_option maxRecDepth 20000 in
theorem gL_law_X6_restore : GoodIn wsL_law (wsV RL 170 RX6 yX6_restore wsX6_restore) := goodIn_app (goodIn_of _ (by decide +kernel)) ggL_law_X6_restore
set_option maxRecDepth 20000 in
theorem ggL_law_X5_count : GoodIn wsL_law wsX5_count := goodIn_r _ [854, 16, 675, 502, 855, 341, 695, 856, 857, 858, 15, 859, 47, 201, 202, 203, 204, 205, 206, 207, 810, 811, 812, 813, 120, 814, 321, 322, 323, 119, 42, 193, 194, 195, 196, 40, 41, 43, 123, 187, 2, 188, 968, 969, 970, 971, 972, 973, 974, 975, 976, 999, 1000, 1001, 1002, 1003, 1004, 1005, 1006, 1007, 1008, 1009, 1010, 1011] (by decide +kernel) (by decide +kernel)
set_option maxRecDepth 20000 in
theorem gL_law_X5_count : GoodIn wsL_law (wsV RL 171 RX5 yX5_count wsX5_count) := goodIn_app (goodIn_of _ (by decide +kernel)) ggL_law_X5_count
set_option maxRecDepth 20000 in
theorem ggL_law_X6_count : GoodIn wsL_law wsX6_count := goodIn_r _ [863, 73, 222, 223, 5, 224, 396, 397, 398, 267, 268, 269, 399, 400, 401, 830, 831, 832, 331, 332, 333, 256, 257, 258, 288, 289, 290, 291, 292, 293, 294, 295, 296, 977, 978, 979, 980, 981, 982, 983, 984, 985, 986, 987, 988, 989, 990, 991, 992, 993, 994, 995, 996, 997, 998] (by decide +kernel) (by decide +kernel)
set_option maxRecDepth 20000 in
theorem gL_law_X6_count : GoodIn wsL_law (wsV RL 174 RX6 yX6_count wsX6_count) := goodIn_app (goodIn_of _ (by decide +kernel)) ggL_law_X6_count
set_option maxRecDepth 20000 in
theorem ggL_law_X5_keep : GoodIn wsL_law wsX5_keep := goodIn_r _ [867, 20, 868, 94, 95, 2, 96, 628, 145, 146, 869, 147, 148, 870, 871, 872, 22, 873, 101, 874, 875, 968, 969, 970, 971, 972, 973, 974, 975, 976, 1012, 1013, 1014, 1015, 1016, 1017] (by decide +kernel) (by decide +kernel)
set_option maxRecDepth 20000 in
theorem gL_law_X5_keep : GoodIn wsL_law (wsV RL 175 RX5 yX5_keep wsX5_keep) := goodIn_app (goodIn_of _ (by decide +kernel)) ggL_law_X5_keep
set_option maxRecDepth 20000 in
theorem ggL_law_X6_keep : GoodIn wsL_law wsX6_keep := goodIn_r _ [879, 81, 82, 83, 219, 220, 5, 221, 222, 223, 224, 977, 978, 979, 980, 981, 982, 983, 984, 985, 986, 987, 988, 989, 990, 991, 992, 993, 994, 995, 996, 997, 998] (by decide +kernel) (by decide +kernel)
set_option maxRecDepth 20000 in
theorem gL_law_X6_keep : GoodIn wsL_law (wsV RL 178 RX6 yX6_keep wsX6_keep) := goodIn_app (goodIn_of _ (by decide +kernel)) ggL_law_X6_keep
set_option maxRecDepth 20000 in
theorem ggL_law_X5_row : GoodIn wsL_law wsX5_row := goodIn_r _ [883, 20, 94, 95, 2, 96, 884, 885, 886, 22, 887, 101, 700, 136, 51, 968, 969, 970, 971, 972, 973, 974, 975, 976, 1012, 1013, 1014, 1015, 1016, 1017] (by decide +kernel) (by decide +kernel)
set_option maxRecDepth 20000 in
theorem gL_law_X5_row : GoodIn wsL_law (wsV RL 179 RX5 yX5_row wsX5_row) := goodIn_app (goodIn_of _ (by decide +kernel)) ggL_law_X5_row
set_option maxRecDepth 20000 in
theorem ggL_law_X6_row : GoodIn wsL_law wsX6_row := goodIn_r _ [891, 81, 84, 85, 86, 219, 220, 5, 221, 222, 223, 224, 977, 978, 979, 980, 981, 982, 983, 984, 985, 986, 987, 988, 989, 990, 991, 992, 993, 994, 995, 996, 997, 998] (by decide +kernel) (by decide +kernel)
set_option maxRecDepth 20000 in
theorem gL_law_X6_row : GoodIn wsL_law (wsV RL 182 RX6 yX6_row wsX6_row) := goodIn_app (goodIn_of _ (by decide +kernel)) ggL_law_X6_row
set_option maxRecDepth 20000 in
theorem ggL_law_X5_put : GoodIn wsL_law wsX5_put := goodIn_r _ [895, 20, 94, 95, 2, 96, 97, 98, 99, 22, 100, 101, 896, 133, 134, 135, 136, 897, 898, 899, 900, 700, 51, 968, 969, 970, 971, 972, 973, 974, 975, 976, 1012, 1013, 1014, 1015, 1016, 1017] (by decide +kernel) (by decide +kernel)
set_option maxRecDepth 20000 in
theorem gL_law_X5_put : GoodIn wsL_law (wsV RL 183 RX5 yX5_put wsX5_put) := goodIn_app (goodIn_of _ (by decide +kernel)) ggL_law_X5_put
set_option maxRecDepth 20000 in
theorem ggL_law_X6_put : GoodIn wsL_law wsX6_put := goodIn_r _ [904, 85, 86, 84, 215, 216, 217, 5, 218, 81, 219, 220, 221, 222, 223, 224, 977, 978, 979, 980, 981, 982, 983, 984, 985, 986, 987, 988, 989, 990, 991, 992, 993, 994, 995, 996, 997, 998] (by decide +kernel) (by decide +kernel)
set_option maxRecDepth 20000 in
theorem gL_law_X6_put : GoodIn wsL_law (wsV RL 186 RX6 yX6_put wsX6_put) := goodIn_app (goodIn_of _ (by decide +kernel)) ggL_law_X6_put
set_option maxRecDepth 20000 in
theorem ggL_law_L_element : GoodIn wsL_law wsL_element := goodIn_ca (goodIn_ca (goodIn_r _ [908, 909, 910, 911, 912, 913, 2, 914, 915, 916, 917, 918, 20, 93, 94, 95, 96, 97, 98, 99, 22, 100, 101, 896, 133, 134, 135, 136, 968, 969, 970, 971, 972, 973, 974, 975, 976, 1012, 1013, 1014, 1015, 1016, 1017] (by decide +kernel) (by decide +kernel)) (goodIn_sub (fun _ h => List.mem_append_left _ (List.mem_append_left _ (List.mem_append_right _ h))) (by decide +kernel))) (goodIn_sub (fun _ h => List.mem_append_left _ (List.mem_append_right _ h)) (by decide +kernel))
set_option maxRecDepth 20000 in
theorem gL_law_L_element : GoodIn wsL_law (va_wsS RL 187 yL_element wsL_element) := goodIn_app (goodIn_of _ (by decide +kernel)) ggL_law_L_element
set_option maxRecDepth 20000 in
theorem ggL_law_X6_element : GoodIn wsL_law wsX6_element := goodIn_r _ [922, 81, 85, 923, 86, 219, 220, 5, 221, 222, 223, 224, 977, 978, 979, 980, 981, 982, 983, 984, 985, 986, 987, 988, 989, 990, 991, 992, 993, 994, 995, 996, 997, 998] (by decide +kernel) (by decide +kernel)
set_option maxRecDepth 20000 in
theorem gL_law_X6_element : GoodIn wsL_law (wsV RL 192 RX6 yX6_element wsX6_element) := goodIn_app (goodIn_of _ (by decide +kernel)) ggL_law_X6_element
set_option maxRecDepth 20000 in
theorem ggL_law_X6_thrown : GoodIn wsL_law wsX6_thrown := goodIn_r _ [927, 923, 977, 978, 979, 980, 981, 982, 983, 984, 985, 986, 987, 988, 989, 990, 991, 992, 993, 994, 995, 996, 997, 998] (by decide +kernel) (by decide +kernel)
set_option maxRecDepth 20000 in
theorem gL_law_X6_thrown : GoodIn wsL_law (wsV RL 193 RX6 yX6_thrown wsX6_thrown) := goodIn_app (goodIn_of _ (by decide +kernel)) ggL_law_X6_thrown
set_option maxRecDepth 20000 in
theorem ggL_law_X5_copy : GoodIn wsL_law wsX5_copy := goodIn_r _ [931, 20, 868, 91, 93, 932, 116, 117, 118, 94, 95, 2, 96, 933, 934, 935, 22, 936, 136, 968, 969, 970, 971, 972, 973, 974, 975, 976, 1012, 1013, 1014, 1015, 1016, 1017] (by decide +kernel) (by decide +kernel)
set_option maxRecDepth 20000 in
theorem gL_law_X5_copy : GoodIn wsL_law (wsV RL 196 RX5 yX5_copy wsX5_copy) := goodIn_app (goodIn_of _ (by decide +kernel)) ggL_law_X5_copy
set_option maxRecDepth 20000 in
theorem ggL_law_X6_copy : GoodIn wsL_law wsX6_copy := goodIn_r _ [940, 81, 84, 85, 86, 219, 220, 5, 221, 222, 223, 224, 977, 978, 979, 980, 981, 982, 983, 984, 985, 986, 987, 988, 989, 990, 991, 992, 993, 994, 995, 996, 997, 998] (by decide +kernel) (by decide +kernel)
set_option maxRecDepth 20000 in
theorem gL_law_X6_copy : GoodIn wsL_law (wsV RL 200 RX6 yX6_copy wsX6_copy) := goodIn_app (goodIn_of _ (by decide +kernel)) ggL_law_X6_copy
set_option maxRecDepth 20000 in
theorem ggL_law_X5_cost : GoodIn wsL_law wsX5_cost := goodIn_r _ [944, 20, 367, 368, 94, 95, 2, 96, 97, 98, 99, 22, 100, 101, 945, 946, 947, 968, 969, 970, 971, 972, 973, 974, 975, 976, 1012, 1013, 1014, 1015, 1016, 1017] (by decide +kernel) (by decide +kernel)
set_option maxRecDepth 20000 in
theorem gL_law_X5_cost : GoodIn wsL_law (wsV RL 201 RX5 yX5_cost wsX5_cost) := goodIn_app (goodIn_of _ (by decide +kernel)) ggL_law_X5_cost
set_option maxRecDepth 20000 in
theorem ggL_law_X6_cost : GoodIn wsL_law wsX6_cost := goodIn_r _ [951, 82, 83, 373, 374, 375, 5, 376, 81, 219, 220, 221, 222, 223, 224, 952, 953, 954, 977, 978, 979, 980, 981, 982, 983, 984, 985, 986, 987, 988, 989, 990, 991, 992, 993, 994, 995, 996, 997, 998] (by decide +kernel) (by decide +kernel)
set_option maxRecDepth 20000 in
theorem gL_law_X6_cost : GoodIn wsL_law (wsV RL 204 RX6 yX6_cost wsX6_cost) := goodIn_app (goodIn_of _ (by decide +kernel)) ggL_law_X6_cost
set_option maxRecDepth 20000 in
theorem ggL_law_X5_toss : GoodIn wsL_law wsX5_toss := goodIn_ca (goodIn_ca (goodIn_ca (goodIn_r _ [958, 959, 917, 915, 20, 367, 368, 94, 95, 2, 96, 97, 98, 99, 22, 100, 101, 960, 961, 962, 963, 918, 916, 945, 946, 947, 968, 969, 970, 971, 972, 973, 974, 975, 976, 1012, 1013, 1014, 1015, 1016, 1017] (by decide +kernel) (by decide +kernel)) (goodIn_sub (fun _ h => List.mem_append_right _ h) (by decide +kernel))) (goodIn_sub (fun _ h => List.mem_append_left _ (List.mem_append_right _ h)) (by decide +kernel))) (goodIn_sub (fun _ h => List.mem_append_left _ (List.mem_append_left _ (List.mem_append_right _ h))) (by decide +kernel))
set_option maxRecDepth 20000 in
theorem gL_law_X5_toss : GoodIn wsL_law (wsV RL 205 RX5 yX5_toss wsX5_toss) := goodIn_app (goodIn_of _ (by decide +kernel)) ggL_law_X5_toss
set_option maxRecDepth 20000 in
theorem ggL_law_X6_toss : GoodIn wsL_law wsX6_toss := goodIn_r _ [967, 82, 83, 373, 374, 375, 5, 376, 81, 219, 220, 221, 222, 223, 224, 952, 953, 954, 977, 978, 979, 980, 981, 982, 983, 984, 985, 986, 987, 988, 989, 990, 991, 992, 993, 994, 995, 996, 997, 998] (by decide +kernel) (by decide +kernel)
set_option maxRecDepth 20000 in
theorem gL_law_X6_toss : GoodIn wsL_law (wsV RL 208 RX6 yX6_toss wsX6_toss) := goodIn_app (goodIn_of _ (by decide +kernel)) ggL_law_X6_toss
