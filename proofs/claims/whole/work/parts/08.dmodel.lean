theorem dX6_init_0 : decode cX6_init 0 = .ok (.aload_n 0, 1) := by decide +kernel
theorem dX6_init_1 : decode cX6_init 1 = .ok (.invokespecial 1, 3) := by decide +kernel
theorem dX6_init_4 : decode cX6_init 4 = .ok (.aload_n 0, 1) := by decide +kernel
theorem dX6_init_5 : decode cX6_init 5 = .ok (.bipush 74, 2) := by decide +kernel
theorem dX6_init_7 : decode cX6_init 7 = .ok (.newarray .int, 2) := by decide +kernel
theorem dX6_init_9 : decode cX6_init 9 = .ok (.putfield 9, 3) := by decide +kernel
theorem dX6_init_12 : decode cX6_init 12 = .ok (.aload_n 0, 1) := by decide +kernel
theorem dX6_init_13 : decode cX6_init 13 = .ok (.bipush 74, 2) := by decide +kernel
theorem dX6_init_15 : decode cX6_init 15 = .ok (.newarray .int, 2) := by decide +kernel
theorem dX6_init_17 : decode cX6_init 17 = .ok (.putfield 13, 3) := by decide +kernel
theorem dX6_init_20 : decode cX6_init 20 = .ok (.aload_n 0, 1) := by decide +kernel
theorem dX6_init_21 : decode cX6_init 21 = .ok (.bipush 74, 2) := by decide +kernel
theorem dX6_init_23 : decode cX6_init 23 = .ok (.newarray .int, 2) := by decide +kernel
theorem dX6_init_25 : decode cX6_init 25 = .ok (.putfield 16, 3) := by decide +kernel
theorem dX6_init_28 : decode cX6_init 28 = .ok (.aload_n 0, 1) := by decide +kernel
theorem dX6_init_29 : decode cX6_init 29 = .ok (.bipush 74, 2) := by decide +kernel
theorem dX6_init_31 : decode cX6_init 31 = .ok (.newarray .int, 2) := by decide +kernel
theorem dX6_init_33 : decode cX6_init 33 = .ok (.putfield 19, 3) := by decide +kernel
theorem dX6_init_36 : decode cX6_init 36 = .ok (.aload_n 0, 1) := by decide +kernel
theorem dX6_init_37 : decode cX6_init 37 = .ok (.iconst 3, 1) := by decide +kernel
theorem dX6_init_38 : decode cX6_init 38 = .ok (.newarray .int, 2) := by decide +kernel
theorem dX6_init_40 : decode cX6_init 40 = .ok (.putfield 22, 3) := by decide +kernel
theorem dX6_init_43 : decode cX6_init 43 = .ok (.aload_n 0, 1) := by decide +kernel
theorem dX6_init_44 : decode cX6_init 44 = .ok (.bipush 8, 2) := by decide +kernel
theorem dX6_init_46 : decode cX6_init 46 = .ok (.newarray .int, 2) := by decide +kernel
theorem dX6_init_48 : decode cX6_init 48 = .ok (.putfield 25, 3) := by decide +kernel
theorem dX6_init_51 : decode cX6_init 51 = .ok (.aload_n 0, 1) := by decide +kernel
theorem dX6_init_52 : decode cX6_init 52 = .ok (.bipush 8, 2) := by decide +kernel
theorem dX6_init_54 : decode cX6_init 54 = .ok (.newarray .int, 2) := by decide +kernel
theorem dX6_init_56 : decode cX6_init 56 = .ok (.putfield 28, 3) := by decide +kernel
theorem dX6_init_59 : decode cX6_init 59 = .ok (.aload_n 0, 1) := by decide +kernel
theorem dX6_init_60 : decode cX6_init 60 = .ok (.bipush 8, 2) := by decide +kernel
theorem dX6_init_62 : decode cX6_init 62 = .ok (.newarray .int, 2) := by decide +kernel
theorem dX6_init_64 : decode cX6_init 64 = .ok (.putfield 31, 3) := by decide +kernel
theorem dX6_init_67 : decode cX6_init 67 = .ok (.aload_n 0, 1) := by decide +kernel
theorem dX6_init_68 : decode cX6_init 68 = .ok (.bipush 8, 2) := by decide +kernel
theorem dX6_init_70 : decode cX6_init 70 = .ok (.newarray .int, 2) := by decide +kernel
theorem dX6_init_72 : decode cX6_init 72 = .ok (.putfield 34, 3) := by decide +kernel
theorem dX6_init_75 : decode cX6_init 75 = .ok (.aload_n 0, 1) := by decide +kernel
theorem dX6_init_76 : decode cX6_init 76 = .ok (.bipush 8, 2) := by decide +kernel
theorem dX6_init_78 : decode cX6_init 78 = .ok (.newarray .int, 2) := by decide +kernel
theorem dX6_init_80 : decode cX6_init 80 = .ok (.putfield 37, 3) := by decide +kernel
theorem dX6_init_83 : decode cX6_init 83 = .ok (.aload_n 0, 1) := by decide +kernel
theorem dX6_init_84 : decode cX6_init 84 = .ok (.bipush 8, 2) := by decide +kernel
theorem dX6_init_86 : decode cX6_init 86 = .ok (.newarray .int, 2) := by decide +kernel
theorem dX6_init_88 : decode cX6_init 88 = .ok (.putfield 40, 3) := by decide +kernel
theorem dX6_init_91 : decode cX6_init 91 = .ok (.aload_n 0, 1) := by decide +kernel
theorem dX6_init_92 : decode cX6_init 92 = .ok (.bipush 8, 2) := by decide +kernel
theorem dX6_init_94 : decode cX6_init 94 = .ok (.newarray .int, 2) := by decide +kernel
theorem dX6_init_96 : decode cX6_init 96 = .ok (.putfield 43, 3) := by decide +kernel
theorem dX6_init_99 : decode cX6_init 99 = .ok (.aload_n 0, 1) := by decide +kernel
theorem dX6_init_100 : decode cX6_init 100 = .ok (.bipush 8, 2) := by decide +kernel
theorem dX6_init_102 : decode cX6_init 102 = .ok (.newarray .int, 2) := by decide +kernel
theorem dX6_init_104 : decode cX6_init 104 = .ok (.putfield 46, 3) := by decide +kernel
theorem dX6_init_107 : decode cX6_init 107 = .ok (.aload_n 0, 1) := by decide +kernel
theorem dX6_init_108 : decode cX6_init 108 = .ok (.sipush 800, 3) := by decide +kernel
theorem dX6_init_111 : decode cX6_init 111 = .ok (.newarray .int, 2) := by decide +kernel
theorem dX6_init_113 : decode cX6_init 113 = .ok (.putfield 49, 3) := by decide +kernel
theorem dX6_init_116 : decode cX6_init 116 = .ok (.iconst 0, 1) := by decide +kernel
theorem dX6_init_117 : decode cX6_init 117 = .ok (.istore_n 1, 1) := by decide +kernel
theorem dX6_init_118 : decode cX6_init 118 = .ok (.iload_n 1, 1) := by decide +kernel
theorem dX6_init_119 : decode cX6_init 119 = .ok (.bipush 8, 2) := by decide +kernel
theorem dX6_init_121 : decode cX6_init 121 = .ok (.if_icmp .ge 19, 3) := by decide +kernel
theorem dX6_init_124 : decode cX6_init 124 = .ok (.aload_n 0, 1) := by decide +kernel
theorem dX6_init_125 : decode cX6_init 125 = .ok (.getfield 9, 3) := by decide +kernel
theorem dX6_init_128 : decode cX6_init 128 = .ok (.bipush 66, 2) := by decide +kernel
theorem dX6_init_130 : decode cX6_init 130 = .ok (.iload_n 1, 1) := by decide +kernel
theorem dX6_init_131 : decode cX6_init 131 = .ok (.iadd, 1) := by decide +kernel
theorem dX6_init_132 : decode cX6_init 132 = .ok (.iload_n 1, 1) := by decide +kernel
theorem dX6_init_133 : decode cX6_init 133 = .ok (.iastore, 1) := by decide +kernel
theorem dX6_init_134 : decode cX6_init 134 = .ok (.iinc 1 1, 3) := by decide +kernel
theorem dX6_init_137 : decode cX6_init 137 = .ok (.goto (-19), 3) := by decide +kernel
theorem dX6_init_140 : decode cX6_init 140 = .ok (.return_, 1) := by decide +kernel
theorem dX6_isIn_0 : decode cX6_isIn 0 = .ok (.iload_n 0, 1) := by decide +kernel
theorem dX6_isIn_1 : decode cX6_isIn 1 = .ok (.iload_n 1, 1) := by decide +kernel
theorem dX6_isIn_2 : decode cX6_isIn 2 = .ok (.if_icmp .lt 12, 3) := by decide +kernel
theorem dX6_isIn_5 : decode cX6_isIn 5 = .ok (.iload_n 0, 1) := by decide +kernel
theorem dX6_isIn_6 : decode cX6_isIn 6 = .ok (.iload_n 2, 1) := by decide +kernel
theorem dX6_isIn_7 : decode cX6_isIn 7 = .ok (.if_icmp .gt 7, 3) := by decide +kernel
theorem dX6_isIn_10 : decode cX6_isIn 10 = .ok (.iconst 1, 1) := by decide +kernel
theorem dX6_isIn_11 : decode cX6_isIn 11 = .ok (.goto 4, 3) := by decide +kernel
theorem dX6_isIn_14 : decode cX6_isIn 14 = .ok (.iconst 0, 1) := by decide +kernel
theorem dX6_isIn_15 : decode cX6_isIn 15 = .ok (.ireturn, 1) := by decide +kernel
theorem dX6_most_0 : decode cX6_most 0 = .ok (.iload_n 0, 1) := by decide +kernel
theorem dX6_most_1 : decode cX6_most 1 = .ok (.iload_n 1, 1) := by decide +kernel
theorem dX6_most_2 : decode cX6_most 2 = .ok (.if_icmp .le 7, 3) := by decide +kernel
theorem dX6_most_5 : decode cX6_most 5 = .ok (.iload_n 0, 1) := by decide +kernel
theorem dX6_most_6 : decode cX6_most 6 = .ok (.goto 4, 3) := by decide +kernel
theorem dX6_most_9 : decode cX6_most 9 = .ok (.iload_n 1, 1) := by decide +kernel
theorem dX6_most_10 : decode cX6_most 10 = .ok (.ireturn, 1) := by decide +kernel
theorem dX6_copies_0 : decode cX6_copies 0 = .ok (.iconst 0, 1) := by decide +kernel
theorem dX6_copies_1 : decode cX6_copies 1 = .ok (.istore_n 2, 1) := by decide +kernel
theorem dX6_copies_2 : decode cX6_copies 2 = .ok (.iload_n 2, 1) := by decide +kernel
theorem dX6_copies_3 : decode cX6_copies 3 = .ok (.bipush 74, 2) := by decide +kernel
theorem dX6_copies_5 : decode cX6_copies 5 = .ok (.if_icmp .ge 15, 3) := by decide +kernel
theorem dX6_copies_8 : decode cX6_copies 8 = .ok (.aload_n 1, 1) := by decide +kernel
theorem dX6_copies_9 : decode cX6_copies 9 = .ok (.iload_n 2, 1) := by decide +kernel
theorem dX6_copies_10 : decode cX6_copies 10 = .ok (.aload_n 0, 1) := by decide +kernel
theorem dX6_copies_11 : decode cX6_copies 11 = .ok (.iload_n 2, 1) := by decide +kernel
theorem dX6_copies_12 : decode cX6_copies 12 = .ok (.iaload, 1) := by decide +kernel
theorem dX6_copies_13 : decode cX6_copies 13 = .ok (.iastore, 1) := by decide +kernel
theorem dX6_copies_14 : decode cX6_copies 14 = .ok (.iinc 2 1, 3) := by decide +kernel
theorem dX6_copies_17 : decode cX6_copies 17 = .ok (.goto (-15), 3) := by decide +kernel
theorem dX6_copies_20 : decode cX6_copies 20 = .ok (.return_, 1) := by decide +kernel
theorem dX6_ofG_0 : decode cX6_ofG 0 = .ok (.iconst 4, 1) := by decide +kernel
theorem dX6_ofG_1 : decode cX6_ofG 1 = .ok (.iconst 3, 1) := by decide +kernel
theorem dX6_ofG_2 : decode cX6_ofG 2 = .ok (.iload_n 0, 1) := by decide +kernel
theorem dX6_ofG_3 : decode cX6_ofG 3 = .ok (.imul, 1) := by decide +kernel
theorem dX6_ofG_4 : decode cX6_ofG 4 = .ok (.iadd, 1) := by decide +kernel
theorem dX6_ofG_5 : decode cX6_ofG 5 = .ok (.ireturn, 1) := by decide +kernel
theorem dX6_ofL_0 : decode cX6_ofL 0 = .ok (.bipush 34, 2) := by decide +kernel
theorem dX6_ofL_2 : decode cX6_ofL 2 = .ok (.iconst 4, 1) := by decide +kernel
theorem dX6_ofL_3 : decode cX6_ofL 3 = .ok (.iload_n 0, 1) := by decide +kernel
theorem dX6_ofL_4 : decode cX6_ofL 4 = .ok (.imul, 1) := by decide +kernel
theorem dX6_ofL_5 : decode cX6_ofL 5 = .ok (.iadd, 1) := by decide +kernel
theorem dX6_ofL_6 : decode cX6_ofL 6 = .ok (.ireturn, 1) := by decide +kernel
set_option maxRecDepth 20000 in
theorem ggX6_isGood_X6_isIn : GoodIn wsX6_isGood wsX6_isIn := goodIn_r _ [5] (by decide +kernel) (by decide +kernel)
set_option maxRecDepth 20000 in
theorem gX6_isGood_X6_isIn : GoodIn wsX6_isGood (va_wsS RX6 52 yX6_isIn wsX6_isIn) := goodIn_app (goodIn_of _ (by decide +kernel)) ggX6_isGood_X6_isIn
theorem dX6_isGood_0 : decode cX6_isGood 0 = .ok (.iload_n 1, 1) := by decide +kernel
theorem dX6_isGood_1 : decode cX6_isGood 1 = .ok (.iconst 0, 1) := by decide +kernel
theorem dX6_isGood_2 : decode cX6_isGood 2 = .ok (.aload_n 0, 1) := by decide +kernel
theorem dX6_isGood_3 : decode cX6_isGood 3 = .ok (.getfield 9, 3) := by decide +kernel
theorem dX6_isGood_6 : decode cX6_isGood 6 = .ok (.iconst 0, 1) := by decide +kernel
theorem dX6_isGood_7 : decode cX6_isGood 7 = .ok (.iaload, 1) := by decide +kernel
theorem dX6_isGood_8 : decode cX6_isGood 8 = .ok (.iconst 1, 1) := by decide +kernel
theorem dX6_isGood_9 : decode cX6_isGood 9 = .ok (.isub, 1) := by decide +kernel
theorem dX6_isGood_10 : decode cX6_isGood 10 = .ok (.invokestatic 52, 3) := by decide +kernel
theorem dX6_isGood_13 : decode cX6_isGood 13 = .ok (.ireturn, 1) := by decide +kernel
set_option maxRecDepth 20000 in
theorem ggX6_isPerson_X6_isIn : GoodIn wsX6_isPerson wsX6_isIn := goodIn_r _ [5] (by decide +kernel) (by decide +kernel)
set_option maxRecDepth 20000 in
theorem gX6_isPerson_X6_isIn : GoodIn wsX6_isPerson (va_wsS RX6 52 yX6_isIn wsX6_isIn) := goodIn_app (goodIn_of _ (by decide +kernel)) ggX6_isPerson_X6_isIn
theorem dX6_isPerson_0 : decode cX6_isPerson 0 = .ok (.iload_n 1, 1) := by decide +kernel
theorem dX6_isPerson_1 : decode cX6_isPerson 1 = .ok (.iconst 0, 1) := by decide +kernel
theorem dX6_isPerson_2 : decode cX6_isPerson 2 = .ok (.aload_n 0, 1) := by decide +kernel
theorem dX6_isPerson_3 : decode cX6_isPerson 3 = .ok (.getfield 9, 3) := by decide +kernel
theorem dX6_isPerson_6 : decode cX6_isPerson 6 = .ok (.iconst 1, 1) := by decide +kernel
theorem dX6_isPerson_7 : decode cX6_isPerson 7 = .ok (.iaload, 1) := by decide +kernel
theorem dX6_isPerson_8 : decode cX6_isPerson 8 = .ok (.iconst 1, 1) := by decide +kernel
theorem dX6_isPerson_9 : decode cX6_isPerson 9 = .ok (.isub, 1) := by decide +kernel
theorem dX6_isPerson_10 : decode cX6_isPerson 10 = .ok (.invokestatic 52, 3) := by decide +kernel
theorem dX6_isPerson_13 : decode cX6_isPerson 13 = .ok (.ireturn, 1) := by decide +kernel
set_option maxRecDepth 20000 in
theorem ggX6_isLoan_X6_isIn : GoodIn wsX6_isLoan wsX6_isIn := goodIn_r _ [5] (by decide +kernel) (by decide +kernel)
set_option maxRecDepth 20000 in
theorem gX6_isLoan_X6_isIn : GoodIn wsX6_isLoan (va_wsS RX6 52 yX6_isIn wsX6_isIn) := goodIn_app (goodIn_of _ (by decide +kernel)) ggX6_isLoan_X6_isIn
theorem dX6_isLoan_0 : decode cX6_isLoan 0 = .ok (.iload_n 1, 1) := by decide +kernel
theorem dX6_isLoan_1 : decode cX6_isLoan 1 = .ok (.iconst 0, 1) := by decide +kernel
theorem dX6_isLoan_2 : decode cX6_isLoan 2 = .ok (.aload_n 0, 1) := by decide +kernel
theorem dX6_isLoan_3 : decode cX6_isLoan 3 = .ok (.getfield 9, 3) := by decide +kernel
theorem dX6_isLoan_6 : decode cX6_isLoan 6 = .ok (.iconst 2, 1) := by decide +kernel
theorem dX6_isLoan_7 : decode cX6_isLoan 7 = .ok (.iaload, 1) := by decide +kernel
theorem dX6_isLoan_8 : decode cX6_isLoan 8 = .ok (.iconst 1, 1) := by decide +kernel
theorem dX6_isLoan_9 : decode cX6_isLoan 9 = .ok (.isub, 1) := by decide +kernel
theorem dX6_isLoan_10 : decode cX6_isLoan 10 = .ok (.invokestatic 52, 3) := by decide +kernel
theorem dX6_isLoan_13 : decode cX6_isLoan 13 = .ok (.ireturn, 1) := by decide +kernel
theorem dX6_has_0 : decode cX6_has 0 = .ok (.iload_n 0, 1) := by decide +kernel
theorem dX6_has_1 : decode cX6_has 1 = .ok (.iload_n 1, 1) := by decide +kernel
theorem dX6_has_2 : decode cX6_has 2 = .ok (.ishr, 1) := by decide +kernel
theorem dX6_has_3 : decode cX6_has 3 = .ok (.iconst 1, 1) := by decide +kernel
theorem dX6_has_4 : decode cX6_has 4 = .ok (.iand, 1) := by decide +kernel
theorem dX6_has_5 : decode cX6_has 5 = .ok (.iconst 1, 1) := by decide +kernel
theorem dX6_has_6 : decode cX6_has 6 = .ok (.if_icmp .ne 7, 3) := by decide +kernel
theorem dX6_has_9 : decode cX6_has 9 = .ok (.iconst 1, 1) := by decide +kernel
theorem dX6_has_10 : decode cX6_has 10 = .ok (.goto 4, 3) := by decide +kernel
theorem dX6_has_13 : decode cX6_has 13 = .ok (.iconst 0, 1) := by decide +kernel
theorem dX6_has_14 : decode cX6_has 14 = .ok (.ireturn, 1) := by decide +kernel
theorem dX6_bits_0 : decode cX6_bits 0 = .ok (.iconst 0, 1) := by decide +kernel
theorem dX6_bits_1 : decode cX6_bits 1 = .ok (.istore_n 1, 1) := by decide +kernel
theorem dX6_bits_2 : decode cX6_bits 2 = .ok (.iconst 0, 1) := by decide +kernel
theorem dX6_bits_3 : decode cX6_bits 3 = .ok (.istore_n 2, 1) := by decide +kernel
theorem dX6_bits_4 : decode cX6_bits 4 = .ok (.iload_n 2, 1) := by decide +kernel
theorem dX6_bits_5 : decode cX6_bits 5 = .ok (.bipush 10, 2) := by decide +kernel
theorem dX6_bits_7 : decode cX6_bits 7 = .ok (.if_icmp .ge 17, 3) := by decide +kernel
theorem dX6_bits_10 : decode cX6_bits 10 = .ok (.iload_n 1, 1) := by decide +kernel
theorem dX6_bits_11 : decode cX6_bits 11 = .ok (.iload_n 0, 1) := by decide +kernel
theorem dX6_bits_12 : decode cX6_bits 12 = .ok (.iload_n 2, 1) := by decide +kernel
theorem dX6_bits_13 : decode cX6_bits 13 = .ok (.ishr, 1) := by decide +kernel
theorem dX6_bits_14 : decode cX6_bits 14 = .ok (.iconst 1, 1) := by decide +kernel
theorem dX6_bits_15 : decode cX6_bits 15 = .ok (.iand, 1) := by decide +kernel
theorem dX6_bits_16 : decode cX6_bits 16 = .ok (.iadd, 1) := by decide +kernel
theorem dX6_bits_17 : decode cX6_bits 17 = .ok (.istore_n 1, 1) := by decide +kernel
theorem dX6_bits_18 : decode cX6_bits 18 = .ok (.iinc 2 1, 3) := by decide +kernel
theorem dX6_bits_21 : decode cX6_bits 21 = .ok (.goto (-17), 3) := by decide +kernel
theorem dX6_bits_24 : decode cX6_bits 24 = .ok (.iload_n 1, 1) := by decide +kernel
theorem dX6_bits_25 : decode cX6_bits 25 = .ok (.ireturn, 1) := by decide +kernel
set_option maxRecDepth 20000 in
theorem ggX6_worthBy_X6_most : GoodIn wsX6_worthBy wsX6_most := goodIn_r _ [4] (by decide +kernel) (by decide +kernel)
set_option maxRecDepth 20000 in
theorem gX6_worthBy_X6_most : GoodIn wsX6_worthBy (va_wsS RX6 56 yX6_most wsX6_most) := goodIn_app (goodIn_of _ (by decide +kernel)) ggX6_worthBy_X6_most
theorem dX6_worthBy_0 : decode cX6_worthBy 0 = .ok (.iload_n 1, 1) := by decide +kernel
theorem dX6_worthBy_1 : decode cX6_worthBy 1 = .ok (.iconst 2, 1) := by decide +kernel
theorem dX6_worthBy_2 : decode cX6_worthBy 2 = .ok (.iadd, 1) := by decide +kernel
theorem dX6_worthBy_3 : decode cX6_worthBy 3 = .ok (.iload_n 2, 1) := by decide +kernel
theorem dX6_worthBy_4 : decode cX6_worthBy 4 = .ok (.iconst 2, 1) := by decide +kernel
theorem dX6_worthBy_5 : decode cX6_worthBy 5 = .ok (.idiv, 1) := by decide +kernel
theorem dX6_worthBy_6 : decode cX6_worthBy 6 = .ok (.iadd, 1) := by decide +kernel
theorem dX6_worthBy_7 : decode cX6_worthBy 7 = .ok (.iload_n 3, 1) := by decide +kernel
theorem dX6_worthBy_8 : decode cX6_worthBy 8 = .ok (.iconst 3, 1) := by decide +kernel
theorem dX6_worthBy_9 : decode cX6_worthBy 9 = .ok (.irem, 1) := by decide +kernel
theorem dX6_worthBy_10 : decode cX6_worthBy 10 = .ok (.isub, 1) := by decide +kernel
theorem dX6_worthBy_11 : decode cX6_worthBy 11 = .ok (.istore 4, 2) := by decide +kernel
theorem dX6_worthBy_13 : decode cX6_worthBy 13 = .ok (.iload_n 0, 1) := by decide +kernel
theorem dX6_worthBy_14 : decode cX6_worthBy 14 = .ok (.tableswitch 83 1 7 #[42, 47, 50, 52, 64, 69, 74], 42) := by decide +kernel
theorem dX6_worthBy_56 : decode cX6_worthBy 56 = .ok (.bipush 6, 2) := by decide +kernel
theorem dX6_worthBy_58 : decode cX6_worthBy 58 = .ok (.iload_n 1, 1) := by decide +kernel
theorem dX6_worthBy_59 : decode cX6_worthBy 59 = .ok (.iadd, 1) := by decide +kernel
theorem dX6_worthBy_60 : decode cX6_worthBy 60 = .ok (.ireturn, 1) := by decide +kernel
theorem dX6_worthBy_61 : decode cX6_worthBy 61 = .ok (.iload 4, 2) := by decide +kernel
theorem dX6_worthBy_63 : decode cX6_worthBy 63 = .ok (.ireturn, 1) := by decide +kernel
theorem dX6_worthBy_64 : decode cX6_worthBy 64 = .ok (.iload_n 2, 1) := by decide +kernel
theorem dX6_worthBy_65 : decode cX6_worthBy 65 = .ok (.ireturn, 1) := by decide +kernel
theorem dX6_worthBy_66 : decode cX6_worthBy 66 = .ok (.iconst 0, 1) := by decide +kernel
theorem dX6_worthBy_67 : decode cX6_worthBy 67 = .ok (.iconst 2, 1) := by decide +kernel
theorem dX6_worthBy_68 : decode cX6_worthBy 68 = .ok (.iload_n 2, 1) := by decide +kernel
theorem dX6_worthBy_69 : decode cX6_worthBy 69 = .ok (.imul, 1) := by decide +kernel
theorem dX6_worthBy_70 : decode cX6_worthBy 70 = .ok (.iload_n 3, 1) := by decide +kernel
theorem dX6_worthBy_71 : decode cX6_worthBy 71 = .ok (.iconst 2, 1) := by decide +kernel
theorem dX6_worthBy_72 : decode cX6_worthBy 72 = .ok (.irem, 1) := by decide +kernel
theorem dX6_worthBy_73 : decode cX6_worthBy 73 = .ok (.isub, 1) := by decide +kernel
theorem dX6_worthBy_74 : decode cX6_worthBy 74 = .ok (.invokestatic 56, 3) := by decide +kernel
theorem dX6_worthBy_77 : decode cX6_worthBy 77 = .ok (.ireturn, 1) := by decide +kernel
theorem dX6_worthBy_78 : decode cX6_worthBy 78 = .ok (.bipush 9, 2) := by decide +kernel
theorem dX6_worthBy_80 : decode cX6_worthBy 80 = .ok (.iload_n 2, 1) := by decide +kernel
theorem dX6_worthBy_81 : decode cX6_worthBy 81 = .ok (.isub, 1) := by decide +kernel
theorem dX6_worthBy_82 : decode cX6_worthBy 82 = .ok (.ireturn, 1) := by decide +kernel
theorem dX6_worthBy_83 : decode cX6_worthBy 83 = .ok (.iload 4, 2) := by decide +kernel
theorem dX6_worthBy_85 : decode cX6_worthBy 85 = .ok (.iconst 2, 1) := by decide +kernel
theorem dX6_worthBy_86 : decode cX6_worthBy 86 = .ok (.idiv, 1) := by decide +kernel
theorem dX6_worthBy_87 : decode cX6_worthBy 87 = .ok (.ireturn, 1) := by decide +kernel
theorem dX6_worthBy_88 : decode cX6_worthBy 88 = .ok (.iload 4, 2) := by decide +kernel
theorem dX6_worthBy_90 : decode cX6_worthBy 90 = .ok (.iconst 2, 1) := by decide +kernel
theorem dX6_worthBy_91 : decode cX6_worthBy 91 = .ok (.idiv, 1) := by decide +kernel
theorem dX6_worthBy_92 : decode cX6_worthBy 92 = .ok (.iconst 3, 1) := by decide +kernel
theorem dX6_worthBy_93 : decode cX6_worthBy 93 = .ok (.iadd, 1) := by decide +kernel
theorem dX6_worthBy_94 : decode cX6_worthBy 94 = .ok (.iload_n 1, 1) := by decide +kernel
theorem dX6_worthBy_95 : decode cX6_worthBy 95 = .ok (.iadd, 1) := by decide +kernel
theorem dX6_worthBy_96 : decode cX6_worthBy 96 = .ok (.ireturn, 1) := by decide +kernel
theorem dX6_worthBy_97 : decode cX6_worthBy 97 = .ok (.iload_n 1, 1) := by decide +kernel
theorem dX6_worthBy_98 : decode cX6_worthBy 98 = .ok (.iconst 2, 1) := by decide +kernel
theorem dX6_worthBy_99 : decode cX6_worthBy 99 = .ok (.iadd, 1) := by decide +kernel
theorem dX6_worthBy_100 : decode cX6_worthBy 100 = .ok (.ireturn, 1) := by decide +kernel
set_option maxRecDepth 20000 in
theorem ggX6_worthIn_X6_ofG : GoodIn wsX6_worthIn wsX6_ofG := goodIn_r _ [4] (by decide +kernel) (by decide +kernel)
set_option maxRecDepth 20000 in
theorem gX6_worthIn_X6_ofG : GoodIn wsX6_worthIn (va_wsS RX6 60 yX6_ofG wsX6_ofG) := goodIn_app (goodIn_of _ (by decide +kernel)) ggX6_worthIn_X6_ofG
set_option maxRecDepth 20000 in
theorem ggX6_worthIn_X6_worthBy : GoodIn wsX6_worthIn wsX6_worthBy := goodIn_r _ [7, 8, 9, 3, 10] (by decide +kernel) (by decide +kernel)
set_option maxRecDepth 20000 in
theorem gX6_worthIn_X6_worthBy : GoodIn wsX6_worthIn (va_wsS RX6 64 yX6_worthBy wsX6_worthBy) := goodIn_app (goodIn_of _ (by decide +kernel)) ggX6_worthIn_X6_worthBy
theorem dX6_worthIn_0 : decode cX6_worthIn 0 = .ok (.aload_n 0, 1) := by decide +kernel
theorem dX6_worthIn_1 : decode cX6_worthIn 1 = .ok (.iload_n 2, 1) := by decide +kernel
theorem dX6_worthIn_2 : decode cX6_worthIn 2 = .ok (.invokestatic 60, 3) := by decide +kernel
theorem dX6_worthIn_5 : decode cX6_worthIn 5 = .ok (.iconst 0, 1) := by decide +kernel
theorem dX6_worthIn_6 : decode cX6_worthIn 6 = .ok (.iadd, 1) := by decide +kernel
theorem dX6_worthIn_7 : decode cX6_worthIn 7 = .ok (.iaload, 1) := by decide +kernel
theorem dX6_worthIn_8 : decode cX6_worthIn 8 = .ok (.aload_n 0, 1) := by decide +kernel
theorem dX6_worthIn_9 : decode cX6_worthIn 9 = .ok (.iload_n 2, 1) := by decide +kernel
theorem dX6_worthIn_10 : decode cX6_worthIn 10 = .ok (.invokestatic 60, 3) := by decide +kernel
theorem dX6_worthIn_13 : decode cX6_worthIn 13 = .ok (.iconst 1, 1) := by decide +kernel
theorem dX6_worthIn_14 : decode cX6_worthIn 14 = .ok (.iadd, 1) := by decide +kernel
theorem dX6_worthIn_15 : decode cX6_worthIn 15 = .ok (.iaload, 1) := by decide +kernel
theorem dX6_worthIn_16 : decode cX6_worthIn 16 = .ok (.aload_n 0, 1) := by decide +kernel
theorem dX6_worthIn_17 : decode cX6_worthIn 17 = .ok (.bipush 28, 2) := by decide +kernel
theorem dX6_worthIn_19 : decode cX6_worthIn 19 = .ok (.iload_n 1, 1) := by decide +kernel
theorem dX6_worthIn_20 : decode cX6_worthIn 20 = .ok (.iadd, 1) := by decide +kernel
theorem dX6_worthIn_21 : decode cX6_worthIn 21 = .ok (.iaload, 1) := by decide +kernel
theorem dX6_worthIn_22 : decode cX6_worthIn 22 = .ok (.aload_n 0, 1) := by decide +kernel
theorem dX6_worthIn_23 : decode cX6_worthIn 23 = .ok (.iconst 3, 1) := by decide +kernel
theorem dX6_worthIn_24 : decode cX6_worthIn 24 = .ok (.iaload, 1) := by decide +kernel
theorem dX6_worthIn_25 : decode cX6_worthIn 25 = .ok (.invokestatic 64, 3) := by decide +kernel
theorem dX6_worthIn_28 : decode cX6_worthIn 28 = .ok (.ireturn, 1) := by decide +kernel
set_option maxRecDepth 20000 in
theorem ggX6_areSame_X6_ofG : GoodIn wsX6_areSame wsX6_ofG := goodIn_r _ [4] (by decide +kernel) (by decide +kernel)
set_option maxRecDepth 20000 in
theorem gX6_areSame_X6_ofG : GoodIn wsX6_areSame (va_wsS RX6 60 yX6_ofG wsX6_ofG) := goodIn_app (goodIn_of _ (by decide +kernel)) ggX6_areSame_X6_ofG
theorem dX6_areSame_0 : decode cX6_areSame 0 = .ok (.aload_n 0, 1) := by decide +kernel
theorem dX6_areSame_1 : decode cX6_areSame 1 = .ok (.bipush 66, 2) := by decide +kernel
theorem dX6_areSame_3 : decode cX6_areSame 3 = .ok (.aload_n 0, 1) := by decide +kernel
theorem dX6_areSame_4 : decode cX6_areSame 4 = .ok (.iload_n 1, 1) := by decide +kernel
theorem dX6_areSame_5 : decode cX6_areSame 5 = .ok (.invokestatic 60, 3) := by decide +kernel
theorem dX6_areSame_8 : decode cX6_areSame 8 = .ok (.iconst 0, 1) := by decide +kernel
theorem dX6_areSame_9 : decode cX6_areSame 9 = .ok (.iadd, 1) := by decide +kernel
theorem dX6_areSame_10 : decode cX6_areSame 10 = .ok (.iaload, 1) := by decide +kernel
theorem dX6_areSame_11 : decode cX6_areSame 11 = .ok (.iadd, 1) := by decide +kernel
theorem dX6_areSame_12 : decode cX6_areSame 12 = .ok (.iaload, 1) := by decide +kernel
theorem dX6_areSame_13 : decode cX6_areSame 13 = .ok (.aload_n 0, 1) := by decide +kernel
theorem dX6_areSame_14 : decode cX6_areSame 14 = .ok (.bipush 66, 2) := by decide +kernel
theorem dX6_areSame_16 : decode cX6_areSame 16 = .ok (.aload_n 0, 1) := by decide +kernel
theorem dX6_areSame_17 : decode cX6_areSame 17 = .ok (.iload_n 2, 1) := by decide +kernel
theorem dX6_areSame_18 : decode cX6_areSame 18 = .ok (.invokestatic 60, 3) := by decide +kernel
theorem dX6_areSame_21 : decode cX6_areSame 21 = .ok (.iconst 0, 1) := by decide +kernel
theorem dX6_areSame_22 : decode cX6_areSame 22 = .ok (.iadd, 1) := by decide +kernel
theorem dX6_areSame_23 : decode cX6_areSame 23 = .ok (.iaload, 1) := by decide +kernel
theorem dX6_areSame_24 : decode cX6_areSame 24 = .ok (.iadd, 1) := by decide +kernel
theorem dX6_areSame_25 : decode cX6_areSame 25 = .ok (.iaload, 1) := by decide +kernel
theorem dX6_areSame_26 : decode cX6_areSame 26 = .ok (.if_icmp .ne 7, 3) := by decide +kernel
theorem dX6_areSame_29 : decode cX6_areSame 29 = .ok (.iconst 1, 1) := by decide +kernel
theorem dX6_areSame_30 : decode cX6_areSame 30 = .ok (.goto 4, 3) := by decide +kernel
theorem dX6_areSame_33 : decode cX6_areSame 33 = .ok (.iconst 0, 1) := by decide +kernel
theorem dX6_areSame_34 : decode cX6_areSame 34 = .ok (.ireturn, 1) := by decide +kernel
set_option maxRecDepth 20000 in
theorem ggX6_wouldIn_X6_areSame : GoodIn wsX6_wouldIn wsX6_areSame := goodIn_r _ [4, 5, 6, 3, 7] (by decide +kernel) (by decide +kernel)
set_option maxRecDepth 20000 in
theorem gX6_wouldIn_X6_areSame : GoodIn wsX6_wouldIn (va_wsS RX6 68 yX6_areSame wsX6_areSame) := goodIn_app (goodIn_of _ (by decide +kernel)) ggX6_wouldIn_X6_areSame
set_option maxRecDepth 20000 in
theorem ggX6_wouldIn_X6_worthIn : GoodIn wsX6_wouldIn wsX6_worthIn := goodIn_r _ [10, 5, 6, 3, 7, 11, 12, 13, 14, 15, 16] (by decide +kernel) (by decide +kernel)
set_option maxRecDepth 20000 in
theorem gX6_wouldIn_X6_worthIn : GoodIn wsX6_wouldIn (va_wsS RX6 72 yX6_worthIn wsX6_worthIn) := goodIn_app (goodIn_of _ (by decide +kernel)) ggX6_wouldIn_X6_worthIn
theorem dX6_wouldIn_0 : decode cX6_wouldIn 0 = .ok (.aload_n 0, 1) := by decide +kernel
theorem dX6_wouldIn_1 : decode cX6_wouldIn 1 = .ok (.iload_n 2, 1) := by decide +kernel
theorem dX6_wouldIn_2 : decode cX6_wouldIn 2 = .ok (.iload_n 3, 1) := by decide +kernel
theorem dX6_wouldIn_3 : decode cX6_wouldIn 3 = .ok (.invokestatic 68, 3) := by decide +kernel
theorem dX6_wouldIn_6 : decode cX6_wouldIn 6 = .ok (.ifCond .ne 22, 3) := by decide +kernel
theorem dX6_wouldIn_9 : decode cX6_wouldIn 9 = .ok (.aload_n 0, 1) := by decide +kernel
theorem dX6_wouldIn_10 : decode cX6_wouldIn 10 = .ok (.iload_n 1, 1) := by decide +kernel
theorem dX6_wouldIn_11 : decode cX6_wouldIn 11 = .ok (.iload_n 3, 1) := by decide +kernel
theorem dX6_wouldIn_12 : decode cX6_wouldIn 12 = .ok (.invokestatic 72, 3) := by decide +kernel
theorem dX6_wouldIn_15 : decode cX6_wouldIn 15 = .ok (.aload_n 0, 1) := by decide +kernel
theorem dX6_wouldIn_16 : decode cX6_wouldIn 16 = .ok (.iload_n 1, 1) := by decide +kernel
theorem dX6_wouldIn_17 : decode cX6_wouldIn 17 = .ok (.iload_n 2, 1) := by decide +kernel
theorem dX6_wouldIn_18 : decode cX6_wouldIn 18 = .ok (.invokestatic 72, 3) := by decide +kernel
theorem dX6_wouldIn_21 : decode cX6_wouldIn 21 = .ok (.if_icmp .lt 7, 3) := by decide +kernel
theorem dX6_wouldIn_24 : decode cX6_wouldIn 24 = .ok (.iconst 1, 1) := by decide +kernel
theorem dX6_wouldIn_25 : decode cX6_wouldIn 25 = .ok (.goto 4, 3) := by decide +kernel
theorem dX6_wouldIn_28 : decode cX6_wouldIn 28 = .ok (.iconst 0, 1) := by decide +kernel
theorem dX6_wouldIn_29 : decode cX6_wouldIn 29 = .ok (.ireturn, 1) := by decide +kernel
set_option maxRecDepth 20000 in
theorem ggX6_canPayIn_X6_ofL : GoodIn wsX6_canPayIn wsX6_ofL := goodIn_r _ [4] (by decide +kernel) (by decide +kernel)
set_option maxRecDepth 20000 in
theorem gX6_canPayIn_X6_ofL : GoodIn wsX6_canPayIn (va_wsS RX6 76 yX6_ofL wsX6_ofL) := goodIn_app (goodIn_of _ (by decide +kernel)) ggX6_canPayIn_X6_ofL
set_option maxRecDepth 20000 in
theorem ggX6_canPayIn_X6_ofG : GoodIn wsX6_canPayIn wsX6_ofG := goodIn_r _ [7] (by decide +kernel) (by decide +kernel)
set_option maxRecDepth 20000 in
theorem gX6_canPayIn_X6_ofG : GoodIn wsX6_canPayIn (va_wsS RX6 60 yX6_ofG wsX6_ofG) := goodIn_app (goodIn_of _ (by decide +kernel)) ggX6_canPayIn_X6_ofG
set_option maxRecDepth 20000 in
theorem ggX6_canPayIn_X6_wouldIn : GoodIn wsX6_canPayIn wsX6_wouldIn := goodIn_r _ [10, 11, 12, 3, 13, 5, 6, 7, 14, 15, 16, 17, 18, 19, 20, 21, 22] (by decide +kernel) (by decide +kernel)
set_option maxRecDepth 20000 in
theorem gX6_canPayIn_X6_wouldIn : GoodIn wsX6_canPayIn (va_wsS RX6 79 yX6_wouldIn wsX6_wouldIn) := goodIn_app (goodIn_of _ (by decide +kernel)) ggX6_canPayIn_X6_wouldIn
theorem dX6_canPayIn_0 : decode cX6_canPayIn 0 = .ok (.aload_n 0, 1) := by decide +kernel
theorem dX6_canPayIn_1 : decode cX6_canPayIn 1 = .ok (.iload_n 1, 1) := by decide +kernel
theorem dX6_canPayIn_2 : decode cX6_canPayIn 2 = .ok (.invokestatic 76, 3) := by decide +kernel
theorem dX6_canPayIn_5 : decode cX6_canPayIn 5 = .ok (.iconst 3, 1) := by decide +kernel
theorem dX6_canPayIn_6 : decode cX6_canPayIn 6 = .ok (.iadd, 1) := by decide +kernel
theorem dX6_canPayIn_7 : decode cX6_canPayIn 7 = .ok (.iaload, 1) := by decide +kernel
theorem dX6_canPayIn_8 : decode cX6_canPayIn 8 = .ok (.iconst 1, 1) := by decide +kernel
theorem dX6_canPayIn_9 : decode cX6_canPayIn 9 = .ok (.if_icmp .ne 50, 3) := by decide +kernel
theorem dX6_canPayIn_12 : decode cX6_canPayIn 12 = .ok (.aload_n 0, 1) := by decide +kernel
theorem dX6_canPayIn_13 : decode cX6_canPayIn 13 = .ok (.iload_n 2, 1) := by decide +kernel
theorem dX6_canPayIn_14 : decode cX6_canPayIn 14 = .ok (.invokestatic 60, 3) := by decide +kernel
theorem dX6_canPayIn_17 : decode cX6_canPayIn 17 = .ok (.iconst 2, 1) := by decide +kernel
theorem dX6_canPayIn_18 : decode cX6_canPayIn 18 = .ok (.iadd, 1) := by decide +kernel
theorem dX6_canPayIn_19 : decode cX6_canPayIn 19 = .ok (.iaload, 1) := by decide +kernel
theorem dX6_canPayIn_20 : decode cX6_canPayIn 20 = .ok (.aload_n 0, 1) := by decide +kernel
theorem dX6_canPayIn_21 : decode cX6_canPayIn 21 = .ok (.iload_n 1, 1) := by decide +kernel
theorem dX6_canPayIn_22 : decode cX6_canPayIn 22 = .ok (.invokestatic 76, 3) := by decide +kernel
theorem dX6_canPayIn_25 : decode cX6_canPayIn 25 = .ok (.iconst 1, 1) := by decide +kernel
theorem dX6_canPayIn_26 : decode cX6_canPayIn 26 = .ok (.iadd, 1) := by decide +kernel
theorem dX6_canPayIn_27 : decode cX6_canPayIn 27 = .ok (.iaload, 1) := by decide +kernel
theorem dX6_canPayIn_28 : decode cX6_canPayIn 28 = .ok (.if_icmp .ne 31, 3) := by decide +kernel
theorem dX6_canPayIn_31 : decode cX6_canPayIn 31 = .ok (.aload_n 0, 1) := by decide +kernel
theorem dX6_canPayIn_32 : decode cX6_canPayIn 32 = .ok (.aload_n 0, 1) := by decide +kernel
theorem dX6_canPayIn_33 : decode cX6_canPayIn 33 = .ok (.iload_n 1, 1) := by decide +kernel
theorem dX6_canPayIn_34 : decode cX6_canPayIn 34 = .ok (.invokestatic 76, 3) := by decide +kernel
theorem dX6_canPayIn_37 : decode cX6_canPayIn 37 = .ok (.iconst 0, 1) := by decide +kernel
theorem dX6_canPayIn_38 : decode cX6_canPayIn 38 = .ok (.iadd, 1) := by decide +kernel
theorem dX6_canPayIn_39 : decode cX6_canPayIn 39 = .ok (.iaload, 1) := by decide +kernel
theorem dX6_canPayIn_40 : decode cX6_canPayIn 40 = .ok (.aload_n 0, 1) := by decide +kernel
theorem dX6_canPayIn_41 : decode cX6_canPayIn 41 = .ok (.iload_n 1, 1) := by decide +kernel
theorem dX6_canPayIn_42 : decode cX6_canPayIn 42 = .ok (.invokestatic 76, 3) := by decide +kernel
theorem dX6_canPayIn_45 : decode cX6_canPayIn 45 = .ok (.iconst 2, 1) := by decide +kernel
theorem dX6_canPayIn_46 : decode cX6_canPayIn 46 = .ok (.iadd, 1) := by decide +kernel
theorem dX6_canPayIn_47 : decode cX6_canPayIn 47 = .ok (.iaload, 1) := by decide +kernel
theorem dX6_canPayIn_48 : decode cX6_canPayIn 48 = .ok (.iload_n 2, 1) := by decide +kernel
theorem dX6_canPayIn_49 : decode cX6_canPayIn 49 = .ok (.invokestatic 79, 3) := by decide +kernel
theorem dX6_canPayIn_52 : decode cX6_canPayIn 52 = .ok (.ifCond .eq 7, 3) := by decide +kernel
theorem dX6_canPayIn_55 : decode cX6_canPayIn 55 = .ok (.iconst 1, 1) := by decide +kernel
theorem dX6_canPayIn_56 : decode cX6_canPayIn 56 = .ok (.goto 4, 3) := by decide +kernel
theorem dX6_canPayIn_59 : decode cX6_canPayIn 59 = .ok (.iconst 0, 1) := by decide +kernel
theorem dX6_canPayIn_60 : decode cX6_canPayIn 60 = .ok (.ireturn, 1) := by decide +kernel
set_option maxRecDepth 20000 in
theorem ggX6_paysIn_X6_ofG : GoodIn wsX6_paysIn wsX6_ofG := goodIn_r _ [4] (by decide +kernel) (by decide +kernel)
set_option maxRecDepth 20000 in
theorem gX6_paysIn_X6_ofG : GoodIn wsX6_paysIn (va_wsS RX6 60 yX6_ofG wsX6_ofG) := goodIn_app (goodIn_of _ (by decide +kernel)) ggX6_paysIn_X6_ofG
set_option maxRecDepth 20000 in
theorem ggX6_paysIn_X6_ofL : GoodIn wsX6_paysIn wsX6_ofL := goodIn_r _ [7] (by decide +kernel) (by decide +kernel)
set_option maxRecDepth 20000 in
theorem gX6_paysIn_X6_ofL : GoodIn wsX6_paysIn (va_wsS RX6 76 yX6_ofL wsX6_ofL) := goodIn_app (goodIn_of _ (by decide +kernel)) ggX6_paysIn_X6_ofL
theorem dX6_paysIn_0 : decode cX6_paysIn 0 = .ok (.aload_n 0, 1) := by decide +kernel
theorem dX6_paysIn_1 : decode cX6_paysIn 1 = .ok (.iload_n 2, 1) := by decide +kernel
theorem dX6_paysIn_2 : decode cX6_paysIn 2 = .ok (.invokestatic 60, 3) := by decide +kernel
theorem dX6_paysIn_5 : decode cX6_paysIn 5 = .ok (.iconst 2, 1) := by decide +kernel
theorem dX6_paysIn_6 : decode cX6_paysIn 6 = .ok (.iadd, 1) := by decide +kernel
theorem dX6_paysIn_7 : decode cX6_paysIn 7 = .ok (.aload_n 0, 1) := by decide +kernel
theorem dX6_paysIn_8 : decode cX6_paysIn 8 = .ok (.iload_n 1, 1) := by decide +kernel
theorem dX6_paysIn_9 : decode cX6_paysIn 9 = .ok (.invokestatic 76, 3) := by decide +kernel
theorem dX6_paysIn_12 : decode cX6_paysIn 12 = .ok (.iconst 0, 1) := by decide +kernel
theorem dX6_paysIn_13 : decode cX6_paysIn 13 = .ok (.iadd, 1) := by decide +kernel
theorem dX6_paysIn_14 : decode cX6_paysIn 14 = .ok (.iaload, 1) := by decide +kernel
theorem dX6_paysIn_15 : decode cX6_paysIn 15 = .ok (.iastore, 1) := by decide +kernel
theorem dX6_paysIn_16 : decode cX6_paysIn 16 = .ok (.aload_n 0, 1) := by decide +kernel
theorem dX6_paysIn_17 : decode cX6_paysIn 17 = .ok (.iload_n 1, 1) := by decide +kernel
theorem dX6_paysIn_18 : decode cX6_paysIn 18 = .ok (.invokestatic 76, 3) := by decide +kernel
theorem dX6_paysIn_21 : decode cX6_paysIn 21 = .ok (.iconst 3, 1) := by decide +kernel
theorem dX6_paysIn_22 : decode cX6_paysIn 22 = .ok (.iadd, 1) := by decide +kernel
theorem dX6_paysIn_23 : decode cX6_paysIn 23 = .ok (.iconst 0, 1) := by decide +kernel
theorem dX6_paysIn_24 : decode cX6_paysIn 24 = .ok (.iastore, 1) := by decide +kernel
theorem dX6_paysIn_25 : decode cX6_paysIn 25 = .ok (.return_, 1) := by decide +kernel
set_option maxRecDepth 20000 in
theorem ggX6_leastPayment_X6_ofL : GoodIn wsX6_leastPayment wsX6_ofL := goodIn_r _ [4] (by decide +kernel) (by decide +kernel)
set_option maxRecDepth 20000 in
theorem gX6_leastPayment_X6_ofL : GoodIn wsX6_leastPayment (va_wsS RX6 76 yX6_ofL wsX6_ofL) := goodIn_app (goodIn_of _ (by decide +kernel)) ggX6_leastPayment_X6_ofL
set_option maxRecDepth 20000 in
theorem ggX6_leastPayment_X6_canPayIn : GoodIn wsX6_leastPayment wsX6_canPayIn := goodIn_r _ [7, 1, 2, 3, 4, 8, 9, 10, 11, 12, 13, 14, 15, 16, 17, 18, 19, 20, 21, 22, 23, 24, 25] (by decide +kernel) (by decide +kernel)
set_option maxRecDepth 20000 in
theorem gX6_leastPayment_X6_canPayIn : GoodIn wsX6_leastPayment (va_wsS RX6 83 yX6_canPayIn wsX6_canPayIn) := goodIn_app (goodIn_of _ (by decide +kernel)) ggX6_leastPayment_X6_canPayIn
set_option maxRecDepth 20000 in
theorem ggX6_leastPayment_X6_worthIn : GoodIn wsX6_leastPayment wsX6_worthIn := goodIn_r _ [19, 8, 9, 3, 10, 20, 21, 22, 23, 24, 25] (by decide +kernel) (by decide +kernel)
set_option maxRecDepth 20000 in
theorem gX6_leastPayment_X6_worthIn : GoodIn wsX6_leastPayment (va_wsS RX6 72 yX6_worthIn wsX6_worthIn) := goodIn_app (goodIn_of _ (by decide +kernel)) ggX6_leastPayment_X6_worthIn
theorem dX6_leastPayment_0 : decode cX6_leastPayment 0 = .ok (.bipush (-4), 2) := by decide +kernel
theorem dX6_leastPayment_2 : decode cX6_leastPayment 2 = .ok (.istore_n 2, 1) := by decide +kernel
theorem dX6_leastPayment_3 : decode cX6_leastPayment 3 = .ok (.aload_n 0, 1) := by decide +kernel
theorem dX6_leastPayment_4 : decode cX6_leastPayment 4 = .ok (.iload_n 1, 1) := by decide +kernel
theorem dX6_leastPayment_5 : decode cX6_leastPayment 5 = .ok (.invokestatic 76, 3) := by decide +kernel
theorem dX6_leastPayment_8 : decode cX6_leastPayment 8 = .ok (.iconst 1, 1) := by decide +kernel
theorem dX6_leastPayment_9 : decode cX6_leastPayment 9 = .ok (.iadd, 1) := by decide +kernel
theorem dX6_leastPayment_10 : decode cX6_leastPayment 10 = .ok (.iaload, 1) := by decide +kernel
theorem dX6_leastPayment_11 : decode cX6_leastPayment 11 = .ok (.istore_n 3, 1) := by decide +kernel
theorem dX6_leastPayment_12 : decode cX6_leastPayment 12 = .ok (.iconst 0, 1) := by decide +kernel
theorem dX6_leastPayment_13 : decode cX6_leastPayment 13 = .ok (.istore 4, 2) := by decide +kernel
theorem dX6_leastPayment_15 : decode cX6_leastPayment 15 = .ok (.iload 4, 2) := by decide +kernel
theorem dX6_leastPayment_17 : decode cX6_leastPayment 17 = .ok (.aload_n 0, 1) := by decide +kernel
theorem dX6_leastPayment_18 : decode cX6_leastPayment 18 = .ok (.iconst 0, 1) := by decide +kernel
theorem dX6_leastPayment_19 : decode cX6_leastPayment 19 = .ok (.iaload, 1) := by decide +kernel
theorem dX6_leastPayment_20 : decode cX6_leastPayment 20 = .ok (.if_icmp .ge 42, 3) := by decide +kernel
theorem dX6_leastPayment_23 : decode cX6_leastPayment 23 = .ok (.aload_n 0, 1) := by decide +kernel
theorem dX6_leastPayment_24 : decode cX6_leastPayment 24 = .ok (.iload_n 1, 1) := by decide +kernel
theorem dX6_leastPayment_25 : decode cX6_leastPayment 25 = .ok (.iload 4, 2) := by decide +kernel
theorem dX6_leastPayment_27 : decode cX6_leastPayment 27 = .ok (.invokestatic 83, 3) := by decide +kernel
theorem dX6_leastPayment_30 : decode cX6_leastPayment 30 = .ok (.ifCond .eq 26, 3) := by decide +kernel
theorem dX6_leastPayment_33 : decode cX6_leastPayment 33 = .ok (.iload_n 2, 1) := by decide +kernel
theorem dX6_leastPayment_34 : decode cX6_leastPayment 34 = .ok (.ifCond .lt 19, 3) := by decide +kernel
theorem dX6_leastPayment_37 : decode cX6_leastPayment 37 = .ok (.aload_n 0, 1) := by decide +kernel
theorem dX6_leastPayment_38 : decode cX6_leastPayment 38 = .ok (.iload_n 3, 1) := by decide +kernel
theorem dX6_leastPayment_39 : decode cX6_leastPayment 39 = .ok (.iload 4, 2) := by decide +kernel
theorem dX6_leastPayment_41 : decode cX6_leastPayment 41 = .ok (.invokestatic 72, 3) := by decide +kernel
theorem dX6_leastPayment_44 : decode cX6_leastPayment 44 = .ok (.aload_n 0, 1) := by decide +kernel
theorem dX6_leastPayment_45 : decode cX6_leastPayment 45 = .ok (.iload_n 3, 1) := by decide +kernel
theorem dX6_leastPayment_46 : decode cX6_leastPayment 46 = .ok (.iload_n 2, 1) := by decide +kernel
theorem dX6_leastPayment_47 : decode cX6_leastPayment 47 = .ok (.invokestatic 72, 3) := by decide +kernel
theorem dX6_leastPayment_50 : decode cX6_leastPayment 50 = .ok (.if_icmp .ge 6, 3) := by decide +kernel
theorem dX6_leastPayment_53 : decode cX6_leastPayment 53 = .ok (.iload 4, 2) := by decide +kernel
theorem dX6_leastPayment_55 : decode cX6_leastPayment 55 = .ok (.istore_n 2, 1) := by decide +kernel
theorem dX6_leastPayment_56 : decode cX6_leastPayment 56 = .ok (.iinc 4 1, 3) := by decide +kernel
theorem dX6_leastPayment_59 : decode cX6_leastPayment 59 = .ok (.goto (-44), 3) := by decide +kernel
theorem dX6_leastPayment_62 : decode cX6_leastPayment 62 = .ok (.iload_n 2, 1) := by decide +kernel
theorem dX6_leastPayment_63 : decode cX6_leastPayment 63 = .ok (.ireturn, 1) := by decide +kernel
set_option maxRecDepth 20000 in
theorem ggX6_week_X6_leastPayment : GoodIn wsX6_week wsX6_leastPayment := goodIn_r _ [4, 5, 6, 3, 7, 8, 9, 10, 11, 12, 13, 14, 15, 16, 17, 18, 19, 20, 21, 22, 23, 24, 25, 26, 27, 28] (by decide +kernel) (by decide +kernel)
set_option maxRecDepth 20000 in
theorem gX6_week_X6_leastPayment : GoodIn wsX6_week (va_wsS RX6 86 yX6_leastPayment wsX6_leastPayment) := goodIn_app (goodIn_of _ (by decide +kernel)) ggX6_week_X6_leastPayment
set_option maxRecDepth 20000 in
theorem ggX6_week_X6_paysIn : GoodIn wsX6_week wsX6_paysIn := goodIn_r _ [31, 11, 12, 3, 13, 5, 6, 7] (by decide +kernel) (by decide +kernel)
set_option maxRecDepth 20000 in
theorem gX6_week_X6_paysIn : GoodIn wsX6_week (va_wsS RX6 90 yX6_paysIn wsX6_paysIn) := goodIn_app (goodIn_of _ (by decide +kernel)) ggX6_week_X6_paysIn
theorem dX6_week_0 : decode cX6_week 0 = .ok (.aload_n 0, 1) := by decide +kernel
theorem dX6_week_1 : decode cX6_week 1 = .ok (.iconst 3, 1) := by decide +kernel
theorem dX6_week_2 : decode cX6_week 2 = .ok (.dup2, 1) := by decide +kernel
theorem dX6_week_3 : decode cX6_week 3 = .ok (.iaload, 1) := by decide +kernel
theorem dX6_week_4 : decode cX6_week 4 = .ok (.iconst 1, 1) := by decide +kernel
theorem dX6_week_5 : decode cX6_week 5 = .ok (.iadd, 1) := by decide +kernel
theorem dX6_week_6 : decode cX6_week 6 = .ok (.iastore, 1) := by decide +kernel
theorem dX6_week_7 : decode cX6_week 7 = .ok (.iconst 0, 1) := by decide +kernel
theorem dX6_week_8 : decode cX6_week 8 = .ok (.istore_n 1, 1) := by decide +kernel
theorem dX6_week_9 : decode cX6_week 9 = .ok (.iload_n 1, 1) := by decide +kernel
theorem dX6_week_10 : decode cX6_week 10 = .ok (.aload_n 0, 1) := by decide +kernel
theorem dX6_week_11 : decode cX6_week 11 = .ok (.iconst 2, 1) := by decide +kernel
theorem dX6_week_12 : decode cX6_week 12 = .ok (.iaload, 1) := by decide +kernel
theorem dX6_week_13 : decode cX6_week 13 = .ok (.if_icmp .ge 25, 3) := by decide +kernel
theorem dX6_week_16 : decode cX6_week 16 = .ok (.aload_n 0, 1) := by decide +kernel
theorem dX6_week_17 : decode cX6_week 17 = .ok (.iload_n 1, 1) := by decide +kernel
theorem dX6_week_18 : decode cX6_week 18 = .ok (.invokestatic 86, 3) := by decide +kernel
theorem dX6_week_21 : decode cX6_week 21 = .ok (.istore_n 2, 1) := by decide +kernel
theorem dX6_week_22 : decode cX6_week 22 = .ok (.iload_n 2, 1) := by decide +kernel
theorem dX6_week_23 : decode cX6_week 23 = .ok (.ifCond .lt 9, 3) := by decide +kernel
theorem dX6_week_26 : decode cX6_week 26 = .ok (.aload_n 0, 1) := by decide +kernel
theorem dX6_week_27 : decode cX6_week 27 = .ok (.iload_n 1, 1) := by decide +kernel
theorem dX6_week_28 : decode cX6_week 28 = .ok (.iload_n 2, 1) := by decide +kernel
theorem dX6_week_29 : decode cX6_week 29 = .ok (.invokestatic 90, 3) := by decide +kernel
theorem dX6_week_32 : decode cX6_week 32 = .ok (.iinc 1 1, 3) := by decide +kernel
theorem dX6_week_35 : decode cX6_week 35 = .ok (.goto (-26), 3) := by decide +kernel
theorem dX6_week_38 : decode cX6_week 38 = .ok (.return_, 1) := by decide +kernel
set_option maxRecDepth 20000 in
theorem ggX6_weeksOn_X6_week : GoodIn wsX6_weeksOn wsX6_week := goodIn_r _ [4, 5, 6, 3, 7, 8, 9, 10, 11, 12, 13, 14, 15, 16, 17, 18, 19, 20, 21, 22, 23, 24, 25, 26, 27, 28, 29, 30, 31, 32, 33, 34] (by decide +kernel) (by decide +kernel)
set_option maxRecDepth 20000 in
theorem gX6_weeksOn_X6_week : GoodIn wsX6_weeksOn (va_wsS RX6 94 yX6_week wsX6_week) := goodIn_app (goodIn_of _ (by decide +kernel)) ggX6_weeksOn_X6_week
theorem dX6_weeksOn_0 : decode cX6_weeksOn 0 = .ok (.iconst 0, 1) := by decide +kernel
theorem dX6_weeksOn_1 : decode cX6_weeksOn 1 = .ok (.istore_n 2, 1) := by decide +kernel
theorem dX6_weeksOn_2 : decode cX6_weeksOn 2 = .ok (.iload_n 2, 1) := by decide +kernel
theorem dX6_weeksOn_3 : decode cX6_weeksOn 3 = .ok (.iload_n 1, 1) := by decide +kernel
theorem dX6_weeksOn_4 : decode cX6_weeksOn 4 = .ok (.if_icmp .ge 13, 3) := by decide +kernel
theorem dX6_weeksOn_7 : decode cX6_weeksOn 7 = .ok (.aload_n 0, 1) := by decide +kernel
theorem dX6_weeksOn_8 : decode cX6_weeksOn 8 = .ok (.invokestatic 94, 3) := by decide +kernel
theorem dX6_weeksOn_11 : decode cX6_weeksOn 11 = .ok (.iinc 2 1, 3) := by decide +kernel
theorem dX6_weeksOn_14 : decode cX6_weeksOn 14 = .ok (.goto (-12), 3) := by decide +kernel
theorem dX6_weeksOn_17 : decode cX6_weeksOn 17 = .ok (.return_, 1) := by decide +kernel
set_option maxRecDepth 20000 in
theorem ggX6_openIn_X6_ofL : GoodIn wsX6_openIn wsX6_ofL := goodIn_r _ [4] (by decide +kernel) (by decide +kernel)
set_option maxRecDepth 20000 in
theorem gX6_openIn_X6_ofL : GoodIn wsX6_openIn (va_wsS RX6 76 yX6_ofL wsX6_ofL) := goodIn_app (goodIn_of _ (by decide +kernel)) ggX6_openIn_X6_ofL
theorem dX6_openIn_0 : decode cX6_openIn 0 = .ok (.iconst 0, 1) := by decide +kernel
theorem dX6_openIn_1 : decode cX6_openIn 1 = .ok (.istore_n 1, 1) := by decide +kernel
theorem dX6_openIn_2 : decode cX6_openIn 2 = .ok (.iconst 0, 1) := by decide +kernel
theorem dX6_openIn_3 : decode cX6_openIn 3 = .ok (.istore_n 2, 1) := by decide +kernel
theorem dX6_openIn_4 : decode cX6_openIn 4 = .ok (.iload_n 2, 1) := by decide +kernel
theorem dX6_openIn_5 : decode cX6_openIn 5 = .ok (.aload_n 0, 1) := by decide +kernel
theorem dX6_openIn_6 : decode cX6_openIn 6 = .ok (.iconst 2, 1) := by decide +kernel
theorem dX6_openIn_7 : decode cX6_openIn 7 = .ok (.iaload, 1) := by decide +kernel
theorem dX6_openIn_8 : decode cX6_openIn 8 = .ok (.if_icmp .ge 22, 3) := by decide +kernel
theorem dX6_openIn_11 : decode cX6_openIn 11 = .ok (.iload_n 1, 1) := by decide +kernel
theorem dX6_openIn_12 : decode cX6_openIn 12 = .ok (.aload_n 0, 1) := by decide +kernel
theorem dX6_openIn_13 : decode cX6_openIn 13 = .ok (.iload_n 2, 1) := by decide +kernel
theorem dX6_openIn_14 : decode cX6_openIn 14 = .ok (.invokestatic 76, 3) := by decide +kernel
theorem dX6_openIn_17 : decode cX6_openIn 17 = .ok (.iconst 3, 1) := by decide +kernel
theorem dX6_openIn_18 : decode cX6_openIn 18 = .ok (.iadd, 1) := by decide +kernel
theorem dX6_openIn_19 : decode cX6_openIn 19 = .ok (.iaload, 1) := by decide +kernel
theorem dX6_openIn_20 : decode cX6_openIn 20 = .ok (.iload_n 2, 1) := by decide +kernel
theorem dX6_openIn_21 : decode cX6_openIn 21 = .ok (.ishl, 1) := by decide +kernel
theorem dX6_openIn_22 : decode cX6_openIn 22 = .ok (.ior, 1) := by decide +kernel
theorem dX6_openIn_23 : decode cX6_openIn 23 = .ok (.istore_n 1, 1) := by decide +kernel
theorem dX6_openIn_24 : decode cX6_openIn 24 = .ok (.iinc 2 1, 3) := by decide +kernel
theorem dX6_openIn_27 : decode cX6_openIn 27 = .ok (.goto (-23), 3) := by decide +kernel
theorem dX6_openIn_30 : decode cX6_openIn 30 = .ok (.iload_n 1, 1) := by decide +kernel
theorem dX6_openIn_31 : decode cX6_openIn 31 = .ok (.ireturn, 1) := by decide +kernel
theorem dX6_here_0 : decode cX6_here 0 = .ok (.aload_n 0, 1) := by decide +kernel
theorem dX6_here_1 : decode cX6_here 1 = .ok (.getfield 98, 3) := by decide +kernel
theorem dX6_here_4 : decode cX6_here 4 = .ok (.aload_n 0, 1) := by decide +kernel
theorem dX6_here_5 : decode cX6_here 5 = .ok (.getfield 102, 3) := by decide +kernel
theorem dX6_here_8 : decode cX6_here 8 = .ok (.if_icmp .ge 24, 3) := by decide +kernel
theorem dX6_here_11 : decode cX6_here 11 = .ok (.aload_n 0, 1) := by decide +kernel
theorem dX6_here_12 : decode cX6_here 12 = .ok (.getfield 49, 3) := by decide +kernel
theorem dX6_here_15 : decode cX6_here 15 = .ok (.aload_n 0, 1) := by decide +kernel
theorem dX6_here_16 : decode cX6_here 16 = .ok (.getfield 105, 3) := by decide +kernel
theorem dX6_here_19 : decode cX6_here 19 = .ok (.aload_n 0, 1) := by decide +kernel
theorem dX6_here_20 : decode cX6_here 20 = .ok (.getfield 98, 3) := by decide +kernel
theorem dX6_here_23 : decode cX6_here 23 = .ok (.iadd, 1) := by decide +kernel
theorem dX6_here_24 : decode cX6_here 24 = .ok (.iaload, 1) := by decide +kernel
theorem dX6_here_25 : decode cX6_here 25 = .ok (.sipush 255, 3) := by decide +kernel
theorem dX6_here_28 : decode cX6_here 28 = .ok (.iand, 1) := by decide +kernel
theorem dX6_here_29 : decode cX6_here 29 = .ok (.goto 4, 3) := by decide +kernel
theorem dX6_here_32 : decode cX6_here 32 = .ok (.iconst (-1), 1) := by decide +kernel
theorem dX6_here_33 : decode cX6_here 33 = .ok (.ireturn, 1) := by decide +kernel
set_option maxRecDepth 20000 in
theorem ggX6_readsNumber_X6_here : GoodIn wsX6_readsNumber wsX6_here := goodIn_r _ [7, 2, 8, 9, 10, 14, 15, 16, 17, 18, 19, 20, 21, 22, 23, 24, 25, 26, 27, 28, 29, 30, 31, 32, 33, 34, 35] (by decide +kernel) (by decide +kernel)
set_option maxRecDepth 20000 in
theorem gX6_readsNumber_X6_here : GoodIn wsX6_readsNumber (wsV RX6 108 RX6 yX6_here wsX6_here) := goodIn_app (goodIn_of _ (by decide +kernel)) ggX6_readsNumber_X6_here
set_option maxRecDepth 20000 in
theorem ggX6_readsNumber_X6_isIn : GoodIn wsX6_readsNumber wsX6_isIn := goodIn_r _ [13] (by decide +kernel) (by decide +kernel)
set_option maxRecDepth 20000 in
theorem gX6_readsNumber_X6_isIn : GoodIn wsX6_readsNumber (va_wsS RX6 52 yX6_isIn wsX6_isIn) := goodIn_app (goodIn_of _ (by decide +kernel)) ggX6_readsNumber_X6_isIn
theorem dX6_readsNumber_0 : decode cX6_readsNumber 0 = .ok (.aload_n 0, 1) := by decide +kernel
theorem dX6_readsNumber_1 : decode cX6_readsNumber 1 = .ok (.getfield 22, 3) := by decide +kernel
theorem dX6_readsNumber_4 : decode cX6_readsNumber 4 = .ok (.iload_n 1, 1) := by decide +kernel
theorem dX6_readsNumber_5 : decode cX6_readsNumber 5 = .ok (.iconst 0, 1) := by decide +kernel
theorem dX6_readsNumber_6 : decode cX6_readsNumber 6 = .ok (.iastore, 1) := by decide +kernel
theorem dX6_readsNumber_7 : decode cX6_readsNumber 7 = .ok (.iconst 0, 1) := by decide +kernel
theorem dX6_readsNumber_8 : decode cX6_readsNumber 8 = .ok (.istore_n 3, 1) := by decide +kernel
theorem dX6_readsNumber_9 : decode cX6_readsNumber 9 = .ok (.iload_n 3, 1) := by decide +kernel
theorem dX6_readsNumber_10 : decode cX6_readsNumber 10 = .ok (.iload_n 2, 1) := by decide +kernel
theorem dX6_readsNumber_11 : decode cX6_readsNumber 11 = .ok (.if_icmp .ge 58, 3) := by decide +kernel
theorem dX6_readsNumber_14 : decode cX6_readsNumber 14 = .ok (.aload_n 0, 1) := by decide +kernel
theorem dX6_readsNumber_15 : decode cX6_readsNumber 15 = .ok (.invokevirtual 108, 3) := by decide +kernel
theorem dX6_readsNumber_18 : decode cX6_readsNumber 18 = .ok (.bipush 48, 2) := by decide +kernel
theorem dX6_readsNumber_20 : decode cX6_readsNumber 20 = .ok (.bipush 57, 2) := by decide +kernel
theorem dX6_readsNumber_22 : decode cX6_readsNumber 22 = .ok (.invokestatic 52, 3) := by decide +kernel
theorem dX6_readsNumber_25 : decode cX6_readsNumber 25 = .ok (.ifCond .ne 5, 3) := by decide +kernel
theorem dX6_readsNumber_28 : decode cX6_readsNumber 28 = .ok (.iconst 0, 1) := by decide +kernel
theorem dX6_readsNumber_29 : decode cX6_readsNumber 29 = .ok (.ireturn, 1) := by decide +kernel
theorem dX6_readsNumber_30 : decode cX6_readsNumber 30 = .ok (.aload_n 0, 1) := by decide +kernel
theorem dX6_readsNumber_31 : decode cX6_readsNumber 31 = .ok (.getfield 22, 3) := by decide +kernel
theorem dX6_readsNumber_34 : decode cX6_readsNumber 34 = .ok (.iload_n 1, 1) := by decide +kernel
theorem dX6_readsNumber_35 : decode cX6_readsNumber 35 = .ok (.bipush 10, 2) := by decide +kernel
theorem dX6_readsNumber_37 : decode cX6_readsNumber 37 = .ok (.aload_n 0, 1) := by decide +kernel
theorem dX6_readsNumber_38 : decode cX6_readsNumber 38 = .ok (.getfield 22, 3) := by decide +kernel
theorem dX6_readsNumber_41 : decode cX6_readsNumber 41 = .ok (.iload_n 1, 1) := by decide +kernel
theorem dX6_readsNumber_42 : decode cX6_readsNumber 42 = .ok (.iaload, 1) := by decide +kernel
theorem dX6_readsNumber_43 : decode cX6_readsNumber 43 = .ok (.imul, 1) := by decide +kernel
theorem dX6_readsNumber_44 : decode cX6_readsNumber 44 = .ok (.aload_n 0, 1) := by decide +kernel
theorem dX6_readsNumber_45 : decode cX6_readsNumber 45 = .ok (.invokevirtual 108, 3) := by decide +kernel
theorem dX6_readsNumber_48 : decode cX6_readsNumber 48 = .ok (.iadd, 1) := by decide +kernel
theorem dX6_readsNumber_49 : decode cX6_readsNumber 49 = .ok (.bipush 48, 2) := by decide +kernel
theorem dX6_readsNumber_51 : decode cX6_readsNumber 51 = .ok (.isub, 1) := by decide +kernel
theorem dX6_readsNumber_52 : decode cX6_readsNumber 52 = .ok (.iastore, 1) := by decide +kernel
theorem dX6_readsNumber_53 : decode cX6_readsNumber 53 = .ok (.aload_n 0, 1) := by decide +kernel
theorem dX6_readsNumber_54 : decode cX6_readsNumber 54 = .ok (.dup, 1) := by decide +kernel
theorem dX6_readsNumber_55 : decode cX6_readsNumber 55 = .ok (.getfield 98, 3) := by decide +kernel
theorem dX6_readsNumber_58 : decode cX6_readsNumber 58 = .ok (.iconst 1, 1) := by decide +kernel
theorem dX6_readsNumber_59 : decode cX6_readsNumber 59 = .ok (.iadd, 1) := by decide +kernel
theorem dX6_readsNumber_60 : decode cX6_readsNumber 60 = .ok (.putfield 98, 3) := by decide +kernel
theorem dX6_readsNumber_63 : decode cX6_readsNumber 63 = .ok (.iinc 3 1, 3) := by decide +kernel
theorem dX6_readsNumber_66 : decode cX6_readsNumber 66 = .ok (.goto (-57), 3) := by decide +kernel
theorem dX6_readsNumber_69 : decode cX6_readsNumber 69 = .ok (.iconst 1, 1) := by decide +kernel
theorem dX6_readsNumber_70 : decode cX6_readsNumber 70 = .ok (.ireturn, 1) := by decide +kernel
set_option maxRecDepth 20000 in
theorem ggX6_readsStatement_X6_here : GoodIn wsX6_readsStatement wsX6_here := goodIn_r _ [6, 1, 7, 8, 9, 18, 19, 20, 21, 22, 23, 24, 25, 26, 27, 28, 29, 30, 31, 32, 33, 34, 35, 36, 37, 38, 39] (by decide +kernel) (by decide +kernel)
set_option maxRecDepth 20000 in
theorem gX6_readsStatement_X6_here : GoodIn wsX6_readsStatement (wsV RX6 108 RX6 yX6_here wsX6_here) := goodIn_app (goodIn_of _ (by decide +kernel)) ggX6_readsStatement_X6_here
set_option maxRecDepth 20000 in
theorem ggX6_readsStatement_X6_readsNumber : GoodIn wsX6_readsStatement wsX6_readsNumber := goodIn_r _ [13, 14, 1, 2, 3, 4, 5, 6, 7, 8, 9, 15, 16, 17, 18, 19, 20, 21, 22, 23, 24, 25, 26, 27, 28, 29, 30, 31, 32, 33, 34, 35, 36, 37, 38, 39] (by decide +kernel) (by decide +kernel)
set_option maxRecDepth 20000 in
theorem gX6_readsStatement_X6_readsNumber : GoodIn wsX6_readsStatement (wsV RX6 112 RX6 yX6_readsNumber wsX6_readsNumber) := goodIn_app (goodIn_of _ (by decide +kernel)) ggX6_readsStatement_X6_readsNumber
theorem dX6_readsStatement_0 : decode cX6_readsStatement 0 = .ok (.aload_n 0, 1) := by decide +kernel
theorem dX6_readsStatement_1 : decode cX6_readsStatement 1 = .ok (.invokevirtual 108, 3) := by decide +kernel
theorem dX6_readsStatement_4 : decode cX6_readsStatement 4 = .ok (.istore_n 1, 1) := by decide +kernel
theorem dX6_readsStatement_5 : decode cX6_readsStatement 5 = .ok (.aload_n 0, 1) := by decide +kernel
theorem dX6_readsStatement_6 : decode cX6_readsStatement 6 = .ok (.dup, 1) := by decide +kernel
theorem dX6_readsStatement_7 : decode cX6_readsStatement 7 = .ok (.getfield 98, 3) := by decide +kernel
theorem dX6_readsStatement_10 : decode cX6_readsStatement 10 = .ok (.iconst 1, 1) := by decide +kernel
theorem dX6_readsStatement_11 : decode cX6_readsStatement 11 = .ok (.iadd, 1) := by decide +kernel
theorem dX6_readsStatement_12 : decode cX6_readsStatement 12 = .ok (.putfield 98, 3) := by decide +kernel
theorem dX6_readsStatement_15 : decode cX6_readsStatement 15 = .ok (.iload_n 1, 1) := by decide +kernel
theorem dX6_readsStatement_16 : decode cX6_readsStatement 16 = .ok (.lookupswitch 135 #[(103, 62), (108, 98), (112, 52), (115, 98), (119, 125)], 52) := by decide +kernel
theorem dX6_readsStatement_68 : decode cX6_readsStatement 68 = .ok (.aload_n 0, 1) := by decide +kernel
theorem dX6_readsStatement_69 : decode cX6_readsStatement 69 = .ok (.iconst 0, 1) := by decide +kernel
theorem dX6_readsStatement_70 : decode cX6_readsStatement 70 = .ok (.iconst 1, 1) := by decide +kernel
theorem dX6_readsStatement_71 : decode cX6_readsStatement 71 = .ok (.invokevirtual 112, 3) := by decide +kernel
theorem dX6_readsStatement_74 : decode cX6_readsStatement 74 = .ok (.istore_n 2, 1) := by decide +kernel
theorem dX6_readsStatement_75 : decode cX6_readsStatement 75 = .ok (.goto 88, 3) := by decide +kernel
theorem dX6_readsStatement_78 : decode cX6_readsStatement 78 = .ok (.aload_n 0, 1) := by decide +kernel
theorem dX6_readsStatement_79 : decode cX6_readsStatement 79 = .ok (.iconst 0, 1) := by decide +kernel
theorem dX6_readsStatement_80 : decode cX6_readsStatement 80 = .ok (.iconst 1, 1) := by decide +kernel
theorem dX6_readsStatement_81 : decode cX6_readsStatement 81 = .ok (.invokevirtual 112, 3) := by decide +kernel
theorem dX6_readsStatement_84 : decode cX6_readsStatement 84 = .ok (.ifCond .eq 25, 3) := by decide +kernel
theorem dX6_readsStatement_87 : decode cX6_readsStatement 87 = .ok (.aload_n 0, 1) := by decide +kernel
theorem dX6_readsStatement_88 : decode cX6_readsStatement 88 = .ok (.iconst 1, 1) := by decide +kernel
theorem dX6_readsStatement_89 : decode cX6_readsStatement 89 = .ok (.iconst 1, 1) := by decide +kernel
theorem dX6_readsStatement_90 : decode cX6_readsStatement 90 = .ok (.invokevirtual 112, 3) := by decide +kernel
theorem dX6_readsStatement_93 : decode cX6_readsStatement 93 = .ok (.ifCond .eq 16, 3) := by decide +kernel
theorem dX6_readsStatement_96 : decode cX6_readsStatement 96 = .ok (.aload_n 0, 1) := by decide +kernel
theorem dX6_readsStatement_97 : decode cX6_readsStatement 97 = .ok (.iconst 2, 1) := by decide +kernel
theorem dX6_readsStatement_98 : decode cX6_readsStatement 98 = .ok (.iconst 1, 1) := by decide +kernel
theorem dX6_readsStatement_99 : decode cX6_readsStatement 99 = .ok (.invokevirtual 112, 3) := by decide +kernel
theorem dX6_readsStatement_102 : decode cX6_readsStatement 102 = .ok (.ifCond .eq 7, 3) := by decide +kernel
theorem dX6_readsStatement_105 : decode cX6_readsStatement 105 = .ok (.iconst 1, 1) := by decide +kernel
theorem dX6_readsStatement_106 : decode cX6_readsStatement 106 = .ok (.goto 4, 3) := by decide +kernel
theorem dX6_readsStatement_109 : decode cX6_readsStatement 109 = .ok (.iconst 0, 1) := by decide +kernel
theorem dX6_readsStatement_110 : decode cX6_readsStatement 110 = .ok (.istore_n 2, 1) := by decide +kernel
theorem dX6_readsStatement_111 : decode cX6_readsStatement 111 = .ok (.goto 52, 3) := by decide +kernel
theorem dX6_readsStatement_114 : decode cX6_readsStatement 114 = .ok (.aload_n 0, 1) := by decide +kernel
theorem dX6_readsStatement_115 : decode cX6_readsStatement 115 = .ok (.iconst 0, 1) := by decide +kernel
theorem dX6_readsStatement_116 : decode cX6_readsStatement 116 = .ok (.iconst 1, 1) := by decide +kernel
theorem dX6_readsStatement_117 : decode cX6_readsStatement 117 = .ok (.invokevirtual 112, 3) := by decide +kernel
theorem dX6_readsStatement_120 : decode cX6_readsStatement 120 = .ok (.ifCond .eq 16, 3) := by decide +kernel
theorem dX6_readsStatement_123 : decode cX6_readsStatement 123 = .ok (.aload_n 0, 1) := by decide +kernel
theorem dX6_readsStatement_124 : decode cX6_readsStatement 124 = .ok (.iconst 1, 1) := by decide +kernel
theorem dX6_readsStatement_125 : decode cX6_readsStatement 125 = .ok (.iconst 1, 1) := by decide +kernel
theorem dX6_readsStatement_126 : decode cX6_readsStatement 126 = .ok (.invokevirtual 112, 3) := by decide +kernel
theorem dX6_readsStatement_129 : decode cX6_readsStatement 129 = .ok (.ifCond .eq 7, 3) := by decide +kernel
theorem dX6_readsStatement_132 : decode cX6_readsStatement 132 = .ok (.iconst 1, 1) := by decide +kernel
theorem dX6_readsStatement_133 : decode cX6_readsStatement 133 = .ok (.goto 4, 3) := by decide +kernel
theorem dX6_readsStatement_136 : decode cX6_readsStatement 136 = .ok (.iconst 0, 1) := by decide +kernel
theorem dX6_readsStatement_137 : decode cX6_readsStatement 137 = .ok (.istore_n 2, 1) := by decide +kernel
theorem dX6_readsStatement_138 : decode cX6_readsStatement 138 = .ok (.goto 25, 3) := by decide +kernel
theorem dX6_readsStatement_141 : decode cX6_readsStatement 141 = .ok (.aload_n 0, 1) := by decide +kernel
theorem dX6_readsStatement_142 : decode cX6_readsStatement 142 = .ok (.iconst 0, 1) := by decide +kernel
theorem dX6_readsStatement_143 : decode cX6_readsStatement 143 = .ok (.iconst 2, 1) := by decide +kernel
theorem dX6_readsStatement_144 : decode cX6_readsStatement 144 = .ok (.invokevirtual 112, 3) := by decide +kernel
theorem dX6_readsStatement_147 : decode cX6_readsStatement 147 = .ok (.istore_n 2, 1) := by decide +kernel
theorem dX6_readsStatement_148 : decode cX6_readsStatement 148 = .ok (.goto 15, 3) := by decide +kernel
theorem dX6_readsStatement_151 : decode cX6_readsStatement 151 = .ok (.aload_n 0, 1) := by decide +kernel
theorem dX6_readsStatement_152 : decode cX6_readsStatement 152 = .ok (.dup, 1) := by decide +kernel
theorem dX6_readsStatement_153 : decode cX6_readsStatement 153 = .ok (.getfield 98, 3) := by decide +kernel
theorem dX6_readsStatement_156 : decode cX6_readsStatement 156 = .ok (.iconst 1, 1) := by decide +kernel
theorem dX6_readsStatement_157 : decode cX6_readsStatement 157 = .ok (.isub, 1) := by decide +kernel
theorem dX6_readsStatement_158 : decode cX6_readsStatement 158 = .ok (.putfield 98, 3) := by decide +kernel
theorem dX6_readsStatement_161 : decode cX6_readsStatement 161 = .ok (.iconst 0, 1) := by decide +kernel
theorem dX6_readsStatement_162 : decode cX6_readsStatement 162 = .ok (.ireturn, 1) := by decide +kernel
theorem dX6_readsStatement_163 : decode cX6_readsStatement 163 = .ok (.iload_n 2, 1) := by decide +kernel
theorem dX6_readsStatement_164 : decode cX6_readsStatement 164 = .ok (.ifCond .eq 12, 3) := by decide +kernel
theorem dX6_readsStatement_167 : decode cX6_readsStatement 167 = .ok (.aload_n 0, 1) := by decide +kernel
theorem dX6_readsStatement_168 : decode cX6_readsStatement 168 = .ok (.invokevirtual 108, 3) := by decide +kernel
theorem dX6_readsStatement_171 : decode cX6_readsStatement 171 = .ok (.bipush 59, 2) := by decide +kernel
theorem dX6_readsStatement_173 : decode cX6_readsStatement 173 = .ok (.if_icmp .eq 5, 3) := by decide +kernel
theorem dX6_readsStatement_176 : decode cX6_readsStatement 176 = .ok (.iconst 0, 1) := by decide +kernel
theorem dX6_readsStatement_177 : decode cX6_readsStatement 177 = .ok (.ireturn, 1) := by decide +kernel
theorem dX6_readsStatement_178 : decode cX6_readsStatement 178 = .ok (.aload_n 0, 1) := by decide +kernel
theorem dX6_readsStatement_179 : decode cX6_readsStatement 179 = .ok (.dup, 1) := by decide +kernel
theorem dX6_readsStatement_180 : decode cX6_readsStatement 180 = .ok (.getfield 98, 3) := by decide +kernel
theorem dX6_readsStatement_183 : decode cX6_readsStatement 183 = .ok (.iconst 1, 1) := by decide +kernel
theorem dX6_readsStatement_184 : decode cX6_readsStatement 184 = .ok (.iadd, 1) := by decide +kernel
theorem dX6_readsStatement_185 : decode cX6_readsStatement 185 = .ok (.putfield 98, 3) := by decide +kernel
theorem dX6_readsStatement_188 : decode cX6_readsStatement 188 = .ok (.iconst 1, 1) := by decide +kernel
theorem dX6_readsStatement_189 : decode cX6_readsStatement 189 = .ok (.ireturn, 1) := by decide +kernel
theorem dX6_addsPerson_0 : decode cX6_addsPerson 0 = .ok (.aload_n 0, 1) := by decide +kernel
theorem dX6_addsPerson_1 : decode cX6_addsPerson 1 = .ok (.getfield 9, 3) := by decide +kernel
theorem dX6_addsPerson_4 : decode cX6_addsPerson 4 = .ok (.iconst 1, 1) := by decide +kernel
theorem dX6_addsPerson_5 : decode cX6_addsPerson 5 = .ok (.iaload, 1) := by decide +kernel
theorem dX6_addsPerson_6 : decode cX6_addsPerson 6 = .ok (.bipush 6, 2) := by decide +kernel
theorem dX6_addsPerson_8 : decode cX6_addsPerson 8 = .ok (.if_icmp .ne 5, 3) := by decide +kernel
theorem dX6_addsPerson_11 : decode cX6_addsPerson 11 = .ok (.iconst 0, 1) := by decide +kernel
theorem dX6_addsPerson_12 : decode cX6_addsPerson 12 = .ok (.ireturn, 1) := by decide +kernel
theorem dX6_addsPerson_13 : decode cX6_addsPerson 13 = .ok (.aload_n 0, 1) := by decide +kernel
theorem dX6_addsPerson_14 : decode cX6_addsPerson 14 = .ok (.getfield 9, 3) := by decide +kernel
theorem dX6_addsPerson_17 : decode cX6_addsPerson 17 = .ok (.bipush 28, 2) := by decide +kernel
theorem dX6_addsPerson_19 : decode cX6_addsPerson 19 = .ok (.aload_n 0, 1) := by decide +kernel
theorem dX6_addsPerson_20 : decode cX6_addsPerson 20 = .ok (.getfield 9, 3) := by decide +kernel
theorem dX6_addsPerson_23 : decode cX6_addsPerson 23 = .ok (.iconst 1, 1) := by decide +kernel
theorem dX6_addsPerson_24 : decode cX6_addsPerson 24 = .ok (.iaload, 1) := by decide +kernel
theorem dX6_addsPerson_25 : decode cX6_addsPerson 25 = .ok (.iadd, 1) := by decide +kernel
theorem dX6_addsPerson_26 : decode cX6_addsPerson 26 = .ok (.iload_n 1, 1) := by decide +kernel
theorem dX6_addsPerson_27 : decode cX6_addsPerson 27 = .ok (.iastore, 1) := by decide +kernel
theorem dX6_addsPerson_28 : decode cX6_addsPerson 28 = .ok (.aload_n 0, 1) := by decide +kernel
theorem dX6_addsPerson_29 : decode cX6_addsPerson 29 = .ok (.getfield 9, 3) := by decide +kernel
theorem dX6_addsPerson_32 : decode cX6_addsPerson 32 = .ok (.iconst 1, 1) := by decide +kernel
theorem dX6_addsPerson_33 : decode cX6_addsPerson 33 = .ok (.dup2, 1) := by decide +kernel
theorem dX6_addsPerson_34 : decode cX6_addsPerson 34 = .ok (.iaload, 1) := by decide +kernel
theorem dX6_addsPerson_35 : decode cX6_addsPerson 35 = .ok (.iconst 1, 1) := by decide +kernel
theorem dX6_addsPerson_36 : decode cX6_addsPerson 36 = .ok (.iadd, 1) := by decide +kernel
theorem dX6_addsPerson_37 : decode cX6_addsPerson 37 = .ok (.iastore, 1) := by decide +kernel
theorem dX6_addsPerson_38 : decode cX6_addsPerson 38 = .ok (.iconst 1, 1) := by decide +kernel
theorem dX6_addsPerson_39 : decode cX6_addsPerson 39 = .ok (.ireturn, 1) := by decide +kernel
set_option maxRecDepth 20000 in
theorem ggX6_addsGood_X6_ofG : GoodIn wsX6_addsGood wsX6_ofG := goodIn_r _ [5] (by decide +kernel) (by decide +kernel)
set_option maxRecDepth 20000 in
theorem gX6_addsGood_X6_ofG : GoodIn wsX6_addsGood (va_wsS RX6 60 yX6_ofG wsX6_ofG) := goodIn_app (goodIn_of _ (by decide +kernel)) ggX6_addsGood_X6_ofG
theorem dX6_addsGood_0 : decode cX6_addsGood 0 = .ok (.aload_n 0, 1) := by decide +kernel
theorem dX6_addsGood_1 : decode cX6_addsGood 1 = .ok (.getfield 9, 3) := by decide +kernel
theorem dX6_addsGood_4 : decode cX6_addsGood 4 = .ok (.iconst 0, 1) := by decide +kernel
theorem dX6_addsGood_5 : decode cX6_addsGood 5 = .ok (.iaload, 1) := by decide +kernel
theorem dX6_addsGood_6 : decode cX6_addsGood 6 = .ok (.invokestatic 60, 3) := by decide +kernel
theorem dX6_addsGood_9 : decode cX6_addsGood 9 = .ok (.istore 4, 2) := by decide +kernel
theorem dX6_addsGood_11 : decode cX6_addsGood 11 = .ok (.aload_n 0, 1) := by decide +kernel
theorem dX6_addsGood_12 : decode cX6_addsGood 12 = .ok (.getfield 9, 3) := by decide +kernel
theorem dX6_addsGood_15 : decode cX6_addsGood 15 = .ok (.iload 4, 2) := by decide +kernel
theorem dX6_addsGood_17 : decode cX6_addsGood 17 = .ok (.iconst 0, 1) := by decide +kernel
theorem dX6_addsGood_18 : decode cX6_addsGood 18 = .ok (.iadd, 1) := by decide +kernel
theorem dX6_addsGood_19 : decode cX6_addsGood 19 = .ok (.iload_n 1, 1) := by decide +kernel
theorem dX6_addsGood_20 : decode cX6_addsGood 20 = .ok (.iastore, 1) := by decide +kernel
theorem dX6_addsGood_21 : decode cX6_addsGood 21 = .ok (.aload_n 0, 1) := by decide +kernel
theorem dX6_addsGood_22 : decode cX6_addsGood 22 = .ok (.getfield 9, 3) := by decide +kernel
theorem dX6_addsGood_25 : decode cX6_addsGood 25 = .ok (.iload 4, 2) := by decide +kernel
theorem dX6_addsGood_27 : decode cX6_addsGood 27 = .ok (.iconst 1, 1) := by decide +kernel
theorem dX6_addsGood_28 : decode cX6_addsGood 28 = .ok (.iadd, 1) := by decide +kernel
theorem dX6_addsGood_29 : decode cX6_addsGood 29 = .ok (.iload_n 2, 1) := by decide +kernel
theorem dX6_addsGood_30 : decode cX6_addsGood 30 = .ok (.iastore, 1) := by decide +kernel
theorem dX6_addsGood_31 : decode cX6_addsGood 31 = .ok (.aload_n 0, 1) := by decide +kernel
theorem dX6_addsGood_32 : decode cX6_addsGood 32 = .ok (.getfield 9, 3) := by decide +kernel
theorem dX6_addsGood_35 : decode cX6_addsGood 35 = .ok (.iload 4, 2) := by decide +kernel
theorem dX6_addsGood_37 : decode cX6_addsGood 37 = .ok (.iconst 2, 1) := by decide +kernel
theorem dX6_addsGood_38 : decode cX6_addsGood 38 = .ok (.iadd, 1) := by decide +kernel
theorem dX6_addsGood_39 : decode cX6_addsGood 39 = .ok (.iload_n 3, 1) := by decide +kernel
theorem dX6_addsGood_40 : decode cX6_addsGood 40 = .ok (.iastore, 1) := by decide +kernel
theorem dX6_addsGood_41 : decode cX6_addsGood 41 = .ok (.aload_n 0, 1) := by decide +kernel
theorem dX6_addsGood_42 : decode cX6_addsGood 42 = .ok (.getfield 9, 3) := by decide +kernel
theorem dX6_addsGood_45 : decode cX6_addsGood 45 = .ok (.iconst 0, 1) := by decide +kernel
theorem dX6_addsGood_46 : decode cX6_addsGood 46 = .ok (.dup2, 1) := by decide +kernel
theorem dX6_addsGood_47 : decode cX6_addsGood 47 = .ok (.iaload, 1) := by decide +kernel
theorem dX6_addsGood_48 : decode cX6_addsGood 48 = .ok (.iconst 1, 1) := by decide +kernel
theorem dX6_addsGood_49 : decode cX6_addsGood 49 = .ok (.iadd, 1) := by decide +kernel
theorem dX6_addsGood_50 : decode cX6_addsGood 50 = .ok (.iastore, 1) := by decide +kernel
theorem dX6_addsGood_51 : decode cX6_addsGood 51 = .ok (.return_, 1) := by decide +kernel
set_option maxRecDepth 20000 in
theorem ggX6_addsLoan_X6_ofL : GoodIn wsX6_addsLoan wsX6_ofL := goodIn_r _ [5] (by decide +kernel) (by decide +kernel)
set_option maxRecDepth 20000 in
theorem gX6_addsLoan_X6_ofL : GoodIn wsX6_addsLoan (va_wsS RX6 76 yX6_ofL wsX6_ofL) := goodIn_app (goodIn_of _ (by decide +kernel)) ggX6_addsLoan_X6_ofL
set_option maxRecDepth 20000 in
theorem ggX6_addsLoan_X6_ofG : GoodIn wsX6_addsLoan wsX6_ofG := goodIn_r _ [8] (by decide +kernel) (by decide +kernel)
set_option maxRecDepth 20000 in
theorem gX6_addsLoan_X6_ofG : GoodIn wsX6_addsLoan (va_wsS RX6 60 yX6_ofG wsX6_ofG) := goodIn_app (goodIn_of _ (by decide +kernel)) ggX6_addsLoan_X6_ofG
theorem dX6_addsLoan_0 : decode cX6_addsLoan 0 = .ok (.aload_n 0, 1) := by decide +kernel
theorem dX6_addsLoan_1 : decode cX6_addsLoan 1 = .ok (.getfield 9, 3) := by decide +kernel
theorem dX6_addsLoan_4 : decode cX6_addsLoan 4 = .ok (.iconst 2, 1) := by decide +kernel
theorem dX6_addsLoan_5 : decode cX6_addsLoan 5 = .ok (.iaload, 1) := by decide +kernel
theorem dX6_addsLoan_6 : decode cX6_addsLoan 6 = .ok (.invokestatic 76, 3) := by decide +kernel
theorem dX6_addsLoan_9 : decode cX6_addsLoan 9 = .ok (.istore_n 3, 1) := by decide +kernel
theorem dX6_addsLoan_10 : decode cX6_addsLoan 10 = .ok (.aload_n 0, 1) := by decide +kernel
theorem dX6_addsLoan_11 : decode cX6_addsLoan 11 = .ok (.getfield 9, 3) := by decide +kernel
theorem dX6_addsLoan_14 : decode cX6_addsLoan 14 = .ok (.iload_n 3, 1) := by decide +kernel
theorem dX6_addsLoan_15 : decode cX6_addsLoan 15 = .ok (.iconst 0, 1) := by decide +kernel
theorem dX6_addsLoan_16 : decode cX6_addsLoan 16 = .ok (.iadd, 1) := by decide +kernel
theorem dX6_addsLoan_17 : decode cX6_addsLoan 17 = .ok (.aload_n 0, 1) := by decide +kernel
theorem dX6_addsLoan_18 : decode cX6_addsLoan 18 = .ok (.getfield 9, 3) := by decide +kernel
theorem dX6_addsLoan_21 : decode cX6_addsLoan 21 = .ok (.iload_n 1, 1) := by decide +kernel
theorem dX6_addsLoan_22 : decode cX6_addsLoan 22 = .ok (.invokestatic 60, 3) := by decide +kernel
theorem dX6_addsLoan_25 : decode cX6_addsLoan 25 = .ok (.iconst 2, 1) := by decide +kernel
theorem dX6_addsLoan_26 : decode cX6_addsLoan 26 = .ok (.iadd, 1) := by decide +kernel
theorem dX6_addsLoan_27 : decode cX6_addsLoan 27 = .ok (.iaload, 1) := by decide +kernel
theorem dX6_addsLoan_28 : decode cX6_addsLoan 28 = .ok (.iastore, 1) := by decide +kernel
theorem dX6_addsLoan_29 : decode cX6_addsLoan 29 = .ok (.aload_n 0, 1) := by decide +kernel
theorem dX6_addsLoan_30 : decode cX6_addsLoan 30 = .ok (.getfield 9, 3) := by decide +kernel
theorem dX6_addsLoan_33 : decode cX6_addsLoan 33 = .ok (.iload_n 3, 1) := by decide +kernel
theorem dX6_addsLoan_34 : decode cX6_addsLoan 34 = .ok (.iconst 1, 1) := by decide +kernel
theorem dX6_addsLoan_35 : decode cX6_addsLoan 35 = .ok (.iadd, 1) := by decide +kernel
theorem dX6_addsLoan_36 : decode cX6_addsLoan 36 = .ok (.iload_n 2, 1) := by decide +kernel
theorem dX6_addsLoan_37 : decode cX6_addsLoan 37 = .ok (.iastore, 1) := by decide +kernel
theorem dX6_addsLoan_38 : decode cX6_addsLoan 38 = .ok (.aload_n 0, 1) := by decide +kernel
theorem dX6_addsLoan_39 : decode cX6_addsLoan 39 = .ok (.getfield 9, 3) := by decide +kernel
theorem dX6_addsLoan_42 : decode cX6_addsLoan 42 = .ok (.iload_n 3, 1) := by decide +kernel
theorem dX6_addsLoan_43 : decode cX6_addsLoan 43 = .ok (.iconst 2, 1) := by decide +kernel
theorem dX6_addsLoan_44 : decode cX6_addsLoan 44 = .ok (.iadd, 1) := by decide +kernel
theorem dX6_addsLoan_45 : decode cX6_addsLoan 45 = .ok (.iload_n 1, 1) := by decide +kernel
theorem dX6_addsLoan_46 : decode cX6_addsLoan 46 = .ok (.iastore, 1) := by decide +kernel
theorem dX6_addsLoan_47 : decode cX6_addsLoan 47 = .ok (.aload_n 0, 1) := by decide +kernel
theorem dX6_addsLoan_48 : decode cX6_addsLoan 48 = .ok (.getfield 9, 3) := by decide +kernel
theorem dX6_addsLoan_51 : decode cX6_addsLoan 51 = .ok (.iload_n 3, 1) := by decide +kernel
theorem dX6_addsLoan_52 : decode cX6_addsLoan 52 = .ok (.iconst 3, 1) := by decide +kernel
theorem dX6_addsLoan_53 : decode cX6_addsLoan 53 = .ok (.iadd, 1) := by decide +kernel
theorem dX6_addsLoan_54 : decode cX6_addsLoan 54 = .ok (.iconst 1, 1) := by decide +kernel
theorem dX6_addsLoan_55 : decode cX6_addsLoan 55 = .ok (.iastore, 1) := by decide +kernel
theorem dX6_addsLoan_56 : decode cX6_addsLoan 56 = .ok (.aload_n 0, 1) := by decide +kernel
theorem dX6_addsLoan_57 : decode cX6_addsLoan 57 = .ok (.getfield 9, 3) := by decide +kernel
theorem dX6_addsLoan_60 : decode cX6_addsLoan 60 = .ok (.iload_n 1, 1) := by decide +kernel
theorem dX6_addsLoan_61 : decode cX6_addsLoan 61 = .ok (.invokestatic 60, 3) := by decide +kernel
theorem dX6_addsLoan_64 : decode cX6_addsLoan 64 = .ok (.iconst 2, 1) := by decide +kernel
theorem dX6_addsLoan_65 : decode cX6_addsLoan 65 = .ok (.iadd, 1) := by decide +kernel
theorem dX6_addsLoan_66 : decode cX6_addsLoan 66 = .ok (.iload_n 2, 1) := by decide +kernel
theorem dX6_addsLoan_67 : decode cX6_addsLoan 67 = .ok (.iastore, 1) := by decide +kernel
theorem dX6_addsLoan_68 : decode cX6_addsLoan 68 = .ok (.aload_n 0, 1) := by decide +kernel
theorem dX6_addsLoan_69 : decode cX6_addsLoan 69 = .ok (.getfield 9, 3) := by decide +kernel
theorem dX6_addsLoan_72 : decode cX6_addsLoan 72 = .ok (.iconst 2, 1) := by decide +kernel
theorem dX6_addsLoan_73 : decode cX6_addsLoan 73 = .ok (.dup2, 1) := by decide +kernel
theorem dX6_addsLoan_74 : decode cX6_addsLoan 74 = .ok (.iaload, 1) := by decide +kernel
theorem dX6_addsLoan_75 : decode cX6_addsLoan 75 = .ok (.iconst 1, 1) := by decide +kernel
theorem dX6_addsLoan_76 : decode cX6_addsLoan 76 = .ok (.iadd, 1) := by decide +kernel
theorem dX6_addsLoan_77 : decode cX6_addsLoan 77 = .ok (.iastore, 1) := by decide +kernel
theorem dX6_addsLoan_78 : decode cX6_addsLoan 78 = .ok (.return_, 1) := by decide +kernel
set_option maxRecDepth 20000 in
theorem ggX6_isDone_X6_addsPerson : GoodIn wsX6_isDone wsX6_addsPerson := goodIn_r _ [7, 2, 63, 64, 65, 66, 67, 68, 69, 70, 71, 72, 73, 74, 75, 76, 77, 78, 79, 80, 81, 82, 83, 84] (by decide +kernel) (by decide +kernel)
set_option maxRecDepth 20000 in
theorem gX6_isDone_X6_addsPerson : GoodIn wsX6_isDone (wsV RX6 116 RX6 yX6_addsPerson wsX6_addsPerson) := goodIn_app (goodIn_of _ (by decide +kernel)) ggX6_isDone_X6_addsPerson
set_option maxRecDepth 20000 in
theorem ggX6_isDone_X6_isPerson : GoodIn wsX6_isDone wsX6_isPerson := goodIn_r _ [11, 2, 12, 13, 6, 14, 63, 64, 65, 66, 67, 68, 69, 70, 71, 72, 73, 74, 75, 76, 77, 78, 79, 80, 81, 82, 83, 84] (by decide +kernel) (by decide +kernel)
set_option maxRecDepth 20000 in
theorem gX6_isDone_X6_isPerson : GoodIn wsX6_isDone (wsV RX6 120 RX6 yX6_isPerson wsX6_isPerson) := goodIn_app (goodIn_of _ (by decide +kernel)) ggX6_isDone_X6_isPerson
set_option maxRecDepth 20000 in
theorem ggX6_isDone_X6_addsGood : GoodIn wsX6_isDone wsX6_addsGood := goodIn_r _ [18, 2, 19, 20, 6, 21, 63, 64, 65, 66, 67, 68, 69, 70, 71, 72, 73, 74, 75, 76, 77, 78, 79, 80, 81, 82, 83, 84] (by decide +kernel) (by decide +kernel)
set_option maxRecDepth 20000 in
theorem gX6_isDone_X6_addsGood : GoodIn wsX6_isDone (wsV RX6 123 RX6 yX6_addsGood wsX6_addsGood) := goodIn_app (goodIn_of _ (by decide +kernel)) ggX6_isDone_X6_addsGood
set_option maxRecDepth 20000 in
theorem ggX6_isDone_X6_isGood : GoodIn wsX6_isDone wsX6_isGood := goodIn_r _ [25, 2, 12, 13, 6, 14, 63, 64, 65, 66, 67, 68, 69, 70, 71, 72, 73, 74, 75, 76, 77, 78, 79, 80, 81, 82, 83, 84] (by decide +kernel) (by decide +kernel)
set_option maxRecDepth 20000 in
theorem gX6_isDone_X6_isGood : GoodIn wsX6_isDone (wsV RX6 127 RX6 yX6_isGood wsX6_isGood) := goodIn_app (goodIn_of _ (by decide +kernel)) ggX6_isDone_X6_isGood
set_option maxRecDepth 20000 in
theorem ggX6_isDone_X6_ofG : GoodIn wsX6_isDone wsX6_ofG := goodIn_r _ [21] (by decide +kernel) (by decide +kernel)
set_option maxRecDepth 20000 in
theorem gX6_isDone_X6_ofG : GoodIn wsX6_isDone (va_wsS RX6 60 yX6_ofG wsX6_ofG) := goodIn_app (goodIn_of _ (by decide +kernel)) ggX6_isDone_X6_ofG
set_option maxRecDepth 20000 in
theorem ggX6_isDone_X6_addsLoan : GoodIn wsX6_isDone wsX6_addsLoan := goodIn_r _ [29, 2, 30, 31, 6, 32, 19, 20, 21, 63, 64, 65, 66, 67, 68, 69, 70, 71, 72, 73, 74, 75, 76, 77, 78, 79, 80, 81, 82, 83, 84] (by decide +kernel) (by decide +kernel)
set_option maxRecDepth 20000 in
theorem gX6_isDone_X6_addsLoan : GoodIn wsX6_isDone (wsV RX6 130 RX6 yX6_addsLoan wsX6_addsLoan) := goodIn_app (goodIn_of _ (by decide +kernel)) ggX6_isDone_X6_addsLoan
set_option maxRecDepth 20000 in
theorem ggX6_isDone_X6_isIn : GoodIn wsX6_isDone wsX6_isIn := goodIn_r _ [14] (by decide +kernel) (by decide +kernel)
set_option maxRecDepth 20000 in
theorem gX6_isDone_X6_isIn : GoodIn wsX6_isDone (va_wsS RX6 52 yX6_isIn wsX6_isIn) := goodIn_app (goodIn_of _ (by decide +kernel)) ggX6_isDone_X6_isIn
set_option maxRecDepth 20000 in
theorem ggX6_isDone_X6_weeksOn : GoodIn wsX6_isDone wsX6_weeksOn := goodIn_r _ [35, 36, 37, 6, 38, 39, 40, 41, 30, 31, 32, 42, 43, 44, 19, 20, 21, 45, 46, 47, 48, 49, 50, 51, 52, 53, 54, 55, 56, 57, 58, 59, 60, 61, 62] (by decide +kernel) (by decide +kernel)
set_option maxRecDepth 20000 in
theorem gX6_isDone_X6_weeksOn : GoodIn wsX6_isDone (va_wsS RX6 134 yX6_weeksOn wsX6_weeksOn) := goodIn_app (goodIn_of _ (by decide +kernel)) ggX6_isDone_X6_weeksOn
theorem dX6_isDone_0 : decode cX6_isDone 0 = .ok (.aload_n 0, 1) := by decide +kernel
theorem dX6_isDone_1 : decode cX6_isDone 1 = .ok (.getfield 22, 3) := by decide +kernel
theorem dX6_isDone_4 : decode cX6_isDone 4 = .ok (.iconst 0, 1) := by decide +kernel
theorem dX6_isDone_5 : decode cX6_isDone 5 = .ok (.iaload, 1) := by decide +kernel
theorem dX6_isDone_6 : decode cX6_isDone 6 = .ok (.istore_n 2, 1) := by decide +kernel
theorem dX6_isDone_7 : decode cX6_isDone 7 = .ok (.aload_n 0, 1) := by decide +kernel
theorem dX6_isDone_8 : decode cX6_isDone 8 = .ok (.getfield 22, 3) := by decide +kernel
theorem dX6_isDone_11 : decode cX6_isDone 11 = .ok (.iconst 1, 1) := by decide +kernel
theorem dX6_isDone_12 : decode cX6_isDone 12 = .ok (.iaload, 1) := by decide +kernel
theorem dX6_isDone_13 : decode cX6_isDone 13 = .ok (.istore_n 3, 1) := by decide +kernel
theorem dX6_isDone_14 : decode cX6_isDone 14 = .ok (.iload_n 1, 1) := by decide +kernel
theorem dX6_isDone_15 : decode cX6_isDone 15 = .ok (.lookupswitch 179 #[(103, 47), (108, 93), (112, 41), (115, 145)], 41) := by decide +kernel
theorem dX6_isDone_56 : decode cX6_isDone 56 = .ok (.aload_n 0, 1) := by decide +kernel
theorem dX6_isDone_57 : decode cX6_isDone 57 = .ok (.iload_n 2, 1) := by decide +kernel
theorem dX6_isDone_58 : decode cX6_isDone 58 = .ok (.invokevirtual 116, 3) := by decide +kernel
theorem dX6_isDone_61 : decode cX6_isDone 61 = .ok (.ireturn, 1) := by decide +kernel
theorem dX6_isDone_62 : decode cX6_isDone 62 = .ok (.iload_n 2, 1) := by decide +kernel
theorem dX6_isDone_63 : decode cX6_isDone 63 = .ok (.bipush 8, 2) := by decide +kernel
theorem dX6_isDone_65 : decode cX6_isDone 65 = .ok (.if_icmp .ge 27, 3) := by decide +kernel
theorem dX6_isDone_68 : decode cX6_isDone 68 = .ok (.aload_n 0, 1) := by decide +kernel
theorem dX6_isDone_69 : decode cX6_isDone 69 = .ok (.aload_n 0, 1) := by decide +kernel
theorem dX6_isDone_70 : decode cX6_isDone 70 = .ok (.getfield 22, 3) := by decide +kernel
theorem dX6_isDone_73 : decode cX6_isDone 73 = .ok (.iconst 2, 1) := by decide +kernel
theorem dX6_isDone_74 : decode cX6_isDone 74 = .ok (.iaload, 1) := by decide +kernel
theorem dX6_isDone_75 : decode cX6_isDone 75 = .ok (.invokevirtual 120, 3) := by decide +kernel
theorem dX6_isDone_78 : decode cX6_isDone 78 = .ok (.ifCond .eq 14, 3) := by decide +kernel
theorem dX6_isDone_81 : decode cX6_isDone 81 = .ok (.aload_n 0, 1) := by decide +kernel
theorem dX6_isDone_82 : decode cX6_isDone 82 = .ok (.getfield 9, 3) := by decide +kernel
theorem dX6_isDone_85 : decode cX6_isDone 85 = .ok (.iconst 0, 1) := by decide +kernel
theorem dX6_isDone_86 : decode cX6_isDone 86 = .ok (.iaload, 1) := by decide +kernel
theorem dX6_isDone_87 : decode cX6_isDone 87 = .ok (.bipush 8, 2) := by decide +kernel
theorem dX6_isDone_89 : decode cX6_isDone 89 = .ok (.if_icmp .ne 5, 3) := by decide +kernel
theorem dX6_isDone_92 : decode cX6_isDone 92 = .ok (.iconst 0, 1) := by decide +kernel
theorem dX6_isDone_93 : decode cX6_isDone 93 = .ok (.ireturn, 1) := by decide +kernel
theorem dX6_isDone_94 : decode cX6_isDone 94 = .ok (.aload_n 0, 1) := by decide +kernel
theorem dX6_isDone_95 : decode cX6_isDone 95 = .ok (.iload_n 2, 1) := by decide +kernel
theorem dX6_isDone_96 : decode cX6_isDone 96 = .ok (.iload_n 3, 1) := by decide +kernel
theorem dX6_isDone_97 : decode cX6_isDone 97 = .ok (.aload_n 0, 1) := by decide +kernel
theorem dX6_isDone_98 : decode cX6_isDone 98 = .ok (.getfield 22, 3) := by decide +kernel
theorem dX6_isDone_101 : decode cX6_isDone 101 = .ok (.iconst 2, 1) := by decide +kernel
theorem dX6_isDone_102 : decode cX6_isDone 102 = .ok (.iaload, 1) := by decide +kernel
theorem dX6_isDone_103 : decode cX6_isDone 103 = .ok (.invokevirtual 123, 3) := by decide +kernel
theorem dX6_isDone_106 : decode cX6_isDone 106 = .ok (.iconst 1, 1) := by decide +kernel
theorem dX6_isDone_107 : decode cX6_isDone 107 = .ok (.ireturn, 1) := by decide +kernel
theorem dX6_isDone_108 : decode cX6_isDone 108 = .ok (.aload_n 0, 1) := by decide +kernel
theorem dX6_isDone_109 : decode cX6_isDone 109 = .ok (.iload_n 2, 1) := by decide +kernel
theorem dX6_isDone_110 : decode cX6_isDone 110 = .ok (.invokevirtual 127, 3) := by decide +kernel
theorem dX6_isDone_113 : decode cX6_isDone 113 = .ok (.ifCond .eq 37, 3) := by decide +kernel
theorem dX6_isDone_116 : decode cX6_isDone 116 = .ok (.aload_n 0, 1) := by decide +kernel
theorem dX6_isDone_117 : decode cX6_isDone 117 = .ok (.iload_n 3, 1) := by decide +kernel
theorem dX6_isDone_118 : decode cX6_isDone 118 = .ok (.invokevirtual 120, 3) := by decide +kernel
theorem dX6_isDone_121 : decode cX6_isDone 121 = .ok (.ifCond .eq 29, 3) := by decide +kernel
theorem dX6_isDone_124 : decode cX6_isDone 124 = .ok (.aload_n 0, 1) := by decide +kernel
theorem dX6_isDone_125 : decode cX6_isDone 125 = .ok (.getfield 9, 3) := by decide +kernel
theorem dX6_isDone_128 : decode cX6_isDone 128 = .ok (.iload_n 2, 1) := by decide +kernel
theorem dX6_isDone_129 : decode cX6_isDone 129 = .ok (.invokestatic 60, 3) := by decide +kernel
theorem dX6_isDone_132 : decode cX6_isDone 132 = .ok (.iconst 2, 1) := by decide +kernel
theorem dX6_isDone_133 : decode cX6_isDone 133 = .ok (.iadd, 1) := by decide +kernel
theorem dX6_isDone_134 : decode cX6_isDone 134 = .ok (.iaload, 1) := by decide +kernel
theorem dX6_isDone_135 : decode cX6_isDone 135 = .ok (.iload_n 3, 1) := by decide +kernel
theorem dX6_isDone_136 : decode cX6_isDone 136 = .ok (.if_icmp .eq 14, 3) := by decide +kernel
theorem dX6_isDone_139 : decode cX6_isDone 139 = .ok (.aload_n 0, 1) := by decide +kernel
theorem dX6_isDone_140 : decode cX6_isDone 140 = .ok (.getfield 9, 3) := by decide +kernel
theorem dX6_isDone_143 : decode cX6_isDone 143 = .ok (.iconst 2, 1) := by decide +kernel
theorem dX6_isDone_144 : decode cX6_isDone 144 = .ok (.iaload, 1) := by decide +kernel
theorem dX6_isDone_145 : decode cX6_isDone 145 = .ok (.bipush 8, 2) := by decide +kernel
theorem dX6_isDone_147 : decode cX6_isDone 147 = .ok (.if_icmp .ne 5, 3) := by decide +kernel
theorem dX6_isDone_150 : decode cX6_isDone 150 = .ok (.iconst 0, 1) := by decide +kernel
theorem dX6_isDone_151 : decode cX6_isDone 151 = .ok (.ireturn, 1) := by decide +kernel
theorem dX6_isDone_152 : decode cX6_isDone 152 = .ok (.aload_n 0, 1) := by decide +kernel
theorem dX6_isDone_153 : decode cX6_isDone 153 = .ok (.iload_n 2, 1) := by decide +kernel
theorem dX6_isDone_154 : decode cX6_isDone 154 = .ok (.iload_n 3, 1) := by decide +kernel
theorem dX6_isDone_155 : decode cX6_isDone 155 = .ok (.invokevirtual 130, 3) := by decide +kernel
theorem dX6_isDone_158 : decode cX6_isDone 158 = .ok (.iconst 1, 1) := by decide +kernel
theorem dX6_isDone_159 : decode cX6_isDone 159 = .ok (.ireturn, 1) := by decide +kernel
theorem dX6_isDone_160 : decode cX6_isDone 160 = .ok (.iload_n 2, 1) := by decide +kernel
theorem dX6_isDone_161 : decode cX6_isDone 161 = .ok (.bipush 8, 2) := by decide +kernel
theorem dX6_isDone_163 : decode cX6_isDone 163 = .ok (.if_icmp .ge 9, 3) := by decide +kernel
theorem dX6_isDone_166 : decode cX6_isDone 166 = .ok (.iload_n 3, 1) := by decide +kernel
theorem dX6_isDone_167 : decode cX6_isDone 167 = .ok (.bipush 8, 2) := by decide +kernel
theorem dX6_isDone_169 : decode cX6_isDone 169 = .ok (.if_icmp .lt 5, 3) := by decide +kernel
theorem dX6_isDone_172 : decode cX6_isDone 172 = .ok (.iconst 0, 1) := by decide +kernel
theorem dX6_isDone_173 : decode cX6_isDone 173 = .ok (.ireturn, 1) := by decide +kernel
theorem dX6_isDone_174 : decode cX6_isDone 174 = .ok (.aload_n 0, 1) := by decide +kernel
theorem dX6_isDone_175 : decode cX6_isDone 175 = .ok (.getfield 9, 3) := by decide +kernel
theorem dX6_isDone_178 : decode cX6_isDone 178 = .ok (.bipush 66, 2) := by decide +kernel
theorem dX6_isDone_180 : decode cX6_isDone 180 = .ok (.iload_n 3, 1) := by decide +kernel
theorem dX6_isDone_181 : decode cX6_isDone 181 = .ok (.iadd, 1) := by decide +kernel
theorem dX6_isDone_182 : decode cX6_isDone 182 = .ok (.aload_n 0, 1) := by decide +kernel
theorem dX6_isDone_183 : decode cX6_isDone 183 = .ok (.getfield 9, 3) := by decide +kernel
theorem dX6_isDone_186 : decode cX6_isDone 186 = .ok (.bipush 66, 2) := by decide +kernel
theorem dX6_isDone_188 : decode cX6_isDone 188 = .ok (.iload_n 2, 1) := by decide +kernel
theorem dX6_isDone_189 : decode cX6_isDone 189 = .ok (.iadd, 1) := by decide +kernel
theorem dX6_isDone_190 : decode cX6_isDone 190 = .ok (.iaload, 1) := by decide +kernel
theorem dX6_isDone_191 : decode cX6_isDone 191 = .ok (.iastore, 1) := by decide +kernel
theorem dX6_isDone_192 : decode cX6_isDone 192 = .ok (.iconst 1, 1) := by decide +kernel
theorem dX6_isDone_193 : decode cX6_isDone 193 = .ok (.ireturn, 1) := by decide +kernel
theorem dX6_isDone_194 : decode cX6_isDone 194 = .ok (.iload_n 2, 1) := by decide +kernel
theorem dX6_isDone_195 : decode cX6_isDone 195 = .ok (.iconst 1, 1) := by decide +kernel
theorem dX6_isDone_196 : decode cX6_isDone 196 = .ok (.bipush 60, 2) := by decide +kernel
theorem dX6_isDone_198 : decode cX6_isDone 198 = .ok (.invokestatic 52, 3) := by decide +kernel
theorem dX6_isDone_201 : decode cX6_isDone 201 = .ok (.ifCond .eq 17, 3) := by decide +kernel
theorem dX6_isDone_204 : decode cX6_isDone 204 = .ok (.aload_n 0, 1) := by decide +kernel
theorem dX6_isDone_205 : decode cX6_isDone 205 = .ok (.getfield 9, 3) := by decide +kernel
theorem dX6_isDone_208 : decode cX6_isDone 208 = .ok (.iconst 3, 1) := by decide +kernel
theorem dX6_isDone_209 : decode cX6_isDone 209 = .ok (.iaload, 1) := by decide +kernel
theorem dX6_isDone_210 : decode cX6_isDone 210 = .ok (.iload_n 2, 1) := by decide +kernel
theorem dX6_isDone_211 : decode cX6_isDone 211 = .ok (.iadd, 1) := by decide +kernel
theorem dX6_isDone_212 : decode cX6_isDone 212 = .ok (.sipush 999, 3) := by decide +kernel
theorem dX6_isDone_215 : decode cX6_isDone 215 = .ok (.if_icmp .le 5, 3) := by decide +kernel
theorem dX6_isDone_218 : decode cX6_isDone 218 = .ok (.iconst 0, 1) := by decide +kernel
theorem dX6_isDone_219 : decode cX6_isDone 219 = .ok (.ireturn, 1) := by decide +kernel
theorem dX6_isDone_220 : decode cX6_isDone 220 = .ok (.aload_n 0, 1) := by decide +kernel
theorem dX6_isDone_221 : decode cX6_isDone 221 = .ok (.getfield 9, 3) := by decide +kernel
theorem dX6_isDone_224 : decode cX6_isDone 224 = .ok (.iload_n 2, 1) := by decide +kernel
theorem dX6_isDone_225 : decode cX6_isDone 225 = .ok (.invokestatic 134, 3) := by decide +kernel
theorem dX6_isDone_228 : decode cX6_isDone 228 = .ok (.iconst 1, 1) := by decide +kernel
theorem dX6_isDone_229 : decode cX6_isDone 229 = .ok (.ireturn, 1) := by decide +kernel
set_option maxRecDepth 20000 in
theorem ggX6_town_X6_wrongRow : GoodIn wsX6_town wsX6_wrongRow := goodIn_r _ [11, 12, 13, 14, 15, 10, 16, 17, 18, 19, 97, 98, 99, 100, 101, 102, 103, 104, 105, 106, 107, 108, 109, 110, 111, 112, 113, 114, 115, 116, 117, 118] (by decide +kernel) (by decide +kernel)
set_option maxRecDepth 20000 in
theorem gX6_town_X6_wrongRow : GoodIn wsX6_town (wsV RX6 138 RX6 yX6_wrongRow wsX6_wrongRow) := goodIn_app (goodIn_of _ (by decide +kernel)) ggX6_town_X6_wrongRow
set_option maxRecDepth 20000 in
theorem ggX6_town_X6_readsStatement : GoodIn wsX6_town wsX6_readsStatement := goodIn_r _ [23, 4, 24, 25, 26, 10, 27, 3, 28, 1, 29, 30, 31, 32, 33, 17, 18, 19, 97, 98, 99, 100, 101, 102, 103, 104, 105, 106, 107, 108, 109, 110, 111, 112, 113, 114, 115, 116, 117, 118] (by decide +kernel) (by decide +kernel)
set_option maxRecDepth 20000 in
theorem gX6_town_X6_readsStatement : GoodIn wsX6_town (wsV RX6 141 RX6 yX6_readsStatement wsX6_readsStatement) := goodIn_app (goodIn_of _ (by decide +kernel)) ggX6_town_X6_readsStatement
set_option maxRecDepth 20000 in
theorem ggX6_town_X6_copies : GoodIn wsX6_town wsX6_copies := goodIn_r _ [36] (by decide +kernel) (by decide +kernel)
set_option maxRecDepth 20000 in
theorem gX6_town_X6_copies : GoodIn wsX6_town (va_wsS RX6 145 yX6_copies wsX6_copies) := goodIn_app (goodIn_of _ (by decide +kernel)) ggX6_town_X6_copies
set_option maxRecDepth 20000 in
theorem ggX6_town_X6_here : GoodIn wsX6_town wsX6_here := goodIn_r _ [27, 4, 3, 28, 1, 97, 98, 99, 100, 101, 102, 103, 104, 105, 106, 107, 108, 109, 110, 111, 112, 113, 114, 115, 116, 117, 118] (by decide +kernel) (by decide +kernel)
set_option maxRecDepth 20000 in
theorem gX6_town_X6_here : GoodIn wsX6_town (wsV RX6 108 RX6 yX6_here wsX6_here) := goodIn_app (goodIn_of _ (by decide +kernel)) ggX6_town_X6_here
set_option maxRecDepth 20000 in
theorem ggX6_town_X6_isDone : GoodIn wsX6_town wsX6_isDone := goodIn_r _ [40, 33, 5, 41, 42, 43, 10, 44, 45, 46, 47, 48, 17, 18, 19, 49, 50, 51, 52, 53, 54, 55, 56, 57, 58, 59, 60, 61, 62, 63, 64, 65, 66, 67, 68, 69, 70, 71, 72, 73, 74, 75, 76, 77, 78, 79, 80, 81, 82, 83, 84, 85, 86, 87, 88, 89, 90, 91, 92, 93, 94, 95, 96, 97, 98, 99, 100, 101, 102, 103, 104, 105, 106, 107, 108, 109, 110, 111, 112, 113, 114, 115, 116, 117, 118] (by decide +kernel) (by decide +kernel)
set_option maxRecDepth 20000 in
theorem gX6_town_X6_isDone : GoodIn wsX6_town (wsV RX6 149 RX6 yX6_isDone wsX6_isDone) := goodIn_app (goodIn_of _ (by decide +kernel)) ggX6_town_X6_isDone
theorem dX6_town_0 : decode cX6_town 0 = .ok (.aload_n 0, 1) := by decide +kernel
theorem dX6_town_1 : decode cX6_town 1 = .ok (.iload_n 1, 1) := by decide +kernel
theorem dX6_town_2 : decode cX6_town 2 = .ok (.iconst 0, 1) := by decide +kernel
theorem dX6_town_3 : decode cX6_town 3 = .ok (.invokevirtual 138, 3) := by decide +kernel
theorem dX6_town_6 : decode cX6_town 6 = .ok (.istore_n 2, 1) := by decide +kernel
theorem dX6_town_7 : decode cX6_town 7 = .ok (.iload_n 2, 1) := by decide +kernel
theorem dX6_town_8 : decode cX6_town 8 = .ok (.ifCond .eq 5, 3) := by decide +kernel
theorem dX6_town_11 : decode cX6_town 11 = .ok (.iload_n 2, 1) := by decide +kernel
theorem dX6_town_12 : decode cX6_town 12 = .ok (.ireturn, 1) := by decide +kernel
theorem dX6_town_13 : decode cX6_town 13 = .ok (.aload_n 0, 1) := by decide +kernel
theorem dX6_town_14 : decode cX6_town 14 = .ok (.bipush 100, 2) := by decide +kernel
theorem dX6_town_16 : decode cX6_town 16 = .ok (.iload_n 1, 1) := by decide +kernel
theorem dX6_town_17 : decode cX6_town 17 = .ok (.imul, 1) := by decide +kernel
theorem dX6_town_18 : decode cX6_town 18 = .ok (.putfield 105, 3) := by decide +kernel
theorem dX6_town_21 : decode cX6_town 21 = .ok (.aload_n 0, 1) := by decide +kernel
theorem dX6_town_22 : decode cX6_town 22 = .ok (.aload_n 0, 1) := by decide +kernel
theorem dX6_town_23 : decode cX6_town 23 = .ok (.getfield 46, 3) := by decide +kernel
theorem dX6_town_26 : decode cX6_town 26 = .ok (.iload_n 1, 1) := by decide +kernel
theorem dX6_town_27 : decode cX6_town 27 = .ok (.iaload, 1) := by decide +kernel
theorem dX6_town_28 : decode cX6_town 28 = .ok (.putfield 102, 3) := by decide +kernel
theorem dX6_town_31 : decode cX6_town 31 = .ok (.aload_n 0, 1) := by decide +kernel
theorem dX6_town_32 : decode cX6_town 32 = .ok (.iconst 0, 1) := by decide +kernel
theorem dX6_town_33 : decode cX6_town 33 = .ok (.putfield 98, 3) := by decide +kernel
theorem dX6_town_36 : decode cX6_town 36 = .ok (.iconst 0, 1) := by decide +kernel
theorem dX6_town_37 : decode cX6_town 37 = .ok (.istore_n 3, 1) := by decide +kernel
theorem dX6_town_38 : decode cX6_town 38 = .ok (.iconst 0, 1) := by decide +kernel
theorem dX6_town_39 : decode cX6_town 39 = .ok (.istore 4, 2) := by decide +kernel
theorem dX6_town_41 : decode cX6_town 41 = .ok (.aload_n 0, 1) := by decide +kernel
theorem dX6_town_42 : decode cX6_town 42 = .ok (.invokevirtual 141, 3) := by decide +kernel
theorem dX6_town_45 : decode cX6_town 45 = .ok (.ifCond .ne 13, 3) := by decide +kernel
theorem dX6_town_48 : decode cX6_town 48 = .ok (.sipush (-1000), 3) := by decide +kernel
theorem dX6_town_51 : decode cX6_town 51 = .ok (.aload_n 0, 1) := by decide +kernel
theorem dX6_town_52 : decode cX6_town 52 = .ok (.getfield 98, 3) := by decide +kernel
theorem dX6_town_55 : decode cX6_town 55 = .ok (.isub, 1) := by decide +kernel
theorem dX6_town_56 : decode cX6_town 56 = .ok (.istore 4, 2) := by decide +kernel
theorem dX6_town_58 : decode cX6_town 58 = .ok (.iinc 3 1, 3) := by decide +kernel
theorem dX6_town_61 : decode cX6_town 61 = .ok (.iload 4, 2) := by decide +kernel
theorem dX6_town_63 : decode cX6_town 63 = .ok (.ifCond .ne 14, 3) := by decide +kernel
theorem dX6_town_66 : decode cX6_town 66 = .ok (.aload_n 0, 1) := by decide +kernel
theorem dX6_town_67 : decode cX6_town 67 = .ok (.getfield 98, 3) := by decide +kernel
theorem dX6_town_70 : decode cX6_town 70 = .ok (.aload_n 0, 1) := by decide +kernel
theorem dX6_town_71 : decode cX6_town 71 = .ok (.getfield 102, 3) := by decide +kernel
theorem dX6_town_74 : decode cX6_town 74 = .ok (.if_icmp .lt (-33), 3) := by decide +kernel
theorem dX6_town_77 : decode cX6_town 77 = .ok (.aload_n 0, 1) := by decide +kernel
theorem dX6_town_78 : decode cX6_town 78 = .ok (.getfield 9, 3) := by decide +kernel
theorem dX6_town_81 : decode cX6_town 81 = .ok (.aload_n 0, 1) := by decide +kernel
theorem dX6_town_82 : decode cX6_town 82 = .ok (.getfield 19, 3) := by decide +kernel
theorem dX6_town_85 : decode cX6_town 85 = .ok (.invokestatic 145, 3) := by decide +kernel
theorem dX6_town_88 : decode cX6_town 88 = .ok (.aload_n 0, 1) := by decide +kernel
theorem dX6_town_89 : decode cX6_town 89 = .ok (.iconst 0, 1) := by decide +kernel
theorem dX6_town_90 : decode cX6_town 90 = .ok (.putfield 98, 3) := by decide +kernel
theorem dX6_town_93 : decode cX6_town 93 = .ok (.iload 4, 2) := by decide +kernel
theorem dX6_town_95 : decode cX6_town 95 = .ok (.ifCond .ne 66, 3) := by decide +kernel
theorem dX6_town_98 : decode cX6_town 98 = .ok (.aload_n 0, 1) := by decide +kernel
theorem dX6_town_99 : decode cX6_town 99 = .ok (.getfield 98, 3) := by decide +kernel
theorem dX6_town_102 : decode cX6_town 102 = .ok (.aload_n 0, 1) := by decide +kernel
theorem dX6_town_103 : decode cX6_town 103 = .ok (.getfield 102, 3) := by decide +kernel
theorem dX6_town_106 : decode cX6_town 106 = .ok (.if_icmp .ge 55, 3) := by decide +kernel
theorem dX6_town_109 : decode cX6_town 109 = .ok (.aload_n 0, 1) := by decide +kernel
theorem dX6_town_110 : decode cX6_town 110 = .ok (.getfield 98, 3) := by decide +kernel
theorem dX6_town_113 : decode cX6_town 113 = .ok (.istore 5, 2) := by decide +kernel
theorem dX6_town_115 : decode cX6_town 115 = .ok (.aload_n 0, 1) := by decide +kernel
theorem dX6_town_116 : decode cX6_town 116 = .ok (.invokevirtual 108, 3) := by decide +kernel
theorem dX6_town_119 : decode cX6_town 119 = .ok (.istore 6, 2) := by decide +kernel
theorem dX6_town_121 : decode cX6_town 121 = .ok (.aload_n 0, 1) := by decide +kernel
theorem dX6_town_122 : decode cX6_town 122 = .ok (.invokevirtual 141, 3) := by decide +kernel
theorem dX6_town_125 : decode cX6_town 125 = .ok (.istore 7, 2) := by decide +kernel
theorem dX6_town_127 : decode cX6_town 127 = .ok (.aload_n 0, 1) := by decide +kernel
theorem dX6_town_128 : decode cX6_town 128 = .ok (.iload 6, 2) := by decide +kernel
theorem dX6_town_130 : decode cX6_town 130 = .ok (.invokevirtual 149, 3) := by decide +kernel
theorem dX6_town_133 : decode cX6_town 133 = .ok (.ifCond .eq 6, 3) := by decide +kernel
theorem dX6_town_136 : decode cX6_town 136 = .ok (.goto (-43), 3) := by decide +kernel
theorem dX6_town_139 : decode cX6_town 139 = .ok (.sipush (-2000), 3) := by decide +kernel
theorem dX6_town_142 : decode cX6_town 142 = .ok (.iload 5, 2) := by decide +kernel
theorem dX6_town_144 : decode cX6_town 144 = .ok (.isub, 1) := by decide +kernel
theorem dX6_town_145 : decode cX6_town 145 = .ok (.istore 4, 2) := by decide +kernel
theorem dX6_town_147 : decode cX6_town 147 = .ok (.aload_n 0, 1) := by decide +kernel
theorem dX6_town_148 : decode cX6_town 148 = .ok (.getfield 19, 3) := by decide +kernel
theorem dX6_town_151 : decode cX6_town 151 = .ok (.aload_n 0, 1) := by decide +kernel
theorem dX6_town_152 : decode cX6_town 152 = .ok (.getfield 9, 3) := by decide +kernel
theorem dX6_town_155 : decode cX6_town 155 = .ok (.invokestatic 145, 3) := by decide +kernel
theorem dX6_town_158 : decode cX6_town 158 = .ok (.goto (-65), 3) := by decide +kernel
theorem dX6_town_161 : decode cX6_town 161 = .ok (.iload 4, 2) := by decide +kernel
theorem dX6_town_163 : decode cX6_town 163 = .ok (.ifCond .ne 7, 3) := by decide +kernel
theorem dX6_town_166 : decode cX6_town 166 = .ok (.iload_n 3, 1) := by decide +kernel
theorem dX6_town_167 : decode cX6_town 167 = .ok (.goto 5, 3) := by decide +kernel
theorem dX6_town_170 : decode cX6_town 170 = .ok (.iload 4, 2) := by decide +kernel
theorem dX6_town_172 : decode cX6_town 172 = .ok (.ireturn, 1) := by decide +kernel
set_option maxRecDepth 20000 in
theorem ggX6_good_X6_isGood : GoodIn wsX6_good wsX6_isGood := goodIn_r _ [6, 1, 7, 8, 5, 9, 13, 14, 15, 16, 17, 18, 19, 20, 21, 22, 23, 24, 25, 26, 27, 28, 29, 30, 31, 32, 33, 34] (by decide +kernel) (by decide +kernel)
set_option maxRecDepth 20000 in
theorem gX6_good_X6_isGood : GoodIn wsX6_good (wsV RX6 127 RX6 yX6_isGood wsX6_isGood) := goodIn_app (goodIn_of _ (by decide +kernel)) ggX6_good_X6_isGood
set_option maxRecDepth 20000 in
theorem ggX6_good_X6_isIn : GoodIn wsX6_good wsX6_isIn := goodIn_r _ [9] (by decide +kernel) (by decide +kernel)
set_option maxRecDepth 20000 in
theorem gX6_good_X6_isIn : GoodIn wsX6_good (va_wsS RX6 52 yX6_isIn wsX6_isIn) := goodIn_app (goodIn_of _ (by decide +kernel)) ggX6_good_X6_isIn
set_option maxRecDepth 20000 in
theorem ggX6_good_X6_ofG : GoodIn wsX6_good wsX6_ofG := goodIn_r _ [12] (by decide +kernel) (by decide +kernel)
set_option maxRecDepth 20000 in
theorem gX6_good_X6_ofG : GoodIn wsX6_good (va_wsS RX6 60 yX6_ofG wsX6_ofG) := goodIn_app (goodIn_of _ (by decide +kernel)) ggX6_good_X6_ofG
theorem dX6_good_0 : decode cX6_good 0 = .ok (.aload_n 0, 1) := by decide +kernel
theorem dX6_good_1 : decode cX6_good 1 = .ok (.iload_n 1, 1) := by decide +kernel
theorem dX6_good_2 : decode cX6_good 2 = .ok (.invokevirtual 127, 3) := by decide +kernel
theorem dX6_good_5 : decode cX6_good 5 = .ok (.ifCond .eq 12, 3) := by decide +kernel
theorem dX6_good_8 : decode cX6_good 8 = .ok (.iload_n 2, 1) := by decide +kernel
theorem dX6_good_9 : decode cX6_good 9 = .ok (.iconst 0, 1) := by decide +kernel
theorem dX6_good_10 : decode cX6_good 10 = .ok (.iconst 3, 1) := by decide +kernel
theorem dX6_good_11 : decode cX6_good 11 = .ok (.invokestatic 52, 3) := by decide +kernel
theorem dX6_good_14 : decode cX6_good 14 = .ok (.ifCond .ne 5, 3) := by decide +kernel
theorem dX6_good_17 : decode cX6_good 17 = .ok (.iconst (-1), 1) := by decide +kernel
theorem dX6_good_18 : decode cX6_good 18 = .ok (.ireturn, 1) := by decide +kernel
theorem dX6_good_19 : decode cX6_good 19 = .ok (.iload_n 2, 1) := by decide +kernel
theorem dX6_good_20 : decode cX6_good 20 = .ok (.iconst 3, 1) := by decide +kernel
theorem dX6_good_21 : decode cX6_good 21 = .ok (.if_icmp .ne 25, 3) := by decide +kernel
theorem dX6_good_24 : decode cX6_good 24 = .ok (.aload_n 0, 1) := by decide +kernel
theorem dX6_good_25 : decode cX6_good 25 = .ok (.getfield 9, 3) := by decide +kernel
theorem dX6_good_28 : decode cX6_good 28 = .ok (.bipush 66, 2) := by decide +kernel
theorem dX6_good_30 : decode cX6_good 30 = .ok (.aload_n 0, 1) := by decide +kernel
theorem dX6_good_31 : decode cX6_good 31 = .ok (.getfield 9, 3) := by decide +kernel
theorem dX6_good_34 : decode cX6_good 34 = .ok (.iload_n 1, 1) := by decide +kernel
theorem dX6_good_35 : decode cX6_good 35 = .ok (.invokestatic 60, 3) := by decide +kernel
theorem dX6_good_38 : decode cX6_good 38 = .ok (.iconst 0, 1) := by decide +kernel
theorem dX6_good_39 : decode cX6_good 39 = .ok (.iadd, 1) := by decide +kernel
theorem dX6_good_40 : decode cX6_good 40 = .ok (.iaload, 1) := by decide +kernel
theorem dX6_good_41 : decode cX6_good 41 = .ok (.iadd, 1) := by decide +kernel
theorem dX6_good_42 : decode cX6_good 42 = .ok (.iaload, 1) := by decide +kernel
theorem dX6_good_43 : decode cX6_good 43 = .ok (.goto 14, 3) := by decide +kernel
theorem dX6_good_46 : decode cX6_good 46 = .ok (.aload_n 0, 1) := by decide +kernel
theorem dX6_good_47 : decode cX6_good 47 = .ok (.getfield 9, 3) := by decide +kernel
theorem dX6_good_50 : decode cX6_good 50 = .ok (.iload_n 1, 1) := by decide +kernel
theorem dX6_good_51 : decode cX6_good 51 = .ok (.invokestatic 60, 3) := by decide +kernel
theorem dX6_good_54 : decode cX6_good 54 = .ok (.iload_n 2, 1) := by decide +kernel
theorem dX6_good_55 : decode cX6_good 55 = .ok (.iadd, 1) := by decide +kernel
theorem dX6_good_56 : decode cX6_good 56 = .ok (.iaload, 1) := by decide +kernel
theorem dX6_good_57 : decode cX6_good 57 = .ok (.ireturn, 1) := by decide +kernel
set_option maxRecDepth 20000 in
theorem ggX6_ownedBy_X6_ofG : GoodIn wsX6_ownedBy wsX6_ofG := goodIn_r _ [4] (by decide +kernel) (by decide +kernel)
set_option maxRecDepth 20000 in
theorem gX6_ownedBy_X6_ofG : GoodIn wsX6_ownedBy (va_wsS RX6 60 yX6_ofG wsX6_ofG) := goodIn_app (goodIn_of _ (by decide +kernel)) ggX6_ownedBy_X6_ofG
theorem dX6_ownedBy_0 : decode cX6_ownedBy 0 = .ok (.iconst 0, 1) := by decide +kernel
theorem dX6_ownedBy_1 : decode cX6_ownedBy 1 = .ok (.istore_n 2, 1) := by decide +kernel
theorem dX6_ownedBy_2 : decode cX6_ownedBy 2 = .ok (.iconst 0, 1) := by decide +kernel
theorem dX6_ownedBy_3 : decode cX6_ownedBy 3 = .ok (.istore_n 3, 1) := by decide +kernel
theorem dX6_ownedBy_4 : decode cX6_ownedBy 4 = .ok (.iload_n 3, 1) := by decide +kernel
theorem dX6_ownedBy_5 : decode cX6_ownedBy 5 = .ok (.aload_n 0, 1) := by decide +kernel
theorem dX6_ownedBy_6 : decode cX6_ownedBy 6 = .ok (.iconst 0, 1) := by decide +kernel
theorem dX6_ownedBy_7 : decode cX6_ownedBy 7 = .ok (.iaload, 1) := by decide +kernel
theorem dX6_ownedBy_8 : decode cX6_ownedBy 8 = .ok (.if_icmp .ge 31, 3) := by decide +kernel
theorem dX6_ownedBy_11 : decode cX6_ownedBy 11 = .ok (.iload_n 2, 1) := by decide +kernel
theorem dX6_ownedBy_12 : decode cX6_ownedBy 12 = .ok (.aload_n 0, 1) := by decide +kernel
theorem dX6_ownedBy_13 : decode cX6_ownedBy 13 = .ok (.iload_n 3, 1) := by decide +kernel
theorem dX6_ownedBy_14 : decode cX6_ownedBy 14 = .ok (.invokestatic 60, 3) := by decide +kernel
theorem dX6_ownedBy_17 : decode cX6_ownedBy 17 = .ok (.iconst 2, 1) := by decide +kernel
theorem dX6_ownedBy_18 : decode cX6_ownedBy 18 = .ok (.iadd, 1) := by decide +kernel
theorem dX6_ownedBy_19 : decode cX6_ownedBy 19 = .ok (.iaload, 1) := by decide +kernel
theorem dX6_ownedBy_20 : decode cX6_ownedBy 20 = .ok (.iload_n 1, 1) := by decide +kernel
theorem dX6_ownedBy_21 : decode cX6_ownedBy 21 = .ok (.if_icmp .ne 9, 3) := by decide +kernel
theorem dX6_ownedBy_24 : decode cX6_ownedBy 24 = .ok (.iconst 1, 1) := by decide +kernel
theorem dX6_ownedBy_25 : decode cX6_ownedBy 25 = .ok (.iload_n 3, 1) := by decide +kernel
theorem dX6_ownedBy_26 : decode cX6_ownedBy 26 = .ok (.ishl, 1) := by decide +kernel
theorem dX6_ownedBy_27 : decode cX6_ownedBy 27 = .ok (.goto 4, 3) := by decide +kernel
theorem dX6_ownedBy_30 : decode cX6_ownedBy 30 = .ok (.iconst 0, 1) := by decide +kernel
theorem dX6_ownedBy_31 : decode cX6_ownedBy 31 = .ok (.ior, 1) := by decide +kernel
theorem dX6_ownedBy_32 : decode cX6_ownedBy 32 = .ok (.istore_n 2, 1) := by decide +kernel
theorem dX6_ownedBy_33 : decode cX6_ownedBy 33 = .ok (.iinc 3 1, 3) := by decide +kernel
theorem dX6_ownedBy_36 : decode cX6_ownedBy 36 = .ok (.goto (-32), 3) := by decide +kernel
theorem dX6_ownedBy_39 : decode cX6_ownedBy 39 = .ok (.iload_n 2, 1) := by decide +kernel
theorem dX6_ownedBy_40 : decode cX6_ownedBy 40 = .ok (.ireturn, 1) := by decide +kernel
set_option maxRecDepth 20000 in
theorem ggX6_richesOf_X6_ofG : GoodIn wsX6_richesOf wsX6_ofG := goodIn_r _ [4] (by decide +kernel) (by decide +kernel)
set_option maxRecDepth 20000 in
theorem gX6_richesOf_X6_ofG : GoodIn wsX6_richesOf (va_wsS RX6 60 yX6_ofG wsX6_ofG) := goodIn_app (goodIn_of _ (by decide +kernel)) ggX6_richesOf_X6_ofG
set_option maxRecDepth 20000 in
theorem ggX6_richesOf_X6_worthIn : GoodIn wsX6_richesOf wsX6_worthIn := goodIn_r _ [7, 1, 2, 3, 4, 8, 9, 10, 11, 12, 13] (by decide +kernel) (by decide +kernel)
set_option maxRecDepth 20000 in
theorem gX6_richesOf_X6_worthIn : GoodIn wsX6_richesOf (va_wsS RX6 72 yX6_worthIn wsX6_worthIn) := goodIn_app (goodIn_of _ (by decide +kernel)) ggX6_richesOf_X6_worthIn
theorem dX6_richesOf_0 : decode cX6_richesOf 0 = .ok (.iconst 0, 1) := by decide +kernel
theorem dX6_richesOf_1 : decode cX6_richesOf 1 = .ok (.istore_n 2, 1) := by decide +kernel
theorem dX6_richesOf_2 : decode cX6_richesOf 2 = .ok (.iconst 0, 1) := by decide +kernel
theorem dX6_richesOf_3 : decode cX6_richesOf 3 = .ok (.istore_n 3, 1) := by decide +kernel
theorem dX6_richesOf_4 : decode cX6_richesOf 4 = .ok (.iload_n 3, 1) := by decide +kernel
theorem dX6_richesOf_5 : decode cX6_richesOf 5 = .ok (.aload_n 0, 1) := by decide +kernel
theorem dX6_richesOf_6 : decode cX6_richesOf 6 = .ok (.iconst 0, 1) := by decide +kernel
theorem dX6_richesOf_7 : decode cX6_richesOf 7 = .ok (.iaload, 1) := by decide +kernel
theorem dX6_richesOf_8 : decode cX6_richesOf 8 = .ok (.if_icmp .ge 34, 3) := by decide +kernel
theorem dX6_richesOf_11 : decode cX6_richesOf 11 = .ok (.iload_n 2, 1) := by decide +kernel
theorem dX6_richesOf_12 : decode cX6_richesOf 12 = .ok (.aload_n 0, 1) := by decide +kernel
theorem dX6_richesOf_13 : decode cX6_richesOf 13 = .ok (.iload_n 3, 1) := by decide +kernel
theorem dX6_richesOf_14 : decode cX6_richesOf 14 = .ok (.invokestatic 60, 3) := by decide +kernel
theorem dX6_richesOf_17 : decode cX6_richesOf 17 = .ok (.iconst 2, 1) := by decide +kernel
theorem dX6_richesOf_18 : decode cX6_richesOf 18 = .ok (.iadd, 1) := by decide +kernel
theorem dX6_richesOf_19 : decode cX6_richesOf 19 = .ok (.iaload, 1) := by decide +kernel
theorem dX6_richesOf_20 : decode cX6_richesOf 20 = .ok (.iload_n 1, 1) := by decide +kernel
theorem dX6_richesOf_21 : decode cX6_richesOf 21 = .ok (.if_icmp .ne 12, 3) := by decide +kernel
theorem dX6_richesOf_24 : decode cX6_richesOf 24 = .ok (.aload_n 0, 1) := by decide +kernel
theorem dX6_richesOf_25 : decode cX6_richesOf 25 = .ok (.iload_n 1, 1) := by decide +kernel
theorem dX6_richesOf_26 : decode cX6_richesOf 26 = .ok (.iload_n 3, 1) := by decide +kernel
theorem dX6_richesOf_27 : decode cX6_richesOf 27 = .ok (.invokestatic 72, 3) := by decide +kernel
theorem dX6_richesOf_30 : decode cX6_richesOf 30 = .ok (.goto 4, 3) := by decide +kernel
theorem dX6_richesOf_33 : decode cX6_richesOf 33 = .ok (.iconst 0, 1) := by decide +kernel
theorem dX6_richesOf_34 : decode cX6_richesOf 34 = .ok (.iadd, 1) := by decide +kernel
theorem dX6_richesOf_35 : decode cX6_richesOf 35 = .ok (.istore_n 2, 1) := by decide +kernel
theorem dX6_richesOf_36 : decode cX6_richesOf 36 = .ok (.iinc 3 1, 3) := by decide +kernel
theorem dX6_richesOf_39 : decode cX6_richesOf 39 = .ok (.goto (-35), 3) := by decide +kernel
theorem dX6_richesOf_42 : decode cX6_richesOf 42 = .ok (.iload_n 2, 1) := by decide +kernel
theorem dX6_richesOf_43 : decode cX6_richesOf 43 = .ok (.ireturn, 1) := by decide +kernel
set_option maxRecDepth 20000 in
theorem ggX6_person_X6_isPerson : GoodIn wsX6_person wsX6_isPerson := goodIn_r _ [6, 1, 7, 8, 5, 9, 28, 29, 30, 31, 32, 33, 34, 35, 36, 37, 38, 39, 40, 41, 42, 43, 44, 45, 46, 47, 48, 49] (by decide +kernel) (by decide +kernel)
set_option maxRecDepth 20000 in
theorem gX6_person_X6_isPerson : GoodIn wsX6_person (wsV RX6 120 RX6 yX6_isPerson wsX6_isPerson) := goodIn_app (goodIn_of _ (by decide +kernel)) ggX6_person_X6_isPerson
set_option maxRecDepth 20000 in
theorem ggX6_person_X6_isIn : GoodIn wsX6_person wsX6_isIn := goodIn_r _ [9] (by decide +kernel) (by decide +kernel)
set_option maxRecDepth 20000 in
theorem gX6_person_X6_isIn : GoodIn wsX6_person (va_wsS RX6 52 yX6_isIn wsX6_isIn) := goodIn_app (goodIn_of _ (by decide +kernel)) ggX6_person_X6_isIn
set_option maxRecDepth 20000 in
theorem ggX6_person_X6_ownedBy : GoodIn wsX6_person wsX6_ownedBy := goodIn_r _ [12, 13, 14, 5, 15] (by decide +kernel) (by decide +kernel)
set_option maxRecDepth 20000 in
theorem gX6_person_X6_ownedBy : GoodIn wsX6_person (va_wsS RX6 152 yX6_ownedBy wsX6_ownedBy) := goodIn_app (goodIn_of _ (by decide +kernel)) ggX6_person_X6_ownedBy
set_option maxRecDepth 20000 in
theorem ggX6_person_X6_richesOf : GoodIn wsX6_person wsX6_richesOf := goodIn_r _ [18, 13, 14, 5, 15, 19, 20, 21, 22, 23, 24, 25, 26, 27] (by decide +kernel) (by decide +kernel)
set_option maxRecDepth 20000 in
theorem gX6_person_X6_richesOf : GoodIn wsX6_person (va_wsS RX6 155 yX6_richesOf wsX6_richesOf) := goodIn_app (goodIn_of _ (by decide +kernel)) ggX6_person_X6_richesOf
theorem dX6_person_0 : decode cX6_person 0 = .ok (.aload_n 0, 1) := by decide +kernel
theorem dX6_person_1 : decode cX6_person 1 = .ok (.iload_n 1, 1) := by decide +kernel
theorem dX6_person_2 : decode cX6_person 2 = .ok (.invokevirtual 120, 3) := by decide +kernel
theorem dX6_person_5 : decode cX6_person 5 = .ok (.ifCond .eq 12, 3) := by decide +kernel
theorem dX6_person_8 : decode cX6_person 8 = .ok (.iload_n 2, 1) := by decide +kernel
theorem dX6_person_9 : decode cX6_person 9 = .ok (.iconst 0, 1) := by decide +kernel
theorem dX6_person_10 : decode cX6_person 10 = .ok (.iconst 2, 1) := by decide +kernel
theorem dX6_person_11 : decode cX6_person 11 = .ok (.invokestatic 52, 3) := by decide +kernel
theorem dX6_person_14 : decode cX6_person 14 = .ok (.ifCond .ne 5, 3) := by decide +kernel
theorem dX6_person_17 : decode cX6_person 17 = .ok (.iconst (-1), 1) := by decide +kernel
theorem dX6_person_18 : decode cX6_person 18 = .ok (.ireturn, 1) := by decide +kernel
theorem dX6_person_19 : decode cX6_person 19 = .ok (.iload_n 2, 1) := by decide +kernel
theorem dX6_person_20 : decode cX6_person 20 = .ok (.ifCond .ne 15, 3) := by decide +kernel
theorem dX6_person_23 : decode cX6_person 23 = .ok (.aload_n 0, 1) := by decide +kernel
theorem dX6_person_24 : decode cX6_person 24 = .ok (.getfield 9, 3) := by decide +kernel
theorem dX6_person_27 : decode cX6_person 27 = .ok (.bipush 28, 2) := by decide +kernel
theorem dX6_person_29 : decode cX6_person 29 = .ok (.iload_n 1, 1) := by decide +kernel
theorem dX6_person_30 : decode cX6_person 30 = .ok (.iadd, 1) := by decide +kernel
theorem dX6_person_31 : decode cX6_person 31 = .ok (.iaload, 1) := by decide +kernel
theorem dX6_person_32 : decode cX6_person 32 = .ok (.goto 27, 3) := by decide +kernel
theorem dX6_person_35 : decode cX6_person 35 = .ok (.iload_n 2, 1) := by decide +kernel
theorem dX6_person_36 : decode cX6_person 36 = .ok (.iconst 1, 1) := by decide +kernel
theorem dX6_person_37 : decode cX6_person 37 = .ok (.if_icmp .ne 14, 3) := by decide +kernel
theorem dX6_person_40 : decode cX6_person 40 = .ok (.aload_n 0, 1) := by decide +kernel
theorem dX6_person_41 : decode cX6_person 41 = .ok (.getfield 9, 3) := by decide +kernel
theorem dX6_person_44 : decode cX6_person 44 = .ok (.iload_n 1, 1) := by decide +kernel
theorem dX6_person_45 : decode cX6_person 45 = .ok (.invokestatic 152, 3) := by decide +kernel
theorem dX6_person_48 : decode cX6_person 48 = .ok (.goto 11, 3) := by decide +kernel
theorem dX6_person_51 : decode cX6_person 51 = .ok (.aload_n 0, 1) := by decide +kernel
theorem dX6_person_52 : decode cX6_person 52 = .ok (.getfield 9, 3) := by decide +kernel
theorem dX6_person_55 : decode cX6_person 55 = .ok (.iload_n 1, 1) := by decide +kernel
theorem dX6_person_56 : decode cX6_person 56 = .ok (.invokestatic 155, 3) := by decide +kernel
theorem dX6_person_59 : decode cX6_person 59 = .ok (.ireturn, 1) := by decide +kernel
set_option maxRecDepth 20000 in
theorem ggX6_loan_X6_isLoan : GoodIn wsX6_loan wsX6_isLoan := goodIn_r _ [6, 1, 7, 8, 5, 9, 13, 14, 15, 16, 17, 18, 19, 20, 21, 22, 23, 24, 25, 26, 27, 28, 29, 30, 31, 32, 33, 34] (by decide +kernel) (by decide +kernel)
set_option maxRecDepth 20000 in
theorem gX6_loan_X6_isLoan : GoodIn wsX6_loan (wsV RX6 158 RX6 yX6_isLoan wsX6_isLoan) := goodIn_app (goodIn_of _ (by decide +kernel)) ggX6_loan_X6_isLoan
set_option maxRecDepth 20000 in
theorem ggX6_loan_X6_isIn : GoodIn wsX6_loan wsX6_isIn := goodIn_r _ [9] (by decide +kernel) (by decide +kernel)
set_option maxRecDepth 20000 in
theorem gX6_loan_X6_isIn : GoodIn wsX6_loan (va_wsS RX6 52 yX6_isIn wsX6_isIn) := goodIn_app (goodIn_of _ (by decide +kernel)) ggX6_loan_X6_isIn
set_option maxRecDepth 20000 in
theorem ggX6_loan_X6_ofL : GoodIn wsX6_loan wsX6_ofL := goodIn_r _ [12] (by decide +kernel) (by decide +kernel)
set_option maxRecDepth 20000 in
theorem gX6_loan_X6_ofL : GoodIn wsX6_loan (va_wsS RX6 76 yX6_ofL wsX6_ofL) := goodIn_app (goodIn_of _ (by decide +kernel)) ggX6_loan_X6_ofL
theorem dX6_loan_0 : decode cX6_loan 0 = .ok (.aload_n 0, 1) := by decide +kernel
theorem dX6_loan_1 : decode cX6_loan 1 = .ok (.iload_n 1, 1) := by decide +kernel
theorem dX6_loan_2 : decode cX6_loan 2 = .ok (.invokevirtual 158, 3) := by decide +kernel
theorem dX6_loan_5 : decode cX6_loan 5 = .ok (.ifCond .eq 26, 3) := by decide +kernel
theorem dX6_loan_8 : decode cX6_loan 8 = .ok (.iload_n 2, 1) := by decide +kernel
theorem dX6_loan_9 : decode cX6_loan 9 = .ok (.iconst 0, 1) := by decide +kernel
theorem dX6_loan_10 : decode cX6_loan 10 = .ok (.iconst 3, 1) := by decide +kernel
theorem dX6_loan_11 : decode cX6_loan 11 = .ok (.invokestatic 52, 3) := by decide +kernel
theorem dX6_loan_14 : decode cX6_loan 14 = .ok (.ifCond .eq 17, 3) := by decide +kernel
theorem dX6_loan_17 : decode cX6_loan 17 = .ok (.aload_n 0, 1) := by decide +kernel
theorem dX6_loan_18 : decode cX6_loan 18 = .ok (.getfield 9, 3) := by decide +kernel
theorem dX6_loan_21 : decode cX6_loan 21 = .ok (.iload_n 1, 1) := by decide +kernel
theorem dX6_loan_22 : decode cX6_loan 22 = .ok (.invokestatic 76, 3) := by decide +kernel
theorem dX6_loan_25 : decode cX6_loan 25 = .ok (.iload_n 2, 1) := by decide +kernel
theorem dX6_loan_26 : decode cX6_loan 26 = .ok (.iadd, 1) := by decide +kernel
theorem dX6_loan_27 : decode cX6_loan 27 = .ok (.iaload, 1) := by decide +kernel
theorem dX6_loan_28 : decode cX6_loan 28 = .ok (.goto 4, 3) := by decide +kernel
theorem dX6_loan_31 : decode cX6_loan 31 = .ok (.iconst (-1), 1) := by decide +kernel
theorem dX6_loan_32 : decode cX6_loan 32 = .ok (.ireturn, 1) := by decide +kernel
set_option maxRecDepth 20000 in
theorem ggX6_comes_X6_isIn : GoodIn wsX6_comes wsX6_isIn := goodIn_r _ [5] (by decide +kernel) (by decide +kernel)
set_option maxRecDepth 20000 in
theorem gX6_comes_X6_isIn : GoodIn wsX6_comes (va_wsS RX6 52 yX6_isIn wsX6_isIn) := goodIn_app (goodIn_of _ (by decide +kernel)) ggX6_comes_X6_isIn
set_option maxRecDepth 20000 in
theorem ggX6_comes_X6_addsPerson : GoodIn wsX6_comes wsX6_addsPerson := goodIn_r _ [9, 1, 10, 11, 12, 13, 14, 15, 16, 17, 18, 19, 20, 21, 22, 23, 24, 25, 26, 27, 28, 29, 30, 31] (by decide +kernel) (by decide +kernel)
set_option maxRecDepth 20000 in
theorem gX6_comes_X6_addsPerson : GoodIn wsX6_comes (wsV RX6 116 RX6 yX6_addsPerson wsX6_addsPerson) := goodIn_app (goodIn_of _ (by decide +kernel)) ggX6_comes_X6_addsPerson
theorem dX6_comes_0 : decode cX6_comes 0 = .ok (.iload_n 1, 1) := by decide +kernel
theorem dX6_comes_1 : decode cX6_comes 1 = .ok (.iconst 0, 1) := by decide +kernel
theorem dX6_comes_2 : decode cX6_comes 2 = .ok (.bipush 9, 2) := by decide +kernel
theorem dX6_comes_4 : decode cX6_comes 4 = .ok (.invokestatic 52, 3) := by decide +kernel
theorem dX6_comes_7 : decode cX6_comes 7 = .ok (.ifCond .ne 5, 3) := by decide +kernel
theorem dX6_comes_10 : decode cX6_comes 10 = .ok (.iconst (-1), 1) := by decide +kernel
theorem dX6_comes_11 : decode cX6_comes 11 = .ok (.ireturn, 1) := by decide +kernel
theorem dX6_comes_12 : decode cX6_comes 12 = .ok (.aload_n 0, 1) := by decide +kernel
theorem dX6_comes_13 : decode cX6_comes 13 = .ok (.iload_n 1, 1) := by decide +kernel
theorem dX6_comes_14 : decode cX6_comes 14 = .ok (.invokevirtual 116, 3) := by decide +kernel
theorem dX6_comes_17 : decode cX6_comes 17 = .ok (.ifCond .eq 14, 3) := by decide +kernel
theorem dX6_comes_20 : decode cX6_comes 20 = .ok (.aload_n 0, 1) := by decide +kernel
theorem dX6_comes_21 : decode cX6_comes 21 = .ok (.getfield 9, 3) := by decide +kernel
theorem dX6_comes_24 : decode cX6_comes 24 = .ok (.iconst 1, 1) := by decide +kernel
theorem dX6_comes_25 : decode cX6_comes 25 = .ok (.iaload, 1) := by decide +kernel
theorem dX6_comes_26 : decode cX6_comes 26 = .ok (.iconst 1, 1) := by decide +kernel
theorem dX6_comes_27 : decode cX6_comes 27 = .ok (.isub, 1) := by decide +kernel
theorem dX6_comes_28 : decode cX6_comes 28 = .ok (.goto 5, 3) := by decide +kernel
theorem dX6_comes_31 : decode cX6_comes 31 = .ok (.bipush (-2), 2) := by decide +kernel
theorem dX6_comes_33 : decode cX6_comes 33 = .ok (.ireturn, 1) := by decide +kernel
set_option maxRecDepth 20000 in
theorem ggX6_brings_X6_isPerson : GoodIn wsX6_brings wsX6_isPerson := goodIn_r _ [8, 1, 9, 10, 7, 11, 27, 28, 29, 30, 31, 32, 33, 34, 35, 36, 37, 38, 39, 40, 41, 42, 43, 44, 45, 46, 47, 48] (by decide +kernel) (by decide +kernel)
set_option maxRecDepth 20000 in
theorem gX6_brings_X6_isPerson : GoodIn wsX6_brings (wsV RX6 120 RX6 yX6_isPerson wsX6_isPerson) := goodIn_app (goodIn_of _ (by decide +kernel)) ggX6_brings_X6_isPerson
set_option maxRecDepth 20000 in
theorem ggX6_brings_X6_wrongKept : GoodIn wsX6_brings wsX6_wrongKept := goodIn_r _ [15, 16, 17, 18, 7, 19, 9, 10, 11, 27, 28, 29, 30, 31, 32, 33, 34, 35, 36, 37, 38, 39, 40, 41, 42, 43, 44, 45, 46, 47, 48] (by decide +kernel) (by decide +kernel)
set_option maxRecDepth 20000 in
theorem gX6_brings_X6_wrongKept : GoodIn wsX6_brings (wsV RX6 161 RX6 yX6_wrongKept wsX6_wrongKept) := goodIn_app (goodIn_of _ (by decide +kernel)) ggX6_brings_X6_wrongKept
set_option maxRecDepth 20000 in
theorem ggX6_brings_X6_addsGood : GoodIn wsX6_brings wsX6_addsGood := goodIn_r _ [23, 1, 24, 25, 7, 26, 27, 28, 29, 30, 31, 32, 33, 34, 35, 36, 37, 38, 39, 40, 41, 42, 43, 44, 45, 46, 47, 48] (by decide +kernel) (by decide +kernel)
set_option maxRecDepth 20000 in
theorem gX6_brings_X6_addsGood : GoodIn wsX6_brings (wsV RX6 123 RX6 yX6_addsGood wsX6_addsGood) := goodIn_app (goodIn_of _ (by decide +kernel)) ggX6_brings_X6_addsGood
theorem dX6_brings_0 : decode cX6_brings 0 = .ok (.aload_n 0, 1) := by decide +kernel
theorem dX6_brings_1 : decode cX6_brings 1 = .ok (.iload_n 2, 1) := by decide +kernel
theorem dX6_brings_2 : decode cX6_brings 2 = .ok (.invokevirtual 120, 3) := by decide +kernel
theorem dX6_brings_5 : decode cX6_brings 5 = .ok (.ifCond .ne 5, 3) := by decide +kernel
theorem dX6_brings_8 : decode cX6_brings 8 = .ok (.iconst (-1), 1) := by decide +kernel
theorem dX6_brings_9 : decode cX6_brings 9 = .ok (.ireturn, 1) := by decide +kernel
theorem dX6_brings_10 : decode cX6_brings 10 = .ok (.aload_n 0, 1) := by decide +kernel
theorem dX6_brings_11 : decode cX6_brings 11 = .ok (.iload_n 1, 1) := by decide +kernel
theorem dX6_brings_12 : decode cX6_brings 12 = .ok (.invokevirtual 161, 3) := by decide +kernel
theorem dX6_brings_15 : decode cX6_brings 15 = .ok (.istore_n 3, 1) := by decide +kernel
theorem dX6_brings_16 : decode cX6_brings 16 = .ok (.iload_n 3, 1) := by decide +kernel
theorem dX6_brings_17 : decode cX6_brings 17 = .ok (.ifCond .eq 5, 3) := by decide +kernel
theorem dX6_brings_20 : decode cX6_brings 20 = .ok (.iload_n 3, 1) := by decide +kernel
theorem dX6_brings_21 : decode cX6_brings 21 = .ok (.ireturn, 1) := by decide +kernel
theorem dX6_brings_22 : decode cX6_brings 22 = .ok (.aload_n 0, 1) := by decide +kernel
theorem dX6_brings_23 : decode cX6_brings 23 = .ok (.getfield 9, 3) := by decide +kernel
theorem dX6_brings_26 : decode cX6_brings 26 = .ok (.iconst 0, 1) := by decide +kernel
theorem dX6_brings_27 : decode cX6_brings 27 = .ok (.iaload, 1) := by decide +kernel
theorem dX6_brings_28 : decode cX6_brings 28 = .ok (.bipush 8, 2) := by decide +kernel
theorem dX6_brings_30 : decode cX6_brings 30 = .ok (.if_icmp .ne 6, 3) := by decide +kernel
theorem dX6_brings_33 : decode cX6_brings 33 = .ok (.bipush (-2), 2) := by decide +kernel
theorem dX6_brings_35 : decode cX6_brings 35 = .ok (.ireturn, 1) := by decide +kernel
theorem dX6_brings_36 : decode cX6_brings 36 = .ok (.aload_n 0, 1) := by decide +kernel
theorem dX6_brings_37 : decode cX6_brings 37 = .ok (.aload_n 0, 1) := by decide +kernel
theorem dX6_brings_38 : decode cX6_brings 38 = .ok (.getfield 37, 3) := by decide +kernel
theorem dX6_brings_41 : decode cX6_brings 41 = .ok (.iload_n 1, 1) := by decide +kernel
theorem dX6_brings_42 : decode cX6_brings 42 = .ok (.iaload, 1) := by decide +kernel
theorem dX6_brings_43 : decode cX6_brings 43 = .ok (.aload_n 0, 1) := by decide +kernel
theorem dX6_brings_44 : decode cX6_brings 44 = .ok (.getfield 40, 3) := by decide +kernel
theorem dX6_brings_47 : decode cX6_brings 47 = .ok (.iload_n 1, 1) := by decide +kernel
theorem dX6_brings_48 : decode cX6_brings 48 = .ok (.iaload, 1) := by decide +kernel
theorem dX6_brings_49 : decode cX6_brings 49 = .ok (.iload_n 2, 1) := by decide +kernel
theorem dX6_brings_50 : decode cX6_brings 50 = .ok (.invokevirtual 123, 3) := by decide +kernel
theorem dX6_brings_53 : decode cX6_brings 53 = .ok (.aload_n 0, 1) := by decide +kernel
theorem dX6_brings_54 : decode cX6_brings 54 = .ok (.getfield 9, 3) := by decide +kernel
theorem dX6_brings_57 : decode cX6_brings 57 = .ok (.iconst 0, 1) := by decide +kernel
theorem dX6_brings_58 : decode cX6_brings 58 = .ok (.iaload, 1) := by decide +kernel
theorem dX6_brings_59 : decode cX6_brings 59 = .ok (.iconst 1, 1) := by decide +kernel
theorem dX6_brings_60 : decode cX6_brings 60 = .ok (.isub, 1) := by decide +kernel
theorem dX6_brings_61 : decode cX6_brings 61 = .ok (.ireturn, 1) := by decide +kernel
set_option maxRecDepth 20000 in
theorem ggX6_lends_X6_isGood : GoodIn wsX6_lends wsX6_isGood := goodIn_r _ [6, 1, 7, 8, 5, 9, 24, 25, 26, 27, 28, 29, 30, 31, 32, 33, 34, 35, 36, 37, 38, 39, 40, 41, 42, 43, 44, 45] (by decide +kernel) (by decide +kernel)
set_option maxRecDepth 20000 in
theorem gX6_lends_X6_isGood : GoodIn wsX6_lends (wsV RX6 127 RX6 yX6_isGood wsX6_isGood) := goodIn_app (goodIn_of _ (by decide +kernel)) ggX6_lends_X6_isGood
set_option maxRecDepth 20000 in
theorem ggX6_lends_X6_isPerson : GoodIn wsX6_lends wsX6_isPerson := goodIn_r _ [13, 1, 7, 8, 5, 9, 24, 25, 26, 27, 28, 29, 30, 31, 32, 33, 34, 35, 36, 37, 38, 39, 40, 41, 42, 43, 44, 45] (by decide +kernel) (by decide +kernel)
set_option maxRecDepth 20000 in
theorem gX6_lends_X6_isPerson : GoodIn wsX6_lends (wsV RX6 120 RX6 yX6_isPerson wsX6_isPerson) := goodIn_app (goodIn_of _ (by decide +kernel)) ggX6_lends_X6_isPerson
set_option maxRecDepth 20000 in
theorem ggX6_lends_X6_ofG : GoodIn wsX6_lends wsX6_ofG := goodIn_r _ [16] (by decide +kernel) (by decide +kernel)
set_option maxRecDepth 20000 in
theorem gX6_lends_X6_ofG : GoodIn wsX6_lends (va_wsS RX6 60 yX6_ofG wsX6_ofG) := goodIn_app (goodIn_of _ (by decide +kernel)) ggX6_lends_X6_ofG
set_option maxRecDepth 20000 in
theorem ggX6_lends_X6_addsLoan : GoodIn wsX6_lends wsX6_addsLoan := goodIn_r _ [20, 1, 21, 22, 5, 23, 14, 15, 16, 24, 25, 26, 27, 28, 29, 30, 31, 32, 33, 34, 35, 36, 37, 38, 39, 40, 41, 42, 43, 44, 45] (by decide +kernel) (by decide +kernel)
set_option maxRecDepth 20000 in
theorem gX6_lends_X6_addsLoan : GoodIn wsX6_lends (wsV RX6 130 RX6 yX6_addsLoan wsX6_addsLoan) := goodIn_app (goodIn_of _ (by decide +kernel)) ggX6_lends_X6_addsLoan
theorem dX6_lends_0 : decode cX6_lends 0 = .ok (.aload_n 0, 1) := by decide +kernel
theorem dX6_lends_1 : decode cX6_lends 1 = .ok (.iload_n 1, 1) := by decide +kernel
theorem dX6_lends_2 : decode cX6_lends 2 = .ok (.invokevirtual 127, 3) := by decide +kernel
theorem dX6_lends_5 : decode cX6_lends 5 = .ok (.ifCond .eq 11, 3) := by decide +kernel
theorem dX6_lends_8 : decode cX6_lends 8 = .ok (.aload_n 0, 1) := by decide +kernel
theorem dX6_lends_9 : decode cX6_lends 9 = .ok (.iload_n 2, 1) := by decide +kernel
theorem dX6_lends_10 : decode cX6_lends 10 = .ok (.invokevirtual 120, 3) := by decide +kernel
theorem dX6_lends_13 : decode cX6_lends 13 = .ok (.ifCond .ne 5, 3) := by decide +kernel
theorem dX6_lends_16 : decode cX6_lends 16 = .ok (.iconst (-1), 1) := by decide +kernel
theorem dX6_lends_17 : decode cX6_lends 17 = .ok (.ireturn, 1) := by decide +kernel
theorem dX6_lends_18 : decode cX6_lends 18 = .ok (.aload_n 0, 1) := by decide +kernel
theorem dX6_lends_19 : decode cX6_lends 19 = .ok (.getfield 9, 3) := by decide +kernel
theorem dX6_lends_22 : decode cX6_lends 22 = .ok (.iload_n 1, 1) := by decide +kernel
theorem dX6_lends_23 : decode cX6_lends 23 = .ok (.invokestatic 60, 3) := by decide +kernel
theorem dX6_lends_26 : decode cX6_lends 26 = .ok (.iconst 2, 1) := by decide +kernel
theorem dX6_lends_27 : decode cX6_lends 27 = .ok (.iadd, 1) := by decide +kernel
theorem dX6_lends_28 : decode cX6_lends 28 = .ok (.iaload, 1) := by decide +kernel
theorem dX6_lends_29 : decode cX6_lends 29 = .ok (.iload_n 2, 1) := by decide +kernel
theorem dX6_lends_30 : decode cX6_lends 30 = .ok (.if_icmp .ne 6, 3) := by decide +kernel
theorem dX6_lends_33 : decode cX6_lends 33 = .ok (.bipush (-3), 2) := by decide +kernel
theorem dX6_lends_35 : decode cX6_lends 35 = .ok (.ireturn, 1) := by decide +kernel
theorem dX6_lends_36 : decode cX6_lends 36 = .ok (.aload_n 0, 1) := by decide +kernel
theorem dX6_lends_37 : decode cX6_lends 37 = .ok (.getfield 9, 3) := by decide +kernel
theorem dX6_lends_40 : decode cX6_lends 40 = .ok (.iconst 2, 1) := by decide +kernel
theorem dX6_lends_41 : decode cX6_lends 41 = .ok (.iaload, 1) := by decide +kernel
theorem dX6_lends_42 : decode cX6_lends 42 = .ok (.bipush 8, 2) := by decide +kernel
theorem dX6_lends_44 : decode cX6_lends 44 = .ok (.if_icmp .ne 6, 3) := by decide +kernel
theorem dX6_lends_47 : decode cX6_lends 47 = .ok (.bipush (-2), 2) := by decide +kernel
theorem dX6_lends_49 : decode cX6_lends 49 = .ok (.ireturn, 1) := by decide +kernel
theorem dX6_lends_50 : decode cX6_lends 50 = .ok (.aload_n 0, 1) := by decide +kernel
theorem dX6_lends_51 : decode cX6_lends 51 = .ok (.iload_n 1, 1) := by decide +kernel
theorem dX6_lends_52 : decode cX6_lends 52 = .ok (.iload_n 2, 1) := by decide +kernel
theorem dX6_lends_53 : decode cX6_lends 53 = .ok (.invokevirtual 130, 3) := by decide +kernel
theorem dX6_lends_56 : decode cX6_lends 56 = .ok (.aload_n 0, 1) := by decide +kernel
theorem dX6_lends_57 : decode cX6_lends 57 = .ok (.getfield 9, 3) := by decide +kernel
theorem dX6_lends_60 : decode cX6_lends 60 = .ok (.iconst 2, 1) := by decide +kernel
theorem dX6_lends_61 : decode cX6_lends 61 = .ok (.iaload, 1) := by decide +kernel
theorem dX6_lends_62 : decode cX6_lends 62 = .ok (.iconst 1, 1) := by decide +kernel
theorem dX6_lends_63 : decode cX6_lends 63 = .ok (.isub, 1) := by decide +kernel
theorem dX6_lends_64 : decode cX6_lends 64 = .ok (.ireturn, 1) := by decide +kernel
set_option maxRecDepth 20000 in
theorem ggX6_pays_X6_isLoan : GoodIn wsX6_pays wsX6_isLoan := goodIn_r _ [6, 1, 7, 8, 5, 9, 47, 48, 49, 50, 51, 52, 53, 54, 55, 56, 57, 58, 59, 60, 61, 62, 63, 64, 65, 66, 67, 68] (by decide +kernel) (by decide +kernel)
set_option maxRecDepth 20000 in
theorem gX6_pays_X6_isLoan : GoodIn wsX6_pays (wsV RX6 158 RX6 yX6_isLoan wsX6_isLoan) := goodIn_app (goodIn_of _ (by decide +kernel)) ggX6_pays_X6_isLoan
set_option maxRecDepth 20000 in
theorem ggX6_pays_X6_isGood : GoodIn wsX6_pays wsX6_isGood := goodIn_r _ [13, 1, 7, 8, 5, 9, 47, 48, 49, 50, 51, 52, 53, 54, 55, 56, 57, 58, 59, 60, 61, 62, 63, 64, 65, 66, 67, 68] (by decide +kernel) (by decide +kernel)
set_option maxRecDepth 20000 in
theorem gX6_pays_X6_isGood : GoodIn wsX6_pays (wsV RX6 127 RX6 yX6_isGood wsX6_isGood) := goodIn_app (goodIn_of _ (by decide +kernel)) ggX6_pays_X6_isGood
set_option maxRecDepth 20000 in
theorem ggX6_pays_X6_canPayIn : GoodIn wsX6_pays wsX6_canPayIn := goodIn_r _ [16, 17, 18, 5, 19, 20, 21, 22, 23, 24, 25, 26, 27, 28, 29, 30, 31, 32, 33, 34, 35, 36, 37] (by decide +kernel) (by decide +kernel)
set_option maxRecDepth 20000 in
theorem gX6_pays_X6_canPayIn : GoodIn wsX6_pays (va_wsS RX6 83 yX6_canPayIn wsX6_canPayIn) := goodIn_app (goodIn_of _ (by decide +kernel)) ggX6_pays_X6_canPayIn
set_option maxRecDepth 20000 in
theorem ggX6_pays_X6_paysIn : GoodIn wsX6_pays wsX6_paysIn := goodIn_r _ [40, 20, 21, 5, 22, 17, 18, 19] (by decide +kernel) (by decide +kernel)
set_option maxRecDepth 20000 in
theorem gX6_pays_X6_paysIn : GoodIn wsX6_pays (va_wsS RX6 90 yX6_paysIn wsX6_paysIn) := goodIn_app (goodIn_of _ (by decide +kernel)) ggX6_pays_X6_paysIn
set_option maxRecDepth 20000 in
theorem ggX6_pays_X6_openIn : GoodIn wsX6_pays wsX6_openIn := goodIn_r _ [43, 17, 18, 5, 19] (by decide +kernel) (by decide +kernel)
set_option maxRecDepth 20000 in
theorem gX6_pays_X6_openIn : GoodIn wsX6_pays (va_wsS RX6 164 yX6_openIn wsX6_openIn) := goodIn_app (goodIn_of _ (by decide +kernel)) ggX6_pays_X6_openIn
set_option maxRecDepth 20000 in
theorem ggX6_pays_X6_bits : GoodIn wsX6_pays wsX6_bits := goodIn_r _ [46] (by decide +kernel) (by decide +kernel)
set_option maxRecDepth 20000 in
theorem gX6_pays_X6_bits : GoodIn wsX6_pays (va_wsS RX6 168 yX6_bits wsX6_bits) := goodIn_app (goodIn_of _ (by decide +kernel)) ggX6_pays_X6_bits
theorem dX6_pays_0 : decode cX6_pays 0 = .ok (.aload_n 0, 1) := by decide +kernel
theorem dX6_pays_1 : decode cX6_pays 1 = .ok (.iload_n 1, 1) := by decide +kernel
theorem dX6_pays_2 : decode cX6_pays 2 = .ok (.invokevirtual 158, 3) := by decide +kernel
theorem dX6_pays_5 : decode cX6_pays 5 = .ok (.ifCond .eq 11, 3) := by decide +kernel
theorem dX6_pays_8 : decode cX6_pays 8 = .ok (.aload_n 0, 1) := by decide +kernel
theorem dX6_pays_9 : decode cX6_pays 9 = .ok (.iload_n 2, 1) := by decide +kernel
theorem dX6_pays_10 : decode cX6_pays 10 = .ok (.invokevirtual 127, 3) := by decide +kernel
theorem dX6_pays_13 : decode cX6_pays 13 = .ok (.ifCond .ne 5, 3) := by decide +kernel
theorem dX6_pays_16 : decode cX6_pays 16 = .ok (.iconst (-1), 1) := by decide +kernel
theorem dX6_pays_17 : decode cX6_pays 17 = .ok (.ireturn, 1) := by decide +kernel
theorem dX6_pays_18 : decode cX6_pays 18 = .ok (.aload_n 0, 1) := by decide +kernel
theorem dX6_pays_19 : decode cX6_pays 19 = .ok (.getfield 9, 3) := by decide +kernel
theorem dX6_pays_22 : decode cX6_pays 22 = .ok (.iload_n 1, 1) := by decide +kernel
theorem dX6_pays_23 : decode cX6_pays 23 = .ok (.iload_n 2, 1) := by decide +kernel
theorem dX6_pays_24 : decode cX6_pays 24 = .ok (.invokestatic 83, 3) := by decide +kernel
theorem dX6_pays_27 : decode cX6_pays 27 = .ok (.ifCond .ne 6, 3) := by decide +kernel
theorem dX6_pays_30 : decode cX6_pays 30 = .ok (.bipush (-3), 2) := by decide +kernel
theorem dX6_pays_32 : decode cX6_pays 32 = .ok (.ireturn, 1) := by decide +kernel
theorem dX6_pays_33 : decode cX6_pays 33 = .ok (.aload_n 0, 1) := by decide +kernel
theorem dX6_pays_34 : decode cX6_pays 34 = .ok (.getfield 9, 3) := by decide +kernel
theorem dX6_pays_37 : decode cX6_pays 37 = .ok (.iload_n 1, 1) := by decide +kernel
theorem dX6_pays_38 : decode cX6_pays 38 = .ok (.iload_n 2, 1) := by decide +kernel
theorem dX6_pays_39 : decode cX6_pays 39 = .ok (.invokestatic 90, 3) := by decide +kernel
theorem dX6_pays_42 : decode cX6_pays 42 = .ok (.aload_n 0, 1) := by decide +kernel
theorem dX6_pays_43 : decode cX6_pays 43 = .ok (.getfield 9, 3) := by decide +kernel
theorem dX6_pays_46 : decode cX6_pays 46 = .ok (.invokestatic 164, 3) := by decide +kernel
theorem dX6_pays_49 : decode cX6_pays 49 = .ok (.invokestatic 168, 3) := by decide +kernel
theorem dX6_pays_52 : decode cX6_pays 52 = .ok (.ireturn, 1) := by decide +kernel
set_option maxRecDepth 20000 in
theorem ggX6_sames_X6_isIn : GoodIn wsX6_sames wsX6_isIn := goodIn_r _ [5] (by decide +kernel) (by decide +kernel)
set_option maxRecDepth 20000 in
theorem gX6_sames_X6_isIn : GoodIn wsX6_sames (va_wsS RX6 52 yX6_isIn wsX6_isIn) := goodIn_app (goodIn_of _ (by decide +kernel)) ggX6_sames_X6_isIn
theorem dX6_sames_0 : decode cX6_sames 0 = .ok (.iload_n 1, 1) := by decide +kernel
theorem dX6_sames_1 : decode cX6_sames 1 = .ok (.iconst 0, 1) := by decide +kernel
theorem dX6_sames_2 : decode cX6_sames 2 = .ok (.bipush 7, 2) := by decide +kernel
theorem dX6_sames_4 : decode cX6_sames 4 = .ok (.invokestatic 52, 3) := by decide +kernel
theorem dX6_sames_7 : decode cX6_sames 7 = .ok (.ifCond .eq 13, 3) := by decide +kernel
theorem dX6_sames_10 : decode cX6_sames 10 = .ok (.iload_n 2, 1) := by decide +kernel
theorem dX6_sames_11 : decode cX6_sames 11 = .ok (.iconst 0, 1) := by decide +kernel
theorem dX6_sames_12 : decode cX6_sames 12 = .ok (.bipush 7, 2) := by decide +kernel
theorem dX6_sames_14 : decode cX6_sames 14 = .ok (.invokestatic 52, 3) := by decide +kernel
theorem dX6_sames_17 : decode cX6_sames 17 = .ok (.ifCond .ne 5, 3) := by decide +kernel
theorem dX6_sames_20 : decode cX6_sames 20 = .ok (.iconst (-1), 1) := by decide +kernel
theorem dX6_sames_21 : decode cX6_sames 21 = .ok (.ireturn, 1) := by decide +kernel
theorem dX6_sames_22 : decode cX6_sames 22 = .ok (.aload_n 0, 1) := by decide +kernel
theorem dX6_sames_23 : decode cX6_sames 23 = .ok (.getfield 9, 3) := by decide +kernel
theorem dX6_sames_26 : decode cX6_sames 26 = .ok (.bipush 66, 2) := by decide +kernel
theorem dX6_sames_28 : decode cX6_sames 28 = .ok (.iload_n 2, 1) := by decide +kernel
theorem dX6_sames_29 : decode cX6_sames 29 = .ok (.iadd, 1) := by decide +kernel
theorem dX6_sames_30 : decode cX6_sames 30 = .ok (.iaload, 1) := by decide +kernel
theorem dX6_sames_31 : decode cX6_sames 31 = .ok (.istore_n 3, 1) := by decide +kernel
theorem dX6_sames_32 : decode cX6_sames 32 = .ok (.aload_n 0, 1) := by decide +kernel
theorem dX6_sames_33 : decode cX6_sames 33 = .ok (.getfield 9, 3) := by decide +kernel
theorem dX6_sames_36 : decode cX6_sames 36 = .ok (.bipush 66, 2) := by decide +kernel
theorem dX6_sames_38 : decode cX6_sames 38 = .ok (.iload_n 2, 1) := by decide +kernel
theorem dX6_sames_39 : decode cX6_sames 39 = .ok (.iadd, 1) := by decide +kernel
theorem dX6_sames_40 : decode cX6_sames 40 = .ok (.aload_n 0, 1) := by decide +kernel
theorem dX6_sames_41 : decode cX6_sames 41 = .ok (.getfield 9, 3) := by decide +kernel
theorem dX6_sames_44 : decode cX6_sames 44 = .ok (.bipush 66, 2) := by decide +kernel
theorem dX6_sames_46 : decode cX6_sames 46 = .ok (.iload_n 1, 1) := by decide +kernel
theorem dX6_sames_47 : decode cX6_sames 47 = .ok (.iadd, 1) := by decide +kernel
theorem dX6_sames_48 : decode cX6_sames 48 = .ok (.iaload, 1) := by decide +kernel
theorem dX6_sames_49 : decode cX6_sames 49 = .ok (.iastore, 1) := by decide +kernel
theorem dX6_sames_50 : decode cX6_sames 50 = .ok (.iload_n 3, 1) := by decide +kernel
theorem dX6_sames_51 : decode cX6_sames 51 = .ok (.ireturn, 1) := by decide +kernel
set_option maxRecDepth 20000 in
theorem ggX6_weeks_X6_isIn : GoodIn wsX6_weeks wsX6_isIn := goodIn_r _ [5] (by decide +kernel) (by decide +kernel)
set_option maxRecDepth 20000 in
theorem gX6_weeks_X6_isIn : GoodIn wsX6_weeks (va_wsS RX6 52 yX6_isIn wsX6_isIn) := goodIn_app (goodIn_of _ (by decide +kernel)) ggX6_weeks_X6_isIn
set_option maxRecDepth 20000 in
theorem ggX6_weeks_X6_weeksOn : GoodIn wsX6_weeks wsX6_weeksOn := goodIn_r _ [8, 9, 10, 4, 11, 12, 13, 14, 15, 16, 17, 18, 19, 20, 21, 22, 23, 24, 25, 26, 27, 28, 29, 30, 31, 32, 33, 34, 35, 36, 37, 38, 39, 40, 41] (by decide +kernel) (by decide +kernel)
set_option maxRecDepth 20000 in
theorem gX6_weeks_X6_weeksOn : GoodIn wsX6_weeks (va_wsS RX6 134 yX6_weeksOn wsX6_weeksOn) := goodIn_app (goodIn_of _ (by decide +kernel)) ggX6_weeks_X6_weeksOn
set_option maxRecDepth 20000 in
theorem ggX6_weeks_X6_openIn : GoodIn wsX6_weeks wsX6_openIn := goodIn_r _ [44, 15, 16, 4, 17] (by decide +kernel) (by decide +kernel)
set_option maxRecDepth 20000 in
theorem gX6_weeks_X6_openIn : GoodIn wsX6_weeks (va_wsS RX6 164 yX6_openIn wsX6_openIn) := goodIn_app (goodIn_of _ (by decide +kernel)) ggX6_weeks_X6_openIn
set_option maxRecDepth 20000 in
theorem ggX6_weeks_X6_bits : GoodIn wsX6_weeks wsX6_bits := goodIn_r _ [47] (by decide +kernel) (by decide +kernel)
set_option maxRecDepth 20000 in
theorem gX6_weeks_X6_bits : GoodIn wsX6_weeks (va_wsS RX6 168 yX6_bits wsX6_bits) := goodIn_app (goodIn_of _ (by decide +kernel)) ggX6_weeks_X6_bits
theorem dX6_weeks_0 : decode cX6_weeks 0 = .ok (.iload_n 1, 1) := by decide +kernel
theorem dX6_weeks_1 : decode cX6_weeks 1 = .ok (.iconst 1, 1) := by decide +kernel
theorem dX6_weeks_2 : decode cX6_weeks 2 = .ok (.bipush 60, 2) := by decide +kernel
theorem dX6_weeks_4 : decode cX6_weeks 4 = .ok (.invokestatic 52, 3) := by decide +kernel
theorem dX6_weeks_7 : decode cX6_weeks 7 = .ok (.ifCond .ne 5, 3) := by decide +kernel
theorem dX6_weeks_10 : decode cX6_weeks 10 = .ok (.iconst (-1), 1) := by decide +kernel
theorem dX6_weeks_11 : decode cX6_weeks 11 = .ok (.ireturn, 1) := by decide +kernel
theorem dX6_weeks_12 : decode cX6_weeks 12 = .ok (.aload_n 0, 1) := by decide +kernel
theorem dX6_weeks_13 : decode cX6_weeks 13 = .ok (.getfield 9, 3) := by decide +kernel
theorem dX6_weeks_16 : decode cX6_weeks 16 = .ok (.iconst 3, 1) := by decide +kernel
theorem dX6_weeks_17 : decode cX6_weeks 17 = .ok (.iaload, 1) := by decide +kernel
theorem dX6_weeks_18 : decode cX6_weeks 18 = .ok (.iload_n 1, 1) := by decide +kernel
theorem dX6_weeks_19 : decode cX6_weeks 19 = .ok (.iadd, 1) := by decide +kernel
theorem dX6_weeks_20 : decode cX6_weeks 20 = .ok (.sipush 999, 3) := by decide +kernel
theorem dX6_weeks_23 : decode cX6_weeks 23 = .ok (.if_icmp .le 6, 3) := by decide +kernel
theorem dX6_weeks_26 : decode cX6_weeks 26 = .ok (.bipush (-3), 2) := by decide +kernel
theorem dX6_weeks_28 : decode cX6_weeks 28 = .ok (.ireturn, 1) := by decide +kernel
theorem dX6_weeks_29 : decode cX6_weeks 29 = .ok (.aload_n 0, 1) := by decide +kernel
theorem dX6_weeks_30 : decode cX6_weeks 30 = .ok (.getfield 9, 3) := by decide +kernel
theorem dX6_weeks_33 : decode cX6_weeks 33 = .ok (.iload_n 1, 1) := by decide +kernel
theorem dX6_weeks_34 : decode cX6_weeks 34 = .ok (.invokestatic 134, 3) := by decide +kernel
theorem dX6_weeks_37 : decode cX6_weeks 37 = .ok (.aload_n 0, 1) := by decide +kernel
theorem dX6_weeks_38 : decode cX6_weeks 38 = .ok (.getfield 9, 3) := by decide +kernel
theorem dX6_weeks_41 : decode cX6_weeks 41 = .ok (.invokestatic 164, 3) := by decide +kernel
theorem dX6_weeks_44 : decode cX6_weeks 44 = .ok (.invokestatic 168, 3) := by decide +kernel
theorem dX6_weeks_47 : decode cX6_weeks 47 = .ok (.ireturn, 1) := by decide +kernel
set_option maxRecDepth 20000 in
theorem ggX6_worth_X6_isPerson : GoodIn wsX6_worth wsX6_isPerson := goodIn_r _ [6, 1, 7, 8, 5, 9, 26, 27, 28, 29, 30, 31, 32, 33, 34, 35, 36, 37, 38, 39, 40, 41, 42, 43, 44, 45, 46, 47] (by decide +kernel) (by decide +kernel)
set_option maxRecDepth 20000 in
theorem gX6_worth_X6_isPerson : GoodIn wsX6_worth (wsV RX6 120 RX6 yX6_isPerson wsX6_isPerson) := goodIn_app (goodIn_of _ (by decide +kernel)) ggX6_worth_X6_isPerson
set_option maxRecDepth 20000 in
theorem ggX6_worth_X6_isGood : GoodIn wsX6_worth wsX6_isGood := goodIn_r _ [13, 1, 7, 8, 5, 9, 26, 27, 28, 29, 30, 31, 32, 33, 34, 35, 36, 37, 38, 39, 40, 41, 42, 43, 44, 45, 46, 47] (by decide +kernel) (by decide +kernel)
set_option maxRecDepth 20000 in
theorem gX6_worth_X6_isGood : GoodIn wsX6_worth (wsV RX6 127 RX6 yX6_isGood wsX6_isGood) := goodIn_app (goodIn_of _ (by decide +kernel)) ggX6_worth_X6_isGood
set_option maxRecDepth 20000 in
theorem ggX6_worth_X6_worthIn : GoodIn wsX6_worth wsX6_worthIn := goodIn_r _ [16, 17, 18, 5, 19, 20, 21, 22, 23, 24, 25] (by decide +kernel) (by decide +kernel)
set_option maxRecDepth 20000 in
theorem gX6_worth_X6_worthIn : GoodIn wsX6_worth (va_wsS RX6 72 yX6_worthIn wsX6_worthIn) := goodIn_app (goodIn_of _ (by decide +kernel)) ggX6_worth_X6_worthIn
theorem dX6_worth_0 : decode cX6_worth 0 = .ok (.aload_n 0, 1) := by decide +kernel
theorem dX6_worth_1 : decode cX6_worth 1 = .ok (.iload_n 1, 1) := by decide +kernel
theorem dX6_worth_2 : decode cX6_worth 2 = .ok (.invokevirtual 120, 3) := by decide +kernel
theorem dX6_worth_5 : decode cX6_worth 5 = .ok (.ifCond .eq 23, 3) := by decide +kernel
theorem dX6_worth_8 : decode cX6_worth 8 = .ok (.aload_n 0, 1) := by decide +kernel
theorem dX6_worth_9 : decode cX6_worth 9 = .ok (.iload_n 2, 1) := by decide +kernel
theorem dX6_worth_10 : decode cX6_worth 10 = .ok (.invokevirtual 127, 3) := by decide +kernel
theorem dX6_worth_13 : decode cX6_worth 13 = .ok (.ifCond .eq 15, 3) := by decide +kernel
theorem dX6_worth_16 : decode cX6_worth 16 = .ok (.aload_n 0, 1) := by decide +kernel
theorem dX6_worth_17 : decode cX6_worth 17 = .ok (.getfield 9, 3) := by decide +kernel
theorem dX6_worth_20 : decode cX6_worth 20 = .ok (.iload_n 1, 1) := by decide +kernel
theorem dX6_worth_21 : decode cX6_worth 21 = .ok (.iload_n 2, 1) := by decide +kernel
theorem dX6_worth_22 : decode cX6_worth 22 = .ok (.invokestatic 72, 3) := by decide +kernel
theorem dX6_worth_25 : decode cX6_worth 25 = .ok (.goto 4, 3) := by decide +kernel
theorem dX6_worth_28 : decode cX6_worth 28 = .ok (.iconst (-1), 1) := by decide +kernel
theorem dX6_worth_29 : decode cX6_worth 29 = .ok (.ireturn, 1) := by decide +kernel
set_option maxRecDepth 20000 in
theorem ggX6_would_X6_isPerson : GoodIn wsX6_would wsX6_isPerson := goodIn_r _ [6, 1, 7, 8, 5, 9, 32, 33, 34, 35, 36, 37, 38, 39, 40, 41, 42, 43, 44, 45, 46, 47, 48, 49, 50, 51, 52, 53] (by decide +kernel) (by decide +kernel)
set_option maxRecDepth 20000 in
theorem gX6_would_X6_isPerson : GoodIn wsX6_would (wsV RX6 120 RX6 yX6_isPerson wsX6_isPerson) := goodIn_app (goodIn_of _ (by decide +kernel)) ggX6_would_X6_isPerson
set_option maxRecDepth 20000 in
theorem ggX6_would_X6_isGood : GoodIn wsX6_would wsX6_isGood := goodIn_r _ [13, 1, 7, 8, 5, 9, 32, 33, 34, 35, 36, 37, 38, 39, 40, 41, 42, 43, 44, 45, 46, 47, 48, 49, 50, 51, 52, 53] (by decide +kernel) (by decide +kernel)
set_option maxRecDepth 20000 in
theorem gX6_would_X6_isGood : GoodIn wsX6_would (wsV RX6 127 RX6 yX6_isGood wsX6_isGood) := goodIn_app (goodIn_of _ (by decide +kernel)) ggX6_would_X6_isGood
set_option maxRecDepth 20000 in
theorem ggX6_would_X6_wouldIn : GoodIn wsX6_would wsX6_wouldIn := goodIn_r _ [16, 17, 18, 5, 19, 20, 21, 22, 23, 24, 25, 26, 27, 28, 29, 30, 31] (by decide +kernel) (by decide +kernel)
set_option maxRecDepth 20000 in
theorem gX6_would_X6_wouldIn : GoodIn wsX6_would (va_wsS RX6 79 yX6_wouldIn wsX6_wouldIn) := goodIn_app (goodIn_of _ (by decide +kernel)) ggX6_would_X6_wouldIn
theorem dX6_would_0 : decode cX6_would 0 = .ok (.aload_n 0, 1) := by decide +kernel
theorem dX6_would_1 : decode cX6_would 1 = .ok (.iload_n 1, 1) := by decide +kernel
theorem dX6_would_2 : decode cX6_would 2 = .ok (.invokevirtual 120, 3) := by decide +kernel
theorem dX6_would_5 : decode cX6_would 5 = .ok (.ifCond .eq 19, 3) := by decide +kernel
theorem dX6_would_8 : decode cX6_would 8 = .ok (.aload_n 0, 1) := by decide +kernel
theorem dX6_would_9 : decode cX6_would 9 = .ok (.iload_n 2, 1) := by decide +kernel
theorem dX6_would_10 : decode cX6_would 10 = .ok (.invokevirtual 127, 3) := by decide +kernel
theorem dX6_would_13 : decode cX6_would 13 = .ok (.ifCond .eq 11, 3) := by decide +kernel
theorem dX6_would_16 : decode cX6_would 16 = .ok (.aload_n 0, 1) := by decide +kernel
theorem dX6_would_17 : decode cX6_would 17 = .ok (.iload_n 3, 1) := by decide +kernel
theorem dX6_would_18 : decode cX6_would 18 = .ok (.invokevirtual 127, 3) := by decide +kernel
theorem dX6_would_21 : decode cX6_would 21 = .ok (.ifCond .ne 7, 3) := by decide +kernel
theorem dX6_would_24 : decode cX6_would 24 = .ok (.iconst (-1), 1) := by decide +kernel
theorem dX6_would_25 : decode cX6_would 25 = .ok (.goto 21, 3) := by decide +kernel
theorem dX6_would_28 : decode cX6_would 28 = .ok (.aload_n 0, 1) := by decide +kernel
theorem dX6_would_29 : decode cX6_would 29 = .ok (.getfield 9, 3) := by decide +kernel
theorem dX6_would_32 : decode cX6_would 32 = .ok (.iload_n 1, 1) := by decide +kernel
theorem dX6_would_33 : decode cX6_would 33 = .ok (.iload_n 2, 1) := by decide +kernel
theorem dX6_would_34 : decode cX6_would 34 = .ok (.iload_n 3, 1) := by decide +kernel
theorem dX6_would_35 : decode cX6_would 35 = .ok (.invokestatic 79, 3) := by decide +kernel
theorem dX6_would_38 : decode cX6_would 38 = .ok (.ifCond .eq 7, 3) := by decide +kernel
theorem dX6_would_41 : decode cX6_would 41 = .ok (.iconst 1, 1) := by decide +kernel
theorem dX6_would_42 : decode cX6_would 42 = .ok (.goto 4, 3) := by decide +kernel
theorem dX6_would_45 : decode cX6_would 45 = .ok (.iconst 0, 1) := by decide +kernel
theorem dX6_would_46 : decode cX6_would 46 = .ok (.ireturn, 1) := by decide +kernel
set_option maxRecDepth 20000 in
theorem ggX6_takesOf_X6_wouldIn : GoodIn wsX6_takesOf wsX6_wouldIn := goodIn_r _ [5, 6, 7, 4, 8, 9, 10, 11, 12, 13, 14, 15, 16, 17, 18, 19, 20] (by decide +kernel) (by decide +kernel)
set_option maxRecDepth 20000 in
theorem gX6_takesOf_X6_wouldIn : GoodIn wsX6_takesOf (va_wsS RX6 79 yX6_wouldIn wsX6_wouldIn) := goodIn_app (goodIn_of _ (by decide +kernel)) ggX6_takesOf_X6_wouldIn
theorem dX6_takesOf_0 : decode cX6_takesOf 0 = .ok (.iconst 0, 1) := by decide +kernel
theorem dX6_takesOf_1 : decode cX6_takesOf 1 = .ok (.istore_n 3, 1) := by decide +kernel
theorem dX6_takesOf_2 : decode cX6_takesOf 2 = .ok (.iconst 0, 1) := by decide +kernel
theorem dX6_takesOf_3 : decode cX6_takesOf 3 = .ok (.istore 4, 2) := by decide +kernel
theorem dX6_takesOf_5 : decode cX6_takesOf 5 = .ok (.iload 4, 2) := by decide +kernel
theorem dX6_takesOf_7 : decode cX6_takesOf 7 = .ok (.aload_n 0, 1) := by decide +kernel
theorem dX6_takesOf_8 : decode cX6_takesOf 8 = .ok (.getfield 9, 3) := by decide +kernel
theorem dX6_takesOf_11 : decode cX6_takesOf 11 = .ok (.iconst 0, 1) := by decide +kernel
theorem dX6_takesOf_12 : decode cX6_takesOf 12 = .ok (.iaload, 1) := by decide +kernel
theorem dX6_takesOf_13 : decode cX6_takesOf 13 = .ok (.if_icmp .ge 34, 3) := by decide +kernel
theorem dX6_takesOf_16 : decode cX6_takesOf 16 = .ok (.iload_n 3, 1) := by decide +kernel
theorem dX6_takesOf_17 : decode cX6_takesOf 17 = .ok (.aload_n 0, 1) := by decide +kernel
theorem dX6_takesOf_18 : decode cX6_takesOf 18 = .ok (.getfield 9, 3) := by decide +kernel
theorem dX6_takesOf_21 : decode cX6_takesOf 21 = .ok (.iload_n 1, 1) := by decide +kernel
theorem dX6_takesOf_22 : decode cX6_takesOf 22 = .ok (.iload_n 2, 1) := by decide +kernel
theorem dX6_takesOf_23 : decode cX6_takesOf 23 = .ok (.iload 4, 2) := by decide +kernel
theorem dX6_takesOf_25 : decode cX6_takesOf 25 = .ok (.invokestatic 79, 3) := by decide +kernel
theorem dX6_takesOf_28 : decode cX6_takesOf 28 = .ok (.ifCond .eq 10, 3) := by decide +kernel
theorem dX6_takesOf_31 : decode cX6_takesOf 31 = .ok (.iconst 1, 1) := by decide +kernel
theorem dX6_takesOf_32 : decode cX6_takesOf 32 = .ok (.iload 4, 2) := by decide +kernel
theorem dX6_takesOf_34 : decode cX6_takesOf 34 = .ok (.ishl, 1) := by decide +kernel
theorem dX6_takesOf_35 : decode cX6_takesOf 35 = .ok (.goto 4, 3) := by decide +kernel
theorem dX6_takesOf_38 : decode cX6_takesOf 38 = .ok (.iconst 0, 1) := by decide +kernel
theorem dX6_takesOf_39 : decode cX6_takesOf 39 = .ok (.ior, 1) := by decide +kernel
theorem dX6_takesOf_40 : decode cX6_takesOf 40 = .ok (.istore_n 3, 1) := by decide +kernel
theorem dX6_takesOf_41 : decode cX6_takesOf 41 = .ok (.iinc 4 1, 3) := by decide +kernel
theorem dX6_takesOf_44 : decode cX6_takesOf 44 = .ok (.goto (-39), 3) := by decide +kernel
theorem dX6_takesOf_47 : decode cX6_takesOf 47 = .ok (.iload_n 3, 1) := by decide +kernel
theorem dX6_takesOf_48 : decode cX6_takesOf 48 = .ok (.ireturn, 1) := by decide +kernel
set_option maxRecDepth 20000 in
theorem ggX6_takes_X6_isPerson : GoodIn wsX6_takes wsX6_isPerson := goodIn_r _ [5, 6, 7, 8, 4, 9, 36, 37, 38, 39, 40, 41, 42, 43, 44, 45, 46, 47, 48, 49, 50, 51, 52, 53, 54, 55, 56, 57] (by decide +kernel) (by decide +kernel)
set_option maxRecDepth 20000 in
theorem gX6_takes_X6_isPerson : GoodIn wsX6_takes (wsV RX6 120 RX6 yX6_isPerson wsX6_isPerson) := goodIn_app (goodIn_of _ (by decide +kernel)) ggX6_takes_X6_isPerson
set_option maxRecDepth 20000 in
theorem ggX6_takes_X6_isGood : GoodIn wsX6_takes wsX6_isGood := goodIn_r _ [13, 6, 7, 8, 4, 9, 36, 37, 38, 39, 40, 41, 42, 43, 44, 45, 46, 47, 48, 49, 50, 51, 52, 53, 54, 55, 56, 57] (by decide +kernel) (by decide +kernel)
set_option maxRecDepth 20000 in
theorem gX6_takes_X6_isGood : GoodIn wsX6_takes (wsV RX6 127 RX6 yX6_isGood wsX6_isGood) := goodIn_app (goodIn_of _ (by decide +kernel)) ggX6_takes_X6_isGood
set_option maxRecDepth 20000 in
theorem ggX6_takes_X6_takesOf : GoodIn wsX6_takes wsX6_takesOf := goodIn_r _ [17, 6, 18, 19, 4, 20, 21, 22, 23, 24, 25, 26, 27, 28, 29, 30, 31, 32, 33, 34, 35, 36, 37, 38, 39, 40, 41, 42, 43, 44, 45, 46, 47, 48, 49, 50, 51, 52, 53, 54, 55, 56, 57] (by decide +kernel) (by decide +kernel)
set_option maxRecDepth 20000 in
theorem gX6_takes_X6_takesOf : GoodIn wsX6_takes (wsV RX6 171 RX6 yX6_takesOf wsX6_takesOf) := goodIn_app (goodIn_of _ (by decide +kernel)) ggX6_takes_X6_takesOf
theorem dX6_takes_0 : decode cX6_takes 0 = .ok (.aload_n 0, 1) := by decide +kernel
theorem dX6_takes_1 : decode cX6_takes 1 = .ok (.iload_n 1, 1) := by decide +kernel
theorem dX6_takes_2 : decode cX6_takes 2 = .ok (.invokevirtual 120, 3) := by decide +kernel
theorem dX6_takes_5 : decode cX6_takes 5 = .ok (.ifCond .eq 20, 3) := by decide +kernel
theorem dX6_takes_8 : decode cX6_takes 8 = .ok (.aload_n 0, 1) := by decide +kernel
theorem dX6_takes_9 : decode cX6_takes 9 = .ok (.iload_n 2, 1) := by decide +kernel
theorem dX6_takes_10 : decode cX6_takes 10 = .ok (.invokevirtual 127, 3) := by decide +kernel
theorem dX6_takes_13 : decode cX6_takes 13 = .ok (.ifCond .eq 12, 3) := by decide +kernel
theorem dX6_takes_16 : decode cX6_takes 16 = .ok (.aload_n 0, 1) := by decide +kernel
theorem dX6_takes_17 : decode cX6_takes 17 = .ok (.iload_n 1, 1) := by decide +kernel
theorem dX6_takes_18 : decode cX6_takes 18 = .ok (.iload_n 2, 1) := by decide +kernel
theorem dX6_takes_19 : decode cX6_takes 19 = .ok (.invokevirtual 171, 3) := by decide +kernel
theorem dX6_takes_22 : decode cX6_takes 22 = .ok (.goto 4, 3) := by decide +kernel
theorem dX6_takes_25 : decode cX6_takes 25 = .ok (.iconst (-1), 1) := by decide +kernel
theorem dX6_takes_26 : decode cX6_takes 26 = .ok (.ireturn, 1) := by decide +kernel
set_option maxRecDepth 20000 in
theorem ggX6_canPay_X6_isLoan : GoodIn wsX6_canPay wsX6_isLoan := goodIn_r _ [6, 1, 7, 8, 5, 9, 34, 35, 36, 37, 38, 39, 40, 41, 42, 43, 44, 45, 46, 47, 48, 49, 50, 51, 52, 53, 54, 55] (by decide +kernel) (by decide +kernel)
set_option maxRecDepth 20000 in
theorem gX6_canPay_X6_isLoan : GoodIn wsX6_canPay (wsV RX6 158 RX6 yX6_isLoan wsX6_isLoan) := goodIn_app (goodIn_of _ (by decide +kernel)) ggX6_canPay_X6_isLoan
set_option maxRecDepth 20000 in
theorem ggX6_canPay_X6_canPayIn : GoodIn wsX6_canPay wsX6_canPayIn := goodIn_r _ [12, 13, 14, 5, 15, 16, 17, 18, 19, 20, 21, 22, 23, 24, 25, 26, 27, 28, 29, 30, 31, 32, 33] (by decide +kernel) (by decide +kernel)
set_option maxRecDepth 20000 in
theorem gX6_canPay_X6_canPayIn : GoodIn wsX6_canPay (va_wsS RX6 83 yX6_canPayIn wsX6_canPayIn) := goodIn_app (goodIn_of _ (by decide +kernel)) ggX6_canPay_X6_canPayIn
theorem dX6_canPay_0 : decode cX6_canPay 0 = .ok (.aload_n 0, 1) := by decide +kernel
theorem dX6_canPay_1 : decode cX6_canPay 1 = .ok (.iload_n 1, 1) := by decide +kernel
theorem dX6_canPay_2 : decode cX6_canPay 2 = .ok (.invokevirtual 158, 3) := by decide +kernel
theorem dX6_canPay_5 : decode cX6_canPay 5 = .ok (.ifCond .ne 5, 3) := by decide +kernel
theorem dX6_canPay_8 : decode cX6_canPay 8 = .ok (.iconst (-1), 1) := by decide +kernel
theorem dX6_canPay_9 : decode cX6_canPay 9 = .ok (.ireturn, 1) := by decide +kernel
theorem dX6_canPay_10 : decode cX6_canPay 10 = .ok (.iconst 0, 1) := by decide +kernel
theorem dX6_canPay_11 : decode cX6_canPay 11 = .ok (.istore_n 2, 1) := by decide +kernel
theorem dX6_canPay_12 : decode cX6_canPay 12 = .ok (.iconst 0, 1) := by decide +kernel
theorem dX6_canPay_13 : decode cX6_canPay 13 = .ok (.istore_n 3, 1) := by decide +kernel
theorem dX6_canPay_14 : decode cX6_canPay 14 = .ok (.iload_n 3, 1) := by decide +kernel
theorem dX6_canPay_15 : decode cX6_canPay 15 = .ok (.aload_n 0, 1) := by decide +kernel
theorem dX6_canPay_16 : decode cX6_canPay 16 = .ok (.getfield 9, 3) := by decide +kernel
theorem dX6_canPay_19 : decode cX6_canPay 19 = .ok (.iconst 0, 1) := by decide +kernel
theorem dX6_canPay_20 : decode cX6_canPay 20 = .ok (.iaload, 1) := by decide +kernel
theorem dX6_canPay_21 : decode cX6_canPay 21 = .ok (.if_icmp .ge 31, 3) := by decide +kernel
theorem dX6_canPay_24 : decode cX6_canPay 24 = .ok (.iload_n 2, 1) := by decide +kernel
theorem dX6_canPay_25 : decode cX6_canPay 25 = .ok (.aload_n 0, 1) := by decide +kernel
theorem dX6_canPay_26 : decode cX6_canPay 26 = .ok (.getfield 9, 3) := by decide +kernel
theorem dX6_canPay_29 : decode cX6_canPay 29 = .ok (.iload_n 1, 1) := by decide +kernel
theorem dX6_canPay_30 : decode cX6_canPay 30 = .ok (.iload_n 3, 1) := by decide +kernel
theorem dX6_canPay_31 : decode cX6_canPay 31 = .ok (.invokestatic 83, 3) := by decide +kernel
theorem dX6_canPay_34 : decode cX6_canPay 34 = .ok (.ifCond .eq 9, 3) := by decide +kernel
theorem dX6_canPay_37 : decode cX6_canPay 37 = .ok (.iconst 1, 1) := by decide +kernel
theorem dX6_canPay_38 : decode cX6_canPay 38 = .ok (.iload_n 3, 1) := by decide +kernel
theorem dX6_canPay_39 : decode cX6_canPay 39 = .ok (.ishl, 1) := by decide +kernel
theorem dX6_canPay_40 : decode cX6_canPay 40 = .ok (.goto 4, 3) := by decide +kernel
theorem dX6_canPay_43 : decode cX6_canPay 43 = .ok (.iconst 0, 1) := by decide +kernel
theorem dX6_canPay_44 : decode cX6_canPay 44 = .ok (.ior, 1) := by decide +kernel
theorem dX6_canPay_45 : decode cX6_canPay 45 = .ok (.istore_n 2, 1) := by decide +kernel
theorem dX6_canPay_46 : decode cX6_canPay 46 = .ok (.iinc 3 1, 3) := by decide +kernel
theorem dX6_canPay_49 : decode cX6_canPay 49 = .ok (.goto (-35), 3) := by decide +kernel
theorem dX6_canPay_52 : decode cX6_canPay 52 = .ok (.iload_n 2, 1) := by decide +kernel
theorem dX6_canPay_53 : decode cX6_canPay 53 = .ok (.ireturn, 1) := by decide +kernel
set_option maxRecDepth 20000 in
theorem ggX6_bestPayment_X6_isLoan : GoodIn wsX6_bestPayment wsX6_isLoan := goodIn_r _ [6, 1, 7, 8, 5, 9, 34, 35, 36, 37, 38, 39, 40, 41, 42, 43, 44, 45, 46, 47, 48, 49, 50, 51, 52, 53, 54, 55] (by decide +kernel) (by decide +kernel)
set_option maxRecDepth 20000 in
theorem gX6_bestPayment_X6_isLoan : GoodIn wsX6_bestPayment (wsV RX6 158 RX6 yX6_isLoan wsX6_isLoan) := goodIn_app (goodIn_of _ (by decide +kernel)) ggX6_bestPayment_X6_isLoan
set_option maxRecDepth 20000 in
theorem ggX6_bestPayment_X6_ofL : GoodIn wsX6_bestPayment wsX6_ofL := goodIn_r _ [12] (by decide +kernel) (by decide +kernel)
set_option maxRecDepth 20000 in
theorem gX6_bestPayment_X6_ofL : GoodIn wsX6_bestPayment (va_wsS RX6 76 yX6_ofL wsX6_ofL) := goodIn_app (goodIn_of _ (by decide +kernel)) ggX6_bestPayment_X6_ofL
set_option maxRecDepth 20000 in
theorem ggX6_bestPayment_X6_canPayIn : GoodIn wsX6_bestPayment wsX6_canPayIn := goodIn_r _ [15, 10, 11, 5, 12, 16, 17, 18, 19, 20, 21, 22, 23, 24, 25, 26, 27, 28, 29, 30, 31, 32, 33] (by decide +kernel) (by decide +kernel)
set_option maxRecDepth 20000 in
theorem gX6_bestPayment_X6_canPayIn : GoodIn wsX6_bestPayment (va_wsS RX6 83 yX6_canPayIn wsX6_canPayIn) := goodIn_app (goodIn_of _ (by decide +kernel)) ggX6_bestPayment_X6_canPayIn
set_option maxRecDepth 20000 in
theorem ggX6_bestPayment_X6_worthIn : GoodIn wsX6_bestPayment wsX6_worthIn := goodIn_r _ [27, 16, 17, 5, 18, 28, 29, 30, 31, 32, 33] (by decide +kernel) (by decide +kernel)
set_option maxRecDepth 20000 in
theorem gX6_bestPayment_X6_worthIn : GoodIn wsX6_bestPayment (va_wsS RX6 72 yX6_worthIn wsX6_worthIn) := goodIn_app (goodIn_of _ (by decide +kernel)) ggX6_bestPayment_X6_worthIn
theorem dX6_bestPayment_0 : decode cX6_bestPayment 0 = .ok (.aload_n 0, 1) := by decide +kernel
theorem dX6_bestPayment_1 : decode cX6_bestPayment 1 = .ok (.iload_n 1, 1) := by decide +kernel
theorem dX6_bestPayment_2 : decode cX6_bestPayment 2 = .ok (.invokevirtual 158, 3) := by decide +kernel
theorem dX6_bestPayment_5 : decode cX6_bestPayment 5 = .ok (.ifCond .ne 5, 3) := by decide +kernel
theorem dX6_bestPayment_8 : decode cX6_bestPayment 8 = .ok (.iconst (-1), 1) := by decide +kernel
theorem dX6_bestPayment_9 : decode cX6_bestPayment 9 = .ok (.ireturn, 1) := by decide +kernel
theorem dX6_bestPayment_10 : decode cX6_bestPayment 10 = .ok (.bipush (-4), 2) := by decide +kernel
theorem dX6_bestPayment_12 : decode cX6_bestPayment 12 = .ok (.istore_n 2, 1) := by decide +kernel
theorem dX6_bestPayment_13 : decode cX6_bestPayment 13 = .ok (.aload_n 0, 1) := by decide +kernel
theorem dX6_bestPayment_14 : decode cX6_bestPayment 14 = .ok (.getfield 9, 3) := by decide +kernel
theorem dX6_bestPayment_17 : decode cX6_bestPayment 17 = .ok (.iload_n 1, 1) := by decide +kernel
theorem dX6_bestPayment_18 : decode cX6_bestPayment 18 = .ok (.invokestatic 76, 3) := by decide +kernel
theorem dX6_bestPayment_21 : decode cX6_bestPayment 21 = .ok (.iconst 0, 1) := by decide +kernel
theorem dX6_bestPayment_22 : decode cX6_bestPayment 22 = .ok (.iadd, 1) := by decide +kernel
theorem dX6_bestPayment_23 : decode cX6_bestPayment 23 = .ok (.iaload, 1) := by decide +kernel
theorem dX6_bestPayment_24 : decode cX6_bestPayment 24 = .ok (.istore_n 3, 1) := by decide +kernel
theorem dX6_bestPayment_25 : decode cX6_bestPayment 25 = .ok (.iconst 0, 1) := by decide +kernel
theorem dX6_bestPayment_26 : decode cX6_bestPayment 26 = .ok (.istore 4, 2) := by decide +kernel
theorem dX6_bestPayment_28 : decode cX6_bestPayment 28 = .ok (.iload 4, 2) := by decide +kernel
theorem dX6_bestPayment_30 : decode cX6_bestPayment 30 = .ok (.aload_n 0, 1) := by decide +kernel
theorem dX6_bestPayment_31 : decode cX6_bestPayment 31 = .ok (.getfield 9, 3) := by decide +kernel
theorem dX6_bestPayment_34 : decode cX6_bestPayment 34 = .ok (.iconst 0, 1) := by decide +kernel
theorem dX6_bestPayment_35 : decode cX6_bestPayment 35 = .ok (.iaload, 1) := by decide +kernel
theorem dX6_bestPayment_36 : decode cX6_bestPayment 36 = .ok (.if_icmp .ge 51, 3) := by decide +kernel
theorem dX6_bestPayment_39 : decode cX6_bestPayment 39 = .ok (.aload_n 0, 1) := by decide +kernel
theorem dX6_bestPayment_40 : decode cX6_bestPayment 40 = .ok (.getfield 9, 3) := by decide +kernel
theorem dX6_bestPayment_43 : decode cX6_bestPayment 43 = .ok (.iload_n 1, 1) := by decide +kernel
theorem dX6_bestPayment_44 : decode cX6_bestPayment 44 = .ok (.iload 4, 2) := by decide +kernel
theorem dX6_bestPayment_46 : decode cX6_bestPayment 46 = .ok (.invokestatic 83, 3) := by decide +kernel
theorem dX6_bestPayment_49 : decode cX6_bestPayment 49 = .ok (.ifCond .eq 32, 3) := by decide +kernel
theorem dX6_bestPayment_52 : decode cX6_bestPayment 52 = .ok (.iload_n 2, 1) := by decide +kernel
theorem dX6_bestPayment_53 : decode cX6_bestPayment 53 = .ok (.ifCond .lt 25, 3) := by decide +kernel
theorem dX6_bestPayment_56 : decode cX6_bestPayment 56 = .ok (.aload_n 0, 1) := by decide +kernel
theorem dX6_bestPayment_57 : decode cX6_bestPayment 57 = .ok (.getfield 9, 3) := by decide +kernel
theorem dX6_bestPayment_60 : decode cX6_bestPayment 60 = .ok (.iload_n 3, 1) := by decide +kernel
theorem dX6_bestPayment_61 : decode cX6_bestPayment 61 = .ok (.iload 4, 2) := by decide +kernel
theorem dX6_bestPayment_63 : decode cX6_bestPayment 63 = .ok (.invokestatic 72, 3) := by decide +kernel
theorem dX6_bestPayment_66 : decode cX6_bestPayment 66 = .ok (.aload_n 0, 1) := by decide +kernel
theorem dX6_bestPayment_67 : decode cX6_bestPayment 67 = .ok (.getfield 9, 3) := by decide +kernel
theorem dX6_bestPayment_70 : decode cX6_bestPayment 70 = .ok (.iload_n 3, 1) := by decide +kernel
theorem dX6_bestPayment_71 : decode cX6_bestPayment 71 = .ok (.iload_n 2, 1) := by decide +kernel
theorem dX6_bestPayment_72 : decode cX6_bestPayment 72 = .ok (.invokestatic 72, 3) := by decide +kernel
theorem dX6_bestPayment_75 : decode cX6_bestPayment 75 = .ok (.if_icmp .le 6, 3) := by decide +kernel
theorem dX6_bestPayment_78 : decode cX6_bestPayment 78 = .ok (.iload 4, 2) := by decide +kernel
theorem dX6_bestPayment_80 : decode cX6_bestPayment 80 = .ok (.istore_n 2, 1) := by decide +kernel
theorem dX6_bestPayment_81 : decode cX6_bestPayment 81 = .ok (.iinc 4 1, 3) := by decide +kernel
theorem dX6_bestPayment_84 : decode cX6_bestPayment 84 = .ok (.goto (-56), 3) := by decide +kernel
theorem dX6_bestPayment_87 : decode cX6_bestPayment 87 = .ok (.iload_n 2, 1) := by decide +kernel
theorem dX6_bestPayment_88 : decode cX6_bestPayment 88 = .ok (.ireturn, 1) := by decide +kernel
set_option maxRecDepth 20000 in
theorem ggX6_hasThen_X6_isGood : GoodIn wsX6_hasThen wsX6_isGood := goodIn_r _ [7, 1, 8, 9, 6, 10, 50, 51, 52, 53, 54, 55, 56, 57, 58, 59, 60, 61, 62, 63, 64, 65, 66, 67, 68, 69, 70, 71] (by decide +kernel) (by decide +kernel)
set_option maxRecDepth 20000 in
theorem gX6_hasThen_X6_isGood : GoodIn wsX6_hasThen (wsV RX6 127 RX6 yX6_isGood wsX6_isGood) := goodIn_app (goodIn_of _ (by decide +kernel)) ggX6_hasThen_X6_isGood
set_option maxRecDepth 20000 in
theorem ggX6_hasThen_X6_isIn : GoodIn wsX6_hasThen wsX6_isIn := goodIn_r _ [10] (by decide +kernel) (by decide +kernel)
set_option maxRecDepth 20000 in
theorem gX6_hasThen_X6_isIn : GoodIn wsX6_hasThen (va_wsS RX6 52 yX6_isIn wsX6_isIn) := goodIn_app (goodIn_of _ (by decide +kernel)) ggX6_hasThen_X6_isIn
set_option maxRecDepth 20000 in
theorem ggX6_hasThen_X6_copies : GoodIn wsX6_hasThen wsX6_copies := goodIn_r _ [13] (by decide +kernel) (by decide +kernel)
set_option maxRecDepth 20000 in
theorem gX6_hasThen_X6_copies : GoodIn wsX6_hasThen (va_wsS RX6 145 yX6_copies wsX6_copies) := goodIn_app (goodIn_of _ (by decide +kernel)) ggX6_hasThen_X6_copies
set_option maxRecDepth 20000 in
theorem ggX6_hasThen_X6_weeksOn : GoodIn wsX6_hasThen wsX6_weeksOn := goodIn_r _ [16, 17, 18, 6, 19, 20, 21, 22, 23, 24, 25, 26, 27, 28, 29, 30, 31, 32, 33, 34, 35, 36, 37, 38, 39, 40, 41, 42, 43, 44, 45, 46, 47, 48, 49] (by decide +kernel) (by decide +kernel)
set_option maxRecDepth 20000 in
theorem gX6_hasThen_X6_weeksOn : GoodIn wsX6_hasThen (va_wsS RX6 134 yX6_weeksOn wsX6_weeksOn) := goodIn_app (goodIn_of _ (by decide +kernel)) ggX6_hasThen_X6_weeksOn
set_option maxRecDepth 20000 in
theorem ggX6_hasThen_X6_ofG : GoodIn wsX6_hasThen wsX6_ofG := goodIn_r _ [31] (by decide +kernel) (by decide +kernel)
set_option maxRecDepth 20000 in
theorem gX6_hasThen_X6_ofG : GoodIn wsX6_hasThen (va_wsS RX6 60 yX6_ofG wsX6_ofG) := goodIn_app (goodIn_of _ (by decide +kernel)) ggX6_hasThen_X6_ofG
theorem dX6_hasThen_0 : decode cX6_hasThen 0 = .ok (.aload_n 0, 1) := by decide +kernel
theorem dX6_hasThen_1 : decode cX6_hasThen 1 = .ok (.iload_n 1, 1) := by decide +kernel
theorem dX6_hasThen_2 : decode cX6_hasThen 2 = .ok (.invokevirtual 127, 3) := by decide +kernel
theorem dX6_hasThen_5 : decode cX6_hasThen 5 = .ok (.ifCond .eq 13, 3) := by decide +kernel
theorem dX6_hasThen_8 : decode cX6_hasThen 8 = .ok (.iload_n 2, 1) := by decide +kernel
theorem dX6_hasThen_9 : decode cX6_hasThen 9 = .ok (.iconst 0, 1) := by decide +kernel
theorem dX6_hasThen_10 : decode cX6_hasThen 10 = .ok (.bipush 60, 2) := by decide +kernel
theorem dX6_hasThen_12 : decode cX6_hasThen 12 = .ok (.invokestatic 52, 3) := by decide +kernel
theorem dX6_hasThen_15 : decode cX6_hasThen 15 = .ok (.ifCond .ne 5, 3) := by decide +kernel
theorem dX6_hasThen_18 : decode cX6_hasThen 18 = .ok (.iconst (-1), 1) := by decide +kernel
theorem dX6_hasThen_19 : decode cX6_hasThen 19 = .ok (.ireturn, 1) := by decide +kernel
theorem dX6_hasThen_20 : decode cX6_hasThen 20 = .ok (.aload_n 0, 1) := by decide +kernel
theorem dX6_hasThen_21 : decode cX6_hasThen 21 = .ok (.getfield 9, 3) := by decide +kernel
theorem dX6_hasThen_24 : decode cX6_hasThen 24 = .ok (.aload_n 0, 1) := by decide +kernel
theorem dX6_hasThen_25 : decode cX6_hasThen 25 = .ok (.getfield 13, 3) := by decide +kernel
theorem dX6_hasThen_28 : decode cX6_hasThen 28 = .ok (.invokestatic 145, 3) := by decide +kernel
theorem dX6_hasThen_31 : decode cX6_hasThen 31 = .ok (.aload_n 0, 1) := by decide +kernel
theorem dX6_hasThen_32 : decode cX6_hasThen 32 = .ok (.getfield 13, 3) := by decide +kernel
theorem dX6_hasThen_35 : decode cX6_hasThen 35 = .ok (.iload_n 2, 1) := by decide +kernel
theorem dX6_hasThen_36 : decode cX6_hasThen 36 = .ok (.invokestatic 134, 3) := by decide +kernel
theorem dX6_hasThen_39 : decode cX6_hasThen 39 = .ok (.aload_n 0, 1) := by decide +kernel
theorem dX6_hasThen_40 : decode cX6_hasThen 40 = .ok (.getfield 13, 3) := by decide +kernel
theorem dX6_hasThen_43 : decode cX6_hasThen 43 = .ok (.iload_n 1, 1) := by decide +kernel
theorem dX6_hasThen_44 : decode cX6_hasThen 44 = .ok (.invokestatic 60, 3) := by decide +kernel
theorem dX6_hasThen_47 : decode cX6_hasThen 47 = .ok (.iconst 2, 1) := by decide +kernel
theorem dX6_hasThen_48 : decode cX6_hasThen 48 = .ok (.iadd, 1) := by decide +kernel
theorem dX6_hasThen_49 : decode cX6_hasThen 49 = .ok (.iaload, 1) := by decide +kernel
theorem dX6_hasThen_50 : decode cX6_hasThen 50 = .ok (.ireturn, 1) := by decide +kernel
set_option maxRecDepth 20000 in
theorem ggX6_openThen_X6_isIn : GoodIn wsX6_openThen wsX6_isIn := goodIn_r _ [6] (by decide +kernel) (by decide +kernel)
set_option maxRecDepth 20000 in
theorem gX6_openThen_X6_isIn : GoodIn wsX6_openThen (va_wsS RX6 52 yX6_isIn wsX6_isIn) := goodIn_app (goodIn_of _ (by decide +kernel)) ggX6_openThen_X6_isIn
set_option maxRecDepth 20000 in
theorem ggX6_openThen_X6_copies : GoodIn wsX6_openThen wsX6_copies := goodIn_r _ [9] (by decide +kernel) (by decide +kernel)
set_option maxRecDepth 20000 in
theorem gX6_openThen_X6_copies : GoodIn wsX6_openThen (va_wsS RX6 145 yX6_copies wsX6_copies) := goodIn_app (goodIn_of _ (by decide +kernel)) ggX6_openThen_X6_copies
set_option maxRecDepth 20000 in
theorem ggX6_openThen_X6_weeksOn : GoodIn wsX6_openThen wsX6_weeksOn := goodIn_r _ [12, 13, 14, 5, 15, 16, 17, 18, 19, 20, 21, 22, 23, 24, 25, 26, 27, 28, 29, 30, 31, 32, 33, 34, 35, 36, 37, 38, 39, 40, 41, 42, 43, 44, 45] (by decide +kernel) (by decide +kernel)
set_option maxRecDepth 20000 in
theorem gX6_openThen_X6_weeksOn : GoodIn wsX6_openThen (va_wsS RX6 134 yX6_weeksOn wsX6_weeksOn) := goodIn_app (goodIn_of _ (by decide +kernel)) ggX6_openThen_X6_weeksOn
set_option maxRecDepth 20000 in
theorem ggX6_openThen_X6_openIn : GoodIn wsX6_openThen wsX6_openIn := goodIn_r _ [48, 19, 20, 5, 21] (by decide +kernel) (by decide +kernel)
set_option maxRecDepth 20000 in
theorem gX6_openThen_X6_openIn : GoodIn wsX6_openThen (va_wsS RX6 164 yX6_openIn wsX6_openIn) := goodIn_app (goodIn_of _ (by decide +kernel)) ggX6_openThen_X6_openIn
set_option maxRecDepth 20000 in
theorem ggX6_openThen_X6_bits : GoodIn wsX6_openThen wsX6_bits := goodIn_r _ [51] (by decide +kernel) (by decide +kernel)
set_option maxRecDepth 20000 in
theorem gX6_openThen_X6_bits : GoodIn wsX6_openThen (va_wsS RX6 168 yX6_bits wsX6_bits) := goodIn_app (goodIn_of _ (by decide +kernel)) ggX6_openThen_X6_bits
theorem dX6_openThen_0 : decode cX6_openThen 0 = .ok (.iload_n 1, 1) := by decide +kernel
theorem dX6_openThen_1 : decode cX6_openThen 1 = .ok (.iconst 0, 1) := by decide +kernel
theorem dX6_openThen_2 : decode cX6_openThen 2 = .ok (.bipush 60, 2) := by decide +kernel
theorem dX6_openThen_4 : decode cX6_openThen 4 = .ok (.invokestatic 52, 3) := by decide +kernel
theorem dX6_openThen_7 : decode cX6_openThen 7 = .ok (.ifCond .ne 5, 3) := by decide +kernel
theorem dX6_openThen_10 : decode cX6_openThen 10 = .ok (.iconst (-1), 1) := by decide +kernel
theorem dX6_openThen_11 : decode cX6_openThen 11 = .ok (.ireturn, 1) := by decide +kernel
theorem dX6_openThen_12 : decode cX6_openThen 12 = .ok (.aload_n 0, 1) := by decide +kernel
theorem dX6_openThen_13 : decode cX6_openThen 13 = .ok (.getfield 9, 3) := by decide +kernel
theorem dX6_openThen_16 : decode cX6_openThen 16 = .ok (.aload_n 0, 1) := by decide +kernel
theorem dX6_openThen_17 : decode cX6_openThen 17 = .ok (.getfield 13, 3) := by decide +kernel
theorem dX6_openThen_20 : decode cX6_openThen 20 = .ok (.invokestatic 145, 3) := by decide +kernel
theorem dX6_openThen_23 : decode cX6_openThen 23 = .ok (.aload_n 0, 1) := by decide +kernel
theorem dX6_openThen_24 : decode cX6_openThen 24 = .ok (.getfield 13, 3) := by decide +kernel
theorem dX6_openThen_27 : decode cX6_openThen 27 = .ok (.iload_n 1, 1) := by decide +kernel
theorem dX6_openThen_28 : decode cX6_openThen 28 = .ok (.invokestatic 134, 3) := by decide +kernel
theorem dX6_openThen_31 : decode cX6_openThen 31 = .ok (.aload_n 0, 1) := by decide +kernel
theorem dX6_openThen_32 : decode cX6_openThen 32 = .ok (.getfield 13, 3) := by decide +kernel
theorem dX6_openThen_35 : decode cX6_openThen 35 = .ok (.invokestatic 164, 3) := by decide +kernel
theorem dX6_openThen_38 : decode cX6_openThen 38 = .ok (.invokestatic 168, 3) := by decide +kernel
theorem dX6_openThen_41 : decode cX6_openThen 41 = .ok (.ireturn, 1) := by decide +kernel
set_option maxRecDepth 20000 in
theorem ggX6_cleared_X6_copies : GoodIn wsX6_cleared wsX6_copies := goodIn_r _ [6] (by decide +kernel) (by decide +kernel)
set_option maxRecDepth 20000 in
theorem gX6_cleared_X6_copies : GoodIn wsX6_cleared (va_wsS RX6 145 yX6_copies wsX6_copies) := goodIn_app (goodIn_of _ (by decide +kernel)) ggX6_cleared_X6_copies
set_option maxRecDepth 20000 in
theorem ggX6_cleared_X6_openIn : GoodIn wsX6_cleared wsX6_openIn := goodIn_r _ [9, 10, 11, 5, 12] (by decide +kernel) (by decide +kernel)
set_option maxRecDepth 20000 in
theorem gX6_cleared_X6_openIn : GoodIn wsX6_cleared (va_wsS RX6 164 yX6_openIn wsX6_openIn) := goodIn_app (goodIn_of _ (by decide +kernel)) ggX6_cleared_X6_openIn
set_option maxRecDepth 20000 in
theorem ggX6_cleared_X6_week : GoodIn wsX6_cleared wsX6_week := goodIn_r _ [15, 16, 17, 5, 18, 10, 11, 12, 19, 20, 21, 22, 23, 24, 25, 26, 27, 28, 29, 30, 31, 32, 33, 34, 35, 36, 37, 38, 39, 40, 41, 42] (by decide +kernel) (by decide +kernel)
set_option maxRecDepth 20000 in
theorem gX6_cleared_X6_week : GoodIn wsX6_cleared (va_wsS RX6 94 yX6_week wsX6_week) := goodIn_app (goodIn_of _ (by decide +kernel)) ggX6_cleared_X6_week
theorem dX6_cleared_0 : decode cX6_cleared 0 = .ok (.aload_n 0, 1) := by decide +kernel
theorem dX6_cleared_1 : decode cX6_cleared 1 = .ok (.getfield 9, 3) := by decide +kernel
theorem dX6_cleared_4 : decode cX6_cleared 4 = .ok (.aload_n 0, 1) := by decide +kernel
theorem dX6_cleared_5 : decode cX6_cleared 5 = .ok (.getfield 13, 3) := by decide +kernel
theorem dX6_cleared_8 : decode cX6_cleared 8 = .ok (.invokestatic 145, 3) := by decide +kernel
theorem dX6_cleared_11 : decode cX6_cleared 11 = .ok (.iconst 0, 1) := by decide +kernel
theorem dX6_cleared_12 : decode cX6_cleared 12 = .ok (.istore_n 1, 1) := by decide +kernel
theorem dX6_cleared_13 : decode cX6_cleared 13 = .ok (.iload_n 1, 1) := by decide +kernel
theorem dX6_cleared_14 : decode cX6_cleared 14 = .ok (.bipush 60, 2) := by decide +kernel
theorem dX6_cleared_16 : decode cX6_cleared 16 = .ok (.if_icmp .gt 28, 3) := by decide +kernel
theorem dX6_cleared_19 : decode cX6_cleared 19 = .ok (.aload_n 0, 1) := by decide +kernel
theorem dX6_cleared_20 : decode cX6_cleared 20 = .ok (.getfield 13, 3) := by decide +kernel
theorem dX6_cleared_23 : decode cX6_cleared 23 = .ok (.invokestatic 164, 3) := by decide +kernel
theorem dX6_cleared_26 : decode cX6_cleared 26 = .ok (.ifCond .ne 5, 3) := by decide +kernel
theorem dX6_cleared_29 : decode cX6_cleared 29 = .ok (.iload_n 1, 1) := by decide +kernel
theorem dX6_cleared_30 : decode cX6_cleared 30 = .ok (.ireturn, 1) := by decide +kernel
theorem dX6_cleared_31 : decode cX6_cleared 31 = .ok (.aload_n 0, 1) := by decide +kernel
theorem dX6_cleared_32 : decode cX6_cleared 32 = .ok (.getfield 13, 3) := by decide +kernel
theorem dX6_cleared_35 : decode cX6_cleared 35 = .ok (.invokestatic 94, 3) := by decide +kernel
theorem dX6_cleared_38 : decode cX6_cleared 38 = .ok (.iinc 1 1, 3) := by decide +kernel
theorem dX6_cleared_41 : decode cX6_cleared 41 = .ok (.goto (-28), 3) := by decide +kernel
theorem dX6_cleared_44 : decode cX6_cleared 44 = .ok (.bipush (-4), 2) := by decide +kernel
theorem dX6_cleared_46 : decode cX6_cleared 46 = .ok (.ireturn, 1) := by decide +kernel
set_option maxRecDepth 20000 in
theorem ggX6_richest_X6_richesOf : GoodIn wsX6_richest wsX6_richesOf := goodIn_r _ [5, 6, 7, 4, 8, 9, 10, 11, 12, 13, 14, 15, 16, 17] (by decide +kernel) (by decide +kernel)
set_option maxRecDepth 20000 in
theorem gX6_richest_X6_richesOf : GoodIn wsX6_richest (va_wsS RX6 155 yX6_richesOf wsX6_richesOf) := goodIn_app (goodIn_of _ (by decide +kernel)) ggX6_richest_X6_richesOf
theorem dX6_richest_0 : decode cX6_richest 0 = .ok (.bipush (-4), 2) := by decide +kernel
theorem dX6_richest_2 : decode cX6_richest 2 = .ok (.istore_n 1, 1) := by decide +kernel
theorem dX6_richest_3 : decode cX6_richest 3 = .ok (.iconst 0, 1) := by decide +kernel
theorem dX6_richest_4 : decode cX6_richest 4 = .ok (.istore_n 2, 1) := by decide +kernel
theorem dX6_richest_5 : decode cX6_richest 5 = .ok (.iload_n 2, 1) := by decide +kernel
theorem dX6_richest_6 : decode cX6_richest 6 = .ok (.aload_n 0, 1) := by decide +kernel
theorem dX6_richest_7 : decode cX6_richest 7 = .ok (.getfield 9, 3) := by decide +kernel
theorem dX6_richest_10 : decode cX6_richest 10 = .ok (.iconst 1, 1) := by decide +kernel
theorem dX6_richest_11 : decode cX6_richest 11 = .ok (.iaload, 1) := by decide +kernel
theorem dX6_richest_12 : decode cX6_richest 12 = .ok (.if_icmp .ge 34, 3) := by decide +kernel
theorem dX6_richest_15 : decode cX6_richest 15 = .ok (.iload_n 1, 1) := by decide +kernel
theorem dX6_richest_16 : decode cX6_richest 16 = .ok (.ifCond .lt 22, 3) := by decide +kernel
theorem dX6_richest_19 : decode cX6_richest 19 = .ok (.aload_n 0, 1) := by decide +kernel
theorem dX6_richest_20 : decode cX6_richest 20 = .ok (.getfield 9, 3) := by decide +kernel
theorem dX6_richest_23 : decode cX6_richest 23 = .ok (.iload_n 2, 1) := by decide +kernel
theorem dX6_richest_24 : decode cX6_richest 24 = .ok (.invokestatic 155, 3) := by decide +kernel
theorem dX6_richest_27 : decode cX6_richest 27 = .ok (.aload_n 0, 1) := by decide +kernel
theorem dX6_richest_28 : decode cX6_richest 28 = .ok (.getfield 9, 3) := by decide +kernel
theorem dX6_richest_31 : decode cX6_richest 31 = .ok (.iload_n 1, 1) := by decide +kernel
theorem dX6_richest_32 : decode cX6_richest 32 = .ok (.invokestatic 155, 3) := by decide +kernel
theorem dX6_richest_35 : decode cX6_richest 35 = .ok (.if_icmp .le 5, 3) := by decide +kernel
theorem dX6_richest_38 : decode cX6_richest 38 = .ok (.iload_n 2, 1) := by decide +kernel
theorem dX6_richest_39 : decode cX6_richest 39 = .ok (.istore_n 1, 1) := by decide +kernel
theorem dX6_richest_40 : decode cX6_richest 40 = .ok (.iinc 2 1, 3) := by decide +kernel
theorem dX6_richest_43 : decode cX6_richest 43 = .ok (.goto (-38), 3) := by decide +kernel
theorem dX6_richest_46 : decode cX6_richest 46 = .ok (.iload_n 1, 1) := by decide +kernel
theorem dX6_richest_47 : decode cX6_richest 47 = .ok (.ireturn, 1) := by decide +kernel
set_option maxRecDepth 20000 in
theorem ggX6_worstOf_X6_ofG : GoodIn wsX6_worstOf wsX6_ofG := goodIn_r _ [5] (by decide +kernel) (by decide +kernel)
set_option maxRecDepth 20000 in
theorem gX6_worstOf_X6_ofG : GoodIn wsX6_worstOf (va_wsS RX6 60 yX6_ofG wsX6_ofG) := goodIn_app (goodIn_of _ (by decide +kernel)) ggX6_worstOf_X6_ofG
set_option maxRecDepth 20000 in
theorem ggX6_worstOf_X6_worthIn : GoodIn wsX6_worstOf wsX6_worthIn := goodIn_r _ [8, 2, 3, 4, 5, 9, 10, 11, 12, 13, 14] (by decide +kernel) (by decide +kernel)
set_option maxRecDepth 20000 in
theorem gX6_worstOf_X6_worthIn : GoodIn wsX6_worstOf (va_wsS RX6 72 yX6_worthIn wsX6_worthIn) := goodIn_app (goodIn_of _ (by decide +kernel)) ggX6_worstOf_X6_worthIn
theorem dX6_worstOf_0 : decode cX6_worstOf 0 = .ok (.bipush (-4), 2) := by decide +kernel
theorem dX6_worstOf_2 : decode cX6_worstOf 2 = .ok (.istore_n 2, 1) := by decide +kernel
theorem dX6_worstOf_3 : decode cX6_worstOf 3 = .ok (.iconst 0, 1) := by decide +kernel
theorem dX6_worstOf_4 : decode cX6_worstOf 4 = .ok (.istore_n 3, 1) := by decide +kernel
theorem dX6_worstOf_5 : decode cX6_worstOf 5 = .ok (.iload_n 3, 1) := by decide +kernel
theorem dX6_worstOf_6 : decode cX6_worstOf 6 = .ok (.aload_n 0, 1) := by decide +kernel
theorem dX6_worstOf_7 : decode cX6_worstOf 7 = .ok (.getfield 9, 3) := by decide +kernel
theorem dX6_worstOf_10 : decode cX6_worstOf 10 = .ok (.iconst 0, 1) := by decide +kernel
theorem dX6_worstOf_11 : decode cX6_worstOf 11 = .ok (.iaload, 1) := by decide +kernel
theorem dX6_worstOf_12 : decode cX6_worstOf 12 = .ok (.if_icmp .ge 51, 3) := by decide +kernel
theorem dX6_worstOf_15 : decode cX6_worstOf 15 = .ok (.aload_n 0, 1) := by decide +kernel
theorem dX6_worstOf_16 : decode cX6_worstOf 16 = .ok (.getfield 9, 3) := by decide +kernel
theorem dX6_worstOf_19 : decode cX6_worstOf 19 = .ok (.iload_n 3, 1) := by decide +kernel
theorem dX6_worstOf_20 : decode cX6_worstOf 20 = .ok (.invokestatic 60, 3) := by decide +kernel
theorem dX6_worstOf_23 : decode cX6_worstOf 23 = .ok (.iconst 2, 1) := by decide +kernel
theorem dX6_worstOf_24 : decode cX6_worstOf 24 = .ok (.iadd, 1) := by decide +kernel
theorem dX6_worstOf_25 : decode cX6_worstOf 25 = .ok (.iaload, 1) := by decide +kernel
theorem dX6_worstOf_26 : decode cX6_worstOf 26 = .ok (.iload_n 1, 1) := by decide +kernel
theorem dX6_worstOf_27 : decode cX6_worstOf 27 = .ok (.if_icmp .ne 30, 3) := by decide +kernel
theorem dX6_worstOf_30 : decode cX6_worstOf 30 = .ok (.iload_n 2, 1) := by decide +kernel
theorem dX6_worstOf_31 : decode cX6_worstOf 31 = .ok (.ifCond .lt 24, 3) := by decide +kernel
theorem dX6_worstOf_34 : decode cX6_worstOf 34 = .ok (.aload_n 0, 1) := by decide +kernel
theorem dX6_worstOf_35 : decode cX6_worstOf 35 = .ok (.getfield 9, 3) := by decide +kernel
theorem dX6_worstOf_38 : decode cX6_worstOf 38 = .ok (.iload_n 1, 1) := by decide +kernel
theorem dX6_worstOf_39 : decode cX6_worstOf 39 = .ok (.iload_n 3, 1) := by decide +kernel
theorem dX6_worstOf_40 : decode cX6_worstOf 40 = .ok (.invokestatic 72, 3) := by decide +kernel
theorem dX6_worstOf_43 : decode cX6_worstOf 43 = .ok (.aload_n 0, 1) := by decide +kernel
theorem dX6_worstOf_44 : decode cX6_worstOf 44 = .ok (.getfield 9, 3) := by decide +kernel
theorem dX6_worstOf_47 : decode cX6_worstOf 47 = .ok (.iload_n 1, 1) := by decide +kernel
theorem dX6_worstOf_48 : decode cX6_worstOf 48 = .ok (.iload_n 2, 1) := by decide +kernel
theorem dX6_worstOf_49 : decode cX6_worstOf 49 = .ok (.invokestatic 72, 3) := by decide +kernel
theorem dX6_worstOf_52 : decode cX6_worstOf 52 = .ok (.if_icmp .ge 5, 3) := by decide +kernel
theorem dX6_worstOf_55 : decode cX6_worstOf 55 = .ok (.iload_n 3, 1) := by decide +kernel
theorem dX6_worstOf_56 : decode cX6_worstOf 56 = .ok (.istore_n 2, 1) := by decide +kernel
theorem dX6_worstOf_57 : decode cX6_worstOf 57 = .ok (.iinc 3 1, 3) := by decide +kernel
theorem dX6_worstOf_60 : decode cX6_worstOf 60 = .ok (.goto (-55), 3) := by decide +kernel
theorem dX6_worstOf_63 : decode cX6_worstOf 63 = .ok (.iload_n 2, 1) := by decide +kernel
theorem dX6_worstOf_64 : decode cX6_worstOf 64 = .ok (.ireturn, 1) := by decide +kernel
set_option maxRecDepth 20000 in
theorem ggX6_worst_X6_isPerson : GoodIn wsX6_worst wsX6_isPerson := goodIn_r _ [5, 6, 7, 8, 4, 9, 26, 27, 28, 29, 30, 31, 32, 33, 34, 35, 36, 37, 38, 39, 40, 41, 42, 43, 44, 45, 46, 47] (by decide +kernel) (by decide +kernel)
set_option maxRecDepth 20000 in
theorem gX6_worst_X6_isPerson : GoodIn wsX6_worst (wsV RX6 120 RX6 yX6_isPerson wsX6_isPerson) := goodIn_app (goodIn_of _ (by decide +kernel)) ggX6_worst_X6_isPerson
set_option maxRecDepth 20000 in
theorem ggX6_worst_X6_worstOf : GoodIn wsX6_worst wsX6_worstOf := goodIn_r _ [13, 6, 14, 15, 4, 16, 17, 18, 19, 20, 21, 22, 23, 24, 25, 26, 27, 28, 29, 30, 31, 32, 33, 34, 35, 36, 37, 38, 39, 40, 41, 42, 43, 44, 45, 46, 47] (by decide +kernel) (by decide +kernel)
set_option maxRecDepth 20000 in
theorem gX6_worst_X6_worstOf : GoodIn wsX6_worst (wsV RX6 174 RX6 yX6_worstOf wsX6_worstOf) := goodIn_app (goodIn_of _ (by decide +kernel)) ggX6_worst_X6_worstOf
theorem dX6_worst_0 : decode cX6_worst 0 = .ok (.aload_n 0, 1) := by decide +kernel
theorem dX6_worst_1 : decode cX6_worst 1 = .ok (.iload_n 1, 1) := by decide +kernel
theorem dX6_worst_2 : decode cX6_worst 2 = .ok (.invokevirtual 120, 3) := by decide +kernel
theorem dX6_worst_5 : decode cX6_worst 5 = .ok (.ifCond .eq 11, 3) := by decide +kernel
theorem dX6_worst_8 : decode cX6_worst 8 = .ok (.aload_n 0, 1) := by decide +kernel
theorem dX6_worst_9 : decode cX6_worst 9 = .ok (.iload_n 1, 1) := by decide +kernel
theorem dX6_worst_10 : decode cX6_worst 10 = .ok (.invokevirtual 174, 3) := by decide +kernel
theorem dX6_worst_13 : decode cX6_worst 13 = .ok (.goto 4, 3) := by decide +kernel
theorem dX6_worst_16 : decode cX6_worst 16 = .ok (.iconst (-1), 1) := by decide +kernel
theorem dX6_worst_17 : decode cX6_worst 17 = .ok (.ireturn, 1) := by decide +kernel
set_option maxRecDepth 20000 in
theorem ggX6_stepsOf_X6_has : GoodIn wsX6_stepsOf wsX6_has := goodIn_r _ [5] (by decide +kernel) (by decide +kernel)
set_option maxRecDepth 20000 in
theorem gX6_stepsOf_X6_has : GoodIn wsX6_stepsOf (va_wsS RX6 177 yX6_has wsX6_has) := goodIn_app (goodIn_of _ (by decide +kernel)) ggX6_stepsOf_X6_has
set_option maxRecDepth 20000 in
theorem ggX6_stepsOf_X6_takesOf : GoodIn wsX6_stepsOf wsX6_takesOf := goodIn_r _ [9, 1, 10, 11, 4, 12, 13, 14, 15, 16, 17, 18, 19, 20, 21, 22, 23, 24, 25, 26, 27, 28, 29, 30, 31, 32, 33, 34, 35, 36, 37, 38, 39, 40, 41, 42, 43, 44, 45, 46, 47, 48, 49] (by decide +kernel) (by decide +kernel)
set_option maxRecDepth 20000 in
theorem gX6_stepsOf_X6_takesOf : GoodIn wsX6_stepsOf (wsV RX6 171 RX6 yX6_takesOf wsX6_takesOf) := goodIn_app (goodIn_of _ (by decide +kernel)) ggX6_stepsOf_X6_takesOf
theorem dX6_stepsOf_0 : decode cX6_stepsOf 0 = .ok (.iconst 1, 1) := by decide +kernel
theorem dX6_stepsOf_1 : decode cX6_stepsOf 1 = .ok (.iload_n 2, 1) := by decide +kernel
theorem dX6_stepsOf_2 : decode cX6_stepsOf 2 = .ok (.ishl, 1) := by decide +kernel
theorem dX6_stepsOf_3 : decode cX6_stepsOf 3 = .ok (.istore 4, 2) := by decide +kernel
theorem dX6_stepsOf_5 : decode cX6_stepsOf 5 = .ok (.iconst 0, 1) := by decide +kernel
theorem dX6_stepsOf_6 : decode cX6_stepsOf 6 = .ok (.istore 5, 2) := by decide +kernel
theorem dX6_stepsOf_8 : decode cX6_stepsOf 8 = .ok (.iload 5, 2) := by decide +kernel
theorem dX6_stepsOf_10 : decode cX6_stepsOf 10 = .ok (.bipush 8, 2) := by decide +kernel
theorem dX6_stepsOf_12 : decode cX6_stepsOf 12 = .ok (.if_icmp .ge 75, 3) := by decide +kernel
theorem dX6_stepsOf_15 : decode cX6_stepsOf 15 = .ok (.iload 4, 2) := by decide +kernel
theorem dX6_stepsOf_17 : decode cX6_stepsOf 17 = .ok (.iload_n 3, 1) := by decide +kernel
theorem dX6_stepsOf_18 : decode cX6_stepsOf 18 = .ok (.invokestatic 177, 3) := by decide +kernel
theorem dX6_stepsOf_21 : decode cX6_stepsOf 21 = .ok (.ifCond .eq 6, 3) := by decide +kernel
theorem dX6_stepsOf_24 : decode cX6_stepsOf 24 = .ok (.iload 5, 2) := by decide +kernel
theorem dX6_stepsOf_26 : decode cX6_stepsOf 26 = .ok (.ireturn, 1) := by decide +kernel
theorem dX6_stepsOf_27 : decode cX6_stepsOf 27 = .ok (.iload 4, 2) := by decide +kernel
theorem dX6_stepsOf_29 : decode cX6_stepsOf 29 = .ok (.istore 6, 2) := by decide +kernel
theorem dX6_stepsOf_31 : decode cX6_stepsOf 31 = .ok (.iconst 0, 1) := by decide +kernel
theorem dX6_stepsOf_32 : decode cX6_stepsOf 32 = .ok (.istore 7, 2) := by decide +kernel
theorem dX6_stepsOf_34 : decode cX6_stepsOf 34 = .ok (.iload 7, 2) := by decide +kernel
theorem dX6_stepsOf_36 : decode cX6_stepsOf 36 = .ok (.aload_n 0, 1) := by decide +kernel
theorem dX6_stepsOf_37 : decode cX6_stepsOf 37 = .ok (.getfield 9, 3) := by decide +kernel
theorem dX6_stepsOf_40 : decode cX6_stepsOf 40 = .ok (.iconst 0, 1) := by decide +kernel
theorem dX6_stepsOf_41 : decode cX6_stepsOf 41 = .ok (.iaload, 1) := by decide +kernel
theorem dX6_stepsOf_42 : decode cX6_stepsOf 42 = .ok (.if_icmp .ge 35, 3) := by decide +kernel
theorem dX6_stepsOf_45 : decode cX6_stepsOf 45 = .ok (.iload 6, 2) := by decide +kernel
theorem dX6_stepsOf_47 : decode cX6_stepsOf 47 = .ok (.iload 4, 2) := by decide +kernel
theorem dX6_stepsOf_49 : decode cX6_stepsOf 49 = .ok (.iload 7, 2) := by decide +kernel
theorem dX6_stepsOf_51 : decode cX6_stepsOf 51 = .ok (.invokestatic 177, 3) := by decide +kernel
theorem dX6_stepsOf_54 : decode cX6_stepsOf 54 = .ok (.ifCond .eq 13, 3) := by decide +kernel
theorem dX6_stepsOf_57 : decode cX6_stepsOf 57 = .ok (.aload_n 0, 1) := by decide +kernel
theorem dX6_stepsOf_58 : decode cX6_stepsOf 58 = .ok (.iload_n 1, 1) := by decide +kernel
theorem dX6_stepsOf_59 : decode cX6_stepsOf 59 = .ok (.iload 7, 2) := by decide +kernel
theorem dX6_stepsOf_61 : decode cX6_stepsOf 61 = .ok (.invokevirtual 171, 3) := by decide +kernel
theorem dX6_stepsOf_64 : decode cX6_stepsOf 64 = .ok (.goto 4, 3) := by decide +kernel
theorem dX6_stepsOf_67 : decode cX6_stepsOf 67 = .ok (.iconst 0, 1) := by decide +kernel
theorem dX6_stepsOf_68 : decode cX6_stepsOf 68 = .ok (.ior, 1) := by decide +kernel
theorem dX6_stepsOf_69 : decode cX6_stepsOf 69 = .ok (.istore 6, 2) := by decide +kernel
theorem dX6_stepsOf_71 : decode cX6_stepsOf 71 = .ok (.iinc 7 1, 3) := by decide +kernel
theorem dX6_stepsOf_74 : decode cX6_stepsOf 74 = .ok (.goto (-40), 3) := by decide +kernel
theorem dX6_stepsOf_77 : decode cX6_stepsOf 77 = .ok (.iload 6, 2) := by decide +kernel
theorem dX6_stepsOf_79 : decode cX6_stepsOf 79 = .ok (.istore 4, 2) := by decide +kernel
theorem dX6_stepsOf_81 : decode cX6_stepsOf 81 = .ok (.iinc 5 1, 3) := by decide +kernel
theorem dX6_stepsOf_84 : decode cX6_stepsOf 84 = .ok (.goto (-76), 3) := by decide +kernel
theorem dX6_stepsOf_87 : decode cX6_stepsOf 87 = .ok (.bipush (-4), 2) := by decide +kernel
theorem dX6_stepsOf_89 : decode cX6_stepsOf 89 = .ok (.ireturn, 1) := by decide +kernel
set_option maxRecDepth 20000 in
theorem ggX6_chain_X6_isPerson : GoodIn wsX6_chain wsX6_isPerson := goodIn_r _ [6, 1, 7, 8, 5, 9, 43, 44, 45, 46, 47, 48, 49, 50, 51, 52, 53, 54, 55, 56, 57, 58, 59, 60, 61, 62, 63, 64] (by decide +kernel) (by decide +kernel)
set_option maxRecDepth 20000 in
theorem gX6_chain_X6_isPerson : GoodIn wsX6_chain (wsV RX6 120 RX6 yX6_isPerson wsX6_isPerson) := goodIn_app (goodIn_of _ (by decide +kernel)) ggX6_chain_X6_isPerson
set_option maxRecDepth 20000 in
theorem ggX6_chain_X6_isGood : GoodIn wsX6_chain wsX6_isGood := goodIn_r _ [13, 1, 7, 8, 5, 9, 43, 44, 45, 46, 47, 48, 49, 50, 51, 52, 53, 54, 55, 56, 57, 58, 59, 60, 61, 62, 63, 64] (by decide +kernel) (by decide +kernel)
set_option maxRecDepth 20000 in
theorem gX6_chain_X6_isGood : GoodIn wsX6_chain (wsV RX6 127 RX6 yX6_isGood wsX6_isGood) := goodIn_app (goodIn_of _ (by decide +kernel)) ggX6_chain_X6_isGood
set_option maxRecDepth 20000 in
theorem ggX6_chain_X6_isIn : GoodIn wsX6_chain wsX6_isIn := goodIn_r _ [9] (by decide +kernel) (by decide +kernel)
set_option maxRecDepth 20000 in
theorem gX6_chain_X6_isIn : GoodIn wsX6_chain (va_wsS RX6 52 yX6_isIn wsX6_isIn) := goodIn_app (goodIn_of _ (by decide +kernel)) ggX6_chain_X6_isIn
set_option maxRecDepth 20000 in
theorem ggX6_chain_X6_stepsOf : GoodIn wsX6_chain wsX6_stepsOf := goodIn_r _ [17, 1, 18, 19, 5, 20, 21, 22, 23, 24, 25, 26, 27, 28, 29, 30, 31, 32, 33, 34, 35, 36, 37, 38, 39, 40, 41, 42, 43, 44, 45, 46, 47, 48, 49, 50, 51, 52, 53, 54, 55, 56, 57, 58, 59, 60, 61, 62, 63, 64] (by decide +kernel) (by decide +kernel)
set_option maxRecDepth 20000 in
theorem gX6_chain_X6_stepsOf : GoodIn wsX6_chain (wsV RX6 180 RX6 yX6_stepsOf wsX6_stepsOf) := goodIn_app (goodIn_of _ (by decide +kernel)) ggX6_chain_X6_stepsOf
set_option maxRecDepth 20000 in
theorem ggX6_chain_X6_wouldIn : GoodIn wsX6_chain wsX6_wouldIn := goodIn_r _ [27, 28, 29, 5, 30, 31, 32, 33, 34, 35, 36, 37, 38, 39, 40, 41, 42] (by decide +kernel) (by decide +kernel)
set_option maxRecDepth 20000 in
theorem gX6_chain_X6_wouldIn : GoodIn wsX6_chain (va_wsS RX6 79 yX6_wouldIn wsX6_wouldIn) := goodIn_app (goodIn_of _ (by decide +kernel)) ggX6_chain_X6_wouldIn
theorem dX6_chain_0 : decode cX6_chain 0 = .ok (.aload_n 0, 1) := by decide +kernel
theorem dX6_chain_1 : decode cX6_chain 1 = .ok (.iload_n 1, 1) := by decide +kernel
theorem dX6_chain_2 : decode cX6_chain 2 = .ok (.invokevirtual 120, 3) := by decide +kernel
theorem dX6_chain_5 : decode cX6_chain 5 = .ok (.ifCond .eq 29, 3) := by decide +kernel
theorem dX6_chain_8 : decode cX6_chain 8 = .ok (.aload_n 0, 1) := by decide +kernel
theorem dX6_chain_9 : decode cX6_chain 9 = .ok (.iload_n 2, 1) := by decide +kernel
theorem dX6_chain_10 : decode cX6_chain 10 = .ok (.invokevirtual 127, 3) := by decide +kernel
theorem dX6_chain_13 : decode cX6_chain 13 = .ok (.ifCond .eq 21, 3) := by decide +kernel
theorem dX6_chain_16 : decode cX6_chain 16 = .ok (.aload_n 0, 1) := by decide +kernel
theorem dX6_chain_17 : decode cX6_chain 17 = .ok (.iload_n 3, 1) := by decide +kernel
theorem dX6_chain_18 : decode cX6_chain 18 = .ok (.invokevirtual 127, 3) := by decide +kernel
theorem dX6_chain_21 : decode cX6_chain 21 = .ok (.ifCond .eq 13, 3) := by decide +kernel
theorem dX6_chain_24 : decode cX6_chain 24 = .ok (.iload 4, 2) := by decide +kernel
theorem dX6_chain_26 : decode cX6_chain 26 = .ok (.iconst 0, 1) := by decide +kernel
theorem dX6_chain_27 : decode cX6_chain 27 = .ok (.iconst 1, 1) := by decide +kernel
theorem dX6_chain_28 : decode cX6_chain 28 = .ok (.invokestatic 52, 3) := by decide +kernel
theorem dX6_chain_31 : decode cX6_chain 31 = .ok (.ifCond .ne 5, 3) := by decide +kernel
theorem dX6_chain_34 : decode cX6_chain 34 = .ok (.iconst (-1), 1) := by decide +kernel
theorem dX6_chain_35 : decode cX6_chain 35 = .ok (.ireturn, 1) := by decide +kernel
theorem dX6_chain_36 : decode cX6_chain 36 = .ok (.aload_n 0, 1) := by decide +kernel
theorem dX6_chain_37 : decode cX6_chain 37 = .ok (.iload_n 1, 1) := by decide +kernel
theorem dX6_chain_38 : decode cX6_chain 38 = .ok (.iload_n 2, 1) := by decide +kernel
theorem dX6_chain_39 : decode cX6_chain 39 = .ok (.iload_n 3, 1) := by decide +kernel
theorem dX6_chain_40 : decode cX6_chain 40 = .ok (.invokevirtual 180, 3) := by decide +kernel
theorem dX6_chain_43 : decode cX6_chain 43 = .ok (.istore 5, 2) := by decide +kernel
theorem dX6_chain_45 : decode cX6_chain 45 = .ok (.iload 4, 2) := by decide +kernel
theorem dX6_chain_47 : decode cX6_chain 47 = .ok (.ifCond .eq 8, 3) := by decide +kernel
theorem dX6_chain_50 : decode cX6_chain 50 = .ok (.iload 5, 2) := by decide +kernel
theorem dX6_chain_52 : decode cX6_chain 52 = .ok (.ifCond .gt 16, 3) := by decide +kernel
theorem dX6_chain_55 : decode cX6_chain 55 = .ok (.iload 4, 2) := by decide +kernel
theorem dX6_chain_57 : decode cX6_chain 57 = .ok (.ifCond .ne 8, 3) := by decide +kernel
theorem dX6_chain_60 : decode cX6_chain 60 = .ok (.iload 5, 2) := by decide +kernel
theorem dX6_chain_62 : decode cX6_chain 62 = .ok (.goto 5, 3) := by decide +kernel
theorem dX6_chain_65 : decode cX6_chain 65 = .ok (.bipush (-4), 2) := by decide +kernel
theorem dX6_chain_67 : decode cX6_chain 67 = .ok (.ireturn, 1) := by decide +kernel
theorem dX6_chain_68 : decode cX6_chain 68 = .ok (.iconst 0, 1) := by decide +kernel
theorem dX6_chain_69 : decode cX6_chain 69 = .ok (.istore 6, 2) := by decide +kernel
theorem dX6_chain_71 : decode cX6_chain 71 = .ok (.iload 6, 2) := by decide +kernel
theorem dX6_chain_73 : decode cX6_chain 73 = .ok (.aload_n 0, 1) := by decide +kernel
theorem dX6_chain_74 : decode cX6_chain 74 = .ok (.getfield 9, 3) := by decide +kernel
theorem dX6_chain_77 : decode cX6_chain 77 = .ok (.iconst 0, 1) := by decide +kernel
theorem dX6_chain_78 : decode cX6_chain 78 = .ok (.iaload, 1) := by decide +kernel
theorem dX6_chain_79 : decode cX6_chain 79 = .ok (.if_icmp .ge 41, 3) := by decide +kernel
theorem dX6_chain_82 : decode cX6_chain 82 = .ok (.aload_n 0, 1) := by decide +kernel
theorem dX6_chain_83 : decode cX6_chain 83 = .ok (.getfield 9, 3) := by decide +kernel
theorem dX6_chain_86 : decode cX6_chain 86 = .ok (.iload_n 1, 1) := by decide +kernel
theorem dX6_chain_87 : decode cX6_chain 87 = .ok (.iload_n 2, 1) := by decide +kernel
theorem dX6_chain_88 : decode cX6_chain 88 = .ok (.iload 6, 2) := by decide +kernel
theorem dX6_chain_90 : decode cX6_chain 90 = .ok (.invokestatic 79, 3) := by decide +kernel
theorem dX6_chain_93 : decode cX6_chain 93 = .ok (.ifCond .eq 21, 3) := by decide +kernel
theorem dX6_chain_96 : decode cX6_chain 96 = .ok (.aload_n 0, 1) := by decide +kernel
theorem dX6_chain_97 : decode cX6_chain 97 = .ok (.iload_n 1, 1) := by decide +kernel
theorem dX6_chain_98 : decode cX6_chain 98 = .ok (.iload 6, 2) := by decide +kernel
theorem dX6_chain_100 : decode cX6_chain 100 = .ok (.iload_n 3, 1) := by decide +kernel
theorem dX6_chain_101 : decode cX6_chain 101 = .ok (.invokevirtual 180, 3) := by decide +kernel
theorem dX6_chain_104 : decode cX6_chain 104 = .ok (.iload 5, 2) := by decide +kernel
theorem dX6_chain_106 : decode cX6_chain 106 = .ok (.iconst 1, 1) := by decide +kernel
theorem dX6_chain_107 : decode cX6_chain 107 = .ok (.isub, 1) := by decide +kernel
theorem dX6_chain_108 : decode cX6_chain 108 = .ok (.if_icmp .ne 6, 3) := by decide +kernel
theorem dX6_chain_111 : decode cX6_chain 111 = .ok (.iload 6, 2) := by decide +kernel
theorem dX6_chain_113 : decode cX6_chain 113 = .ok (.ireturn, 1) := by decide +kernel
theorem dX6_chain_114 : decode cX6_chain 114 = .ok (.iinc 6 1, 3) := by decide +kernel
theorem dX6_chain_117 : decode cX6_chain 117 = .ok (.goto (-46), 3) := by decide +kernel
theorem dX6_chain_120 : decode cX6_chain 120 = .ok (.bipush (-4), 2) := by decide +kernel
theorem dX6_chain_122 : decode cX6_chain 122 = .ok (.ireturn, 1) := by decide +kernel
set_option maxRecDepth 20000 in
theorem ggX6_climb_X6_isPerson : GoodIn wsX6_climb wsX6_isPerson := goodIn_r _ [6, 1, 7, 8, 5, 9, 43, 44, 45, 46, 47, 48, 49, 50, 51, 52, 53, 54, 55, 56, 57, 58, 59, 60, 61, 62, 63, 64] (by decide +kernel) (by decide +kernel)
set_option maxRecDepth 20000 in
theorem gX6_climb_X6_isPerson : GoodIn wsX6_climb (wsV RX6 120 RX6 yX6_isPerson wsX6_isPerson) := goodIn_app (goodIn_of _ (by decide +kernel)) ggX6_climb_X6_isPerson
set_option maxRecDepth 20000 in
theorem ggX6_climb_X6_isGood : GoodIn wsX6_climb wsX6_isGood := goodIn_r _ [13, 1, 7, 8, 5, 9, 43, 44, 45, 46, 47, 48, 49, 50, 51, 52, 53, 54, 55, 56, 57, 58, 59, 60, 61, 62, 63, 64] (by decide +kernel) (by decide +kernel)
set_option maxRecDepth 20000 in
theorem gX6_climb_X6_isGood : GoodIn wsX6_climb (wsV RX6 127 RX6 yX6_isGood wsX6_isGood) := goodIn_app (goodIn_of _ (by decide +kernel)) ggX6_climb_X6_isGood
set_option maxRecDepth 20000 in
theorem ggX6_climb_X6_stepsOf : GoodIn wsX6_climb wsX6_stepsOf := goodIn_r _ [17, 1, 18, 19, 5, 20, 21, 22, 23, 24, 25, 26, 27, 28, 29, 30, 31, 32, 33, 34, 35, 36, 37, 38, 39, 40, 41, 42, 43, 44, 45, 46, 47, 48, 49, 50, 51, 52, 53, 54, 55, 56, 57, 58, 59, 60, 61, 62, 63, 64] (by decide +kernel) (by decide +kernel)
set_option maxRecDepth 20000 in
theorem gX6_climb_X6_stepsOf : GoodIn wsX6_climb (wsV RX6 180 RX6 yX6_stepsOf wsX6_stepsOf) := goodIn_app (goodIn_of _ (by decide +kernel)) ggX6_climb_X6_stepsOf
set_option maxRecDepth 20000 in
theorem ggX6_climb_X6_worthIn : GoodIn wsX6_climb wsX6_worthIn := goodIn_r _ [36, 31, 32, 5, 33, 37, 38, 39, 40, 41, 42] (by decide +kernel) (by decide +kernel)
set_option maxRecDepth 20000 in
theorem gX6_climb_X6_worthIn : GoodIn wsX6_climb (va_wsS RX6 72 yX6_worthIn wsX6_worthIn) := goodIn_app (goodIn_of _ (by decide +kernel)) ggX6_climb_X6_worthIn
set_option maxRecDepth 20000 in
theorem ggX6_climb_X6_most : GoodIn wsX6_climb wsX6_most := goodIn_r _ [42] (by decide +kernel) (by decide +kernel)
set_option maxRecDepth 20000 in
theorem gX6_climb_X6_most : GoodIn wsX6_climb (va_wsS RX6 56 yX6_most wsX6_most) := goodIn_app (goodIn_of _ (by decide +kernel)) ggX6_climb_X6_most
theorem dX6_climb_0 : decode cX6_climb 0 = .ok (.aload_n 0, 1) := by decide +kernel
theorem dX6_climb_1 : decode cX6_climb 1 = .ok (.iload_n 1, 1) := by decide +kernel
theorem dX6_climb_2 : decode cX6_climb 2 = .ok (.invokevirtual 120, 3) := by decide +kernel
theorem dX6_climb_5 : decode cX6_climb 5 = .ok (.ifCond .eq 11, 3) := by decide +kernel
theorem dX6_climb_8 : decode cX6_climb 8 = .ok (.aload_n 0, 1) := by decide +kernel
theorem dX6_climb_9 : decode cX6_climb 9 = .ok (.iload_n 2, 1) := by decide +kernel
theorem dX6_climb_10 : decode cX6_climb 10 = .ok (.invokevirtual 127, 3) := by decide +kernel
theorem dX6_climb_13 : decode cX6_climb 13 = .ok (.ifCond .ne 5, 3) := by decide +kernel
theorem dX6_climb_16 : decode cX6_climb 16 = .ok (.iconst (-1), 1) := by decide +kernel
theorem dX6_climb_17 : decode cX6_climb 17 = .ok (.ireturn, 1) := by decide +kernel
theorem dX6_climb_18 : decode cX6_climb 18 = .ok (.iconst 0, 1) := by decide +kernel
theorem dX6_climb_19 : decode cX6_climb 19 = .ok (.istore_n 3, 1) := by decide +kernel
theorem dX6_climb_20 : decode cX6_climb 20 = .ok (.iconst 0, 1) := by decide +kernel
theorem dX6_climb_21 : decode cX6_climb 21 = .ok (.istore 4, 2) := by decide +kernel
theorem dX6_climb_23 : decode cX6_climb 23 = .ok (.iload 4, 2) := by decide +kernel
theorem dX6_climb_25 : decode cX6_climb 25 = .ok (.aload_n 0, 1) := by decide +kernel
theorem dX6_climb_26 : decode cX6_climb 26 = .ok (.getfield 9, 3) := by decide +kernel
theorem dX6_climb_29 : decode cX6_climb 29 = .ok (.iconst 0, 1) := by decide +kernel
theorem dX6_climb_30 : decode cX6_climb 30 = .ok (.iaload, 1) := by decide +kernel
theorem dX6_climb_31 : decode cX6_climb 31 = .ok (.if_icmp .ge 45, 3) := by decide +kernel
theorem dX6_climb_34 : decode cX6_climb 34 = .ok (.aload_n 0, 1) := by decide +kernel
theorem dX6_climb_35 : decode cX6_climb 35 = .ok (.iload_n 1, 1) := by decide +kernel
theorem dX6_climb_36 : decode cX6_climb 36 = .ok (.iload_n 2, 1) := by decide +kernel
theorem dX6_climb_37 : decode cX6_climb 37 = .ok (.iload 4, 2) := by decide +kernel
theorem dX6_climb_39 : decode cX6_climb 39 = .ok (.invokevirtual 180, 3) := by decide +kernel
theorem dX6_climb_42 : decode cX6_climb 42 = .ok (.ifCond .lt 28, 3) := by decide +kernel
theorem dX6_climb_45 : decode cX6_climb 45 = .ok (.iload_n 3, 1) := by decide +kernel
theorem dX6_climb_46 : decode cX6_climb 46 = .ok (.aload_n 0, 1) := by decide +kernel
theorem dX6_climb_47 : decode cX6_climb 47 = .ok (.getfield 9, 3) := by decide +kernel
theorem dX6_climb_50 : decode cX6_climb 50 = .ok (.iload_n 1, 1) := by decide +kernel
theorem dX6_climb_51 : decode cX6_climb 51 = .ok (.iload 4, 2) := by decide +kernel
theorem dX6_climb_53 : decode cX6_climb 53 = .ok (.invokestatic 72, 3) := by decide +kernel
theorem dX6_climb_56 : decode cX6_climb 56 = .ok (.aload_n 0, 1) := by decide +kernel
theorem dX6_climb_57 : decode cX6_climb 57 = .ok (.getfield 9, 3) := by decide +kernel
theorem dX6_climb_60 : decode cX6_climb 60 = .ok (.iload_n 1, 1) := by decide +kernel
theorem dX6_climb_61 : decode cX6_climb 61 = .ok (.iload_n 2, 1) := by decide +kernel
theorem dX6_climb_62 : decode cX6_climb 62 = .ok (.invokestatic 72, 3) := by decide +kernel
theorem dX6_climb_65 : decode cX6_climb 65 = .ok (.isub, 1) := by decide +kernel
theorem dX6_climb_66 : decode cX6_climb 66 = .ok (.invokestatic 56, 3) := by decide +kernel
theorem dX6_climb_69 : decode cX6_climb 69 = .ok (.istore_n 3, 1) := by decide +kernel
theorem dX6_climb_70 : decode cX6_climb 70 = .ok (.iinc 4 1, 3) := by decide +kernel
theorem dX6_climb_73 : decode cX6_climb 73 = .ok (.goto (-50), 3) := by decide +kernel
theorem dX6_climb_76 : decode cX6_climb 76 = .ok (.iload_n 3, 1) := by decide +kernel
theorem dX6_climb_77 : decode cX6_climb 77 = .ok (.ireturn, 1) := by decide +kernel
set_option maxRecDepth 20000 in
theorem ggX6_clears_X6_has : GoodIn wsX6_clears wsX6_has := goodIn_r _ [8] (by decide +kernel) (by decide +kernel)
set_option maxRecDepth 20000 in
theorem gX6_clears_X6_has : GoodIn wsX6_clears (va_wsS RX6 177 yX6_has wsX6_has) := goodIn_app (goodIn_of _ (by decide +kernel)) ggX6_clears_X6_has
set_option maxRecDepth 20000 in
theorem ggX6_clears_X6_canPayIn : GoodIn wsX6_clears wsX6_canPayIn := goodIn_r _ [11, 12, 13, 7, 14, 15, 16, 17, 18, 19, 20, 21, 22, 23, 24, 25, 26, 27, 28, 29, 30, 31, 32] (by decide +kernel) (by decide +kernel)
set_option maxRecDepth 20000 in
theorem gX6_clears_X6_canPayIn : GoodIn wsX6_clears (va_wsS RX6 83 yX6_canPayIn wsX6_canPayIn) := goodIn_app (goodIn_of _ (by decide +kernel)) ggX6_clears_X6_canPayIn
set_option maxRecDepth 20000 in
theorem ggX6_clears_X6_clears : GoodIn wsX6_clears wsX6_clears := goodIn_r _ [0, 1, 2, 3, 4, 5, 6, 7, 8, 9, 10, 11, 12, 13, 14, 15, 16, 17, 18, 19, 20, 21, 22, 23, 24, 25, 26, 27, 28, 29, 30, 31, 32, 33, 34, 35, 36, 37, 38, 39, 40, 41, 42, 43, 44, 45, 46, 47, 48, 49, 50, 51, 52, 53, 54, 55, 56, 57] (by decide +kernel) (by decide +kernel)
set_option maxRecDepth 20000 in
theorem gX6_clears_X6_clears : GoodIn wsX6_clears (wsV RX6 187 RX6 yX6_clears wsX6_clears) := goodIn_app (goodIn_of _ (by decide +kernel)) ggX6_clears_X6_clears
theorem dX6_clears_0 : decode cX6_clears 0 = .ok (.iload_n 1, 1) := by decide +kernel
theorem dX6_clears_1 : decode cX6_clears 1 = .ok (.aload_n 0, 1) := by decide +kernel
theorem dX6_clears_2 : decode cX6_clears 2 = .ok (.getfield 9, 3) := by decide +kernel
theorem dX6_clears_5 : decode cX6_clears 5 = .ok (.iconst 2, 1) := by decide +kernel
theorem dX6_clears_6 : decode cX6_clears 6 = .ok (.iaload, 1) := by decide +kernel
theorem dX6_clears_7 : decode cX6_clears 7 = .ok (.if_icmp .ne 48, 3) := by decide +kernel
theorem dX6_clears_10 : decode cX6_clears 10 = .ok (.iload_n 3, 1) := by decide +kernel
theorem dX6_clears_11 : decode cX6_clears 11 = .ok (.aload_n 0, 1) := by decide +kernel
theorem dX6_clears_12 : decode cX6_clears 12 = .ok (.getfield 184, 3) := by decide +kernel
theorem dX6_clears_15 : decode cX6_clears 15 = .ok (.if_icmp .gt 4, 3) := by decide +kernel
theorem dX6_clears_18 : decode cX6_clears 18 = .ok (.return_, 1) := by decide +kernel
theorem dX6_clears_19 : decode cX6_clears 19 = .ok (.aload_n 0, 1) := by decide +kernel
theorem dX6_clears_20 : decode cX6_clears 20 = .ok (.iload_n 3, 1) := by decide +kernel
theorem dX6_clears_21 : decode cX6_clears 21 = .ok (.putfield 184, 3) := by decide +kernel
theorem dX6_clears_24 : decode cX6_clears 24 = .ok (.iconst 0, 1) := by decide +kernel
theorem dX6_clears_25 : decode cX6_clears 25 = .ok (.istore 4, 2) := by decide +kernel
theorem dX6_clears_27 : decode cX6_clears 27 = .ok (.iload 4, 2) := by decide +kernel
theorem dX6_clears_29 : decode cX6_clears 29 = .ok (.bipush 8, 2) := by decide +kernel
theorem dX6_clears_31 : decode cX6_clears 31 = .ok (.if_icmp .ge 23, 3) := by decide +kernel
theorem dX6_clears_34 : decode cX6_clears 34 = .ok (.aload_n 0, 1) := by decide +kernel
theorem dX6_clears_35 : decode cX6_clears 35 = .ok (.getfield 28, 3) := by decide +kernel
theorem dX6_clears_38 : decode cX6_clears 38 = .ok (.iload 4, 2) := by decide +kernel
theorem dX6_clears_40 : decode cX6_clears 40 = .ok (.aload_n 0, 1) := by decide +kernel
theorem dX6_clears_41 : decode cX6_clears 41 = .ok (.getfield 25, 3) := by decide +kernel
theorem dX6_clears_44 : decode cX6_clears 44 = .ok (.iload 4, 2) := by decide +kernel
theorem dX6_clears_46 : decode cX6_clears 46 = .ok (.iaload, 1) := by decide +kernel
theorem dX6_clears_47 : decode cX6_clears 47 = .ok (.iastore, 1) := by decide +kernel
theorem dX6_clears_48 : decode cX6_clears 48 = .ok (.iinc 4 1, 3) := by decide +kernel
theorem dX6_clears_51 : decode cX6_clears 51 = .ok (.goto (-24), 3) := by decide +kernel
theorem dX6_clears_54 : decode cX6_clears 54 = .ok (.return_, 1) := by decide +kernel
theorem dX6_clears_55 : decode cX6_clears 55 = .ok (.iconst 0, 1) := by decide +kernel
theorem dX6_clears_56 : decode cX6_clears 56 = .ok (.istore 4, 2) := by decide +kernel
theorem dX6_clears_58 : decode cX6_clears 58 = .ok (.iload 4, 2) := by decide +kernel
theorem dX6_clears_60 : decode cX6_clears 60 = .ok (.aload_n 0, 1) := by decide +kernel
theorem dX6_clears_61 : decode cX6_clears 61 = .ok (.getfield 9, 3) := by decide +kernel
theorem dX6_clears_64 : decode cX6_clears 64 = .ok (.iconst 0, 1) := by decide +kernel
theorem dX6_clears_65 : decode cX6_clears 65 = .ok (.iaload, 1) := by decide +kernel
theorem dX6_clears_66 : decode cX6_clears 66 = .ok (.if_icmp .ge 58, 3) := by decide +kernel
theorem dX6_clears_69 : decode cX6_clears 69 = .ok (.iload_n 2, 1) := by decide +kernel
theorem dX6_clears_70 : decode cX6_clears 70 = .ok (.iload 4, 2) := by decide +kernel
theorem dX6_clears_72 : decode cX6_clears 72 = .ok (.invokestatic 177, 3) := by decide +kernel
theorem dX6_clears_75 : decode cX6_clears 75 = .ok (.ifCond .ne 43, 3) := by decide +kernel
theorem dX6_clears_78 : decode cX6_clears 78 = .ok (.aload_n 0, 1) := by decide +kernel
theorem dX6_clears_79 : decode cX6_clears 79 = .ok (.getfield 9, 3) := by decide +kernel
theorem dX6_clears_82 : decode cX6_clears 82 = .ok (.iload_n 1, 1) := by decide +kernel
theorem dX6_clears_83 : decode cX6_clears 83 = .ok (.iload 4, 2) := by decide +kernel
theorem dX6_clears_85 : decode cX6_clears 85 = .ok (.invokestatic 83, 3) := by decide +kernel
theorem dX6_clears_88 : decode cX6_clears 88 = .ok (.ifCond .ne 6, 3) := by decide +kernel
theorem dX6_clears_91 : decode cX6_clears 91 = .ok (.goto 27, 3) := by decide +kernel
theorem dX6_clears_94 : decode cX6_clears 94 = .ok (.aload_n 0, 1) := by decide +kernel
theorem dX6_clears_95 : decode cX6_clears 95 = .ok (.getfield 25, 3) := by decide +kernel
theorem dX6_clears_98 : decode cX6_clears 98 = .ok (.iload_n 1, 1) := by decide +kernel
theorem dX6_clears_99 : decode cX6_clears 99 = .ok (.iload 4, 2) := by decide +kernel
theorem dX6_clears_101 : decode cX6_clears 101 = .ok (.iastore, 1) := by decide +kernel
theorem dX6_clears_102 : decode cX6_clears 102 = .ok (.aload_n 0, 1) := by decide +kernel
theorem dX6_clears_103 : decode cX6_clears 103 = .ok (.iload_n 1, 1) := by decide +kernel
theorem dX6_clears_104 : decode cX6_clears 104 = .ok (.iconst 1, 1) := by decide +kernel
theorem dX6_clears_105 : decode cX6_clears 105 = .ok (.iadd, 1) := by decide +kernel
theorem dX6_clears_106 : decode cX6_clears 106 = .ok (.iload_n 2, 1) := by decide +kernel
theorem dX6_clears_107 : decode cX6_clears 107 = .ok (.iconst 1, 1) := by decide +kernel
theorem dX6_clears_108 : decode cX6_clears 108 = .ok (.iload 4, 2) := by decide +kernel
theorem dX6_clears_110 : decode cX6_clears 110 = .ok (.ishl, 1) := by decide +kernel
theorem dX6_clears_111 : decode cX6_clears 111 = .ok (.ior, 1) := by decide +kernel
theorem dX6_clears_112 : decode cX6_clears 112 = .ok (.iload_n 3, 1) := by decide +kernel
theorem dX6_clears_113 : decode cX6_clears 113 = .ok (.iconst 1, 1) := by decide +kernel
theorem dX6_clears_114 : decode cX6_clears 114 = .ok (.iadd, 1) := by decide +kernel
theorem dX6_clears_115 : decode cX6_clears 115 = .ok (.invokevirtual 187, 3) := by decide +kernel
theorem dX6_clears_118 : decode cX6_clears 118 = .ok (.iinc 4 1, 3) := by decide +kernel
theorem dX6_clears_121 : decode cX6_clears 121 = .ok (.goto (-63), 3) := by decide +kernel
theorem dX6_clears_124 : decode cX6_clears 124 = .ok (.aload_n 0, 1) := by decide +kernel
theorem dX6_clears_125 : decode cX6_clears 125 = .ok (.getfield 25, 3) := by decide +kernel
theorem dX6_clears_128 : decode cX6_clears 128 = .ok (.iload_n 1, 1) := by decide +kernel
theorem dX6_clears_129 : decode cX6_clears 129 = .ok (.bipush (-4), 2) := by decide +kernel
theorem dX6_clears_131 : decode cX6_clears 131 = .ok (.iastore, 1) := by decide +kernel
theorem dX6_clears_132 : decode cX6_clears 132 = .ok (.aload_n 0, 1) := by decide +kernel
theorem dX6_clears_133 : decode cX6_clears 133 = .ok (.iload_n 1, 1) := by decide +kernel
theorem dX6_clears_134 : decode cX6_clears 134 = .ok (.iconst 1, 1) := by decide +kernel
theorem dX6_clears_135 : decode cX6_clears 135 = .ok (.iadd, 1) := by decide +kernel
theorem dX6_clears_136 : decode cX6_clears 136 = .ok (.iload_n 2, 1) := by decide +kernel
theorem dX6_clears_137 : decode cX6_clears 137 = .ok (.iload_n 3, 1) := by decide +kernel
theorem dX6_clears_138 : decode cX6_clears 138 = .ok (.invokevirtual 187, 3) := by decide +kernel
theorem dX6_clears_141 : decode cX6_clears 141 = .ok (.return_, 1) := by decide +kernel
set_option maxRecDepth 20000 in
theorem ggX6_clearing_X6_isLoan : GoodIn wsX6_clearing wsX6_isLoan := goodIn_r _ [7, 8, 9, 10, 6, 11, 44, 45, 46, 47, 48, 49, 50, 51, 52, 53, 54, 55, 56, 57, 58, 59, 60, 61, 62, 63, 64, 65] (by decide +kernel) (by decide +kernel)
set_option maxRecDepth 20000 in
theorem gX6_clearing_X6_isLoan : GoodIn wsX6_clearing (wsV RX6 158 RX6 yX6_isLoan wsX6_isLoan) := goodIn_app (goodIn_of _ (by decide +kernel)) ggX6_clearing_X6_isLoan
set_option maxRecDepth 20000 in
theorem ggX6_clearing_X6_clears : GoodIn wsX6_clearing wsX6_clears := goodIn_r _ [15, 8, 1, 2, 16, 17, 18, 6, 19, 20, 21, 22, 23, 24, 25, 26, 27, 28, 29, 30, 31, 32, 33, 34, 35, 36, 37, 38, 39, 40, 41, 42, 43, 12, 13, 14, 44, 45, 46, 47, 48, 49, 50, 51, 52, 53, 54, 55, 56, 57, 58, 59, 60, 61, 62, 63, 64, 65] (by decide +kernel) (by decide +kernel)
set_option maxRecDepth 20000 in
theorem gX6_clearing_X6_clears : GoodIn wsX6_clearing (wsV RX6 187 RX6 yX6_clears wsX6_clears) := goodIn_app (goodIn_of _ (by decide +kernel)) ggX6_clearing_X6_clears
theorem dX6_clearing_0 : decode cX6_clearing 0 = .ok (.iload_n 1, 1) := by decide +kernel
theorem dX6_clearing_1 : decode cX6_clearing 1 = .ok (.iconst (-1), 1) := by decide +kernel
theorem dX6_clearing_2 : decode cX6_clearing 2 = .ok (.if_icmp .eq 13, 3) := by decide +kernel
theorem dX6_clearing_5 : decode cX6_clearing 5 = .ok (.aload_n 0, 1) := by decide +kernel
theorem dX6_clearing_6 : decode cX6_clearing 6 = .ok (.iload_n 1, 1) := by decide +kernel
theorem dX6_clearing_7 : decode cX6_clearing 7 = .ok (.invokevirtual 158, 3) := by decide +kernel
theorem dX6_clearing_10 : decode cX6_clearing 10 = .ok (.ifCond .ne 5, 3) := by decide +kernel
theorem dX6_clearing_13 : decode cX6_clearing 13 = .ok (.iconst (-1), 1) := by decide +kernel
theorem dX6_clearing_14 : decode cX6_clearing 14 = .ok (.ireturn, 1) := by decide +kernel
theorem dX6_clearing_15 : decode cX6_clearing 15 = .ok (.aload_n 0, 1) := by decide +kernel
theorem dX6_clearing_16 : decode cX6_clearing 16 = .ok (.iconst (-1), 1) := by decide +kernel
theorem dX6_clearing_17 : decode cX6_clearing 17 = .ok (.putfield 184, 3) := by decide +kernel
theorem dX6_clearing_20 : decode cX6_clearing 20 = .ok (.aload_n 0, 1) := by decide +kernel
theorem dX6_clearing_21 : decode cX6_clearing 21 = .ok (.iconst 0, 1) := by decide +kernel
theorem dX6_clearing_22 : decode cX6_clearing 22 = .ok (.iconst 0, 1) := by decide +kernel
theorem dX6_clearing_23 : decode cX6_clearing 23 = .ok (.iconst 0, 1) := by decide +kernel
theorem dX6_clearing_24 : decode cX6_clearing 24 = .ok (.invokevirtual 187, 3) := by decide +kernel
theorem dX6_clearing_27 : decode cX6_clearing 27 = .ok (.iload_n 1, 1) := by decide +kernel
theorem dX6_clearing_28 : decode cX6_clearing 28 = .ok (.ifCond .ge 10, 3) := by decide +kernel
theorem dX6_clearing_31 : decode cX6_clearing 31 = .ok (.aload_n 0, 1) := by decide +kernel
theorem dX6_clearing_32 : decode cX6_clearing 32 = .ok (.getfield 184, 3) := by decide +kernel
theorem dX6_clearing_35 : decode cX6_clearing 35 = .ok (.goto 9, 3) := by decide +kernel
theorem dX6_clearing_38 : decode cX6_clearing 38 = .ok (.aload_n 0, 1) := by decide +kernel
theorem dX6_clearing_39 : decode cX6_clearing 39 = .ok (.getfield 28, 3) := by decide +kernel
theorem dX6_clearing_42 : decode cX6_clearing 42 = .ok (.iload_n 1, 1) := by decide +kernel
theorem dX6_clearing_43 : decode cX6_clearing 43 = .ok (.iaload, 1) := by decide +kernel
theorem dX6_clearing_44 : decode cX6_clearing 44 = .ok (.ireturn, 1) := by decide +kernel
set_option maxRecDepth 20000 in
theorem ggX6_quarrelIn_X6_worthIn : GoodIn wsX6_quarrelIn wsX6_worthIn := goodIn_r _ [4, 5, 6, 3, 7, 8, 9, 10, 11, 12, 13] (by decide +kernel) (by decide +kernel)
set_option maxRecDepth 20000 in
theorem gX6_quarrelIn_X6_worthIn : GoodIn wsX6_quarrelIn (va_wsS RX6 72 yX6_worthIn wsX6_worthIn) := goodIn_app (goodIn_of _ (by decide +kernel)) ggX6_quarrelIn_X6_worthIn
theorem dX6_quarrelIn_0 : decode cX6_quarrelIn 0 = .ok (.iconst 0, 1) := by decide +kernel
theorem dX6_quarrelIn_1 : decode cX6_quarrelIn 1 = .ok (.istore_n 3, 1) := by decide +kernel
theorem dX6_quarrelIn_2 : decode cX6_quarrelIn 2 = .ok (.iconst 0, 1) := by decide +kernel
theorem dX6_quarrelIn_3 : decode cX6_quarrelIn 3 = .ok (.istore 4, 2) := by decide +kernel
theorem dX6_quarrelIn_5 : decode cX6_quarrelIn 5 = .ok (.iconst 0, 1) := by decide +kernel
theorem dX6_quarrelIn_6 : decode cX6_quarrelIn 6 = .ok (.istore 5, 2) := by decide +kernel
theorem dX6_quarrelIn_8 : decode cX6_quarrelIn 8 = .ok (.iload 5, 2) := by decide +kernel
theorem dX6_quarrelIn_10 : decode cX6_quarrelIn 10 = .ok (.aload_n 0, 1) := by decide +kernel
theorem dX6_quarrelIn_11 : decode cX6_quarrelIn 11 = .ok (.iconst 1, 1) := by decide +kernel
theorem dX6_quarrelIn_12 : decode cX6_quarrelIn 12 = .ok (.iaload, 1) := by decide +kernel
theorem dX6_quarrelIn_13 : decode cX6_quarrelIn 13 = .ok (.if_icmp .ge 61, 3) := by decide +kernel
theorem dX6_quarrelIn_16 : decode cX6_quarrelIn 16 = .ok (.iload_n 3, 1) := by decide +kernel
theorem dX6_quarrelIn_17 : decode cX6_quarrelIn 17 = .ok (.aload_n 0, 1) := by decide +kernel
theorem dX6_quarrelIn_18 : decode cX6_quarrelIn 18 = .ok (.iload 5, 2) := by decide +kernel
theorem dX6_quarrelIn_20 : decode cX6_quarrelIn 20 = .ok (.iload_n 1, 1) := by decide +kernel
theorem dX6_quarrelIn_21 : decode cX6_quarrelIn 21 = .ok (.invokestatic 72, 3) := by decide +kernel
theorem dX6_quarrelIn_24 : decode cX6_quarrelIn 24 = .ok (.aload_n 0, 1) := by decide +kernel
theorem dX6_quarrelIn_25 : decode cX6_quarrelIn 25 = .ok (.iload 5, 2) := by decide +kernel
theorem dX6_quarrelIn_27 : decode cX6_quarrelIn 27 = .ok (.iload_n 2, 1) := by decide +kernel
theorem dX6_quarrelIn_28 : decode cX6_quarrelIn 28 = .ok (.invokestatic 72, 3) := by decide +kernel
theorem dX6_quarrelIn_31 : decode cX6_quarrelIn 31 = .ok (.if_icmp .le 7, 3) := by decide +kernel
theorem dX6_quarrelIn_34 : decode cX6_quarrelIn 34 = .ok (.iconst 1, 1) := by decide +kernel
theorem dX6_quarrelIn_35 : decode cX6_quarrelIn 35 = .ok (.goto 4, 3) := by decide +kernel
theorem dX6_quarrelIn_38 : decode cX6_quarrelIn 38 = .ok (.iconst 0, 1) := by decide +kernel
theorem dX6_quarrelIn_39 : decode cX6_quarrelIn 39 = .ok (.ior, 1) := by decide +kernel
theorem dX6_quarrelIn_40 : decode cX6_quarrelIn 40 = .ok (.istore_n 3, 1) := by decide +kernel
theorem dX6_quarrelIn_41 : decode cX6_quarrelIn 41 = .ok (.iload 4, 2) := by decide +kernel
theorem dX6_quarrelIn_43 : decode cX6_quarrelIn 43 = .ok (.aload_n 0, 1) := by decide +kernel
theorem dX6_quarrelIn_44 : decode cX6_quarrelIn 44 = .ok (.iload 5, 2) := by decide +kernel
theorem dX6_quarrelIn_46 : decode cX6_quarrelIn 46 = .ok (.iload_n 1, 1) := by decide +kernel
theorem dX6_quarrelIn_47 : decode cX6_quarrelIn 47 = .ok (.invokestatic 72, 3) := by decide +kernel
theorem dX6_quarrelIn_50 : decode cX6_quarrelIn 50 = .ok (.aload_n 0, 1) := by decide +kernel
theorem dX6_quarrelIn_51 : decode cX6_quarrelIn 51 = .ok (.iload 5, 2) := by decide +kernel
theorem dX6_quarrelIn_53 : decode cX6_quarrelIn 53 = .ok (.iload_n 2, 1) := by decide +kernel
theorem dX6_quarrelIn_54 : decode cX6_quarrelIn 54 = .ok (.invokestatic 72, 3) := by decide +kernel
theorem dX6_quarrelIn_57 : decode cX6_quarrelIn 57 = .ok (.if_icmp .ge 7, 3) := by decide +kernel
theorem dX6_quarrelIn_60 : decode cX6_quarrelIn 60 = .ok (.iconst 1, 1) := by decide +kernel
theorem dX6_quarrelIn_61 : decode cX6_quarrelIn 61 = .ok (.goto 4, 3) := by decide +kernel
theorem dX6_quarrelIn_64 : decode cX6_quarrelIn 64 = .ok (.iconst 0, 1) := by decide +kernel
theorem dX6_quarrelIn_65 : decode cX6_quarrelIn 65 = .ok (.ior, 1) := by decide +kernel
theorem dX6_quarrelIn_66 : decode cX6_quarrelIn 66 = .ok (.istore 4, 2) := by decide +kernel
theorem dX6_quarrelIn_68 : decode cX6_quarrelIn 68 = .ok (.iinc 5 1, 3) := by decide +kernel
theorem dX6_quarrelIn_71 : decode cX6_quarrelIn 71 = .ok (.goto (-63), 3) := by decide +kernel
theorem dX6_quarrelIn_74 : decode cX6_quarrelIn 74 = .ok (.iload_n 3, 1) := by decide +kernel
theorem dX6_quarrelIn_75 : decode cX6_quarrelIn 75 = .ok (.ifCond .eq 12, 3) := by decide +kernel
theorem dX6_quarrelIn_78 : decode cX6_quarrelIn 78 = .ok (.iload 4, 2) := by decide +kernel
theorem dX6_quarrelIn_80 : decode cX6_quarrelIn 80 = .ok (.ifCond .eq 7, 3) := by decide +kernel
theorem dX6_quarrelIn_83 : decode cX6_quarrelIn 83 = .ok (.iconst 1, 1) := by decide +kernel
theorem dX6_quarrelIn_84 : decode cX6_quarrelIn 84 = .ok (.goto 4, 3) := by decide +kernel
theorem dX6_quarrelIn_87 : decode cX6_quarrelIn 87 = .ok (.iconst 0, 1) := by decide +kernel
theorem dX6_quarrelIn_88 : decode cX6_quarrelIn 88 = .ok (.ireturn, 1) := by decide +kernel
set_option maxRecDepth 20000 in
theorem ggX6_quarrel_X6_isGood : GoodIn wsX6_quarrel wsX6_isGood := goodIn_r _ [6, 1, 7, 8, 5, 9, 25, 26, 27, 28, 29, 30, 31, 32, 33, 34, 35, 36, 37, 38, 39, 40, 41, 42, 43, 44, 45, 46] (by decide +kernel) (by decide +kernel)
set_option maxRecDepth 20000 in
theorem gX6_quarrel_X6_isGood : GoodIn wsX6_quarrel (wsV RX6 127 RX6 yX6_isGood wsX6_isGood) := goodIn_app (goodIn_of _ (by decide +kernel)) ggX6_quarrel_X6_isGood
set_option maxRecDepth 20000 in
theorem ggX6_quarrel_X6_quarrelIn : GoodIn wsX6_quarrel wsX6_quarrelIn := goodIn_r _ [12, 13, 14, 5, 15, 16, 17, 18, 19, 20, 21, 22, 23, 24] (by decide +kernel) (by decide +kernel)
set_option maxRecDepth 20000 in
theorem gX6_quarrel_X6_quarrelIn : GoodIn wsX6_quarrel (va_wsS RX6 190 yX6_quarrelIn wsX6_quarrelIn) := goodIn_app (goodIn_of _ (by decide +kernel)) ggX6_quarrel_X6_quarrelIn
theorem dX6_quarrel_0 : decode cX6_quarrel 0 = .ok (.aload_n 0, 1) := by decide +kernel
theorem dX6_quarrel_1 : decode cX6_quarrel 1 = .ok (.iload_n 1, 1) := by decide +kernel
theorem dX6_quarrel_2 : decode cX6_quarrel 2 = .ok (.invokevirtual 127, 3) := by decide +kernel
theorem dX6_quarrel_5 : decode cX6_quarrel 5 = .ok (.ifCond .eq 28, 3) := by decide +kernel
theorem dX6_quarrel_8 : decode cX6_quarrel 8 = .ok (.aload_n 0, 1) := by decide +kernel
theorem dX6_quarrel_9 : decode cX6_quarrel 9 = .ok (.iload_n 2, 1) := by decide +kernel
theorem dX6_quarrel_10 : decode cX6_quarrel 10 = .ok (.invokevirtual 127, 3) := by decide +kernel
theorem dX6_quarrel_13 : decode cX6_quarrel 13 = .ok (.ifCond .eq 20, 3) := by decide +kernel
theorem dX6_quarrel_16 : decode cX6_quarrel 16 = .ok (.iload_n 1, 1) := by decide +kernel
theorem dX6_quarrel_17 : decode cX6_quarrel 17 = .ok (.iload_n 2, 1) := by decide +kernel
theorem dX6_quarrel_18 : decode cX6_quarrel 18 = .ok (.if_icmp .eq 15, 3) := by decide +kernel
theorem dX6_quarrel_21 : decode cX6_quarrel 21 = .ok (.aload_n 0, 1) := by decide +kernel
theorem dX6_quarrel_22 : decode cX6_quarrel 22 = .ok (.getfield 9, 3) := by decide +kernel
theorem dX6_quarrel_25 : decode cX6_quarrel 25 = .ok (.iload_n 1, 1) := by decide +kernel
theorem dX6_quarrel_26 : decode cX6_quarrel 26 = .ok (.iload_n 2, 1) := by decide +kernel
theorem dX6_quarrel_27 : decode cX6_quarrel 27 = .ok (.invokestatic 190, 3) := by decide +kernel
theorem dX6_quarrel_30 : decode cX6_quarrel 30 = .ok (.goto 4, 3) := by decide +kernel
theorem dX6_quarrel_33 : decode cX6_quarrel 33 = .ok (.iconst (-1), 1) := by decide +kernel
theorem dX6_quarrel_34 : decode cX6_quarrel 34 = .ok (.ireturn, 1) := by decide +kernel
theorem dX6_fitsList_0 : decode cX6_fitsList 0 = .ok (.iconst 0, 1) := by decide +kernel
theorem dX6_fitsList_1 : decode cX6_fitsList 1 = .ok (.istore_n 2, 1) := by decide +kernel
theorem dX6_fitsList_2 : decode cX6_fitsList 2 = .ok (.iload_n 2, 1) := by decide +kernel
theorem dX6_fitsList_3 : decode cX6_fitsList 3 = .ok (.aload_n 0, 1) := by decide +kernel
theorem dX6_fitsList_4 : decode cX6_fitsList 4 = .ok (.getfield 46, 3) := by decide +kernel
theorem dX6_fitsList_7 : decode cX6_fitsList 7 = .ok (.aload_n 0, 1) := by decide +kernel
theorem dX6_fitsList_8 : decode cX6_fitsList 8 = .ok (.getfield 193, 3) := by decide +kernel
theorem dX6_fitsList_11 : decode cX6_fitsList 11 = .ok (.iaload, 1) := by decide +kernel
theorem dX6_fitsList_12 : decode cX6_fitsList 12 = .ok (.if_icmp .ge 104, 3) := by decide +kernel
theorem dX6_fitsList_15 : decode cX6_fitsList 15 = .ok (.aload_n 0, 1) := by decide +kernel
theorem dX6_fitsList_16 : decode cX6_fitsList 16 = .ok (.getfield 49, 3) := by decide +kernel
theorem dX6_fitsList_19 : decode cX6_fitsList 19 = .ok (.bipush 100, 2) := by decide +kernel
theorem dX6_fitsList_21 : decode cX6_fitsList 21 = .ok (.aload_n 0, 1) := by decide +kernel
theorem dX6_fitsList_22 : decode cX6_fitsList 22 = .ok (.getfield 193, 3) := by decide +kernel
theorem dX6_fitsList_25 : decode cX6_fitsList 25 = .ok (.imul, 1) := by decide +kernel
theorem dX6_fitsList_26 : decode cX6_fitsList 26 = .ok (.iload_n 2, 1) := by decide +kernel
theorem dX6_fitsList_27 : decode cX6_fitsList 27 = .ok (.iadd, 1) := by decide +kernel
theorem dX6_fitsList_28 : decode cX6_fitsList 28 = .ok (.iaload, 1) := by decide +kernel
theorem dX6_fitsList_29 : decode cX6_fitsList 29 = .ok (.istore_n 3, 1) := by decide +kernel
theorem dX6_fitsList_30 : decode cX6_fitsList 30 = .ok (.aload_n 0, 1) := by decide +kernel
theorem dX6_fitsList_31 : decode cX6_fitsList 31 = .ok (.getfield 49, 3) := by decide +kernel
theorem dX6_fitsList_34 : decode cX6_fitsList 34 = .ok (.bipush 100, 2) := by decide +kernel
theorem dX6_fitsList_36 : decode cX6_fitsList 36 = .ok (.aload_n 0, 1) := by decide +kernel
theorem dX6_fitsList_37 : decode cX6_fitsList 37 = .ok (.getfield 193, 3) := by decide +kernel
theorem dX6_fitsList_40 : decode cX6_fitsList 40 = .ok (.imul, 1) := by decide +kernel
theorem dX6_fitsList_41 : decode cX6_fitsList 41 = .ok (.iload_n 2, 1) := by decide +kernel
theorem dX6_fitsList_42 : decode cX6_fitsList 42 = .ok (.iadd, 1) := by decide +kernel
theorem dX6_fitsList_43 : decode cX6_fitsList 43 = .ok (.iconst 1, 1) := by decide +kernel
theorem dX6_fitsList_44 : decode cX6_fitsList 44 = .ok (.iadd, 1) := by decide +kernel
theorem dX6_fitsList_45 : decode cX6_fitsList 45 = .ok (.iaload, 1) := by decide +kernel
theorem dX6_fitsList_46 : decode cX6_fitsList 46 = .ok (.istore 4, 2) := by decide +kernel
theorem dX6_fitsList_48 : decode cX6_fitsList 48 = .ok (.iload_n 3, 1) := by decide +kernel
theorem dX6_fitsList_49 : decode cX6_fitsList 49 = .ok (.iload_n 1, 1) := by decide +kernel
theorem dX6_fitsList_50 : decode cX6_fitsList 50 = .ok (.if_icmp .gt 60, 3) := by decide +kernel
theorem dX6_fitsList_53 : decode cX6_fitsList 53 = .ok (.iload 4, 2) := by decide +kernel
theorem dX6_fitsList_55 : decode cX6_fitsList 55 = .ok (.iload_n 1, 1) := by decide +kernel
theorem dX6_fitsList_56 : decode cX6_fitsList 56 = .ok (.if_icmp .gt 54, 3) := by decide +kernel
theorem dX6_fitsList_59 : decode cX6_fitsList 59 = .ok (.aload_n 0, 1) := by decide +kernel
theorem dX6_fitsList_60 : decode cX6_fitsList 60 = .ok (.getfield 31, 3) := by decide +kernel
theorem dX6_fitsList_63 : decode cX6_fitsList 63 = .ok (.iload_n 3, 1) := by decide +kernel
theorem dX6_fitsList_64 : decode cX6_fitsList 64 = .ok (.iaload, 1) := by decide +kernel
theorem dX6_fitsList_65 : decode cX6_fitsList 65 = .ok (.aload_n 0, 1) := by decide +kernel
theorem dX6_fitsList_66 : decode cX6_fitsList 66 = .ok (.getfield 31, 3) := by decide +kernel
theorem dX6_fitsList_69 : decode cX6_fitsList 69 = .ok (.iload 4, 2) := by decide +kernel
theorem dX6_fitsList_71 : decode cX6_fitsList 71 = .ok (.iaload, 1) := by decide +kernel
theorem dX6_fitsList_72 : decode cX6_fitsList 72 = .ok (.if_icmp .ne 7, 3) := by decide +kernel
theorem dX6_fitsList_75 : decode cX6_fitsList 75 = .ok (.iconst 1, 1) := by decide +kernel
theorem dX6_fitsList_76 : decode cX6_fitsList 76 = .ok (.goto 4, 3) := by decide +kernel
theorem dX6_fitsList_79 : decode cX6_fitsList 79 = .ok (.iconst 0, 1) := by decide +kernel
theorem dX6_fitsList_80 : decode cX6_fitsList 80 = .ok (.aload_n 0, 1) := by decide +kernel
theorem dX6_fitsList_81 : decode cX6_fitsList 81 = .ok (.getfield 49, 3) := by decide +kernel
theorem dX6_fitsList_84 : decode cX6_fitsList 84 = .ok (.bipush 100, 2) := by decide +kernel
theorem dX6_fitsList_86 : decode cX6_fitsList 86 = .ok (.aload_n 0, 1) := by decide +kernel
theorem dX6_fitsList_87 : decode cX6_fitsList 87 = .ok (.getfield 193, 3) := by decide +kernel
theorem dX6_fitsList_90 : decode cX6_fitsList 90 = .ok (.imul, 1) := by decide +kernel
theorem dX6_fitsList_91 : decode cX6_fitsList 91 = .ok (.iload_n 2, 1) := by decide +kernel
theorem dX6_fitsList_92 : decode cX6_fitsList 92 = .ok (.iadd, 1) := by decide +kernel
theorem dX6_fitsList_93 : decode cX6_fitsList 93 = .ok (.iconst 2, 1) := by decide +kernel
theorem dX6_fitsList_94 : decode cX6_fitsList 94 = .ok (.iadd, 1) := by decide +kernel
theorem dX6_fitsList_95 : decode cX6_fitsList 95 = .ok (.iaload, 1) := by decide +kernel
theorem dX6_fitsList_96 : decode cX6_fitsList 96 = .ok (.iconst 1, 1) := by decide +kernel
theorem dX6_fitsList_97 : decode cX6_fitsList 97 = .ok (.if_icmp .ne 7, 3) := by decide +kernel
theorem dX6_fitsList_100 : decode cX6_fitsList 100 = .ok (.iconst 1, 1) := by decide +kernel
theorem dX6_fitsList_101 : decode cX6_fitsList 101 = .ok (.goto 4, 3) := by decide +kernel
theorem dX6_fitsList_104 : decode cX6_fitsList 104 = .ok (.iconst 0, 1) := by decide +kernel
theorem dX6_fitsList_105 : decode cX6_fitsList 105 = .ok (.if_icmp .eq 5, 3) := by decide +kernel
theorem dX6_fitsList_108 : decode cX6_fitsList 108 = .ok (.iconst 0, 1) := by decide +kernel
theorem dX6_fitsList_109 : decode cX6_fitsList 109 = .ok (.ireturn, 1) := by decide +kernel
theorem dX6_fitsList_110 : decode cX6_fitsList 110 = .ok (.iinc 2 3, 3) := by decide +kernel
theorem dX6_fitsList_113 : decode cX6_fitsList 113 = .ok (.goto (-111), 3) := by decide +kernel
theorem dX6_fitsList_116 : decode cX6_fitsList 116 = .ok (.iconst 1, 1) := by decide +kernel
theorem dX6_fitsList_117 : decode cX6_fitsList 117 = .ok (.ireturn, 1) := by decide +kernel
set_option maxRecDepth 20000 in
theorem ggX6_isListed_X6_fitsList : GoodIn wsX6_isListed wsX6_fitsList := goodIn_r _ [6, 7, 8, 9, 1, 13, 14, 15, 16, 17, 18, 19, 20, 21, 22, 23, 24, 25, 26, 27, 28, 29, 30, 31, 32, 33, 34] (by decide +kernel) (by decide +kernel)
set_option maxRecDepth 20000 in
theorem gX6_isListed_X6_fitsList : GoodIn wsX6_isListed (wsV RX6 196 RX6 yX6_fitsList wsX6_fitsList) := goodIn_app (goodIn_of _ (by decide +kernel)) ggX6_isListed_X6_fitsList
set_option maxRecDepth 20000 in
theorem ggX6_isListed_X6_isListed : GoodIn wsX6_isListed wsX6_isListed := goodIn_r _ [0, 1, 2, 3, 4, 5, 6, 7, 8, 9, 10, 11, 12, 13, 14, 15, 16, 17, 18, 19, 20, 21, 22, 23, 24, 25, 26, 27, 28, 29, 30, 31, 32, 33, 34] (by decide +kernel) (by decide +kernel)
set_option maxRecDepth 20000 in
theorem gX6_isListed_X6_isListed : GoodIn wsX6_isListed (wsV RX6 199 RX6 yX6_isListed wsX6_isListed) := goodIn_app (goodIn_of _ (by decide +kernel)) ggX6_isListed_X6_isListed
theorem dX6_isListed_0 : decode cX6_isListed 0 = .ok (.iload_n 1, 1) := by decide +kernel
theorem dX6_isListed_1 : decode cX6_isListed 1 = .ok (.bipush 8, 2) := by decide +kernel
theorem dX6_isListed_3 : decode cX6_isListed 3 = .ok (.if_icmp .ne 14, 3) := by decide +kernel
theorem dX6_isListed_6 : decode cX6_isListed 6 = .ok (.iload_n 3, 1) := by decide +kernel
theorem dX6_isListed_7 : decode cX6_isListed 7 = .ok (.iload_n 2, 1) := by decide +kernel
theorem dX6_isListed_8 : decode cX6_isListed 8 = .ok (.if_icmp .ne 7, 3) := by decide +kernel
theorem dX6_isListed_11 : decode cX6_isListed 11 = .ok (.iconst 1, 1) := by decide +kernel
theorem dX6_isListed_12 : decode cX6_isListed 12 = .ok (.goto 4, 3) := by decide +kernel
theorem dX6_isListed_15 : decode cX6_isListed 15 = .ok (.iconst 0, 1) := by decide +kernel
theorem dX6_isListed_16 : decode cX6_isListed 16 = .ok (.ireturn, 1) := by decide +kernel
theorem dX6_isListed_17 : decode cX6_isListed 17 = .ok (.iconst 0, 1) := by decide +kernel
theorem dX6_isListed_18 : decode cX6_isListed 18 = .ok (.istore 4, 2) := by decide +kernel
theorem dX6_isListed_20 : decode cX6_isListed 20 = .ok (.iload 4, 2) := by decide +kernel
theorem dX6_isListed_22 : decode cX6_isListed 22 = .ok (.iload_n 2, 1) := by decide +kernel
theorem dX6_isListed_23 : decode cX6_isListed 23 = .ok (.if_icmp .ge 57, 3) := by decide +kernel
theorem dX6_isListed_26 : decode cX6_isListed 26 = .ok (.iload 4, 2) := by decide +kernel
theorem dX6_isListed_28 : decode cX6_isListed 28 = .ok (.iload_n 3, 1) := by decide +kernel
theorem dX6_isListed_29 : decode cX6_isListed 29 = .ok (.if_icmp .gt 51, 3) := by decide +kernel
theorem dX6_isListed_32 : decode cX6_isListed 32 = .ok (.aload_n 0, 1) := by decide +kernel
theorem dX6_isListed_33 : decode cX6_isListed 33 = .ok (.getfield 31, 3) := by decide +kernel
theorem dX6_isListed_36 : decode cX6_isListed 36 = .ok (.iload_n 1, 1) := by decide +kernel
theorem dX6_isListed_37 : decode cX6_isListed 37 = .ok (.iload 4, 2) := by decide +kernel
theorem dX6_isListed_39 : decode cX6_isListed 39 = .ok (.iastore, 1) := by decide +kernel
theorem dX6_isListed_40 : decode cX6_isListed 40 = .ok (.aload_n 0, 1) := by decide +kernel
theorem dX6_isListed_41 : decode cX6_isListed 41 = .ok (.iload_n 1, 1) := by decide +kernel
theorem dX6_isListed_42 : decode cX6_isListed 42 = .ok (.invokevirtual 196, 3) := by decide +kernel
theorem dX6_isListed_45 : decode cX6_isListed 45 = .ok (.ifCond .eq 29, 3) := by decide +kernel
theorem dX6_isListed_48 : decode cX6_isListed 48 = .ok (.aload_n 0, 1) := by decide +kernel
theorem dX6_isListed_49 : decode cX6_isListed 49 = .ok (.iload_n 1, 1) := by decide +kernel
theorem dX6_isListed_50 : decode cX6_isListed 50 = .ok (.iconst 1, 1) := by decide +kernel
theorem dX6_isListed_51 : decode cX6_isListed 51 = .ok (.iadd, 1) := by decide +kernel
theorem dX6_isListed_52 : decode cX6_isListed 52 = .ok (.iload_n 2, 1) := by decide +kernel
theorem dX6_isListed_53 : decode cX6_isListed 53 = .ok (.iload 4, 2) := by decide +kernel
theorem dX6_isListed_55 : decode cX6_isListed 55 = .ok (.iload_n 3, 1) := by decide +kernel
theorem dX6_isListed_56 : decode cX6_isListed 56 = .ok (.if_icmp .ne 9, 3) := by decide +kernel
theorem dX6_isListed_59 : decode cX6_isListed 59 = .ok (.iload_n 3, 1) := by decide +kernel
theorem dX6_isListed_60 : decode cX6_isListed 60 = .ok (.iconst 1, 1) := by decide +kernel
theorem dX6_isListed_61 : decode cX6_isListed 61 = .ok (.iadd, 1) := by decide +kernel
theorem dX6_isListed_62 : decode cX6_isListed 62 = .ok (.goto 4, 3) := by decide +kernel
theorem dX6_isListed_65 : decode cX6_isListed 65 = .ok (.iload_n 3, 1) := by decide +kernel
theorem dX6_isListed_66 : decode cX6_isListed 66 = .ok (.invokevirtual 199, 3) := by decide +kernel
theorem dX6_isListed_69 : decode cX6_isListed 69 = .ok (.ifCond .eq 5, 3) := by decide +kernel
theorem dX6_isListed_72 : decode cX6_isListed 72 = .ok (.iconst 1, 1) := by decide +kernel
theorem dX6_isListed_73 : decode cX6_isListed 73 = .ok (.ireturn, 1) := by decide +kernel
theorem dX6_isListed_74 : decode cX6_isListed 74 = .ok (.iinc 4 1, 3) := by decide +kernel
theorem dX6_isListed_77 : decode cX6_isListed 77 = .ok (.goto (-57), 3) := by decide +kernel
theorem dX6_isListed_80 : decode cX6_isListed 80 = .ok (.iconst 0, 1) := by decide +kernel
theorem dX6_isListed_81 : decode cX6_isListed 81 = .ok (.ireturn, 1) := by decide +kernel
set_option maxRecDepth 20000 in
theorem ggX6_shortest_X6_isIn : GoodIn wsX6_shortest wsX6_isIn := goodIn_r _ [8] (by decide +kernel) (by decide +kernel)
set_option maxRecDepth 20000 in
theorem gX6_shortest_X6_isIn : GoodIn wsX6_shortest (va_wsS RX6 52 yX6_isIn wsX6_isIn) := goodIn_app (goodIn_of _ (by decide +kernel)) ggX6_shortest_X6_isIn
set_option maxRecDepth 20000 in
theorem ggX6_shortest_X6_wrongRow : GoodIn wsX6_shortest wsX6_wrongRow := goodIn_r _ [12, 13, 14, 15, 16, 7, 17, 5, 6, 8, 26, 27, 28, 29, 30, 31, 32, 33, 34, 35, 36, 37, 38, 39, 40, 41, 42, 43, 44, 45, 46, 47] (by decide +kernel) (by decide +kernel)
set_option maxRecDepth 20000 in
theorem gX6_shortest_X6_wrongRow : GoodIn wsX6_shortest (wsV RX6 138 RX6 yX6_wrongRow wsX6_wrongRow) := goodIn_app (goodIn_of _ (by decide +kernel)) ggX6_shortest_X6_wrongRow
set_option maxRecDepth 20000 in
theorem ggX6_shortest_X6_isListed : GoodIn wsX6_shortest wsX6_isListed := goodIn_r _ [21, 4, 22, 23, 24, 7, 25, 1, 3, 2, 18, 19, 20, 26, 27, 28, 29, 30, 31, 32, 33, 34, 35, 36, 37, 38, 39, 40, 41, 42, 43, 44, 45, 46, 47] (by decide +kernel) (by decide +kernel)
set_option maxRecDepth 20000 in
theorem gX6_shortest_X6_isListed : GoodIn wsX6_shortest (wsV RX6 199 RX6 yX6_isListed wsX6_isListed) := goodIn_app (goodIn_of _ (by decide +kernel)) ggX6_shortest_X6_isListed
theorem dX6_shortest_0 : decode cX6_shortest 0 = .ok (.iload_n 2, 1) := by decide +kernel
theorem dX6_shortest_1 : decode cX6_shortest 1 = .ok (.iconst (-1), 1) := by decide +kernel
theorem dX6_shortest_2 : decode cX6_shortest 2 = .ok (.bipush 7, 2) := by decide +kernel
theorem dX6_shortest_4 : decode cX6_shortest 4 = .ok (.invokestatic 52, 3) := by decide +kernel
theorem dX6_shortest_7 : decode cX6_shortest 7 = .ok (.ifCond .ne 5, 3) := by decide +kernel
theorem dX6_shortest_10 : decode cX6_shortest 10 = .ok (.iconst (-1), 1) := by decide +kernel
theorem dX6_shortest_11 : decode cX6_shortest 11 = .ok (.ireturn, 1) := by decide +kernel
theorem dX6_shortest_12 : decode cX6_shortest 12 = .ok (.aload_n 0, 1) := by decide +kernel
theorem dX6_shortest_13 : decode cX6_shortest 13 = .ok (.iload_n 1, 1) := by decide +kernel
theorem dX6_shortest_14 : decode cX6_shortest 14 = .ok (.iconst (-1), 1) := by decide +kernel
theorem dX6_shortest_15 : decode cX6_shortest 15 = .ok (.invokevirtual 138, 3) := by decide +kernel
theorem dX6_shortest_18 : decode cX6_shortest 18 = .ok (.istore_n 3, 1) := by decide +kernel
theorem dX6_shortest_19 : decode cX6_shortest 19 = .ok (.iload_n 3, 1) := by decide +kernel
theorem dX6_shortest_20 : decode cX6_shortest 20 = .ok (.ifCond .ne 17, 3) := by decide +kernel
theorem dX6_shortest_23 : decode cX6_shortest 23 = .ok (.aload_n 0, 1) := by decide +kernel
theorem dX6_shortest_24 : decode cX6_shortest 24 = .ok (.getfield 46, 3) := by decide +kernel
theorem dX6_shortest_27 : decode cX6_shortest 27 = .ok (.iload_n 1, 1) := by decide +kernel
theorem dX6_shortest_28 : decode cX6_shortest 28 = .ok (.iaload, 1) := by decide +kernel
theorem dX6_shortest_29 : decode cX6_shortest 29 = .ok (.iconst 3, 1) := by decide +kernel
theorem dX6_shortest_30 : decode cX6_shortest 30 = .ok (.irem, 1) := by decide +kernel
theorem dX6_shortest_31 : decode cX6_shortest 31 = .ok (.ifCond .eq 6, 3) := by decide +kernel
theorem dX6_shortest_34 : decode cX6_shortest 34 = .ok (.bipush (-13), 2) := by decide +kernel
theorem dX6_shortest_36 : decode cX6_shortest 36 = .ok (.istore_n 3, 1) := by decide +kernel
theorem dX6_shortest_37 : decode cX6_shortest 37 = .ok (.iconst 0, 1) := by decide +kernel
theorem dX6_shortest_38 : decode cX6_shortest 38 = .ok (.istore 4, 2) := by decide +kernel
theorem dX6_shortest_40 : decode cX6_shortest 40 = .ok (.iload_n 3, 1) := by decide +kernel
theorem dX6_shortest_41 : decode cX6_shortest 41 = .ok (.ifCond .ne 56, 3) := by decide +kernel
theorem dX6_shortest_44 : decode cX6_shortest 44 = .ok (.iload 4, 2) := by decide +kernel
theorem dX6_shortest_46 : decode cX6_shortest 46 = .ok (.aload_n 0, 1) := by decide +kernel
theorem dX6_shortest_47 : decode cX6_shortest 47 = .ok (.getfield 46, 3) := by decide +kernel
theorem dX6_shortest_50 : decode cX6_shortest 50 = .ok (.iload_n 1, 1) := by decide +kernel
theorem dX6_shortest_51 : decode cX6_shortest 51 = .ok (.iaload, 1) := by decide +kernel
theorem dX6_shortest_52 : decode cX6_shortest 52 = .ok (.if_icmp .ge 45, 3) := by decide +kernel
theorem dX6_shortest_55 : decode cX6_shortest 55 = .ok (.aload_n 0, 1) := by decide +kernel
theorem dX6_shortest_56 : decode cX6_shortest 56 = .ok (.getfield 49, 3) := by decide +kernel
theorem dX6_shortest_59 : decode cX6_shortest 59 = .ok (.bipush 100, 2) := by decide +kernel
theorem dX6_shortest_61 : decode cX6_shortest 61 = .ok (.iload_n 1, 1) := by decide +kernel
theorem dX6_shortest_62 : decode cX6_shortest 62 = .ok (.imul, 1) := by decide +kernel
theorem dX6_shortest_63 : decode cX6_shortest 63 = .ok (.iload 4, 2) := by decide +kernel
theorem dX6_shortest_65 : decode cX6_shortest 65 = .ok (.iadd, 1) := by decide +kernel
theorem dX6_shortest_66 : decode cX6_shortest 66 = .ok (.iaload, 1) := by decide +kernel
theorem dX6_shortest_67 : decode cX6_shortest 67 = .ok (.iconst 0, 1) := by decide +kernel
theorem dX6_shortest_68 : decode cX6_shortest 68 = .ok (.iload 4, 2) := by decide +kernel
theorem dX6_shortest_70 : decode cX6_shortest 70 = .ok (.iconst 3, 1) := by decide +kernel
theorem dX6_shortest_71 : decode cX6_shortest 71 = .ok (.irem, 1) := by decide +kernel
theorem dX6_shortest_72 : decode cX6_shortest 72 = .ok (.iconst 2, 1) := by decide +kernel
theorem dX6_shortest_73 : decode cX6_shortest 73 = .ok (.if_icmp .ne 7, 3) := by decide +kernel
theorem dX6_shortest_76 : decode cX6_shortest 76 = .ok (.iconst 1, 1) := by decide +kernel
theorem dX6_shortest_77 : decode cX6_shortest 77 = .ok (.goto 5, 3) := by decide +kernel
theorem dX6_shortest_80 : decode cX6_shortest 80 = .ok (.bipush 7, 2) := by decide +kernel
theorem dX6_shortest_82 : decode cX6_shortest 82 = .ok (.invokestatic 52, 3) := by decide +kernel
theorem dX6_shortest_85 : decode cX6_shortest 85 = .ok (.ifCond .ne 6, 3) := by decide +kernel
theorem dX6_shortest_88 : decode cX6_shortest 88 = .ok (.bipush (-13), 2) := by decide +kernel
theorem dX6_shortest_90 : decode cX6_shortest 90 = .ok (.istore_n 3, 1) := by decide +kernel
theorem dX6_shortest_91 : decode cX6_shortest 91 = .ok (.iinc 4 1, 3) := by decide +kernel
theorem dX6_shortest_94 : decode cX6_shortest 94 = .ok (.goto (-54), 3) := by decide +kernel
theorem dX6_shortest_97 : decode cX6_shortest 97 = .ok (.iload_n 3, 1) := by decide +kernel
theorem dX6_shortest_98 : decode cX6_shortest 98 = .ok (.ifCond .eq 5, 3) := by decide +kernel
theorem dX6_shortest_101 : decode cX6_shortest 101 = .ok (.iload_n 3, 1) := by decide +kernel
theorem dX6_shortest_102 : decode cX6_shortest 102 = .ok (.ireturn, 1) := by decide +kernel
theorem dX6_shortest_103 : decode cX6_shortest 103 = .ok (.aload_n 0, 1) := by decide +kernel
theorem dX6_shortest_104 : decode cX6_shortest 104 = .ok (.iload_n 1, 1) := by decide +kernel
theorem dX6_shortest_105 : decode cX6_shortest 105 = .ok (.putfield 193, 3) := by decide +kernel
theorem dX6_shortest_108 : decode cX6_shortest 108 = .ok (.iconst 1, 1) := by decide +kernel
theorem dX6_shortest_109 : decode cX6_shortest 109 = .ok (.istore 4, 2) := by decide +kernel
theorem dX6_shortest_111 : decode cX6_shortest 111 = .ok (.iload 4, 2) := by decide +kernel
theorem dX6_shortest_113 : decode cX6_shortest 113 = .ok (.bipush 8, 2) := by decide +kernel
theorem dX6_shortest_115 : decode cX6_shortest 115 = .ok (.if_icmp .gt 36, 3) := by decide +kernel
theorem dX6_shortest_118 : decode cX6_shortest 118 = .ok (.aload_n 0, 1) := by decide +kernel
theorem dX6_shortest_119 : decode cX6_shortest 119 = .ok (.iconst 0, 1) := by decide +kernel
theorem dX6_shortest_120 : decode cX6_shortest 120 = .ok (.iload 4, 2) := by decide +kernel
theorem dX6_shortest_122 : decode cX6_shortest 122 = .ok (.iconst 0, 1) := by decide +kernel
theorem dX6_shortest_123 : decode cX6_shortest 123 = .ok (.invokevirtual 199, 3) := by decide +kernel
theorem dX6_shortest_126 : decode cX6_shortest 126 = .ok (.ifCond .eq 19, 3) := by decide +kernel
theorem dX6_shortest_129 : decode cX6_shortest 129 = .ok (.iload_n 2, 1) := by decide +kernel
theorem dX6_shortest_130 : decode cX6_shortest 130 = .ok (.ifCond .ge 8, 3) := by decide +kernel
theorem dX6_shortest_133 : decode cX6_shortest 133 = .ok (.iload 4, 2) := by decide +kernel
theorem dX6_shortest_135 : decode cX6_shortest 135 = .ok (.goto 9, 3) := by decide +kernel
theorem dX6_shortest_138 : decode cX6_shortest 138 = .ok (.aload_n 0, 1) := by decide +kernel
theorem dX6_shortest_139 : decode cX6_shortest 139 = .ok (.getfield 31, 3) := by decide +kernel
theorem dX6_shortest_142 : decode cX6_shortest 142 = .ok (.iload_n 2, 1) := by decide +kernel
theorem dX6_shortest_143 : decode cX6_shortest 143 = .ok (.iaload, 1) := by decide +kernel
theorem dX6_shortest_144 : decode cX6_shortest 144 = .ok (.ireturn, 1) := by decide +kernel
theorem dX6_shortest_145 : decode cX6_shortest 145 = .ok (.iinc 4 1, 3) := by decide +kernel
theorem dX6_shortest_148 : decode cX6_shortest 148 = .ok (.goto (-37), 3) := by decide +kernel
theorem dX6_shortest_151 : decode cX6_shortest 151 = .ok (.bipush (-4), 2) := by decide +kernel
theorem dX6_shortest_153 : decode cX6_shortest 153 = .ok (.ireturn, 1) := by decide +kernel
theorem dX6_leastOf_0 : decode cX6_leastOf 0 = .ok (.iload_n 0, 1) := by decide +kernel
theorem dX6_leastOf_1 : decode cX6_leastOf 1 = .ok (.ifCond .ne 8, 3) := by decide +kernel
theorem dX6_leastOf_4 : decode cX6_leastOf 4 = .ok (.bipush (-128), 2) := by decide +kernel
theorem dX6_leastOf_6 : decode cX6_leastOf 6 = .ok (.goto 16, 3) := by decide +kernel
theorem dX6_leastOf_9 : decode cX6_leastOf 9 = .ok (.iload_n 0, 1) := by decide +kernel
theorem dX6_leastOf_10 : decode cX6_leastOf 10 = .ok (.iconst 1, 1) := by decide +kernel
theorem dX6_leastOf_11 : decode cX6_leastOf 11 = .ok (.if_icmp .ne 9, 3) := by decide +kernel
theorem dX6_leastOf_14 : decode cX6_leastOf 14 = .ok (.sipush (-32768), 3) := by decide +kernel
theorem dX6_leastOf_17 : decode cX6_leastOf 17 = .ok (.goto 5, 3) := by decide +kernel
theorem dX6_leastOf_20 : decode cX6_leastOf 20 = .ok (.ldc 202, 2) := by decide +kernel
theorem dX6_leastOf_22 : decode cX6_leastOf 22 = .ok (.ireturn, 1) := by decide +kernel
set_option maxRecDepth 20000 in
theorem ggX6_lent_X6_isPerson : GoodIn wsX6_lent wsX6_isPerson := goodIn_r _ [8, 3, 9, 10, 7, 11, 46, 47, 48, 49, 50, 51, 52, 53, 54, 55, 56, 57, 58, 59, 60, 61, 62, 63, 64, 65, 66, 67] (by decide +kernel) (by decide +kernel)
set_option maxRecDepth 20000 in
theorem gX6_lent_X6_isPerson : GoodIn wsX6_lent (wsV RX6 120 RX6 yX6_isPerson wsX6_isPerson) := goodIn_app (goodIn_of _ (by decide +kernel)) ggX6_lent_X6_isPerson
set_option maxRecDepth 20000 in
theorem ggX6_lent_X6_isIn : GoodIn wsX6_lent wsX6_isIn := goodIn_r _ [11] (by decide +kernel) (by decide +kernel)
set_option maxRecDepth 20000 in
theorem gX6_lent_X6_isIn : GoodIn wsX6_lent (va_wsS RX6 52 yX6_isIn wsX6_isIn) := goodIn_app (goodIn_of _ (by decide +kernel)) ggX6_lent_X6_isIn
set_option maxRecDepth 20000 in
theorem ggX6_lent_X6_wrongRow : GoodIn wsX6_lent wsX6_wrongRow := goodIn_r _ [15, 16, 17, 18, 19, 7, 20, 9, 10, 11, 46, 47, 48, 49, 50, 51, 52, 53, 54, 55, 56, 57, 58, 59, 60, 61, 62, 63, 64, 65, 66, 67] (by decide +kernel) (by decide +kernel)
set_option maxRecDepth 20000 in
theorem gX6_lent_X6_wrongRow : GoodIn wsX6_lent (wsV RX6 138 RX6 yX6_wrongRow wsX6_wrongRow) := goodIn_app (goodIn_of _ (by decide +kernel)) ggX6_lent_X6_wrongRow
set_option maxRecDepth 20000 in
theorem ggX6_lent_X6_isGood : GoodIn wsX6_lent wsX6_isGood := goodIn_r _ [24, 3, 9, 10, 7, 11, 46, 47, 48, 49, 50, 51, 52, 53, 54, 55, 56, 57, 58, 59, 60, 61, 62, 63, 64, 65, 66, 67] (by decide +kernel) (by decide +kernel)
set_option maxRecDepth 20000 in
theorem gX6_lent_X6_isGood : GoodIn wsX6_lent (wsV RX6 127 RX6 yX6_isGood wsX6_isGood) := goodIn_app (goodIn_of _ (by decide +kernel)) ggX6_lent_X6_isGood
set_option maxRecDepth 20000 in
theorem ggX6_lent_X6_wouldIn : GoodIn wsX6_lent wsX6_wouldIn := goodIn_r _ [27, 28, 29, 7, 30, 31, 32, 33, 34, 35, 36, 37, 38, 39, 40, 41, 42] (by decide +kernel) (by decide +kernel)
set_option maxRecDepth 20000 in
theorem gX6_lent_X6_wouldIn : GoodIn wsX6_lent (va_wsS RX6 79 yX6_wouldIn wsX6_wouldIn) := goodIn_app (goodIn_of _ (by decide +kernel)) ggX6_lent_X6_wouldIn
set_option maxRecDepth 20000 in
theorem ggX6_lent_X6_bits : GoodIn wsX6_lent wsX6_bits := goodIn_r _ [45] (by decide +kernel) (by decide +kernel)
set_option maxRecDepth 20000 in
theorem gX6_lent_X6_bits : GoodIn wsX6_lent (va_wsS RX6 168 yX6_bits wsX6_bits) := goodIn_app (goodIn_of _ (by decide +kernel)) ggX6_lent_X6_bits
theorem dX6_lent_0 : decode cX6_lent 0 = .ok (.aload_n 0, 1) := by decide +kernel
theorem dX6_lent_1 : decode cX6_lent 1 = .ok (.iload_n 2, 1) := by decide +kernel
theorem dX6_lent_2 : decode cX6_lent 2 = .ok (.invokevirtual 120, 3) := by decide +kernel
theorem dX6_lent_5 : decode cX6_lent 5 = .ok (.ifCond .eq 12, 3) := by decide +kernel
theorem dX6_lent_8 : decode cX6_lent 8 = .ok (.iload_n 3, 1) := by decide +kernel
theorem dX6_lent_9 : decode cX6_lent 9 = .ok (.iconst 0, 1) := by decide +kernel
theorem dX6_lent_10 : decode cX6_lent 10 = .ok (.iconst 1, 1) := by decide +kernel
theorem dX6_lent_11 : decode cX6_lent 11 = .ok (.invokestatic 52, 3) := by decide +kernel
theorem dX6_lent_14 : decode cX6_lent 14 = .ok (.ifCond .ne 5, 3) := by decide +kernel
theorem dX6_lent_17 : decode cX6_lent 17 = .ok (.iconst (-1), 1) := by decide +kernel
theorem dX6_lent_18 : decode cX6_lent 18 = .ok (.ireturn, 1) := by decide +kernel
theorem dX6_lent_19 : decode cX6_lent 19 = .ok (.aload_n 0, 1) := by decide +kernel
theorem dX6_lent_20 : decode cX6_lent 20 = .ok (.iload_n 1, 1) := by decide +kernel
theorem dX6_lent_21 : decode cX6_lent 21 = .ok (.iconst (-1), 1) := by decide +kernel
theorem dX6_lent_22 : decode cX6_lent 22 = .ok (.invokevirtual 138, 3) := by decide +kernel
theorem dX6_lent_25 : decode cX6_lent 25 = .ok (.istore 4, 2) := by decide +kernel
theorem dX6_lent_27 : decode cX6_lent 27 = .ok (.iconst 0, 1) := by decide +kernel
theorem dX6_lent_28 : decode cX6_lent 28 = .ok (.istore 5, 2) := by decide +kernel
theorem dX6_lent_30 : decode cX6_lent 30 = .ok (.iload 4, 2) := by decide +kernel
theorem dX6_lent_32 : decode cX6_lent 32 = .ok (.ifCond .ne 43, 3) := by decide +kernel
theorem dX6_lent_35 : decode cX6_lent 35 = .ok (.iload 5, 2) := by decide +kernel
theorem dX6_lent_37 : decode cX6_lent 37 = .ok (.aload_n 0, 1) := by decide +kernel
theorem dX6_lent_38 : decode cX6_lent 38 = .ok (.getfield 46, 3) := by decide +kernel
theorem dX6_lent_41 : decode cX6_lent 41 = .ok (.iload_n 1, 1) := by decide +kernel
theorem dX6_lent_42 : decode cX6_lent 42 = .ok (.iaload, 1) := by decide +kernel
theorem dX6_lent_43 : decode cX6_lent 43 = .ok (.if_icmp .ge 32, 3) := by decide +kernel
theorem dX6_lent_46 : decode cX6_lent 46 = .ok (.aload_n 0, 1) := by decide +kernel
theorem dX6_lent_47 : decode cX6_lent 47 = .ok (.aload_n 0, 1) := by decide +kernel
theorem dX6_lent_48 : decode cX6_lent 48 = .ok (.getfield 49, 3) := by decide +kernel
theorem dX6_lent_51 : decode cX6_lent 51 = .ok (.bipush 100, 2) := by decide +kernel
theorem dX6_lent_53 : decode cX6_lent 53 = .ok (.iload_n 1, 1) := by decide +kernel
theorem dX6_lent_54 : decode cX6_lent 54 = .ok (.imul, 1) := by decide +kernel
theorem dX6_lent_55 : decode cX6_lent 55 = .ok (.iload 5, 2) := by decide +kernel
theorem dX6_lent_57 : decode cX6_lent 57 = .ok (.iadd, 1) := by decide +kernel
theorem dX6_lent_58 : decode cX6_lent 58 = .ok (.iaload, 1) := by decide +kernel
theorem dX6_lent_59 : decode cX6_lent 59 = .ok (.invokevirtual 127, 3) := by decide +kernel
theorem dX6_lent_62 : decode cX6_lent 62 = .ok (.ifCond .ne 7, 3) := by decide +kernel
theorem dX6_lent_65 : decode cX6_lent 65 = .ok (.bipush (-13), 2) := by decide +kernel
theorem dX6_lent_67 : decode cX6_lent 67 = .ok (.istore 4, 2) := by decide +kernel
theorem dX6_lent_69 : decode cX6_lent 69 = .ok (.iinc 5 1, 3) := by decide +kernel
theorem dX6_lent_72 : decode cX6_lent 72 = .ok (.goto (-42), 3) := by decide +kernel
theorem dX6_lent_75 : decode cX6_lent 75 = .ok (.iload 4, 2) := by decide +kernel
theorem dX6_lent_77 : decode cX6_lent 77 = .ok (.ifCond .eq 6, 3) := by decide +kernel
theorem dX6_lent_80 : decode cX6_lent 80 = .ok (.iload 4, 2) := by decide +kernel
theorem dX6_lent_82 : decode cX6_lent 82 = .ok (.ireturn, 1) := by decide +kernel
theorem dX6_lent_83 : decode cX6_lent 83 = .ok (.iconst 0, 1) := by decide +kernel
theorem dX6_lent_84 : decode cX6_lent 84 = .ok (.istore 5, 2) := by decide +kernel
theorem dX6_lent_86 : decode cX6_lent 86 = .ok (.iconst 0, 1) := by decide +kernel
theorem dX6_lent_87 : decode cX6_lent 87 = .ok (.istore 6, 2) := by decide +kernel
theorem dX6_lent_89 : decode cX6_lent 89 = .ok (.iload 6, 2) := by decide +kernel
theorem dX6_lent_91 : decode cX6_lent 91 = .ok (.aload_n 0, 1) := by decide +kernel
theorem dX6_lent_92 : decode cX6_lent 92 = .ok (.getfield 9, 3) := by decide +kernel
theorem dX6_lent_95 : decode cX6_lent 95 = .ok (.iconst 0, 1) := by decide +kernel
theorem dX6_lent_96 : decode cX6_lent 96 = .ok (.iaload, 1) := by decide +kernel
theorem dX6_lent_97 : decode cX6_lent 97 = .ok (.if_icmp .ge 102, 3) := by decide +kernel
theorem dX6_lent_100 : decode cX6_lent 100 = .ok (.iconst 1, 1) := by decide +kernel
theorem dX6_lent_101 : decode cX6_lent 101 = .ok (.istore 7, 2) := by decide +kernel
theorem dX6_lent_103 : decode cX6_lent 103 = .ok (.iconst 0, 1) := by decide +kernel
theorem dX6_lent_104 : decode cX6_lent 104 = .ok (.istore 8, 2) := by decide +kernel
theorem dX6_lent_106 : decode cX6_lent 106 = .ok (.iload 8, 2) := by decide +kernel
theorem dX6_lent_108 : decode cX6_lent 108 = .ok (.aload_n 0, 1) := by decide +kernel
theorem dX6_lent_109 : decode cX6_lent 109 = .ok (.getfield 46, 3) := by decide +kernel
theorem dX6_lent_112 : decode cX6_lent 112 = .ok (.iload_n 1, 1) := by decide +kernel
theorem dX6_lent_113 : decode cX6_lent 113 = .ok (.iaload, 1) := by decide +kernel
theorem dX6_lent_114 : decode cX6_lent 114 = .ok (.if_icmp .ge 61, 3) := by decide +kernel
theorem dX6_lent_117 : decode cX6_lent 117 = .ok (.iload 7, 2) := by decide +kernel
theorem dX6_lent_119 : decode cX6_lent 119 = .ok (.aload_n 0, 1) := by decide +kernel
theorem dX6_lent_120 : decode cX6_lent 120 = .ok (.getfield 49, 3) := by decide +kernel
theorem dX6_lent_123 : decode cX6_lent 123 = .ok (.bipush 100, 2) := by decide +kernel
theorem dX6_lent_125 : decode cX6_lent 125 = .ok (.iload_n 1, 1) := by decide +kernel
theorem dX6_lent_126 : decode cX6_lent 126 = .ok (.imul, 1) := by decide +kernel
theorem dX6_lent_127 : decode cX6_lent 127 = .ok (.iload 8, 2) := by decide +kernel
theorem dX6_lent_129 : decode cX6_lent 129 = .ok (.iadd, 1) := by decide +kernel
theorem dX6_lent_130 : decode cX6_lent 130 = .ok (.iaload, 1) := by decide +kernel
theorem dX6_lent_131 : decode cX6_lent 131 = .ok (.iload 6, 2) := by decide +kernel
theorem dX6_lent_133 : decode cX6_lent 133 = .ok (.if_icmp .eq 32, 3) := by decide +kernel
theorem dX6_lent_136 : decode cX6_lent 136 = .ok (.aload_n 0, 1) := by decide +kernel
theorem dX6_lent_137 : decode cX6_lent 137 = .ok (.getfield 9, 3) := by decide +kernel
theorem dX6_lent_140 : decode cX6_lent 140 = .ok (.iload_n 2, 1) := by decide +kernel
theorem dX6_lent_141 : decode cX6_lent 141 = .ok (.iload 6, 2) := by decide +kernel
theorem dX6_lent_143 : decode cX6_lent 143 = .ok (.aload_n 0, 1) := by decide +kernel
theorem dX6_lent_144 : decode cX6_lent 144 = .ok (.getfield 49, 3) := by decide +kernel
theorem dX6_lent_147 : decode cX6_lent 147 = .ok (.bipush 100, 2) := by decide +kernel
theorem dX6_lent_149 : decode cX6_lent 149 = .ok (.iload_n 1, 1) := by decide +kernel
theorem dX6_lent_150 : decode cX6_lent 150 = .ok (.imul, 1) := by decide +kernel
theorem dX6_lent_151 : decode cX6_lent 151 = .ok (.iload 8, 2) := by decide +kernel
theorem dX6_lent_153 : decode cX6_lent 153 = .ok (.iadd, 1) := by decide +kernel
theorem dX6_lent_154 : decode cX6_lent 154 = .ok (.iaload, 1) := by decide +kernel
theorem dX6_lent_155 : decode cX6_lent 155 = .ok (.invokestatic 79, 3) := by decide +kernel
theorem dX6_lent_158 : decode cX6_lent 158 = .ok (.ifCond .eq 7, 3) := by decide +kernel
theorem dX6_lent_161 : decode cX6_lent 161 = .ok (.iconst 1, 1) := by decide +kernel
theorem dX6_lent_162 : decode cX6_lent 162 = .ok (.goto 4, 3) := by decide +kernel
theorem dX6_lent_165 : decode cX6_lent 165 = .ok (.iconst 0, 1) := by decide +kernel
theorem dX6_lent_166 : decode cX6_lent 166 = .ok (.iand, 1) := by decide +kernel
theorem dX6_lent_167 : decode cX6_lent 167 = .ok (.istore 7, 2) := by decide +kernel
theorem dX6_lent_169 : decode cX6_lent 169 = .ok (.iinc 8 1, 3) := by decide +kernel
theorem dX6_lent_172 : decode cX6_lent 172 = .ok (.goto (-66), 3) := by decide +kernel
theorem dX6_lent_175 : decode cX6_lent 175 = .ok (.iload 5, 2) := by decide +kernel
theorem dX6_lent_177 : decode cX6_lent 177 = .ok (.iload 7, 2) := by decide +kernel
theorem dX6_lent_179 : decode cX6_lent 179 = .ok (.ifCond .eq 10, 3) := by decide +kernel
theorem dX6_lent_182 : decode cX6_lent 182 = .ok (.iconst 1, 1) := by decide +kernel
theorem dX6_lent_183 : decode cX6_lent 183 = .ok (.iload 6, 2) := by decide +kernel
theorem dX6_lent_185 : decode cX6_lent 185 = .ok (.ishl, 1) := by decide +kernel
theorem dX6_lent_186 : decode cX6_lent 186 = .ok (.goto 4, 3) := by decide +kernel
theorem dX6_lent_189 : decode cX6_lent 189 = .ok (.iconst 0, 1) := by decide +kernel
theorem dX6_lent_190 : decode cX6_lent 190 = .ok (.ior, 1) := by decide +kernel
theorem dX6_lent_191 : decode cX6_lent 191 = .ok (.istore 5, 2) := by decide +kernel
theorem dX6_lent_193 : decode cX6_lent 193 = .ok (.iinc 6 1, 3) := by decide +kernel
theorem dX6_lent_196 : decode cX6_lent 196 = .ok (.goto (-107), 3) := by decide +kernel
theorem dX6_lent_199 : decode cX6_lent 199 = .ok (.iload_n 3, 1) := by decide +kernel
theorem dX6_lent_200 : decode cX6_lent 200 = .ok (.ifCond .ne 8, 3) := by decide +kernel
theorem dX6_lent_203 : decode cX6_lent 203 = .ok (.iload 5, 2) := by decide +kernel
theorem dX6_lent_205 : decode cX6_lent 205 = .ok (.goto 8, 3) := by decide +kernel
theorem dX6_lent_208 : decode cX6_lent 208 = .ok (.iload 5, 2) := by decide +kernel
theorem dX6_lent_210 : decode cX6_lent 210 = .ok (.invokestatic 168, 3) := by decide +kernel
theorem dX6_lent_213 : decode cX6_lent 213 = .ok (.ireturn, 1) := by decide +kernel
set_option maxRecDepth 20000 in
theorem ggX6_whatIs_X6_isPerson : GoodIn wsX6_whatIs wsX6_isPerson := goodIn_r _ [9, 4, 10, 11, 8, 12, 38, 39, 40, 41, 42, 43, 44, 45, 46, 47, 48, 49, 50, 51, 52, 53, 54, 55, 56, 57, 58, 59] (by decide +kernel) (by decide +kernel)
set_option maxRecDepth 20000 in
theorem gX6_whatIs_X6_isPerson : GoodIn wsX6_whatIs (wsV RX6 120 RX6 yX6_isPerson wsX6_isPerson) := goodIn_app (goodIn_of _ (by decide +kernel)) ggX6_whatIs_X6_isPerson
set_option maxRecDepth 20000 in
theorem ggX6_whatIs_X6_isGood : GoodIn wsX6_whatIs wsX6_isGood := goodIn_r _ [16, 4, 10, 11, 8, 12, 38, 39, 40, 41, 42, 43, 44, 45, 46, 47, 48, 49, 50, 51, 52, 53, 54, 55, 56, 57, 58, 59] (by decide +kernel) (by decide +kernel)
set_option maxRecDepth 20000 in
theorem gX6_whatIs_X6_isGood : GoodIn wsX6_whatIs (wsV RX6 127 RX6 yX6_isGood wsX6_isGood) := goodIn_app (goodIn_of _ (by decide +kernel)) ggX6_whatIs_X6_isGood
set_option maxRecDepth 20000 in
theorem ggX6_whatIs_X6_isIn : GoodIn wsX6_whatIs wsX6_isIn := goodIn_r _ [12] (by decide +kernel) (by decide +kernel)
set_option maxRecDepth 20000 in
theorem gX6_whatIs_X6_isIn : GoodIn wsX6_whatIs (va_wsS RX6 52 yX6_isIn wsX6_isIn) := goodIn_app (goodIn_of _ (by decide +kernel)) ggX6_whatIs_X6_isIn
set_option maxRecDepth 20000 in
theorem ggX6_whatIs_X6_wrongRow : GoodIn wsX6_whatIs wsX6_wrongRow := goodIn_r _ [20, 21, 3, 22, 23, 8, 24, 10, 11, 12, 38, 39, 40, 41, 42, 43, 44, 45, 46, 47, 48, 49, 50, 51, 52, 53, 54, 55, 56, 57, 58, 59] (by decide +kernel) (by decide +kernel)
set_option maxRecDepth 20000 in
theorem gX6_whatIs_X6_wrongRow : GoodIn wsX6_whatIs (wsV RX6 138 RX6 yX6_wrongRow wsX6_wrongRow) := goodIn_app (goodIn_of _ (by decide +kernel)) ggX6_whatIs_X6_wrongRow
set_option maxRecDepth 20000 in
theorem ggX6_whatIs_X6_leastOf : GoodIn wsX6_whatIs wsX6_leastOf := goodIn_r _ [27, 28] (by decide +kernel) (by decide +kernel)
set_option maxRecDepth 20000 in
theorem gX6_whatIs_X6_leastOf : GoodIn wsX6_whatIs (va_wsS RX6 203 yX6_leastOf wsX6_leastOf) := goodIn_app (goodIn_of _ (by decide +kernel)) ggX6_whatIs_X6_leastOf
set_option maxRecDepth 20000 in
theorem ggX6_whatIs_X6_ofG : GoodIn wsX6_whatIs wsX6_ofG := goodIn_r _ [31] (by decide +kernel) (by decide +kernel)
set_option maxRecDepth 20000 in
theorem gX6_whatIs_X6_ofG : GoodIn wsX6_whatIs (va_wsS RX6 60 yX6_ofG wsX6_ofG) := goodIn_app (goodIn_of _ (by decide +kernel)) ggX6_whatIs_X6_ofG
set_option maxRecDepth 20000 in
theorem ggX6_whatIs_X6_worthBy : GoodIn wsX6_whatIs wsX6_worthBy := goodIn_r _ [34, 35, 36, 8, 37] (by decide +kernel) (by decide +kernel)
set_option maxRecDepth 20000 in
theorem gX6_whatIs_X6_worthBy : GoodIn wsX6_whatIs (va_wsS RX6 64 yX6_worthBy wsX6_worthBy) := goodIn_app (goodIn_of _ (by decide +kernel)) ggX6_whatIs_X6_worthBy
theorem dX6_whatIs_0 : decode cX6_whatIs 0 = .ok (.aload_n 0, 1) := by decide +kernel
theorem dX6_whatIs_1 : decode cX6_whatIs 1 = .ok (.iload_n 2, 1) := by decide +kernel
theorem dX6_whatIs_2 : decode cX6_whatIs 2 = .ok (.invokevirtual 120, 3) := by decide +kernel
theorem dX6_whatIs_5 : decode cX6_whatIs 5 = .ok (.ifCond .eq 21, 3) := by decide +kernel
theorem dX6_whatIs_8 : decode cX6_whatIs 8 = .ok (.aload_n 0, 1) := by decide +kernel
theorem dX6_whatIs_9 : decode cX6_whatIs 9 = .ok (.iload_n 3, 1) := by decide +kernel
theorem dX6_whatIs_10 : decode cX6_whatIs 10 = .ok (.invokevirtual 127, 3) := by decide +kernel
theorem dX6_whatIs_13 : decode cX6_whatIs 13 = .ok (.ifCond .eq 13, 3) := by decide +kernel
theorem dX6_whatIs_16 : decode cX6_whatIs 16 = .ok (.iload 4, 2) := by decide +kernel
theorem dX6_whatIs_18 : decode cX6_whatIs 18 = .ok (.iconst 0, 1) := by decide +kernel
theorem dX6_whatIs_19 : decode cX6_whatIs 19 = .ok (.iconst 1, 1) := by decide +kernel
theorem dX6_whatIs_20 : decode cX6_whatIs 20 = .ok (.invokestatic 52, 3) := by decide +kernel
theorem dX6_whatIs_23 : decode cX6_whatIs 23 = .ok (.ifCond .ne 5, 3) := by decide +kernel
theorem dX6_whatIs_26 : decode cX6_whatIs 26 = .ok (.iconst (-1), 1) := by decide +kernel
theorem dX6_whatIs_27 : decode cX6_whatIs 27 = .ok (.ireturn, 1) := by decide +kernel
theorem dX6_whatIs_28 : decode cX6_whatIs 28 = .ok (.aload_n 0, 1) := by decide +kernel
theorem dX6_whatIs_29 : decode cX6_whatIs 29 = .ok (.iload_n 1, 1) := by decide +kernel
theorem dX6_whatIs_30 : decode cX6_whatIs 30 = .ok (.iconst (-1), 1) := by decide +kernel
theorem dX6_whatIs_31 : decode cX6_whatIs 31 = .ok (.invokevirtual 138, 3) := by decide +kernel
theorem dX6_whatIs_34 : decode cX6_whatIs 34 = .ok (.istore 5, 2) := by decide +kernel
theorem dX6_whatIs_36 : decode cX6_whatIs 36 = .ok (.iload 5, 2) := by decide +kernel
theorem dX6_whatIs_38 : decode cX6_whatIs 38 = .ok (.ifCond .eq 6, 3) := by decide +kernel
theorem dX6_whatIs_41 : decode cX6_whatIs 41 = .ok (.iload 5, 2) := by decide +kernel
theorem dX6_whatIs_43 : decode cX6_whatIs 43 = .ok (.ireturn, 1) := by decide +kernel
theorem dX6_whatIs_44 : decode cX6_whatIs 44 = .ok (.iconst 0, 1) := by decide +kernel
theorem dX6_whatIs_45 : decode cX6_whatIs 45 = .ok (.istore 6, 2) := by decide +kernel
theorem dX6_whatIs_47 : decode cX6_whatIs 47 = .ok (.iconst 0, 1) := by decide +kernel
theorem dX6_whatIs_48 : decode cX6_whatIs 48 = .ok (.istore 7, 2) := by decide +kernel
theorem dX6_whatIs_50 : decode cX6_whatIs 50 = .ok (.iload 7, 2) := by decide +kernel
theorem dX6_whatIs_52 : decode cX6_whatIs 52 = .ok (.iload 4, 2) := by decide +kernel
theorem dX6_whatIs_54 : decode cX6_whatIs 54 = .ok (.ifCond .ne 8, 3) := by decide +kernel
theorem dX6_whatIs_57 : decode cX6_whatIs 57 = .ok (.bipush 8, 2) := by decide +kernel
theorem dX6_whatIs_59 : decode cX6_whatIs 59 = .ok (.goto 5, 3) := by decide +kernel
theorem dX6_whatIs_62 : decode cX6_whatIs 62 = .ok (.bipush 10, 2) := by decide +kernel
theorem dX6_whatIs_64 : decode cX6_whatIs 64 = .ok (.if_icmp .ge 157, 3) := by decide +kernel
theorem dX6_whatIs_67 : decode cX6_whatIs 67 = .ok (.iconst 1, 1) := by decide +kernel
theorem dX6_whatIs_68 : decode cX6_whatIs 68 = .ok (.istore 8, 2) := by decide +kernel
theorem dX6_whatIs_70 : decode cX6_whatIs 70 = .ok (.iconst 0, 1) := by decide +kernel
theorem dX6_whatIs_71 : decode cX6_whatIs 71 = .ok (.istore 9, 2) := by decide +kernel
theorem dX6_whatIs_73 : decode cX6_whatIs 73 = .ok (.iload 9, 2) := by decide +kernel
theorem dX6_whatIs_75 : decode cX6_whatIs 75 = .ok (.aload_n 0, 1) := by decide +kernel
theorem dX6_whatIs_76 : decode cX6_whatIs 76 = .ok (.getfield 46, 3) := by decide +kernel
theorem dX6_whatIs_79 : decode cX6_whatIs 79 = .ok (.iload_n 1, 1) := by decide +kernel
theorem dX6_whatIs_80 : decode cX6_whatIs 80 = .ok (.iaload, 1) := by decide +kernel
theorem dX6_whatIs_81 : decode cX6_whatIs 81 = .ok (.if_icmp .ge 116, 3) := by decide +kernel
theorem dX6_whatIs_84 : decode cX6_whatIs 84 = .ok (.aload_n 0, 1) := by decide +kernel
theorem dX6_whatIs_85 : decode cX6_whatIs 85 = .ok (.getfield 49, 3) := by decide +kernel
theorem dX6_whatIs_88 : decode cX6_whatIs 88 = .ok (.bipush 100, 2) := by decide +kernel
theorem dX6_whatIs_90 : decode cX6_whatIs 90 = .ok (.iload_n 1, 1) := by decide +kernel
theorem dX6_whatIs_91 : decode cX6_whatIs 91 = .ok (.imul, 1) := by decide +kernel
theorem dX6_whatIs_92 : decode cX6_whatIs 92 = .ok (.iload 9, 2) := by decide +kernel
theorem dX6_whatIs_94 : decode cX6_whatIs 94 = .ok (.iadd, 1) := by decide +kernel
theorem dX6_whatIs_95 : decode cX6_whatIs 95 = .ok (.iaload, 1) := by decide +kernel
theorem dX6_whatIs_96 : decode cX6_whatIs 96 = .ok (.istore 10, 2) := by decide +kernel
theorem dX6_whatIs_98 : decode cX6_whatIs 98 = .ok (.iload 8, 2) := by decide +kernel
theorem dX6_whatIs_100 : decode cX6_whatIs 100 = .ok (.iload 10, 2) := by decide +kernel
theorem dX6_whatIs_102 : decode cX6_whatIs 102 = .ok (.aload_n 0, 1) := by decide +kernel
theorem dX6_whatIs_103 : decode cX6_whatIs 103 = .ok (.getfield 43, 3) := by decide +kernel
theorem dX6_whatIs_106 : decode cX6_whatIs 106 = .ok (.iload_n 1, 1) := by decide +kernel
theorem dX6_whatIs_107 : decode cX6_whatIs 107 = .ok (.iaload, 1) := by decide +kernel
theorem dX6_whatIs_108 : decode cX6_whatIs 108 = .ok (.invokestatic 203, 3) := by decide +kernel
theorem dX6_whatIs_111 : decode cX6_whatIs 111 = .ok (.if_icmp .eq 72, 3) := by decide +kernel
theorem dX6_whatIs_114 : decode cX6_whatIs 114 = .ok (.iload 10, 2) := by decide +kernel
theorem dX6_whatIs_116 : decode cX6_whatIs 116 = .ok (.iload 4, 2) := by decide +kernel
theorem dX6_whatIs_118 : decode cX6_whatIs 118 = .ok (.ifCond .ne 8, 3) := by decide +kernel
theorem dX6_whatIs_121 : decode cX6_whatIs 121 = .ok (.iload 7, 2) := by decide +kernel
theorem dX6_whatIs_123 : decode cX6_whatIs 123 = .ok (.goto 14, 3) := by decide +kernel
theorem dX6_whatIs_126 : decode cX6_whatIs 126 = .ok (.aload_n 0, 1) := by decide +kernel
theorem dX6_whatIs_127 : decode cX6_whatIs 127 = .ok (.getfield 9, 3) := by decide +kernel
theorem dX6_whatIs_130 : decode cX6_whatIs 130 = .ok (.iload_n 3, 1) := by decide +kernel
theorem dX6_whatIs_131 : decode cX6_whatIs 131 = .ok (.invokestatic 60, 3) := by decide +kernel
theorem dX6_whatIs_134 : decode cX6_whatIs 134 = .ok (.iconst 0, 1) := by decide +kernel
theorem dX6_whatIs_135 : decode cX6_whatIs 135 = .ok (.iadd, 1) := by decide +kernel
theorem dX6_whatIs_136 : decode cX6_whatIs 136 = .ok (.iaload, 1) := by decide +kernel
theorem dX6_whatIs_137 : decode cX6_whatIs 137 = .ok (.iload 4, 2) := by decide +kernel
theorem dX6_whatIs_139 : decode cX6_whatIs 139 = .ok (.iconst 1, 1) := by decide +kernel
theorem dX6_whatIs_140 : decode cX6_whatIs 140 = .ok (.if_icmp .ne 8, 3) := by decide +kernel
theorem dX6_whatIs_143 : decode cX6_whatIs 143 = .ok (.iload 7, 2) := by decide +kernel
theorem dX6_whatIs_145 : decode cX6_whatIs 145 = .ok (.goto 14, 3) := by decide +kernel
theorem dX6_whatIs_148 : decode cX6_whatIs 148 = .ok (.aload_n 0, 1) := by decide +kernel
theorem dX6_whatIs_149 : decode cX6_whatIs 149 = .ok (.getfield 9, 3) := by decide +kernel
theorem dX6_whatIs_152 : decode cX6_whatIs 152 = .ok (.iload_n 3, 1) := by decide +kernel
theorem dX6_whatIs_153 : decode cX6_whatIs 153 = .ok (.invokestatic 60, 3) := by decide +kernel
theorem dX6_whatIs_156 : decode cX6_whatIs 156 = .ok (.iconst 1, 1) := by decide +kernel
theorem dX6_whatIs_157 : decode cX6_whatIs 157 = .ok (.iadd, 1) := by decide +kernel
theorem dX6_whatIs_158 : decode cX6_whatIs 158 = .ok (.iaload, 1) := by decide +kernel
theorem dX6_whatIs_159 : decode cX6_whatIs 159 = .ok (.aload_n 0, 1) := by decide +kernel
theorem dX6_whatIs_160 : decode cX6_whatIs 160 = .ok (.getfield 9, 3) := by decide +kernel
theorem dX6_whatIs_163 : decode cX6_whatIs 163 = .ok (.bipush 28, 2) := by decide +kernel
theorem dX6_whatIs_165 : decode cX6_whatIs 165 = .ok (.iload_n 2, 1) := by decide +kernel
theorem dX6_whatIs_166 : decode cX6_whatIs 166 = .ok (.iadd, 1) := by decide +kernel
theorem dX6_whatIs_167 : decode cX6_whatIs 167 = .ok (.iaload, 1) := by decide +kernel
theorem dX6_whatIs_168 : decode cX6_whatIs 168 = .ok (.aload_n 0, 1) := by decide +kernel
theorem dX6_whatIs_169 : decode cX6_whatIs 169 = .ok (.getfield 9, 3) := by decide +kernel
theorem dX6_whatIs_172 : decode cX6_whatIs 172 = .ok (.iconst 3, 1) := by decide +kernel
theorem dX6_whatIs_173 : decode cX6_whatIs 173 = .ok (.iaload, 1) := by decide +kernel
theorem dX6_whatIs_174 : decode cX6_whatIs 174 = .ok (.iload 9, 2) := by decide +kernel
theorem dX6_whatIs_176 : decode cX6_whatIs 176 = .ok (.iadd, 1) := by decide +kernel
theorem dX6_whatIs_177 : decode cX6_whatIs 177 = .ok (.invokestatic 64, 3) := by decide +kernel
theorem dX6_whatIs_180 : decode cX6_whatIs 180 = .ok (.if_icmp .ne 7, 3) := by decide +kernel
theorem dX6_whatIs_183 : decode cX6_whatIs 183 = .ok (.iconst 1, 1) := by decide +kernel
theorem dX6_whatIs_184 : decode cX6_whatIs 184 = .ok (.goto 4, 3) := by decide +kernel
theorem dX6_whatIs_187 : decode cX6_whatIs 187 = .ok (.iconst 0, 1) := by decide +kernel
theorem dX6_whatIs_188 : decode cX6_whatIs 188 = .ok (.iand, 1) := by decide +kernel
theorem dX6_whatIs_189 : decode cX6_whatIs 189 = .ok (.istore 8, 2) := by decide +kernel
theorem dX6_whatIs_191 : decode cX6_whatIs 191 = .ok (.iinc 9 1, 3) := by decide +kernel
theorem dX6_whatIs_194 : decode cX6_whatIs 194 = .ok (.goto (-121), 3) := by decide +kernel
theorem dX6_whatIs_197 : decode cX6_whatIs 197 = .ok (.iload 6, 2) := by decide +kernel
theorem dX6_whatIs_199 : decode cX6_whatIs 199 = .ok (.iload 8, 2) := by decide +kernel
theorem dX6_whatIs_201 : decode cX6_whatIs 201 = .ok (.ifCond .eq 10, 3) := by decide +kernel
theorem dX6_whatIs_204 : decode cX6_whatIs 204 = .ok (.iconst 1, 1) := by decide +kernel
theorem dX6_whatIs_205 : decode cX6_whatIs 205 = .ok (.iload 7, 2) := by decide +kernel
theorem dX6_whatIs_207 : decode cX6_whatIs 207 = .ok (.ishl, 1) := by decide +kernel
theorem dX6_whatIs_208 : decode cX6_whatIs 208 = .ok (.goto 4, 3) := by decide +kernel
theorem dX6_whatIs_211 : decode cX6_whatIs 211 = .ok (.iconst 0, 1) := by decide +kernel
theorem dX6_whatIs_212 : decode cX6_whatIs 212 = .ok (.ior, 1) := by decide +kernel
theorem dX6_whatIs_213 : decode cX6_whatIs 213 = .ok (.istore 6, 2) := by decide +kernel
theorem dX6_whatIs_215 : decode cX6_whatIs 215 = .ok (.iinc 7 1, 3) := by decide +kernel
theorem dX6_whatIs_218 : decode cX6_whatIs 218 = .ok (.goto (-168), 3) := by decide +kernel
theorem dX6_whatIs_221 : decode cX6_whatIs 221 = .ok (.iload 6, 2) := by decide +kernel
theorem dX6_whatIs_223 : decode cX6_whatIs 223 = .ok (.ireturn, 1) := by decide +kernel
set_option maxRecDepth 20000 in
theorem ggX6_tastes_X6_isPerson : GoodIn wsX6_tastes wsX6_isPerson := goodIn_r _ [10, 2, 11, 12, 9, 13, 41, 42, 43, 44, 45, 46, 47, 48, 49, 50, 51, 52, 53, 54, 55, 56, 57, 58, 59, 60, 61, 62] (by decide +kernel) (by decide +kernel)
set_option maxRecDepth 20000 in
theorem gX6_tastes_X6_isPerson : GoodIn wsX6_tastes (wsV RX6 120 RX6 yX6_isPerson wsX6_isPerson) := goodIn_app (goodIn_of _ (by decide +kernel)) ggX6_tastes_X6_isPerson
set_option maxRecDepth 20000 in
theorem ggX6_tastes_X6_wrongRow : GoodIn wsX6_tastes wsX6_wrongRow := goodIn_r _ [17, 18, 5, 19, 20, 9, 21, 11, 12, 13, 41, 42, 43, 44, 45, 46, 47, 48, 49, 50, 51, 52, 53, 54, 55, 56, 57, 58, 59, 60, 61, 62] (by decide +kernel) (by decide +kernel)
set_option maxRecDepth 20000 in
theorem gX6_tastes_X6_wrongRow : GoodIn wsX6_tastes (wsV RX6 138 RX6 yX6_wrongRow wsX6_wrongRow) := goodIn_app (goodIn_of _ (by decide +kernel)) ggX6_tastes_X6_wrongRow
set_option maxRecDepth 20000 in
theorem ggX6_tastes_X6_copies : GoodIn wsX6_tastes wsX6_copies := goodIn_r _ [24] (by decide +kernel) (by decide +kernel)
set_option maxRecDepth 20000 in
theorem gX6_tastes_X6_copies : GoodIn wsX6_tastes (va_wsS RX6 145 yX6_copies wsX6_copies) := goodIn_app (goodIn_of _ (by decide +kernel)) ggX6_tastes_X6_copies
set_option maxRecDepth 20000 in
theorem ggX6_tastes_X6_leastOf : GoodIn wsX6_tastes wsX6_leastOf := goodIn_r _ [27, 28] (by decide +kernel) (by decide +kernel)
set_option maxRecDepth 20000 in
theorem gX6_tastes_X6_leastOf : GoodIn wsX6_tastes (va_wsS RX6 203 yX6_leastOf wsX6_leastOf) := goodIn_app (goodIn_of _ (by decide +kernel)) ggX6_tastes_X6_leastOf
set_option maxRecDepth 20000 in
theorem ggX6_tastes_X6_worthIn : GoodIn wsX6_tastes wsX6_worthIn := goodIn_r _ [31, 32, 33, 9, 34, 35, 36, 37, 38, 39, 40] (by decide +kernel) (by decide +kernel)
set_option maxRecDepth 20000 in
theorem gX6_tastes_X6_worthIn : GoodIn wsX6_tastes (va_wsS RX6 72 yX6_worthIn wsX6_worthIn) := goodIn_app (goodIn_of _ (by decide +kernel)) ggX6_tastes_X6_worthIn
theorem dX6_tastes_0 : decode cX6_tastes 0 = .ok (.aload_n 0, 1) := by decide +kernel
theorem dX6_tastes_1 : decode cX6_tastes 1 = .ok (.iload_n 2, 1) := by decide +kernel
theorem dX6_tastes_2 : decode cX6_tastes 2 = .ok (.invokevirtual 120, 3) := by decide +kernel
theorem dX6_tastes_5 : decode cX6_tastes 5 = .ok (.ifCond .ne 5, 3) := by decide +kernel
theorem dX6_tastes_8 : decode cX6_tastes 8 = .ok (.iconst (-1), 1) := by decide +kernel
theorem dX6_tastes_9 : decode cX6_tastes 9 = .ok (.ireturn, 1) := by decide +kernel
theorem dX6_tastes_10 : decode cX6_tastes 10 = .ok (.aload_n 0, 1) := by decide +kernel
theorem dX6_tastes_11 : decode cX6_tastes 11 = .ok (.iload_n 1, 1) := by decide +kernel
theorem dX6_tastes_12 : decode cX6_tastes 12 = .ok (.iconst (-1), 1) := by decide +kernel
theorem dX6_tastes_13 : decode cX6_tastes 13 = .ok (.invokevirtual 138, 3) := by decide +kernel
theorem dX6_tastes_16 : decode cX6_tastes 16 = .ok (.istore_n 3, 1) := by decide +kernel
theorem dX6_tastes_17 : decode cX6_tastes 17 = .ok (.iload_n 3, 1) := by decide +kernel
theorem dX6_tastes_18 : decode cX6_tastes 18 = .ok (.ifCond .ne 21, 3) := by decide +kernel
theorem dX6_tastes_21 : decode cX6_tastes 21 = .ok (.aload_n 0, 1) := by decide +kernel
theorem dX6_tastes_22 : decode cX6_tastes 22 = .ok (.getfield 46, 3) := by decide +kernel
theorem dX6_tastes_25 : decode cX6_tastes 25 = .ok (.iload_n 1, 1) := by decide +kernel
theorem dX6_tastes_26 : decode cX6_tastes 26 = .ok (.iaload, 1) := by decide +kernel
theorem dX6_tastes_27 : decode cX6_tastes 27 = .ok (.aload_n 0, 1) := by decide +kernel
theorem dX6_tastes_28 : decode cX6_tastes 28 = .ok (.getfield 9, 3) := by decide +kernel
theorem dX6_tastes_31 : decode cX6_tastes 31 = .ok (.iconst 0, 1) := by decide +kernel
theorem dX6_tastes_32 : decode cX6_tastes 32 = .ok (.iaload, 1) := by decide +kernel
theorem dX6_tastes_33 : decode cX6_tastes 33 = .ok (.if_icmp .le 6, 3) := by decide +kernel
theorem dX6_tastes_36 : decode cX6_tastes 36 = .ok (.bipush (-13), 2) := by decide +kernel
theorem dX6_tastes_38 : decode cX6_tastes 38 = .ok (.istore_n 3, 1) := by decide +kernel
theorem dX6_tastes_39 : decode cX6_tastes 39 = .ok (.iload_n 3, 1) := by decide +kernel
theorem dX6_tastes_40 : decode cX6_tastes 40 = .ok (.ifCond .eq 5, 3) := by decide +kernel
theorem dX6_tastes_43 : decode cX6_tastes 43 = .ok (.iload_n 3, 1) := by decide +kernel
theorem dX6_tastes_44 : decode cX6_tastes 44 = .ok (.ireturn, 1) := by decide +kernel
theorem dX6_tastes_45 : decode cX6_tastes 45 = .ok (.iconst 0, 1) := by decide +kernel
theorem dX6_tastes_46 : decode cX6_tastes 46 = .ok (.istore 4, 2) := by decide +kernel
theorem dX6_tastes_48 : decode cX6_tastes 48 = .ok (.aload_n 0, 1) := by decide +kernel
theorem dX6_tastes_49 : decode cX6_tastes 49 = .ok (.getfield 9, 3) := by decide +kernel
theorem dX6_tastes_52 : decode cX6_tastes 52 = .ok (.aload_n 0, 1) := by decide +kernel
theorem dX6_tastes_53 : decode cX6_tastes 53 = .ok (.getfield 13, 3) := by decide +kernel
theorem dX6_tastes_56 : decode cX6_tastes 56 = .ok (.invokestatic 145, 3) := by decide +kernel
theorem dX6_tastes_59 : decode cX6_tastes 59 = .ok (.iconst 0, 1) := by decide +kernel
theorem dX6_tastes_60 : decode cX6_tastes 60 = .ok (.istore 5, 2) := by decide +kernel
theorem dX6_tastes_62 : decode cX6_tastes 62 = .ok (.iload 5, 2) := by decide +kernel
theorem dX6_tastes_64 : decode cX6_tastes 64 = .ok (.bipush 10, 2) := by decide +kernel
theorem dX6_tastes_66 : decode cX6_tastes 66 = .ok (.if_icmp .ge 120, 3) := by decide +kernel
theorem dX6_tastes_69 : decode cX6_tastes 69 = .ok (.iconst 1, 1) := by decide +kernel
theorem dX6_tastes_70 : decode cX6_tastes 70 = .ok (.istore 6, 2) := by decide +kernel
theorem dX6_tastes_72 : decode cX6_tastes 72 = .ok (.aload_n 0, 1) := by decide +kernel
theorem dX6_tastes_73 : decode cX6_tastes 73 = .ok (.getfield 13, 3) := by decide +kernel
theorem dX6_tastes_76 : decode cX6_tastes 76 = .ok (.bipush 28, 2) := by decide +kernel
theorem dX6_tastes_78 : decode cX6_tastes 78 = .ok (.iload_n 2, 1) := by decide +kernel
theorem dX6_tastes_79 : decode cX6_tastes 79 = .ok (.iadd, 1) := by decide +kernel
theorem dX6_tastes_80 : decode cX6_tastes 80 = .ok (.iload 5, 2) := by decide +kernel
theorem dX6_tastes_82 : decode cX6_tastes 82 = .ok (.iastore, 1) := by decide +kernel
theorem dX6_tastes_83 : decode cX6_tastes 83 = .ok (.iconst 0, 1) := by decide +kernel
theorem dX6_tastes_84 : decode cX6_tastes 84 = .ok (.istore 7, 2) := by decide +kernel
theorem dX6_tastes_86 : decode cX6_tastes 86 = .ok (.iload 7, 2) := by decide +kernel
theorem dX6_tastes_88 : decode cX6_tastes 88 = .ok (.aload_n 0, 1) := by decide +kernel
theorem dX6_tastes_89 : decode cX6_tastes 89 = .ok (.getfield 46, 3) := by decide +kernel
theorem dX6_tastes_92 : decode cX6_tastes 92 = .ok (.iload_n 1, 1) := by decide +kernel
theorem dX6_tastes_93 : decode cX6_tastes 93 = .ok (.iaload, 1) := by decide +kernel
theorem dX6_tastes_94 : decode cX6_tastes 94 = .ok (.if_icmp .ge 68, 3) := by decide +kernel
theorem dX6_tastes_97 : decode cX6_tastes 97 = .ok (.iload 6, 2) := by decide +kernel
theorem dX6_tastes_99 : decode cX6_tastes 99 = .ok (.aload_n 0, 1) := by decide +kernel
theorem dX6_tastes_100 : decode cX6_tastes 100 = .ok (.getfield 49, 3) := by decide +kernel
theorem dX6_tastes_103 : decode cX6_tastes 103 = .ok (.bipush 100, 2) := by decide +kernel
theorem dX6_tastes_105 : decode cX6_tastes 105 = .ok (.iload_n 1, 1) := by decide +kernel
theorem dX6_tastes_106 : decode cX6_tastes 106 = .ok (.imul, 1) := by decide +kernel
theorem dX6_tastes_107 : decode cX6_tastes 107 = .ok (.iload 7, 2) := by decide +kernel
theorem dX6_tastes_109 : decode cX6_tastes 109 = .ok (.iadd, 1) := by decide +kernel
theorem dX6_tastes_110 : decode cX6_tastes 110 = .ok (.iaload, 1) := by decide +kernel
theorem dX6_tastes_111 : decode cX6_tastes 111 = .ok (.aload_n 0, 1) := by decide +kernel
theorem dX6_tastes_112 : decode cX6_tastes 112 = .ok (.getfield 43, 3) := by decide +kernel
theorem dX6_tastes_115 : decode cX6_tastes 115 = .ok (.iload_n 1, 1) := by decide +kernel
theorem dX6_tastes_116 : decode cX6_tastes 116 = .ok (.iaload, 1) := by decide +kernel
theorem dX6_tastes_117 : decode cX6_tastes 117 = .ok (.invokestatic 203, 3) := by decide +kernel
theorem dX6_tastes_120 : decode cX6_tastes 120 = .ok (.if_icmp .eq 28, 3) := by decide +kernel
theorem dX6_tastes_123 : decode cX6_tastes 123 = .ok (.aload_n 0, 1) := by decide +kernel
theorem dX6_tastes_124 : decode cX6_tastes 124 = .ok (.getfield 49, 3) := by decide +kernel
theorem dX6_tastes_127 : decode cX6_tastes 127 = .ok (.bipush 100, 2) := by decide +kernel
theorem dX6_tastes_129 : decode cX6_tastes 129 = .ok (.iload_n 1, 1) := by decide +kernel
theorem dX6_tastes_130 : decode cX6_tastes 130 = .ok (.imul, 1) := by decide +kernel
theorem dX6_tastes_131 : decode cX6_tastes 131 = .ok (.iload 7, 2) := by decide +kernel
theorem dX6_tastes_133 : decode cX6_tastes 133 = .ok (.iadd, 1) := by decide +kernel
theorem dX6_tastes_134 : decode cX6_tastes 134 = .ok (.iaload, 1) := by decide +kernel
theorem dX6_tastes_135 : decode cX6_tastes 135 = .ok (.aload_n 0, 1) := by decide +kernel
theorem dX6_tastes_136 : decode cX6_tastes 136 = .ok (.getfield 13, 3) := by decide +kernel
theorem dX6_tastes_139 : decode cX6_tastes 139 = .ok (.iload_n 2, 1) := by decide +kernel
theorem dX6_tastes_140 : decode cX6_tastes 140 = .ok (.iload 7, 2) := by decide +kernel
theorem dX6_tastes_142 : decode cX6_tastes 142 = .ok (.invokestatic 72, 3) := by decide +kernel
theorem dX6_tastes_145 : decode cX6_tastes 145 = .ok (.if_icmp .ne 7, 3) := by decide +kernel
theorem dX6_tastes_148 : decode cX6_tastes 148 = .ok (.iconst 1, 1) := by decide +kernel
theorem dX6_tastes_149 : decode cX6_tastes 149 = .ok (.goto 4, 3) := by decide +kernel
theorem dX6_tastes_152 : decode cX6_tastes 152 = .ok (.iconst 0, 1) := by decide +kernel
theorem dX6_tastes_153 : decode cX6_tastes 153 = .ok (.iand, 1) := by decide +kernel
theorem dX6_tastes_154 : decode cX6_tastes 154 = .ok (.istore 6, 2) := by decide +kernel
theorem dX6_tastes_156 : decode cX6_tastes 156 = .ok (.iinc 7 1, 3) := by decide +kernel
theorem dX6_tastes_159 : decode cX6_tastes 159 = .ok (.goto (-73), 3) := by decide +kernel
theorem dX6_tastes_162 : decode cX6_tastes 162 = .ok (.iload 4, 2) := by decide +kernel
theorem dX6_tastes_164 : decode cX6_tastes 164 = .ok (.iload 6, 2) := by decide +kernel
theorem dX6_tastes_166 : decode cX6_tastes 166 = .ok (.ifCond .eq 10, 3) := by decide +kernel
theorem dX6_tastes_169 : decode cX6_tastes 169 = .ok (.iconst 1, 1) := by decide +kernel
theorem dX6_tastes_170 : decode cX6_tastes 170 = .ok (.iload 5, 2) := by decide +kernel
theorem dX6_tastes_172 : decode cX6_tastes 172 = .ok (.ishl, 1) := by decide +kernel
theorem dX6_tastes_173 : decode cX6_tastes 173 = .ok (.goto 4, 3) := by decide +kernel
theorem dX6_tastes_176 : decode cX6_tastes 176 = .ok (.iconst 0, 1) := by decide +kernel
theorem dX6_tastes_177 : decode cX6_tastes 177 = .ok (.ior, 1) := by decide +kernel
theorem dX6_tastes_178 : decode cX6_tastes 178 = .ok (.istore 4, 2) := by decide +kernel
theorem dX6_tastes_180 : decode cX6_tastes 180 = .ok (.iinc 5 1, 3) := by decide +kernel
theorem dX6_tastes_183 : decode cX6_tastes 183 = .ok (.goto (-121), 3) := by decide +kernel
theorem dX6_tastes_186 : decode cX6_tastes 186 = .ok (.iload 4, 2) := by decide +kernel
theorem dX6_tastes_188 : decode cX6_tastes 188 = .ok (.ireturn, 1) := by decide +kernel
set_option maxRecDepth 20000 in
theorem ggX6_hasBy_X6_worstOf : GoodIn wsX6_hasBy wsX6_worstOf := goodIn_r _ [6, 1, 7, 8, 5, 9, 10, 11, 12, 13, 14, 15, 16, 17, 18, 19, 20, 21, 22, 23, 24, 25, 26, 27, 28, 29, 30, 31, 32, 33, 34, 35, 36, 37, 38, 39, 40] (by decide +kernel) (by decide +kernel)
set_option maxRecDepth 20000 in
theorem gX6_hasBy_X6_worstOf : GoodIn wsX6_hasBy (wsV RX6 174 RX6 yX6_worstOf wsX6_worstOf) := goodIn_app (goodIn_of _ (by decide +kernel)) ggX6_hasBy_X6_worstOf
set_option maxRecDepth 20000 in
theorem ggX6_hasBy_X6_worthIn : GoodIn wsX6_hasBy wsX6_worthIn := goodIn_r _ [12, 7, 8, 5, 9, 13, 14, 15, 16, 17, 18] (by decide +kernel) (by decide +kernel)
set_option maxRecDepth 20000 in
theorem gX6_hasBy_X6_worthIn : GoodIn wsX6_hasBy (va_wsS RX6 72 yX6_worthIn wsX6_worthIn) := goodIn_app (goodIn_of _ (by decide +kernel)) ggX6_hasBy_X6_worthIn
theorem dX6_hasBy_0 : decode cX6_hasBy 0 = .ok (.iload_n 2, 1) := by decide +kernel
theorem dX6_hasBy_1 : decode cX6_hasBy 1 = .ok (.iconst 1, 1) := by decide +kernel
theorem dX6_hasBy_2 : decode cX6_hasBy 2 = .ok (.if_icmp .ne 23, 3) := by decide +kernel
theorem dX6_hasBy_5 : decode cX6_hasBy 5 = .ok (.iconst 3, 1) := by decide +kernel
theorem dX6_hasBy_6 : decode cX6_hasBy 6 = .ok (.aload_n 0, 1) := by decide +kernel
theorem dX6_hasBy_7 : decode cX6_hasBy 7 = .ok (.getfield 9, 3) := by decide +kernel
theorem dX6_hasBy_10 : decode cX6_hasBy 10 = .ok (.iload_n 1, 1) := by decide +kernel
theorem dX6_hasBy_11 : decode cX6_hasBy 11 = .ok (.aload_n 0, 1) := by decide +kernel
theorem dX6_hasBy_12 : decode cX6_hasBy 12 = .ok (.iload_n 1, 1) := by decide +kernel
theorem dX6_hasBy_13 : decode cX6_hasBy 13 = .ok (.invokevirtual 174, 3) := by decide +kernel
theorem dX6_hasBy_16 : decode cX6_hasBy 16 = .ok (.invokestatic 72, 3) := by decide +kernel
theorem dX6_hasBy_19 : decode cX6_hasBy 19 = .ok (.iconst 2, 1) := by decide +kernel
theorem dX6_hasBy_20 : decode cX6_hasBy 20 = .ok (.idiv, 1) := by decide +kernel
theorem dX6_hasBy_21 : decode cX6_hasBy 21 = .ok (.isub, 1) := by decide +kernel
theorem dX6_hasBy_22 : decode cX6_hasBy 22 = .ok (.goto 4, 3) := by decide +kernel
theorem dX6_hasBy_25 : decode cX6_hasBy 25 = .ok (.iconst 0, 1) := by decide +kernel
theorem dX6_hasBy_26 : decode cX6_hasBy 26 = .ok (.istore 5, 2) := by decide +kernel
theorem dX6_hasBy_28 : decode cX6_hasBy 28 = .ok (.aload_n 0, 1) := by decide +kernel
theorem dX6_hasBy_29 : decode cX6_hasBy 29 = .ok (.getfield 9, 3) := by decide +kernel
theorem dX6_hasBy_32 : decode cX6_hasBy 32 = .ok (.iload_n 1, 1) := by decide +kernel
theorem dX6_hasBy_33 : decode cX6_hasBy 33 = .ok (.aload_n 0, 1) := by decide +kernel
theorem dX6_hasBy_34 : decode cX6_hasBy 34 = .ok (.iload_n 3, 1) := by decide +kernel
theorem dX6_hasBy_35 : decode cX6_hasBy 35 = .ok (.invokevirtual 174, 3) := by decide +kernel
theorem dX6_hasBy_38 : decode cX6_hasBy 38 = .ok (.invokestatic 72, 3) := by decide +kernel
theorem dX6_hasBy_41 : decode cX6_hasBy 41 = .ok (.istore 6, 2) := by decide +kernel
theorem dX6_hasBy_43 : decode cX6_hasBy 43 = .ok (.iload 5, 2) := by decide +kernel
theorem dX6_hasBy_45 : decode cX6_hasBy 45 = .ok (.iload 4, 2) := by decide +kernel
theorem dX6_hasBy_47 : decode cX6_hasBy 47 = .ok (.ifCond .ne 7, 3) := by decide +kernel
theorem dX6_hasBy_50 : decode cX6_hasBy 50 = .ok (.iconst 0, 1) := by decide +kernel
theorem dX6_hasBy_51 : decode cX6_hasBy 51 = .ok (.goto 16, 3) := by decide +kernel
theorem dX6_hasBy_54 : decode cX6_hasBy 54 = .ok (.iload_n 2, 1) := by decide +kernel
theorem dX6_hasBy_55 : decode cX6_hasBy 55 = .ok (.ifCond .ne 8, 3) := by decide +kernel
theorem dX6_hasBy_58 : decode cX6_hasBy 58 = .ok (.iload 6, 2) := by decide +kernel
theorem dX6_hasBy_60 : decode cX6_hasBy 60 = .ok (.goto 7, 3) := by decide +kernel
theorem dX6_hasBy_63 : decode cX6_hasBy 63 = .ok (.iload 6, 2) := by decide +kernel
theorem dX6_hasBy_65 : decode cX6_hasBy 65 = .ok (.iconst 2, 1) := by decide +kernel
theorem dX6_hasBy_66 : decode cX6_hasBy 66 = .ok (.idiv, 1) := by decide +kernel
theorem dX6_hasBy_67 : decode cX6_hasBy 67 = .ok (.iadd, 1) := by decide +kernel
theorem dX6_hasBy_68 : decode cX6_hasBy 68 = .ok (.ireturn, 1) := by decide +kernel
set_option maxRecDepth 20000 in
theorem ggX6_two_X6_isPerson : GoodIn wsX6_two wsX6_isPerson := goodIn_r _ [5, 6, 7, 8, 4, 9, 30, 31, 32, 33, 34, 35, 36, 37, 38, 39, 40, 41, 42, 43, 44, 45, 46, 47, 48, 49, 50, 51] (by decide +kernel) (by decide +kernel)
set_option maxRecDepth 20000 in
theorem gX6_two_X6_isPerson : GoodIn wsX6_two (wsV RX6 120 RX6 yX6_isPerson wsX6_isPerson) := goodIn_app (goodIn_of _ (by decide +kernel)) ggX6_two_X6_isPerson
set_option maxRecDepth 20000 in
theorem ggX6_two_X6_worstOf : GoodIn wsX6_two wsX6_worstOf := goodIn_r _ [13, 6, 14, 15, 4, 16, 17, 18, 19, 20, 21, 22, 23, 24, 25, 30, 31, 32, 33, 34, 35, 36, 37, 38, 39, 40, 41, 42, 43, 44, 45, 46, 47, 48, 49, 50, 51] (by decide +kernel) (by decide +kernel)
set_option maxRecDepth 20000 in
theorem gX6_two_X6_worstOf : GoodIn wsX6_two (wsV RX6 174 RX6 yX6_worstOf wsX6_worstOf) := goodIn_app (goodIn_of _ (by decide +kernel)) ggX6_two_X6_worstOf
set_option maxRecDepth 20000 in
theorem ggX6_two_X6_hasBy : GoodIn wsX6_two wsX6_hasBy := goodIn_r _ [29, 6, 10, 11, 12, 4, 13, 14, 15, 16, 17, 18, 19, 20, 21, 22, 23, 24, 25, 30, 31, 32, 33, 34, 35, 36, 37, 38, 39, 40, 41, 42, 43, 44, 45, 46, 47, 48, 49, 50, 51] (by decide +kernel) (by decide +kernel)
set_option maxRecDepth 20000 in
theorem gX6_two_X6_hasBy : GoodIn wsX6_two (wsV RX6 206 RX6 yX6_hasBy wsX6_hasBy) := goodIn_app (goodIn_of _ (by decide +kernel)) ggX6_two_X6_hasBy
theorem dX6_two_0 : decode cX6_two 0 = .ok (.aload_n 0, 1) := by decide +kernel
theorem dX6_two_1 : decode cX6_two 1 = .ok (.iload_n 1, 1) := by decide +kernel
theorem dX6_two_2 : decode cX6_two 2 = .ok (.invokevirtual 120, 3) := by decide +kernel
theorem dX6_two_5 : decode cX6_two 5 = .ok (.ifCond .eq 16, 3) := by decide +kernel
theorem dX6_two_8 : decode cX6_two 8 = .ok (.aload_n 0, 1) := by decide +kernel
theorem dX6_two_9 : decode cX6_two 9 = .ok (.iload_n 2, 1) := by decide +kernel
theorem dX6_two_10 : decode cX6_two 10 = .ok (.invokevirtual 120, 3) := by decide +kernel
theorem dX6_two_13 : decode cX6_two 13 = .ok (.ifCond .eq 8, 3) := by decide +kernel
theorem dX6_two_16 : decode cX6_two 16 = .ok (.iload_n 1, 1) := by decide +kernel
theorem dX6_two_17 : decode cX6_two 17 = .ok (.iload_n 2, 1) := by decide +kernel
theorem dX6_two_18 : decode cX6_two 18 = .ok (.if_icmp .ne 5, 3) := by decide +kernel
theorem dX6_two_21 : decode cX6_two 21 = .ok (.iconst (-1), 1) := by decide +kernel
theorem dX6_two_22 : decode cX6_two 22 = .ok (.ireturn, 1) := by decide +kernel
theorem dX6_two_23 : decode cX6_two 23 = .ok (.aload_n 0, 1) := by decide +kernel
theorem dX6_two_24 : decode cX6_two 24 = .ok (.iload_n 1, 1) := by decide +kernel
theorem dX6_two_25 : decode cX6_two 25 = .ok (.invokevirtual 174, 3) := by decide +kernel
theorem dX6_two_28 : decode cX6_two 28 = .ok (.ifCond .lt 11, 3) := by decide +kernel
theorem dX6_two_31 : decode cX6_two 31 = .ok (.aload_n 0, 1) := by decide +kernel
theorem dX6_two_32 : decode cX6_two 32 = .ok (.iload_n 2, 1) := by decide +kernel
theorem dX6_two_33 : decode cX6_two 33 = .ok (.invokevirtual 174, 3) := by decide +kernel
theorem dX6_two_36 : decode cX6_two 36 = .ok (.ifCond .ge 6, 3) := by decide +kernel
theorem dX6_two_39 : decode cX6_two 39 = .ok (.bipush (-3), 2) := by decide +kernel
theorem dX6_two_41 : decode cX6_two 41 = .ok (.ireturn, 1) := by decide +kernel
theorem dX6_two_42 : decode cX6_two 42 = .ok (.iconst 0, 1) := by decide +kernel
theorem dX6_two_43 : decode cX6_two 43 = .ok (.istore_n 3, 1) := by decide +kernel
theorem dX6_two_44 : decode cX6_two 44 = .ok (.iload_n 3, 1) := by decide +kernel
theorem dX6_two_45 : decode cX6_two 45 = .ok (.iconst 4, 1) := by decide +kernel
theorem dX6_two_46 : decode cX6_two 46 = .ok (.if_icmp .ge 78, 3) := by decide +kernel
theorem dX6_two_49 : decode cX6_two 49 = .ok (.iload_n 3, 1) := by decide +kernel
theorem dX6_two_50 : decode cX6_two 50 = .ok (.iconst 2, 1) := by decide +kernel
theorem dX6_two_51 : decode cX6_two 51 = .ok (.idiv, 1) := by decide +kernel
theorem dX6_two_52 : decode cX6_two 52 = .ok (.istore 4, 2) := by decide +kernel
theorem dX6_two_54 : decode cX6_two 54 = .ok (.iload_n 3, 1) := by decide +kernel
theorem dX6_two_55 : decode cX6_two 55 = .ok (.iconst 2, 1) := by decide +kernel
theorem dX6_two_56 : decode cX6_two 56 = .ok (.irem, 1) := by decide +kernel
theorem dX6_two_57 : decode cX6_two 57 = .ok (.istore 5, 2) := by decide +kernel
theorem dX6_two_59 : decode cX6_two 59 = .ok (.aload_n 0, 1) := by decide +kernel
theorem dX6_two_60 : decode cX6_two 60 = .ok (.iload_n 1, 1) := by decide +kernel
theorem dX6_two_61 : decode cX6_two 61 = .ok (.iconst 1, 1) := by decide +kernel
theorem dX6_two_62 : decode cX6_two 62 = .ok (.iload 4, 2) := by decide +kernel
theorem dX6_two_64 : decode cX6_two 64 = .ok (.isub, 1) := by decide +kernel
theorem dX6_two_65 : decode cX6_two 65 = .ok (.iload_n 2, 1) := by decide +kernel
theorem dX6_two_66 : decode cX6_two 66 = .ok (.iload 5, 2) := by decide +kernel
theorem dX6_two_68 : decode cX6_two 68 = .ok (.invokevirtual 206, 3) := by decide +kernel
theorem dX6_two_71 : decode cX6_two 71 = .ok (.aload_n 0, 1) := by decide +kernel
theorem dX6_two_72 : decode cX6_two 72 = .ok (.iload_n 1, 1) := by decide +kernel
theorem dX6_two_73 : decode cX6_two 73 = .ok (.iload 4, 2) := by decide +kernel
theorem dX6_two_75 : decode cX6_two 75 = .ok (.iload_n 2, 1) := by decide +kernel
theorem dX6_two_76 : decode cX6_two 76 = .ok (.iload 5, 2) := by decide +kernel
theorem dX6_two_78 : decode cX6_two 78 = .ok (.invokevirtual 206, 3) := by decide +kernel
theorem dX6_two_81 : decode cX6_two 81 = .ok (.if_icmp .gt 37, 3) := by decide +kernel
theorem dX6_two_84 : decode cX6_two 84 = .ok (.aload_n 0, 1) := by decide +kernel
theorem dX6_two_85 : decode cX6_two 85 = .ok (.iload_n 2, 1) := by decide +kernel
theorem dX6_two_86 : decode cX6_two 86 = .ok (.iconst 1, 1) := by decide +kernel
theorem dX6_two_87 : decode cX6_two 87 = .ok (.iload 5, 2) := by decide +kernel
theorem dX6_two_89 : decode cX6_two 89 = .ok (.isub, 1) := by decide +kernel
theorem dX6_two_90 : decode cX6_two 90 = .ok (.iload_n 1, 1) := by decide +kernel
theorem dX6_two_91 : decode cX6_two 91 = .ok (.iload 4, 2) := by decide +kernel
theorem dX6_two_93 : decode cX6_two 93 = .ok (.invokevirtual 206, 3) := by decide +kernel
theorem dX6_two_96 : decode cX6_two 96 = .ok (.aload_n 0, 1) := by decide +kernel
theorem dX6_two_97 : decode cX6_two 97 = .ok (.iload_n 2, 1) := by decide +kernel
theorem dX6_two_98 : decode cX6_two 98 = .ok (.iload 5, 2) := by decide +kernel
theorem dX6_two_100 : decode cX6_two 100 = .ok (.iload_n 1, 1) := by decide +kernel
theorem dX6_two_101 : decode cX6_two 101 = .ok (.iload 4, 2) := by decide +kernel
theorem dX6_two_103 : decode cX6_two 103 = .ok (.invokevirtual 206, 3) := by decide +kernel
theorem dX6_two_106 : decode cX6_two 106 = .ok (.if_icmp .gt 12, 3) := by decide +kernel
theorem dX6_two_109 : decode cX6_two 109 = .ok (.bipush 10, 2) := by decide +kernel
theorem dX6_two_111 : decode cX6_two 111 = .ok (.iload 4, 2) := by decide +kernel
theorem dX6_two_113 : decode cX6_two 113 = .ok (.imul, 1) := by decide +kernel
theorem dX6_two_114 : decode cX6_two 114 = .ok (.iload 5, 2) := by decide +kernel
theorem dX6_two_116 : decode cX6_two 116 = .ok (.iadd, 1) := by decide +kernel
theorem dX6_two_117 : decode cX6_two 117 = .ok (.ireturn, 1) := by decide +kernel
theorem dX6_two_118 : decode cX6_two 118 = .ok (.iinc 3 1, 3) := by decide +kernel
theorem dX6_two_121 : decode cX6_two 121 = .ok (.goto (-77), 3) := by decide +kernel
theorem dX6_two_124 : decode cX6_two 124 = .ok (.bipush (-4), 2) := by decide +kernel
theorem dX6_two_126 : decode cX6_two 126 = .ok (.ireturn, 1) := by decide +kernel
theorem dX6_gcd_0 : decode cX6_gcd 0 = .ok (.lload_n 0, 1) := by decide +kernel
theorem dX6_gcd_1 : decode cX6_gcd 1 = .ok (.lstore 4, 2) := by decide +kernel
theorem dX6_gcd_3 : decode cX6_gcd 3 = .ok (.lload_n 2, 1) := by decide +kernel
theorem dX6_gcd_4 : decode cX6_gcd 4 = .ok (.lstore 6, 2) := by decide +kernel
theorem dX6_gcd_6 : decode cX6_gcd 6 = .ok (.lload 6, 2) := by decide +kernel
theorem dX6_gcd_8 : decode cX6_gcd 8 = .ok (.lconst 0, 1) := by decide +kernel
theorem dX6_gcd_9 : decode cX6_gcd 9 = .ok (.lcmp, 1) := by decide +kernel
theorem dX6_gcd_10 : decode cX6_gcd 10 = .ok (.ifCond .eq 21, 3) := by decide +kernel
theorem dX6_gcd_13 : decode cX6_gcd 13 = .ok (.lload 4, 2) := by decide +kernel
theorem dX6_gcd_15 : decode cX6_gcd 15 = .ok (.lload 6, 2) := by decide +kernel
theorem dX6_gcd_17 : decode cX6_gcd 17 = .ok (.lrem, 1) := by decide +kernel
theorem dX6_gcd_18 : decode cX6_gcd 18 = .ok (.lstore 8, 2) := by decide +kernel
theorem dX6_gcd_20 : decode cX6_gcd 20 = .ok (.lload 6, 2) := by decide +kernel
theorem dX6_gcd_22 : decode cX6_gcd 22 = .ok (.lstore 4, 2) := by decide +kernel
theorem dX6_gcd_24 : decode cX6_gcd 24 = .ok (.lload 8, 2) := by decide +kernel
theorem dX6_gcd_26 : decode cX6_gcd 26 = .ok (.lstore 6, 2) := by decide +kernel
theorem dX6_gcd_28 : decode cX6_gcd 28 = .ok (.goto (-22), 3) := by decide +kernel
theorem dX6_gcd_31 : decode cX6_gcd 31 = .ok (.lload 4, 2) := by decide +kernel
theorem dX6_gcd_33 : decode cX6_gcd 33 = .ok (.lreturn, 1) := by decide +kernel
set_option maxRecDepth 20000 in
theorem ggX6_partOf_X6_gcd : GoodIn wsX6_partOf wsX6_gcd := goodIn_r _ [4] (by decide +kernel) (by decide +kernel)
set_option maxRecDepth 20000 in
theorem gX6_partOf_X6_gcd : GoodIn wsX6_partOf (va_wsS RX6 209 yX6_gcd wsX6_gcd) := goodIn_app (goodIn_of _ (by decide +kernel)) ggX6_partOf_X6_gcd
theorem dX6_partOf_0 : decode cX6_partOf 0 = .ok (.lload_n 0, 1) := by decide +kernel
theorem dX6_partOf_1 : decode cX6_partOf 1 = .ok (.lconst 0, 1) := by decide +kernel
theorem dX6_partOf_2 : decode cX6_partOf 2 = .ok (.lcmp, 1) := by decide +kernel
theorem dX6_partOf_3 : decode cX6_partOf 3 = .ok (.ifCond .ne 7, 3) := by decide +kernel
theorem dX6_partOf_6 : decode cX6_partOf 6 = .ok (.iload 4, 2) := by decide +kernel
theorem dX6_partOf_8 : decode cX6_partOf 8 = .ok (.i2l, 1) := by decide +kernel
theorem dX6_partOf_9 : decode cX6_partOf 9 = .ok (.lreturn, 1) := by decide +kernel
theorem dX6_partOf_10 : decode cX6_partOf 10 = .ok (.iload 4, 2) := by decide +kernel
theorem dX6_partOf_12 : decode cX6_partOf 12 = .ok (.ifCond .ne 7, 3) := by decide +kernel
theorem dX6_partOf_15 : decode cX6_partOf 15 = .ok (.lload_n 0, 1) := by decide +kernel
theorem dX6_partOf_16 : decode cX6_partOf 16 = .ok (.goto 4, 3) := by decide +kernel
theorem dX6_partOf_19 : decode cX6_partOf 19 = .ok (.lload_n 2, 1) := by decide +kernel
theorem dX6_partOf_20 : decode cX6_partOf 20 = .ok (.lload_n 0, 1) := by decide +kernel
theorem dX6_partOf_21 : decode cX6_partOf 21 = .ok (.lload_n 2, 1) := by decide +kernel
theorem dX6_partOf_22 : decode cX6_partOf 22 = .ok (.invokestatic 209, 3) := by decide +kernel
theorem dX6_partOf_25 : decode cX6_partOf 25 = .ok (.ldiv, 1) := by decide +kernel
theorem dX6_partOf_26 : decode cX6_partOf 26 = .ok (.lreturn, 1) := by decide +kernel
set_option maxRecDepth 20000 in
theorem ggX6_market_X6_isPerson : GoodIn wsX6_market wsX6_isPerson := goodIn_r _ [7, 2, 8, 9, 6, 10, 46, 47, 48, 49, 50, 51, 52, 53, 54, 55, 56, 57, 58, 59, 60, 61, 62, 63, 64, 65, 66, 67] (by decide +kernel) (by decide +kernel)
set_option maxRecDepth 20000 in
theorem gX6_market_X6_isPerson : GoodIn wsX6_market (wsV RX6 120 RX6 yX6_isPerson wsX6_isPerson) := goodIn_app (goodIn_of _ (by decide +kernel)) ggX6_market_X6_isPerson
set_option maxRecDepth 20000 in
theorem ggX6_market_X6_isGood : GoodIn wsX6_market wsX6_isGood := goodIn_r _ [14, 2, 8, 9, 6, 10, 46, 47, 48, 49, 50, 51, 52, 53, 54, 55, 56, 57, 58, 59, 60, 61, 62, 63, 64, 65, 66, 67] (by decide +kernel) (by decide +kernel)
set_option maxRecDepth 20000 in
theorem gX6_market_X6_isGood : GoodIn wsX6_market (wsV RX6 127 RX6 yX6_isGood wsX6_isGood) := goodIn_app (goodIn_of _ (by decide +kernel)) ggX6_market_X6_isGood
set_option maxRecDepth 20000 in
theorem ggX6_market_X6_isIn : GoodIn wsX6_market wsX6_isIn := goodIn_r _ [10] (by decide +kernel) (by decide +kernel)
set_option maxRecDepth 20000 in
theorem gX6_market_X6_isIn : GoodIn wsX6_market (va_wsS RX6 52 yX6_isIn wsX6_isIn) := goodIn_app (goodIn_of _ (by decide +kernel)) ggX6_market_X6_isIn
set_option maxRecDepth 20000 in
theorem ggX6_market_X6_takesOf : GoodIn wsX6_market wsX6_takesOf := goodIn_r _ [18, 2, 19, 20, 6, 21, 22, 23, 24, 25, 26, 27, 28, 29, 30, 31, 32, 33, 34, 35, 36, 46, 47, 48, 49, 50, 51, 52, 53, 54, 55, 56, 57, 58, 59, 60, 61, 62, 63, 64, 65, 66, 67] (by decide +kernel) (by decide +kernel)
set_option maxRecDepth 20000 in
theorem gX6_market_X6_takesOf : GoodIn wsX6_market (wsV RX6 171 RX6 yX6_takesOf wsX6_takesOf) := goodIn_app (goodIn_of _ (by decide +kernel)) ggX6_market_X6_takesOf
set_option maxRecDepth 20000 in
theorem ggX6_market_X6_ownedBy : GoodIn wsX6_market wsX6_ownedBy := goodIn_r _ [39, 25, 26, 6, 27] (by decide +kernel) (by decide +kernel)
set_option maxRecDepth 20000 in
theorem gX6_market_X6_ownedBy : GoodIn wsX6_market (va_wsS RX6 152 yX6_ownedBy wsX6_ownedBy) := goodIn_app (goodIn_of _ (by decide +kernel)) ggX6_market_X6_ownedBy
set_option maxRecDepth 20000 in
theorem ggX6_market_X6_partOf : GoodIn wsX6_market wsX6_partOf := goodIn_r _ [42, 43, 44, 6, 45] (by decide +kernel) (by decide +kernel)
set_option maxRecDepth 20000 in
theorem gX6_market_X6_partOf : GoodIn wsX6_market (va_wsS RX6 215 yX6_partOf wsX6_partOf) := goodIn_app (goodIn_of _ (by decide +kernel)) ggX6_market_X6_partOf
theorem dX6_market_0 : decode cX6_market 0 = .ok (.aload_n 0, 1) := by decide +kernel
theorem dX6_market_1 : decode cX6_market 1 = .ok (.iload_n 1, 1) := by decide +kernel
theorem dX6_market_2 : decode cX6_market 2 = .ok (.invokevirtual 120, 3) := by decide +kernel
theorem dX6_market_5 : decode cX6_market 5 = .ok (.ifCond .eq 31, 3) := by decide +kernel
theorem dX6_market_8 : decode cX6_market 8 = .ok (.aload_n 0, 1) := by decide +kernel
theorem dX6_market_9 : decode cX6_market 9 = .ok (.iload_n 2, 1) := by decide +kernel
theorem dX6_market_10 : decode cX6_market 10 = .ok (.invokevirtual 127, 3) := by decide +kernel
theorem dX6_market_13 : decode cX6_market 13 = .ok (.ifCond .eq 23, 3) := by decide +kernel
theorem dX6_market_16 : decode cX6_market 16 = .ok (.iload_n 3, 1) := by decide +kernel
theorem dX6_market_17 : decode cX6_market 17 = .ok (.iconst 2, 1) := by decide +kernel
theorem dX6_market_18 : decode cX6_market 18 = .ok (.bipush 20, 2) := by decide +kernel
theorem dX6_market_20 : decode cX6_market 20 = .ok (.invokestatic 52, 3) := by decide +kernel
theorem dX6_market_23 : decode cX6_market 23 = .ok (.ifCond .eq 13, 3) := by decide +kernel
theorem dX6_market_26 : decode cX6_market 26 = .ok (.iload 4, 2) := by decide +kernel
theorem dX6_market_28 : decode cX6_market 28 = .ok (.iconst 0, 1) := by decide +kernel
theorem dX6_market_29 : decode cX6_market 29 = .ok (.iconst 1, 1) := by decide +kernel
theorem dX6_market_30 : decode cX6_market 30 = .ok (.invokestatic 52, 3) := by decide +kernel
theorem dX6_market_33 : decode cX6_market 33 = .ok (.ifCond .ne 7, 3) := by decide +kernel
theorem dX6_market_36 : decode cX6_market 36 = .ok (.ldc2_w 213, 3) := by decide +kernel
theorem dX6_market_39 : decode cX6_market 39 = .ok (.lreturn, 1) := by decide +kernel
theorem dX6_market_40 : decode cX6_market 40 = .ok (.aload_n 0, 1) := by decide +kernel
theorem dX6_market_41 : decode cX6_market 41 = .ok (.iload_n 1, 1) := by decide +kernel
theorem dX6_market_42 : decode cX6_market 42 = .ok (.iload_n 2, 1) := by decide +kernel
theorem dX6_market_43 : decode cX6_market 43 = .ok (.invokevirtual 171, 3) := by decide +kernel
theorem dX6_market_46 : decode cX6_market 46 = .ok (.istore 5, 2) := by decide +kernel
theorem dX6_market_48 : decode cX6_market 48 = .ok (.lconst 1, 1) := by decide +kernel
theorem dX6_market_49 : decode cX6_market 49 = .ok (.lstore 6, 2) := by decide +kernel
theorem dX6_market_51 : decode cX6_market 51 = .ok (.lconst 1, 1) := by decide +kernel
theorem dX6_market_52 : decode cX6_market 52 = .ok (.lstore 8, 2) := by decide +kernel
theorem dX6_market_54 : decode cX6_market 54 = .ok (.iconst 0, 1) := by decide +kernel
theorem dX6_market_55 : decode cX6_market 55 = .ok (.istore 10, 2) := by decide +kernel
theorem dX6_market_57 : decode cX6_market 57 = .ok (.iload 10, 2) := by decide +kernel
theorem dX6_market_59 : decode cX6_market 59 = .ok (.aload_n 0, 1) := by decide +kernel
theorem dX6_market_60 : decode cX6_market 60 = .ok (.getfield 9, 3) := by decide +kernel
theorem dX6_market_63 : decode cX6_market 63 = .ok (.iconst 1, 1) := by decide +kernel
theorem dX6_market_64 : decode cX6_market 64 = .ok (.iaload, 1) := by decide +kernel
theorem dX6_market_65 : decode cX6_market 65 = .ok (.if_icmp .ge 49, 3) := by decide +kernel
theorem dX6_market_68 : decode cX6_market 68 = .ok (.iload 10, 2) := by decide +kernel
theorem dX6_market_70 : decode cX6_market 70 = .ok (.iload_n 1, 1) := by decide +kernel
theorem dX6_market_71 : decode cX6_market 71 = .ok (.if_icmp .eq 37, 3) := by decide +kernel
theorem dX6_market_74 : decode cX6_market 74 = .ok (.aload_n 0, 1) := by decide +kernel
theorem dX6_market_75 : decode cX6_market 75 = .ok (.getfield 9, 3) := by decide +kernel
theorem dX6_market_78 : decode cX6_market 78 = .ok (.iload 10, 2) := by decide +kernel
theorem dX6_market_80 : decode cX6_market 80 = .ok (.invokestatic 152, 3) := by decide +kernel
theorem dX6_market_83 : decode cX6_market 83 = .ok (.iload 5, 2) := by decide +kernel
theorem dX6_market_85 : decode cX6_market 85 = .ok (.iand, 1) := by decide +kernel
theorem dX6_market_86 : decode cX6_market 86 = .ok (.ifCond .ne 6, 3) := by decide +kernel
theorem dX6_market_89 : decode cX6_market 89 = .ok (.goto 19, 3) := by decide +kernel
theorem dX6_market_92 : decode cX6_market 92 = .ok (.lload 6, 2) := by decide +kernel
theorem dX6_market_94 : decode cX6_market 94 = .ok (.iload_n 3, 1) := by decide +kernel
theorem dX6_market_95 : decode cX6_market 95 = .ok (.iconst 1, 1) := by decide +kernel
theorem dX6_market_96 : decode cX6_market 96 = .ok (.isub, 1) := by decide +kernel
theorem dX6_market_97 : decode cX6_market 97 = .ok (.i2l, 1) := by decide +kernel
theorem dX6_market_98 : decode cX6_market 98 = .ok (.lmul, 1) := by decide +kernel
theorem dX6_market_99 : decode cX6_market 99 = .ok (.lstore 6, 2) := by decide +kernel
theorem dX6_market_101 : decode cX6_market 101 = .ok (.lload 8, 2) := by decide +kernel
theorem dX6_market_103 : decode cX6_market 103 = .ok (.iload_n 3, 1) := by decide +kernel
theorem dX6_market_104 : decode cX6_market 104 = .ok (.i2l, 1) := by decide +kernel
theorem dX6_market_105 : decode cX6_market 105 = .ok (.lmul, 1) := by decide +kernel
theorem dX6_market_106 : decode cX6_market 106 = .ok (.lstore 8, 2) := by decide +kernel
theorem dX6_market_108 : decode cX6_market 108 = .ok (.iinc 10 1, 3) := by decide +kernel
theorem dX6_market_111 : decode cX6_market 111 = .ok (.goto (-54), 3) := by decide +kernel
theorem dX6_market_114 : decode cX6_market 114 = .ok (.lload 8, 2) := by decide +kernel
theorem dX6_market_116 : decode cX6_market 116 = .ok (.lload 6, 2) := by decide +kernel
theorem dX6_market_118 : decode cX6_market 118 = .ok (.lsub, 1) := by decide +kernel
theorem dX6_market_119 : decode cX6_market 119 = .ok (.lload 8, 2) := by decide +kernel
theorem dX6_market_121 : decode cX6_market 121 = .ok (.iload 4, 2) := by decide +kernel
theorem dX6_market_123 : decode cX6_market 123 = .ok (.invokestatic 215, 3) := by decide +kernel
theorem dX6_market_126 : decode cX6_market 126 = .ok (.lreturn, 1) := by decide +kernel
set_option maxRecDepth 20000 in
theorem ggX6_mean_X6_isPerson : GoodIn wsX6_mean wsX6_isPerson := goodIn_r _ [7, 2, 8, 9, 6, 10, 29, 30, 31, 32, 33, 34, 35, 36, 37, 38, 39, 40, 41, 42, 43, 44, 45, 46, 47, 48, 49, 50] (by decide +kernel) (by decide +kernel)
set_option maxRecDepth 20000 in
theorem gX6_mean_X6_isPerson : GoodIn wsX6_mean (wsV RX6 120 RX6 yX6_isPerson wsX6_isPerson) := goodIn_app (goodIn_of _ (by decide +kernel)) ggX6_mean_X6_isPerson
set_option maxRecDepth 20000 in
theorem ggX6_mean_X6_isIn : GoodIn wsX6_mean wsX6_isIn := goodIn_r _ [10] (by decide +kernel) (by decide +kernel)
set_option maxRecDepth 20000 in
theorem gX6_mean_X6_isIn : GoodIn wsX6_mean (va_wsS RX6 52 yX6_isIn wsX6_isIn) := goodIn_app (goodIn_of _ (by decide +kernel)) ggX6_mean_X6_isIn
set_option maxRecDepth 20000 in
theorem ggX6_mean_X6_worthIn : GoodIn wsX6_mean wsX6_worthIn := goodIn_r _ [13, 14, 15, 6, 16, 17, 18, 19, 20, 21, 22] (by decide +kernel) (by decide +kernel)
set_option maxRecDepth 20000 in
theorem gX6_mean_X6_worthIn : GoodIn wsX6_mean (va_wsS RX6 72 yX6_worthIn wsX6_worthIn) := goodIn_app (goodIn_of _ (by decide +kernel)) ggX6_mean_X6_worthIn
set_option maxRecDepth 20000 in
theorem ggX6_mean_X6_partOf : GoodIn wsX6_mean wsX6_partOf := goodIn_r _ [25, 26, 27, 6, 28] (by decide +kernel) (by decide +kernel)
set_option maxRecDepth 20000 in
theorem gX6_mean_X6_partOf : GoodIn wsX6_mean (va_wsS RX6 215 yX6_partOf wsX6_partOf) := goodIn_app (goodIn_of _ (by decide +kernel)) ggX6_mean_X6_partOf
theorem dX6_mean_0 : decode cX6_mean 0 = .ok (.aload_n 0, 1) := by decide +kernel
theorem dX6_mean_1 : decode cX6_mean 1 = .ok (.iload_n 1, 1) := by decide +kernel
theorem dX6_mean_2 : decode cX6_mean 2 = .ok (.invokevirtual 120, 3) := by decide +kernel
theorem dX6_mean_5 : decode cX6_mean 5 = .ok (.ifCond .eq 12, 3) := by decide +kernel
theorem dX6_mean_8 : decode cX6_mean 8 = .ok (.iload_n 2, 1) := by decide +kernel
theorem dX6_mean_9 : decode cX6_mean 9 = .ok (.iconst 0, 1) := by decide +kernel
theorem dX6_mean_10 : decode cX6_mean 10 = .ok (.iconst 1, 1) := by decide +kernel
theorem dX6_mean_11 : decode cX6_mean 11 = .ok (.invokestatic 52, 3) := by decide +kernel
theorem dX6_mean_14 : decode cX6_mean 14 = .ok (.ifCond .ne 7, 3) := by decide +kernel
theorem dX6_mean_17 : decode cX6_mean 17 = .ok (.ldc2_w 213, 3) := by decide +kernel
theorem dX6_mean_20 : decode cX6_mean 20 = .ok (.lreturn, 1) := by decide +kernel
theorem dX6_mean_21 : decode cX6_mean 21 = .ok (.lconst 0, 1) := by decide +kernel
theorem dX6_mean_22 : decode cX6_mean 22 = .ok (.lstore_n 3, 1) := by decide +kernel
theorem dX6_mean_23 : decode cX6_mean 23 = .ok (.iconst 0, 1) := by decide +kernel
theorem dX6_mean_24 : decode cX6_mean 24 = .ok (.istore 5, 2) := by decide +kernel
theorem dX6_mean_26 : decode cX6_mean 26 = .ok (.iload 5, 2) := by decide +kernel
theorem dX6_mean_28 : decode cX6_mean 28 = .ok (.aload_n 0, 1) := by decide +kernel
theorem dX6_mean_29 : decode cX6_mean 29 = .ok (.getfield 9, 3) := by decide +kernel
theorem dX6_mean_32 : decode cX6_mean 32 = .ok (.iconst 0, 1) := by decide +kernel
theorem dX6_mean_33 : decode cX6_mean 33 = .ok (.iaload, 1) := by decide +kernel
theorem dX6_mean_34 : decode cX6_mean 34 = .ok (.if_icmp .ge 23, 3) := by decide +kernel
theorem dX6_mean_37 : decode cX6_mean 37 = .ok (.lload_n 3, 1) := by decide +kernel
theorem dX6_mean_38 : decode cX6_mean 38 = .ok (.aload_n 0, 1) := by decide +kernel
theorem dX6_mean_39 : decode cX6_mean 39 = .ok (.getfield 9, 3) := by decide +kernel
theorem dX6_mean_42 : decode cX6_mean 42 = .ok (.iload_n 1, 1) := by decide +kernel
theorem dX6_mean_43 : decode cX6_mean 43 = .ok (.iload 5, 2) := by decide +kernel
theorem dX6_mean_45 : decode cX6_mean 45 = .ok (.invokestatic 72, 3) := by decide +kernel
theorem dX6_mean_48 : decode cX6_mean 48 = .ok (.i2l, 1) := by decide +kernel
theorem dX6_mean_49 : decode cX6_mean 49 = .ok (.ladd, 1) := by decide +kernel
theorem dX6_mean_50 : decode cX6_mean 50 = .ok (.lstore_n 3, 1) := by decide +kernel
theorem dX6_mean_51 : decode cX6_mean 51 = .ok (.iinc 5 1, 3) := by decide +kernel
theorem dX6_mean_54 : decode cX6_mean 54 = .ok (.goto (-28), 3) := by decide +kernel
theorem dX6_mean_57 : decode cX6_mean 57 = .ok (.lload_n 3, 1) := by decide +kernel
theorem dX6_mean_58 : decode cX6_mean 58 = .ok (.aload_n 0, 1) := by decide +kernel
theorem dX6_mean_59 : decode cX6_mean 59 = .ok (.getfield 9, 3) := by decide +kernel
theorem dX6_mean_62 : decode cX6_mean 62 = .ok (.iconst 0, 1) := by decide +kernel
theorem dX6_mean_63 : decode cX6_mean 63 = .ok (.iaload, 1) := by decide +kernel
theorem dX6_mean_64 : decode cX6_mean 64 = .ok (.i2l, 1) := by decide +kernel
theorem dX6_mean_65 : decode cX6_mean 65 = .ok (.iload_n 2, 1) := by decide +kernel
theorem dX6_mean_66 : decode cX6_mean 66 = .ok (.invokestatic 215, 3) := by decide +kernel
theorem dX6_mean_69 : decode cX6_mean 69 = .ok (.lreturn, 1) := by decide +kernel
set_option maxRecDepth 20000 in
theorem ggX6_forged_X6_isPerson : GoodIn wsX6_forged wsX6_isPerson := goodIn_r _ [8, 3, 9, 10, 7, 11, 43, 44, 45, 46, 47, 48, 49, 50, 51, 52, 53, 54, 55, 56, 57, 58, 59, 60, 61, 62, 63, 64] (by decide +kernel) (by decide +kernel)
set_option maxRecDepth 20000 in
theorem gX6_forged_X6_isPerson : GoodIn wsX6_forged (wsV RX6 120 RX6 yX6_isPerson wsX6_isPerson) := goodIn_app (goodIn_of _ (by decide +kernel)) ggX6_forged_X6_isPerson
set_option maxRecDepth 20000 in
theorem ggX6_forged_X6_wrongRow : GoodIn wsX6_forged wsX6_wrongRow := goodIn_r _ [15, 16, 17, 18, 19, 7, 20, 9, 10, 11, 43, 44, 45, 46, 47, 48, 49, 50, 51, 52, 53, 54, 55, 56, 57, 58, 59, 60, 61, 62, 63, 64] (by decide +kernel) (by decide +kernel)
set_option maxRecDepth 20000 in
theorem gX6_forged_X6_wrongRow : GoodIn wsX6_forged (wsV RX6 138 RX6 yX6_wrongRow wsX6_wrongRow) := goodIn_app (goodIn_of _ (by decide +kernel)) ggX6_forged_X6_wrongRow
set_option maxRecDepth 20000 in
theorem ggX6_forged_X6_isGood : GoodIn wsX6_forged wsX6_isGood := goodIn_r _ [24, 3, 9, 10, 7, 11, 43, 44, 45, 46, 47, 48, 49, 50, 51, 52, 53, 54, 55, 56, 57, 58, 59, 60, 61, 62, 63, 64] (by decide +kernel) (by decide +kernel)
set_option maxRecDepth 20000 in
theorem gX6_forged_X6_isGood : GoodIn wsX6_forged (wsV RX6 127 RX6 yX6_isGood wsX6_isGood) := goodIn_app (goodIn_of _ (by decide +kernel)) ggX6_forged_X6_isGood
set_option maxRecDepth 20000 in
theorem ggX6_forged_X6_wouldIn : GoodIn wsX6_forged wsX6_wouldIn := goodIn_r _ [27, 28, 29, 7, 30, 31, 32, 33, 34, 35, 36, 37, 38, 39, 40, 41, 42] (by decide +kernel) (by decide +kernel)
set_option maxRecDepth 20000 in
theorem gX6_forged_X6_wouldIn : GoodIn wsX6_forged (va_wsS RX6 79 yX6_wouldIn wsX6_wouldIn) := goodIn_app (goodIn_of _ (by decide +kernel)) ggX6_forged_X6_wouldIn
theorem dX6_forged_0 : decode cX6_forged 0 = .ok (.aload_n 0, 1) := by decide +kernel
theorem dX6_forged_1 : decode cX6_forged 1 = .ok (.iload_n 2, 1) := by decide +kernel
theorem dX6_forged_2 : decode cX6_forged 2 = .ok (.invokevirtual 120, 3) := by decide +kernel
theorem dX6_forged_5 : decode cX6_forged 5 = .ok (.ifCond .ne 5, 3) := by decide +kernel
theorem dX6_forged_8 : decode cX6_forged 8 = .ok (.iconst (-1), 1) := by decide +kernel
theorem dX6_forged_9 : decode cX6_forged 9 = .ok (.ireturn, 1) := by decide +kernel
theorem dX6_forged_10 : decode cX6_forged 10 = .ok (.aload_n 0, 1) := by decide +kernel
theorem dX6_forged_11 : decode cX6_forged 11 = .ok (.iload_n 1, 1) := by decide +kernel
theorem dX6_forged_12 : decode cX6_forged 12 = .ok (.iconst (-1), 1) := by decide +kernel
theorem dX6_forged_13 : decode cX6_forged 13 = .ok (.invokevirtual 138, 3) := by decide +kernel
theorem dX6_forged_16 : decode cX6_forged 16 = .ok (.istore_n 3, 1) := by decide +kernel
theorem dX6_forged_17 : decode cX6_forged 17 = .ok (.iload_n 3, 1) := by decide +kernel
theorem dX6_forged_18 : decode cX6_forged 18 = .ok (.ifCond .eq 5, 3) := by decide +kernel
theorem dX6_forged_21 : decode cX6_forged 21 = .ok (.iload_n 3, 1) := by decide +kernel
theorem dX6_forged_22 : decode cX6_forged 22 = .ok (.ireturn, 1) := by decide +kernel
theorem dX6_forged_23 : decode cX6_forged 23 = .ok (.iconst 0, 1) := by decide +kernel
theorem dX6_forged_24 : decode cX6_forged 24 = .ok (.istore 4, 2) := by decide +kernel
theorem dX6_forged_26 : decode cX6_forged 26 = .ok (.iload 4, 2) := by decide +kernel
theorem dX6_forged_28 : decode cX6_forged 28 = .ok (.aload_n 0, 1) := by decide +kernel
theorem dX6_forged_29 : decode cX6_forged 29 = .ok (.getfield 46, 3) := by decide +kernel
theorem dX6_forged_32 : decode cX6_forged 32 = .ok (.iload_n 1, 1) := by decide +kernel
theorem dX6_forged_33 : decode cX6_forged 33 = .ok (.iaload, 1) := by decide +kernel
theorem dX6_forged_34 : decode cX6_forged 34 = .ok (.if_icmp .ge 73, 3) := by decide +kernel
theorem dX6_forged_37 : decode cX6_forged 37 = .ok (.aload_n 0, 1) := by decide +kernel
theorem dX6_forged_38 : decode cX6_forged 38 = .ok (.aload_n 0, 1) := by decide +kernel
theorem dX6_forged_39 : decode cX6_forged 39 = .ok (.getfield 49, 3) := by decide +kernel
theorem dX6_forged_42 : decode cX6_forged 42 = .ok (.bipush 100, 2) := by decide +kernel
theorem dX6_forged_44 : decode cX6_forged 44 = .ok (.iload_n 1, 1) := by decide +kernel
theorem dX6_forged_45 : decode cX6_forged 45 = .ok (.imul, 1) := by decide +kernel
theorem dX6_forged_46 : decode cX6_forged 46 = .ok (.iload 4, 2) := by decide +kernel
theorem dX6_forged_48 : decode cX6_forged 48 = .ok (.iadd, 1) := by decide +kernel
theorem dX6_forged_49 : decode cX6_forged 49 = .ok (.iaload, 1) := by decide +kernel
theorem dX6_forged_50 : decode cX6_forged 50 = .ok (.invokevirtual 127, 3) := by decide +kernel
theorem dX6_forged_53 : decode cX6_forged 53 = .ok (.ifCond .eq 45, 3) := by decide +kernel
theorem dX6_forged_56 : decode cX6_forged 56 = .ok (.iload 4, 2) := by decide +kernel
theorem dX6_forged_58 : decode cX6_forged 58 = .ok (.ifCond .le 43, 3) := by decide +kernel
theorem dX6_forged_61 : decode cX6_forged 61 = .ok (.aload_n 0, 1) := by decide +kernel
theorem dX6_forged_62 : decode cX6_forged 62 = .ok (.getfield 9, 3) := by decide +kernel
theorem dX6_forged_65 : decode cX6_forged 65 = .ok (.iload_n 2, 1) := by decide +kernel
theorem dX6_forged_66 : decode cX6_forged 66 = .ok (.aload_n 0, 1) := by decide +kernel
theorem dX6_forged_67 : decode cX6_forged 67 = .ok (.getfield 49, 3) := by decide +kernel
theorem dX6_forged_70 : decode cX6_forged 70 = .ok (.bipush 100, 2) := by decide +kernel
theorem dX6_forged_72 : decode cX6_forged 72 = .ok (.iload_n 1, 1) := by decide +kernel
theorem dX6_forged_73 : decode cX6_forged 73 = .ok (.imul, 1) := by decide +kernel
theorem dX6_forged_74 : decode cX6_forged 74 = .ok (.iload 4, 2) := by decide +kernel
theorem dX6_forged_76 : decode cX6_forged 76 = .ok (.iadd, 1) := by decide +kernel
theorem dX6_forged_77 : decode cX6_forged 77 = .ok (.iconst 1, 1) := by decide +kernel
theorem dX6_forged_78 : decode cX6_forged 78 = .ok (.isub, 1) := by decide +kernel
theorem dX6_forged_79 : decode cX6_forged 79 = .ok (.iaload, 1) := by decide +kernel
theorem dX6_forged_80 : decode cX6_forged 80 = .ok (.aload_n 0, 1) := by decide +kernel
theorem dX6_forged_81 : decode cX6_forged 81 = .ok (.getfield 49, 3) := by decide +kernel
theorem dX6_forged_84 : decode cX6_forged 84 = .ok (.bipush 100, 2) := by decide +kernel
theorem dX6_forged_86 : decode cX6_forged 86 = .ok (.iload_n 1, 1) := by decide +kernel
theorem dX6_forged_87 : decode cX6_forged 87 = .ok (.imul, 1) := by decide +kernel
theorem dX6_forged_88 : decode cX6_forged 88 = .ok (.iload 4, 2) := by decide +kernel
theorem dX6_forged_90 : decode cX6_forged 90 = .ok (.iadd, 1) := by decide +kernel
theorem dX6_forged_91 : decode cX6_forged 91 = .ok (.iaload, 1) := by decide +kernel
theorem dX6_forged_92 : decode cX6_forged 92 = .ok (.invokestatic 79, 3) := by decide +kernel
theorem dX6_forged_95 : decode cX6_forged 95 = .ok (.ifCond .ne 6, 3) := by decide +kernel
theorem dX6_forged_98 : decode cX6_forged 98 = .ok (.iload 4, 2) := by decide +kernel
theorem dX6_forged_100 : decode cX6_forged 100 = .ok (.ireturn, 1) := by decide +kernel
theorem dX6_forged_101 : decode cX6_forged 101 = .ok (.iinc 4 1, 3) := by decide +kernel
theorem dX6_forged_104 : decode cX6_forged 104 = .ok (.goto (-78), 3) := by decide +kernel
theorem dX6_forged_107 : decode cX6_forged 107 = .ok (.bipush (-4), 2) := by decide +kernel
theorem dX6_forged_109 : decode cX6_forged 109 = .ok (.ireturn, 1) := by decide +kernel
set_option maxRecDepth 20000 in
theorem ggX6_judge_X6_wrongRow : GoodIn wsX6_judge wsX6_wrongRow := goodIn_r _ [10, 11, 5, 12, 13, 9, 14, 15, 16, 17, 64, 65, 66, 67, 68, 69, 70, 71, 72, 73, 74, 75, 76, 77, 78, 79, 80, 81, 82, 83, 84, 85] (by decide +kernel) (by decide +kernel)
set_option maxRecDepth 20000 in
theorem gX6_judge_X6_wrongRow : GoodIn wsX6_judge (wsV RX6 138 RX6 yX6_wrongRow wsX6_wrongRow) := goodIn_app (goodIn_of _ (by decide +kernel)) ggX6_judge_X6_wrongRow
set_option maxRecDepth 20000 in
theorem ggX6_judge_X6_copies : GoodIn wsX6_judge wsX6_copies := goodIn_r _ [20] (by decide +kernel) (by decide +kernel)
set_option maxRecDepth 20000 in
theorem gX6_judge_X6_copies : GoodIn wsX6_judge (va_wsS RX6 145 yX6_copies wsX6_copies) := goodIn_app (goodIn_of _ (by decide +kernel)) ggX6_judge_X6_copies
set_option maxRecDepth 20000 in
theorem ggX6_judge_X6_leastOf : GoodIn wsX6_judge wsX6_leastOf := goodIn_r _ [23, 24] (by decide +kernel) (by decide +kernel)
set_option maxRecDepth 20000 in
theorem gX6_judge_X6_leastOf : GoodIn wsX6_judge (va_wsS RX6 203 yX6_leastOf wsX6_leastOf) := goodIn_app (goodIn_of _ (by decide +kernel)) ggX6_judge_X6_leastOf
set_option maxRecDepth 20000 in
theorem ggX6_judge_X6_openIn : GoodIn wsX6_judge wsX6_openIn := goodIn_r _ [27, 28, 29, 9, 30] (by decide +kernel) (by decide +kernel)
set_option maxRecDepth 20000 in
theorem gX6_judge_X6_openIn : GoodIn wsX6_judge (va_wsS RX6 164 yX6_openIn wsX6_openIn) := goodIn_app (goodIn_of _ (by decide +kernel)) ggX6_judge_X6_openIn
set_option maxRecDepth 20000 in
theorem ggX6_judge_X6_bits : GoodIn wsX6_judge wsX6_bits := goodIn_r _ [33] (by decide +kernel) (by decide +kernel)
set_option maxRecDepth 20000 in
theorem gX6_judge_X6_bits : GoodIn wsX6_judge (va_wsS RX6 168 yX6_bits wsX6_bits) := goodIn_app (goodIn_of _ (by decide +kernel)) ggX6_judge_X6_bits
set_option maxRecDepth 20000 in
theorem ggX6_judge_X6_week : GoodIn wsX6_judge wsX6_week := goodIn_r _ [36, 37, 38, 9, 39, 28, 29, 30, 40, 41, 42, 43, 44, 45, 46, 47, 48, 49, 50, 51, 52, 53, 54, 55, 56, 57, 58, 59, 60, 61, 62, 63] (by decide +kernel) (by decide +kernel)
set_option maxRecDepth 20000 in
theorem gX6_judge_X6_week : GoodIn wsX6_judge (va_wsS RX6 94 yX6_week wsX6_week) := goodIn_app (goodIn_of _ (by decide +kernel)) ggX6_judge_X6_week
theorem dX6_judge_0 : decode cX6_judge 0 = .ok (.aload_n 0, 1) := by decide +kernel
theorem dX6_judge_1 : decode cX6_judge 1 = .ok (.iload_n 1, 1) := by decide +kernel
theorem dX6_judge_2 : decode cX6_judge 2 = .ok (.iconst (-1), 1) := by decide +kernel
theorem dX6_judge_3 : decode cX6_judge 3 = .ok (.invokevirtual 138, 3) := by decide +kernel
theorem dX6_judge_6 : decode cX6_judge 6 = .ok (.istore_n 2, 1) := by decide +kernel
theorem dX6_judge_7 : decode cX6_judge 7 = .ok (.iload_n 2, 1) := by decide +kernel
theorem dX6_judge_8 : decode cX6_judge 8 = .ok (.ifCond .eq 5, 3) := by decide +kernel
theorem dX6_judge_11 : decode cX6_judge 11 = .ok (.iload_n 2, 1) := by decide +kernel
theorem dX6_judge_12 : decode cX6_judge 12 = .ok (.ireturn, 1) := by decide +kernel
theorem dX6_judge_13 : decode cX6_judge 13 = .ok (.aload_n 0, 1) := by decide +kernel
theorem dX6_judge_14 : decode cX6_judge 14 = .ok (.getfield 9, 3) := by decide +kernel
theorem dX6_judge_17 : decode cX6_judge 17 = .ok (.aload_n 0, 1) := by decide +kernel
theorem dX6_judge_18 : decode cX6_judge 18 = .ok (.getfield 13, 3) := by decide +kernel
theorem dX6_judge_21 : decode cX6_judge 21 = .ok (.invokestatic 145, 3) := by decide +kernel
theorem dX6_judge_24 : decode cX6_judge 24 = .ok (.iconst 0, 1) := by decide +kernel
theorem dX6_judge_25 : decode cX6_judge 25 = .ok (.istore_n 3, 1) := by decide +kernel
theorem dX6_judge_26 : decode cX6_judge 26 = .ok (.iload_n 3, 1) := by decide +kernel
theorem dX6_judge_27 : decode cX6_judge 27 = .ok (.aload_n 0, 1) := by decide +kernel
theorem dX6_judge_28 : decode cX6_judge 28 = .ok (.getfield 46, 3) := by decide +kernel
theorem dX6_judge_31 : decode cX6_judge 31 = .ok (.iload_n 1, 1) := by decide +kernel
theorem dX6_judge_32 : decode cX6_judge 32 = .ok (.iaload, 1) := by decide +kernel
theorem dX6_judge_33 : decode cX6_judge 33 = .ok (.if_icmp .ge 60, 3) := by decide +kernel
theorem dX6_judge_36 : decode cX6_judge 36 = .ok (.aload_n 0, 1) := by decide +kernel
theorem dX6_judge_37 : decode cX6_judge 37 = .ok (.getfield 49, 3) := by decide +kernel
theorem dX6_judge_40 : decode cX6_judge 40 = .ok (.bipush 100, 2) := by decide +kernel
theorem dX6_judge_42 : decode cX6_judge 42 = .ok (.iload_n 1, 1) := by decide +kernel
theorem dX6_judge_43 : decode cX6_judge 43 = .ok (.imul, 1) := by decide +kernel
theorem dX6_judge_44 : decode cX6_judge 44 = .ok (.iload_n 3, 1) := by decide +kernel
theorem dX6_judge_45 : decode cX6_judge 45 = .ok (.iadd, 1) := by decide +kernel
theorem dX6_judge_46 : decode cX6_judge 46 = .ok (.iaload, 1) := by decide +kernel
theorem dX6_judge_47 : decode cX6_judge 47 = .ok (.istore 4, 2) := by decide +kernel
theorem dX6_judge_49 : decode cX6_judge 49 = .ok (.iload 4, 2) := by decide +kernel
theorem dX6_judge_51 : decode cX6_judge 51 = .ok (.aload_n 0, 1) := by decide +kernel
theorem dX6_judge_52 : decode cX6_judge 52 = .ok (.getfield 43, 3) := by decide +kernel
theorem dX6_judge_55 : decode cX6_judge 55 = .ok (.iload_n 1, 1) := by decide +kernel
theorem dX6_judge_56 : decode cX6_judge 56 = .ok (.iaload, 1) := by decide +kernel
theorem dX6_judge_57 : decode cX6_judge 57 = .ok (.invokestatic 203, 3) := by decide +kernel
theorem dX6_judge_60 : decode cX6_judge 60 = .ok (.if_icmp .eq 20, 3) := by decide +kernel
theorem dX6_judge_63 : decode cX6_judge 63 = .ok (.iload 4, 2) := by decide +kernel
theorem dX6_judge_65 : decode cX6_judge 65 = .ok (.aload_n 0, 1) := by decide +kernel
theorem dX6_judge_66 : decode cX6_judge 66 = .ok (.getfield 13, 3) := by decide +kernel
theorem dX6_judge_69 : decode cX6_judge 69 = .ok (.invokestatic 164, 3) := by decide +kernel
theorem dX6_judge_72 : decode cX6_judge 72 = .ok (.invokestatic 168, 3) := by decide +kernel
theorem dX6_judge_75 : decode cX6_judge 75 = .ok (.if_icmp .eq 5, 3) := by decide +kernel
theorem dX6_judge_78 : decode cX6_judge 78 = .ok (.iload_n 3, 1) := by decide +kernel
theorem dX6_judge_79 : decode cX6_judge 79 = .ok (.ireturn, 1) := by decide +kernel
theorem dX6_judge_80 : decode cX6_judge 80 = .ok (.aload_n 0, 1) := by decide +kernel
theorem dX6_judge_81 : decode cX6_judge 81 = .ok (.getfield 13, 3) := by decide +kernel
theorem dX6_judge_84 : decode cX6_judge 84 = .ok (.invokestatic 94, 3) := by decide +kernel
theorem dX6_judge_87 : decode cX6_judge 87 = .ok (.iinc 3 1, 3) := by decide +kernel
theorem dX6_judge_90 : decode cX6_judge 90 = .ok (.goto (-64), 3) := by decide +kernel
theorem dX6_judge_93 : decode cX6_judge 93 = .ok (.bipush (-4), 2) := by decide +kernel
theorem dX6_judge_95 : decode cX6_judge 95 = .ok (.ireturn, 1) := by decide +kernel
theorem dX6_drawn_0 : decode cX6_drawn 0 = .ok (.aload_n 0, 1) := by decide +kernel
theorem dX6_drawn_1 : decode cX6_drawn 1 = .ok (.aload_n 0, 1) := by decide +kernel
theorem dX6_drawn_2 : decode cX6_drawn 2 = .ok (.getfield 219, 3) := by decide +kernel
theorem dX6_drawn_5 : decode cX6_drawn 5 = .ok (.ldc 222, 2) := by decide +kernel
theorem dX6_drawn_7 : decode cX6_drawn 7 = .ok (.imul, 1) := by decide +kernel
theorem dX6_drawn_8 : decode cX6_drawn 8 = .ok (.sipush 12345, 3) := by decide +kernel
theorem dX6_drawn_11 : decode cX6_drawn 11 = .ok (.iadd, 1) := by decide +kernel
theorem dX6_drawn_12 : decode cX6_drawn 12 = .ok (.putfield 219, 3) := by decide +kernel
theorem dX6_drawn_15 : decode cX6_drawn 15 = .ok (.aload_n 0, 1) := by decide +kernel
theorem dX6_drawn_16 : decode cX6_drawn 16 = .ok (.getfield 219, 3) := by decide +kernel
theorem dX6_drawn_19 : decode cX6_drawn 19 = .ok (.ldc 223, 2) := by decide +kernel
theorem dX6_drawn_21 : decode cX6_drawn 21 = .ok (.iand, 1) := by decide +kernel
theorem dX6_drawn_22 : decode cX6_drawn 22 = .ok (.ldc 224, 2) := by decide +kernel
theorem dX6_drawn_24 : decode cX6_drawn 24 = .ok (.idiv, 1) := by decide +kernel
theorem dX6_drawn_25 : decode cX6_drawn 25 = .ok (.iload_n 1, 1) := by decide +kernel
theorem dX6_drawn_26 : decode cX6_drawn 26 = .ok (.irem, 1) := by decide +kernel
theorem dX6_drawn_27 : decode cX6_drawn 27 = .ok (.ireturn, 1) := by decide +kernel
set_option maxRecDepth 20000 in
theorem ggX6_quarrelsIn_X6_quarrelIn : GoodIn wsX6_quarrelsIn wsX6_quarrelIn := goodIn_r _ [4, 5, 6, 3, 7, 8, 9, 10, 11, 12, 13, 14, 15, 16] (by decide +kernel) (by decide +kernel)
set_option maxRecDepth 20000 in
theorem gX6_quarrelsIn_X6_quarrelIn : GoodIn wsX6_quarrelsIn (va_wsS RX6 190 yX6_quarrelIn wsX6_quarrelIn) := goodIn_app (goodIn_of _ (by decide +kernel)) ggX6_quarrelsIn_X6_quarrelIn
theorem dX6_quarrelsIn_0 : decode cX6_quarrelsIn 0 = .ok (.iconst 0, 1) := by decide +kernel
theorem dX6_quarrelsIn_1 : decode cX6_quarrelsIn 1 = .ok (.istore_n 1, 1) := by decide +kernel
theorem dX6_quarrelsIn_2 : decode cX6_quarrelsIn 2 = .ok (.iconst 0, 1) := by decide +kernel
theorem dX6_quarrelsIn_3 : decode cX6_quarrelsIn 3 = .ok (.istore_n 2, 1) := by decide +kernel
theorem dX6_quarrelsIn_4 : decode cX6_quarrelsIn 4 = .ok (.iload_n 2, 1) := by decide +kernel
theorem dX6_quarrelsIn_5 : decode cX6_quarrelsIn 5 = .ok (.aload_n 0, 1) := by decide +kernel
theorem dX6_quarrelsIn_6 : decode cX6_quarrelsIn 6 = .ok (.iconst 0, 1) := by decide +kernel
theorem dX6_quarrelsIn_7 : decode cX6_quarrelsIn 7 = .ok (.iaload, 1) := by decide +kernel
theorem dX6_quarrelsIn_8 : decode cX6_quarrelsIn 8 = .ok (.if_icmp .ge 35, 3) := by decide +kernel
theorem dX6_quarrelsIn_11 : decode cX6_quarrelsIn 11 = .ok (.iload_n 2, 1) := by decide +kernel
theorem dX6_quarrelsIn_12 : decode cX6_quarrelsIn 12 = .ok (.iconst 1, 1) := by decide +kernel
theorem dX6_quarrelsIn_13 : decode cX6_quarrelsIn 13 = .ok (.iadd, 1) := by decide +kernel
theorem dX6_quarrelsIn_14 : decode cX6_quarrelsIn 14 = .ok (.istore_n 3, 1) := by decide +kernel
theorem dX6_quarrelsIn_15 : decode cX6_quarrelsIn 15 = .ok (.iload_n 3, 1) := by decide +kernel
theorem dX6_quarrelsIn_16 : decode cX6_quarrelsIn 16 = .ok (.aload_n 0, 1) := by decide +kernel
theorem dX6_quarrelsIn_17 : decode cX6_quarrelsIn 17 = .ok (.iconst 0, 1) := by decide +kernel
theorem dX6_quarrelsIn_18 : decode cX6_quarrelsIn 18 = .ok (.iaload, 1) := by decide +kernel
theorem dX6_quarrelsIn_19 : decode cX6_quarrelsIn 19 = .ok (.if_icmp .ge 18, 3) := by decide +kernel
theorem dX6_quarrelsIn_22 : decode cX6_quarrelsIn 22 = .ok (.iload_n 1, 1) := by decide +kernel
theorem dX6_quarrelsIn_23 : decode cX6_quarrelsIn 23 = .ok (.aload_n 0, 1) := by decide +kernel
theorem dX6_quarrelsIn_24 : decode cX6_quarrelsIn 24 = .ok (.iload_n 2, 1) := by decide +kernel
theorem dX6_quarrelsIn_25 : decode cX6_quarrelsIn 25 = .ok (.iload_n 3, 1) := by decide +kernel
theorem dX6_quarrelsIn_26 : decode cX6_quarrelsIn 26 = .ok (.invokestatic 190, 3) := by decide +kernel
theorem dX6_quarrelsIn_29 : decode cX6_quarrelsIn 29 = .ok (.iadd, 1) := by decide +kernel
theorem dX6_quarrelsIn_30 : decode cX6_quarrelsIn 30 = .ok (.istore_n 1, 1) := by decide +kernel
theorem dX6_quarrelsIn_31 : decode cX6_quarrelsIn 31 = .ok (.iinc 3 1, 3) := by decide +kernel
theorem dX6_quarrelsIn_34 : decode cX6_quarrelsIn 34 = .ok (.goto (-19), 3) := by decide +kernel
theorem dX6_quarrelsIn_37 : decode cX6_quarrelsIn 37 = .ok (.iinc 2 1, 3) := by decide +kernel
theorem dX6_quarrelsIn_40 : decode cX6_quarrelsIn 40 = .ok (.goto (-36), 3) := by decide +kernel
theorem dX6_quarrelsIn_43 : decode cX6_quarrelsIn 43 = .ok (.iload_n 1, 1) := by decide +kernel
theorem dX6_quarrelsIn_44 : decode cX6_quarrelsIn 44 = .ok (.ireturn, 1) := by decide +kernel
set_option maxRecDepth 20000 in
theorem ggX6_richesAll_X6_richesOf : GoodIn wsX6_richesAll wsX6_richesOf := goodIn_r _ [4, 5, 6, 3, 7, 8, 9, 10, 11, 12, 13, 14, 15, 16] (by decide +kernel) (by decide +kernel)
set_option maxRecDepth 20000 in
theorem gX6_richesAll_X6_richesOf : GoodIn wsX6_richesAll (va_wsS RX6 155 yX6_richesOf wsX6_richesOf) := goodIn_app (goodIn_of _ (by decide +kernel)) ggX6_richesAll_X6_richesOf
theorem dX6_richesAll_0 : decode cX6_richesAll 0 = .ok (.iconst 0, 1) := by decide +kernel
theorem dX6_richesAll_1 : decode cX6_richesAll 1 = .ok (.istore_n 1, 1) := by decide +kernel
theorem dX6_richesAll_2 : decode cX6_richesAll 2 = .ok (.iconst 0, 1) := by decide +kernel
theorem dX6_richesAll_3 : decode cX6_richesAll 3 = .ok (.istore_n 2, 1) := by decide +kernel
theorem dX6_richesAll_4 : decode cX6_richesAll 4 = .ok (.iload_n 2, 1) := by decide +kernel
theorem dX6_richesAll_5 : decode cX6_richesAll 5 = .ok (.aload_n 0, 1) := by decide +kernel
theorem dX6_richesAll_6 : decode cX6_richesAll 6 = .ok (.iconst 1, 1) := by decide +kernel
theorem dX6_richesAll_7 : decode cX6_richesAll 7 = .ok (.iaload, 1) := by decide +kernel
theorem dX6_richesAll_8 : decode cX6_richesAll 8 = .ok (.if_icmp .ge 17, 3) := by decide +kernel
theorem dX6_richesAll_11 : decode cX6_richesAll 11 = .ok (.iload_n 1, 1) := by decide +kernel
theorem dX6_richesAll_12 : decode cX6_richesAll 12 = .ok (.aload_n 0, 1) := by decide +kernel
theorem dX6_richesAll_13 : decode cX6_richesAll 13 = .ok (.iload_n 2, 1) := by decide +kernel
theorem dX6_richesAll_14 : decode cX6_richesAll 14 = .ok (.invokestatic 155, 3) := by decide +kernel
theorem dX6_richesAll_17 : decode cX6_richesAll 17 = .ok (.iadd, 1) := by decide +kernel
theorem dX6_richesAll_18 : decode cX6_richesAll 18 = .ok (.istore_n 1, 1) := by decide +kernel
theorem dX6_richesAll_19 : decode cX6_richesAll 19 = .ok (.iinc 2 1, 3) := by decide +kernel
theorem dX6_richesAll_22 : decode cX6_richesAll 22 = .ok (.goto (-18), 3) := by decide +kernel
theorem dX6_richesAll_25 : decode cX6_richesAll 25 = .ok (.iload_n 1, 1) := by decide +kernel
theorem dX6_richesAll_26 : decode cX6_richesAll 26 = .ok (.ireturn, 1) := by decide +kernel
set_option maxRecDepth 20000 in
theorem ggX6_towns_X6_isIn : GoodIn wsX6_towns wsX6_isIn := goodIn_r _ [7] (by decide +kernel) (by decide +kernel)
set_option maxRecDepth 20000 in
theorem gX6_towns_X6_isIn : GoodIn wsX6_towns (va_wsS RX6 52 yX6_isIn wsX6_isIn) := goodIn_app (goodIn_of _ (by decide +kernel)) ggX6_towns_X6_isIn
set_option maxRecDepth 20000 in
theorem ggX6_towns_X6_copies : GoodIn wsX6_towns wsX6_copies := goodIn_r _ [10] (by decide +kernel) (by decide +kernel)
set_option maxRecDepth 20000 in
theorem gX6_towns_X6_copies : GoodIn wsX6_towns (va_wsS RX6 145 yX6_copies wsX6_copies) := goodIn_app (goodIn_of _ (by decide +kernel)) ggX6_towns_X6_copies
set_option maxRecDepth 20000 in
theorem ggX6_towns_X6_ofG : GoodIn wsX6_towns wsX6_ofG := goodIn_r _ [13] (by decide +kernel) (by decide +kernel)
set_option maxRecDepth 20000 in
theorem gX6_towns_X6_ofG : GoodIn wsX6_towns (va_wsS RX6 60 yX6_ofG wsX6_ofG) := goodIn_app (goodIn_of _ (by decide +kernel)) ggX6_towns_X6_ofG
set_option maxRecDepth 20000 in
theorem ggX6_towns_X6_drawn : GoodIn wsX6_towns wsX6_drawn := goodIn_r _ [17, 2, 18, 19, 20, 42, 43, 44, 45, 46, 47, 48, 49, 50, 51, 52, 53, 54, 55, 56, 57, 58, 59, 60, 61, 62, 63] (by decide +kernel) (by decide +kernel)
set_option maxRecDepth 20000 in
theorem gX6_towns_X6_drawn : GoodIn wsX6_towns (wsV RX6 225 RX6 yX6_drawn wsX6_drawn) := goodIn_app (goodIn_of _ (by decide +kernel)) ggX6_towns_X6_drawn
set_option maxRecDepth 20000 in
theorem ggX6_towns_X6_quarrelsIn : GoodIn wsX6_towns wsX6_quarrelsIn := goodIn_r _ [23, 24, 25, 6, 26, 27, 28, 29, 11, 12, 13, 30, 31, 32, 33, 34, 35] (by decide +kernel) (by decide +kernel)
set_option maxRecDepth 20000 in
theorem gX6_towns_X6_quarrelsIn : GoodIn wsX6_towns (va_wsS RX6 228 yX6_quarrelsIn wsX6_quarrelsIn) := goodIn_app (goodIn_of _ (by decide +kernel)) ggX6_towns_X6_quarrelsIn
set_option maxRecDepth 20000 in
theorem ggX6_towns_X6_richesAll : GoodIn wsX6_towns wsX6_richesAll := goodIn_r _ [38, 39, 40, 6, 41, 11, 12, 13, 27, 28, 29, 30, 31, 32, 33, 34, 35] (by decide +kernel) (by decide +kernel)
set_option maxRecDepth 20000 in
theorem gX6_towns_X6_richesAll : GoodIn wsX6_towns (va_wsS RX6 231 yX6_richesAll wsX6_richesAll) := goodIn_app (goodIn_of _ (by decide +kernel)) ggX6_towns_X6_richesAll
theorem dX6_towns_0 : decode cX6_towns 0 = .ok (.iload_n 1, 1) := by decide +kernel
theorem dX6_towns_1 : decode cX6_towns 1 = .ok (.iconst 1, 1) := by decide +kernel
theorem dX6_towns_2 : decode cX6_towns 2 = .ok (.bipush 20, 2) := by decide +kernel
theorem dX6_towns_4 : decode cX6_towns 4 = .ok (.invokestatic 52, 3) := by decide +kernel
theorem dX6_towns_7 : decode cX6_towns 7 = .ok (.ifCond .eq 12, 3) := by decide +kernel
theorem dX6_towns_10 : decode cX6_towns 10 = .ok (.iload_n 3, 1) := by decide +kernel
theorem dX6_towns_11 : decode cX6_towns 11 = .ok (.iconst 0, 1) := by decide +kernel
theorem dX6_towns_12 : decode cX6_towns 12 = .ok (.iconst 1, 1) := by decide +kernel
theorem dX6_towns_13 : decode cX6_towns 13 = .ok (.invokestatic 52, 3) := by decide +kernel
theorem dX6_towns_16 : decode cX6_towns 16 = .ok (.ifCond .ne 5, 3) := by decide +kernel
theorem dX6_towns_19 : decode cX6_towns 19 = .ok (.iconst (-1), 1) := by decide +kernel
theorem dX6_towns_20 : decode cX6_towns 20 = .ok (.ireturn, 1) := by decide +kernel
theorem dX6_towns_21 : decode cX6_towns 21 = .ok (.aload_n 0, 1) := by decide +kernel
theorem dX6_towns_22 : decode cX6_towns 22 = .ok (.getfield 9, 3) := by decide +kernel
theorem dX6_towns_25 : decode cX6_towns 25 = .ok (.iconst 1, 1) := by decide +kernel
theorem dX6_towns_26 : decode cX6_towns 26 = .ok (.iaload, 1) := by decide +kernel
theorem dX6_towns_27 : decode cX6_towns 27 = .ok (.ifCond .ne 6, 3) := by decide +kernel
theorem dX6_towns_30 : decode cX6_towns 30 = .ok (.bipush (-3), 2) := by decide +kernel
theorem dX6_towns_32 : decode cX6_towns 32 = .ok (.ireturn, 1) := by decide +kernel
theorem dX6_towns_33 : decode cX6_towns 33 = .ok (.aload_n 0, 1) := by decide +kernel
theorem dX6_towns_34 : decode cX6_towns 34 = .ok (.iload_n 2, 1) := by decide +kernel
theorem dX6_towns_35 : decode cX6_towns 35 = .ok (.putfield 219, 3) := by decide +kernel
theorem dX6_towns_38 : decode cX6_towns 38 = .ok (.iconst 0, 1) := by decide +kernel
theorem dX6_towns_39 : decode cX6_towns 39 = .ok (.istore 4, 2) := by decide +kernel
theorem dX6_towns_41 : decode cX6_towns 41 = .ok (.iconst 0, 1) := by decide +kernel
theorem dX6_towns_42 : decode cX6_towns 42 = .ok (.istore 5, 2) := by decide +kernel
theorem dX6_towns_44 : decode cX6_towns 44 = .ok (.iload 5, 2) := by decide +kernel
theorem dX6_towns_46 : decode cX6_towns 46 = .ok (.iload_n 1, 1) := by decide +kernel
theorem dX6_towns_47 : decode cX6_towns 47 = .ok (.if_icmp .ge 124, 3) := by decide +kernel
theorem dX6_towns_50 : decode cX6_towns 50 = .ok (.aload_n 0, 1) := by decide +kernel
theorem dX6_towns_51 : decode cX6_towns 51 = .ok (.getfield 9, 3) := by decide +kernel
theorem dX6_towns_54 : decode cX6_towns 54 = .ok (.aload_n 0, 1) := by decide +kernel
theorem dX6_towns_55 : decode cX6_towns 55 = .ok (.getfield 13, 3) := by decide +kernel
theorem dX6_towns_58 : decode cX6_towns 58 = .ok (.invokestatic 145, 3) := by decide +kernel
theorem dX6_towns_61 : decode cX6_towns 61 = .ok (.iconst 0, 1) := by decide +kernel
theorem dX6_towns_62 : decode cX6_towns 62 = .ok (.istore 6, 2) := by decide +kernel
theorem dX6_towns_64 : decode cX6_towns 64 = .ok (.iload 6, 2) := by decide +kernel
theorem dX6_towns_66 : decode cX6_towns 66 = .ok (.aload_n 0, 1) := by decide +kernel
theorem dX6_towns_67 : decode cX6_towns 67 = .ok (.getfield 9, 3) := by decide +kernel
theorem dX6_towns_70 : decode cX6_towns 70 = .ok (.iconst 0, 1) := by decide +kernel
theorem dX6_towns_71 : decode cX6_towns 71 = .ok (.iaload, 1) := by decide +kernel
theorem dX6_towns_72 : decode cX6_towns 72 = .ok (.if_icmp .ge 31, 3) := by decide +kernel
theorem dX6_towns_75 : decode cX6_towns 75 = .ok (.aload_n 0, 1) := by decide +kernel
theorem dX6_towns_76 : decode cX6_towns 76 = .ok (.getfield 13, 3) := by decide +kernel
theorem dX6_towns_79 : decode cX6_towns 79 = .ok (.iload 6, 2) := by decide +kernel
theorem dX6_towns_81 : decode cX6_towns 81 = .ok (.invokestatic 60, 3) := by decide +kernel
theorem dX6_towns_84 : decode cX6_towns 84 = .ok (.iconst 2, 1) := by decide +kernel
theorem dX6_towns_85 : decode cX6_towns 85 = .ok (.iadd, 1) := by decide +kernel
theorem dX6_towns_86 : decode cX6_towns 86 = .ok (.aload_n 0, 1) := by decide +kernel
theorem dX6_towns_87 : decode cX6_towns 87 = .ok (.aload_n 0, 1) := by decide +kernel
theorem dX6_towns_88 : decode cX6_towns 88 = .ok (.getfield 9, 3) := by decide +kernel
theorem dX6_towns_91 : decode cX6_towns 91 = .ok (.iconst 1, 1) := by decide +kernel
theorem dX6_towns_92 : decode cX6_towns 92 = .ok (.iaload, 1) := by decide +kernel
theorem dX6_towns_93 : decode cX6_towns 93 = .ok (.invokevirtual 225, 3) := by decide +kernel
theorem dX6_towns_96 : decode cX6_towns 96 = .ok (.iastore, 1) := by decide +kernel
theorem dX6_towns_97 : decode cX6_towns 97 = .ok (.iinc 6 1, 3) := by decide +kernel
theorem dX6_towns_100 : decode cX6_towns 100 = .ok (.goto (-36), 3) := by decide +kernel
theorem dX6_towns_103 : decode cX6_towns 103 = .ok (.iconst 0, 1) := by decide +kernel
theorem dX6_towns_104 : decode cX6_towns 104 = .ok (.istore 6, 2) := by decide +kernel
theorem dX6_towns_106 : decode cX6_towns 106 = .ok (.iload 6, 2) := by decide +kernel
theorem dX6_towns_108 : decode cX6_towns 108 = .ok (.aload_n 0, 1) := by decide +kernel
theorem dX6_towns_109 : decode cX6_towns 109 = .ok (.getfield 9, 3) := by decide +kernel
theorem dX6_towns_112 : decode cX6_towns 112 = .ok (.iconst 1, 1) := by decide +kernel
theorem dX6_towns_113 : decode cX6_towns 113 = .ok (.iaload, 1) := by decide +kernel
theorem dX6_towns_114 : decode cX6_towns 114 = .ok (.if_icmp .ge 25, 3) := by decide +kernel
theorem dX6_towns_117 : decode cX6_towns 117 = .ok (.aload_n 0, 1) := by decide +kernel
theorem dX6_towns_118 : decode cX6_towns 118 = .ok (.getfield 13, 3) := by decide +kernel
theorem dX6_towns_121 : decode cX6_towns 121 = .ok (.bipush 28, 2) := by decide +kernel
theorem dX6_towns_123 : decode cX6_towns 123 = .ok (.iload 6, 2) := by decide +kernel
theorem dX6_towns_125 : decode cX6_towns 125 = .ok (.iadd, 1) := by decide +kernel
theorem dX6_towns_126 : decode cX6_towns 126 = .ok (.aload_n 0, 1) := by decide +kernel
theorem dX6_towns_127 : decode cX6_towns 127 = .ok (.bipush 10, 2) := by decide +kernel
theorem dX6_towns_129 : decode cX6_towns 129 = .ok (.invokevirtual 225, 3) := by decide +kernel
theorem dX6_towns_132 : decode cX6_towns 132 = .ok (.iastore, 1) := by decide +kernel
theorem dX6_towns_133 : decode cX6_towns 133 = .ok (.iinc 6 1, 3) := by decide +kernel
theorem dX6_towns_136 : decode cX6_towns 136 = .ok (.goto (-30), 3) := by decide +kernel
theorem dX6_towns_139 : decode cX6_towns 139 = .ok (.iload 4, 2) := by decide +kernel
theorem dX6_towns_141 : decode cX6_towns 141 = .ok (.iload_n 3, 1) := by decide +kernel
theorem dX6_towns_142 : decode cX6_towns 142 = .ok (.ifCond .ne 13, 3) := by decide +kernel
theorem dX6_towns_145 : decode cX6_towns 145 = .ok (.aload_n 0, 1) := by decide +kernel
theorem dX6_towns_146 : decode cX6_towns 146 = .ok (.getfield 13, 3) := by decide +kernel
theorem dX6_towns_149 : decode cX6_towns 149 = .ok (.invokestatic 228, 3) := by decide +kernel
theorem dX6_towns_152 : decode cX6_towns 152 = .ok (.goto 10, 3) := by decide +kernel
theorem dX6_towns_155 : decode cX6_towns 155 = .ok (.aload_n 0, 1) := by decide +kernel
theorem dX6_towns_156 : decode cX6_towns 156 = .ok (.getfield 13, 3) := by decide +kernel
theorem dX6_towns_159 : decode cX6_towns 159 = .ok (.invokestatic 231, 3) := by decide +kernel
theorem dX6_towns_162 : decode cX6_towns 162 = .ok (.iadd, 1) := by decide +kernel
theorem dX6_towns_163 : decode cX6_towns 163 = .ok (.istore 4, 2) := by decide +kernel
theorem dX6_towns_165 : decode cX6_towns 165 = .ok (.iinc 5 1, 3) := by decide +kernel
theorem dX6_towns_168 : decode cX6_towns 168 = .ok (.goto (-124), 3) := by decide +kernel
theorem dX6_towns_171 : decode cX6_towns 171 = .ok (.iload 4, 2) := by decide +kernel
theorem dX6_towns_173 : decode cX6_towns 173 = .ok (.ireturn, 1) := by decide +kernel
set_option maxRecDepth 20000 in
theorem ggX6_image_X6_copies : GoodIn wsX6_image wsX6_copies := goodIn_r _ [7] (by decide +kernel) (by decide +kernel)
set_option maxRecDepth 20000 in
theorem gX6_image_X6_copies : GoodIn wsX6_image (va_wsS RX6 145 yX6_copies wsX6_copies) := goodIn_app (goodIn_of _ (by decide +kernel)) ggX6_image_X6_copies
theorem dX6_image_0 : decode cX6_image 0 = .ok (.aload_n 0, 1) := by decide +kernel
theorem dX6_image_1 : decode cX6_image 1 = .ok (.getfield 9, 3) := by decide +kernel
theorem dX6_image_4 : decode cX6_image 4 = .ok (.aload_n 0, 1) := by decide +kernel
theorem dX6_image_5 : decode cX6_image 5 = .ok (.getfield 16, 3) := by decide +kernel
theorem dX6_image_8 : decode cX6_image 8 = .ok (.invokestatic 145, 3) := by decide +kernel
theorem dX6_image_11 : decode cX6_image 11 = .ok (.aload_n 0, 1) := by decide +kernel
theorem dX6_image_12 : decode cX6_image 12 = .ok (.iconst 1, 1) := by decide +kernel
theorem dX6_image_13 : decode cX6_image 13 = .ok (.putfield 234, 3) := by decide +kernel
theorem dX6_image_16 : decode cX6_image 16 = .ok (.aload_n 0, 1) := by decide +kernel
theorem dX6_image_17 : decode cX6_image 17 = .ok (.getfield 9, 3) := by decide +kernel
theorem dX6_image_20 : decode cX6_image 20 = .ok (.iconst 3, 1) := by decide +kernel
theorem dX6_image_21 : decode cX6_image 21 = .ok (.iaload, 1) := by decide +kernel
theorem dX6_image_22 : decode cX6_image 22 = .ok (.ireturn, 1) := by decide +kernel
set_option maxRecDepth 20000 in
theorem ggX6_restore_X6_copies : GoodIn wsX6_restore wsX6_copies := goodIn_r _ [7] (by decide +kernel) (by decide +kernel)
set_option maxRecDepth 20000 in
theorem gX6_restore_X6_copies : GoodIn wsX6_restore (va_wsS RX6 145 yX6_copies wsX6_copies) := goodIn_app (goodIn_of _ (by decide +kernel)) ggX6_restore_X6_copies
theorem dX6_restore_0 : decode cX6_restore 0 = .ok (.aload_n 0, 1) := by decide +kernel
theorem dX6_restore_1 : decode cX6_restore 1 = .ok (.getfield 234, 3) := by decide +kernel
theorem dX6_restore_4 : decode cX6_restore 4 = .ok (.ifCond .ne 6, 3) := by decide +kernel
theorem dX6_restore_7 : decode cX6_restore 7 = .ok (.bipush (-3), 2) := by decide +kernel
theorem dX6_restore_9 : decode cX6_restore 9 = .ok (.ireturn, 1) := by decide +kernel
theorem dX6_restore_10 : decode cX6_restore 10 = .ok (.aload_n 0, 1) := by decide +kernel
theorem dX6_restore_11 : decode cX6_restore 11 = .ok (.getfield 16, 3) := by decide +kernel
theorem dX6_restore_14 : decode cX6_restore 14 = .ok (.aload_n 0, 1) := by decide +kernel
theorem dX6_restore_15 : decode cX6_restore 15 = .ok (.getfield 9, 3) := by decide +kernel
theorem dX6_restore_18 : decode cX6_restore 18 = .ok (.invokestatic 145, 3) := by decide +kernel
theorem dX6_restore_21 : decode cX6_restore 21 = .ok (.aload_n 0, 1) := by decide +kernel
theorem dX6_restore_22 : decode cX6_restore 22 = .ok (.getfield 9, 3) := by decide +kernel
theorem dX6_restore_25 : decode cX6_restore 25 = .ok (.iconst 3, 1) := by decide +kernel
theorem dX6_restore_26 : decode cX6_restore 26 = .ok (.iaload, 1) := by decide +kernel
theorem dX6_restore_27 : decode cX6_restore 27 = .ok (.ireturn, 1) := by decide +kernel
set_option maxRecDepth 20000 in
theorem ggX6_count_X6_isIn : GoodIn wsX6_count wsX6_isIn := goodIn_r _ [5] (by decide +kernel) (by decide +kernel)
set_option maxRecDepth 20000 in
theorem gX6_count_X6_isIn : GoodIn wsX6_count (va_wsS RX6 52 yX6_isIn wsX6_isIn) := goodIn_app (goodIn_of _ (by decide +kernel)) ggX6_count_X6_isIn
set_option maxRecDepth 20000 in
theorem ggX6_count_X6_openIn : GoodIn wsX6_count wsX6_openIn := goodIn_r _ [8, 9, 10, 4, 11] (by decide +kernel) (by decide +kernel)
set_option maxRecDepth 20000 in
theorem gX6_count_X6_openIn : GoodIn wsX6_count (va_wsS RX6 164 yX6_openIn wsX6_openIn) := goodIn_app (goodIn_of _ (by decide +kernel)) ggX6_count_X6_openIn
set_option maxRecDepth 20000 in
theorem ggX6_count_X6_bits : GoodIn wsX6_count wsX6_bits := goodIn_r _ [14] (by decide +kernel) (by decide +kernel)
set_option maxRecDepth 20000 in
theorem gX6_count_X6_bits : GoodIn wsX6_count (va_wsS RX6 168 yX6_bits wsX6_bits) := goodIn_app (goodIn_of _ (by decide +kernel)) ggX6_count_X6_bits
set_option maxRecDepth 20000 in
theorem ggX6_count_X6_richesAll : GoodIn wsX6_count wsX6_richesAll := goodIn_r _ [17, 18, 19, 4, 20, 21, 22, 23, 24, 25, 26, 27, 28, 29, 30, 31, 32] (by decide +kernel) (by decide +kernel)
set_option maxRecDepth 20000 in
theorem gX6_count_X6_richesAll : GoodIn wsX6_count (va_wsS RX6 231 yX6_richesAll wsX6_richesAll) := goodIn_app (goodIn_of _ (by decide +kernel)) ggX6_count_X6_richesAll
theorem dX6_count_0 : decode cX6_count 0 = .ok (.iload_n 1, 1) := by decide +kernel
theorem dX6_count_1 : decode cX6_count 1 = .ok (.iconst 0, 1) := by decide +kernel
theorem dX6_count_2 : decode cX6_count 2 = .ok (.iconst 2, 1) := by decide +kernel
theorem dX6_count_3 : decode cX6_count 3 = .ok (.invokestatic 52, 3) := by decide +kernel
theorem dX6_count_6 : decode cX6_count 6 = .ok (.ifCond .eq 10, 3) := by decide +kernel
theorem dX6_count_9 : decode cX6_count 9 = .ok (.aload_n 0, 1) := by decide +kernel
theorem dX6_count_10 : decode cX6_count 10 = .ok (.getfield 9, 3) := by decide +kernel
theorem dX6_count_13 : decode cX6_count 13 = .ok (.iload_n 1, 1) := by decide +kernel
theorem dX6_count_14 : decode cX6_count 14 = .ok (.iaload, 1) := by decide +kernel
theorem dX6_count_15 : decode cX6_count 15 = .ok (.ireturn, 1) := by decide +kernel
theorem dX6_count_16 : decode cX6_count 16 = .ok (.iconst 0, 1) := by decide +kernel
theorem dX6_count_17 : decode cX6_count 17 = .ok (.istore_n 2, 1) := by decide +kernel
theorem dX6_count_18 : decode cX6_count 18 = .ok (.iload_n 1, 1) := by decide +kernel
theorem dX6_count_19 : decode cX6_count 19 = .ok (.tableswitch 85 3 6 #[29, 37, 44, 77], 29) := by decide +kernel
theorem dX6_count_48 : decode cX6_count 48 = .ok (.aload_n 0, 1) := by decide +kernel
theorem dX6_count_49 : decode cX6_count 49 = .ok (.getfield 9, 3) := by decide +kernel
theorem dX6_count_52 : decode cX6_count 52 = .ok (.invokestatic 164, 3) := by decide +kernel
theorem dX6_count_55 : decode cX6_count 55 = .ok (.ireturn, 1) := by decide +kernel
theorem dX6_count_56 : decode cX6_count 56 = .ok (.aload_n 0, 1) := by decide +kernel
theorem dX6_count_57 : decode cX6_count 57 = .ok (.getfield 9, 3) := by decide +kernel
theorem dX6_count_60 : decode cX6_count 60 = .ok (.iconst 3, 1) := by decide +kernel
theorem dX6_count_61 : decode cX6_count 61 = .ok (.iaload, 1) := by decide +kernel
theorem dX6_count_62 : decode cX6_count 62 = .ok (.ireturn, 1) := by decide +kernel
theorem dX6_count_63 : decode cX6_count 63 = .ok (.iconst 0, 1) := by decide +kernel
theorem dX6_count_64 : decode cX6_count 64 = .ok (.istore_n 3, 1) := by decide +kernel
theorem dX6_count_65 : decode cX6_count 65 = .ok (.iload_n 3, 1) := by decide +kernel
theorem dX6_count_66 : decode cX6_count 66 = .ok (.bipush 8, 2) := by decide +kernel
theorem dX6_count_68 : decode cX6_count 68 = .ok (.if_icmp .ge 23, 3) := by decide +kernel
theorem dX6_count_71 : decode cX6_count 71 = .ok (.iload_n 2, 1) := by decide +kernel
theorem dX6_count_72 : decode cX6_count 72 = .ok (.iconst 1, 1) := by decide +kernel
theorem dX6_count_73 : decode cX6_count 73 = .ok (.aload_n 0, 1) := by decide +kernel
theorem dX6_count_74 : decode cX6_count 74 = .ok (.getfield 9, 3) := by decide +kernel
theorem dX6_count_77 : decode cX6_count 77 = .ok (.bipush 66, 2) := by decide +kernel
theorem dX6_count_79 : decode cX6_count 79 = .ok (.iload_n 3, 1) := by decide +kernel
theorem dX6_count_80 : decode cX6_count 80 = .ok (.iadd, 1) := by decide +kernel
theorem dX6_count_81 : decode cX6_count 81 = .ok (.iaload, 1) := by decide +kernel
theorem dX6_count_82 : decode cX6_count 82 = .ok (.ishl, 1) := by decide +kernel
theorem dX6_count_83 : decode cX6_count 83 = .ok (.ior, 1) := by decide +kernel
theorem dX6_count_84 : decode cX6_count 84 = .ok (.istore_n 2, 1) := by decide +kernel
theorem dX6_count_85 : decode cX6_count 85 = .ok (.iinc 3 1, 3) := by decide +kernel
theorem dX6_count_88 : decode cX6_count 88 = .ok (.goto (-23), 3) := by decide +kernel
theorem dX6_count_91 : decode cX6_count 91 = .ok (.iload_n 2, 1) := by decide +kernel
theorem dX6_count_92 : decode cX6_count 92 = .ok (.invokestatic 168, 3) := by decide +kernel
theorem dX6_count_95 : decode cX6_count 95 = .ok (.ireturn, 1) := by decide +kernel
theorem dX6_count_96 : decode cX6_count 96 = .ok (.aload_n 0, 1) := by decide +kernel
theorem dX6_count_97 : decode cX6_count 97 = .ok (.getfield 9, 3) := by decide +kernel
theorem dX6_count_100 : decode cX6_count 100 = .ok (.invokestatic 231, 3) := by decide +kernel
theorem dX6_count_103 : decode cX6_count 103 = .ok (.ireturn, 1) := by decide +kernel
theorem dX6_count_104 : decode cX6_count 104 = .ok (.iconst (-1), 1) := by decide +kernel
theorem dX6_count_105 : decode cX6_count 105 = .ok (.ireturn, 1) := by decide +kernel
theorem dX6_thrown_0 : decode cX6_thrown 0 = .ok (.aload_n 0, 1) := by decide +kernel
theorem dX6_thrown_1 : decode cX6_thrown 1 = .ok (.getfield 238, 3) := by decide +kernel
theorem dX6_thrown_4 : decode cX6_thrown 4 = .ok (.ireturn, 1) := by decide +kernel
set_option maxRecDepth 20000 in
theorem ggX6_isShelf_X6_isIn : GoodIn wsX6_isShelf wsX6_isIn := goodIn_r _ [4] (by decide +kernel) (by decide +kernel)
set_option maxRecDepth 20000 in
theorem gX6_isShelf_X6_isIn : GoodIn wsX6_isShelf (va_wsS RX6 52 yX6_isIn wsX6_isIn) := goodIn_app (goodIn_of _ (by decide +kernel)) ggX6_isShelf_X6_isIn
theorem dX6_isShelf_0 : decode cX6_isShelf 0 = .ok (.iload_n 0, 1) := by decide +kernel
theorem dX6_isShelf_1 : decode cX6_isShelf 1 = .ok (.iconst 0, 1) := by decide +kernel
theorem dX6_isShelf_2 : decode cX6_isShelf 2 = .ok (.bipush 7, 2) := by decide +kernel
theorem dX6_isShelf_4 : decode cX6_isShelf 4 = .ok (.invokestatic 52, 3) := by decide +kernel
theorem dX6_isShelf_7 : decode cX6_isShelf 7 = .ok (.ireturn, 1) := by decide +kernel
set_option maxRecDepth 20000 in
theorem ggX6_wrongRow_X6_isShelf : GoodIn wsX6_wrongRow wsX6_isShelf := goodIn_r _ [6, 7, 8, 5, 9] (by decide +kernel) (by decide +kernel)
set_option maxRecDepth 20000 in
theorem gX6_wrongRow_X6_isShelf : GoodIn wsX6_wrongRow (va_wsS RX6 241 yX6_isShelf wsX6_isShelf) := goodIn_app (goodIn_of _ (by decide +kernel)) ggX6_wrongRow_X6_isShelf
theorem dX6_wrongRow_0 : decode cX6_wrongRow 0 = .ok (.iload_n 1, 1) := by decide +kernel
theorem dX6_wrongRow_1 : decode cX6_wrongRow 1 = .ok (.invokestatic 241, 3) := by decide +kernel
theorem dX6_wrongRow_4 : decode cX6_wrongRow 4 = .ok (.ifCond .ne 7, 3) := by decide +kernel
theorem dX6_wrongRow_7 : decode cX6_wrongRow 7 = .ok (.iconst (-1), 1) := by decide +kernel
theorem dX6_wrongRow_8 : decode cX6_wrongRow 8 = .ok (.goto 47, 3) := by decide +kernel
theorem dX6_wrongRow_11 : decode cX6_wrongRow 11 = .ok (.aload_n 0, 1) := by decide +kernel
theorem dX6_wrongRow_12 : decode cX6_wrongRow 12 = .ok (.getfield 34, 3) := by decide +kernel
theorem dX6_wrongRow_15 : decode cX6_wrongRow 15 = .ok (.iload_n 1, 1) := by decide +kernel
theorem dX6_wrongRow_16 : decode cX6_wrongRow 16 = .ok (.iaload, 1) := by decide +kernel
theorem dX6_wrongRow_17 : decode cX6_wrongRow 17 = .ok (.ifCond .ne 8, 3) := by decide +kernel
theorem dX6_wrongRow_20 : decode cX6_wrongRow 20 = .ok (.bipush (-11), 2) := by decide +kernel
theorem dX6_wrongRow_22 : decode cX6_wrongRow 22 = .ok (.goto 33, 3) := by decide +kernel
theorem dX6_wrongRow_25 : decode cX6_wrongRow 25 = .ok (.aload_n 0, 1) := by decide +kernel
theorem dX6_wrongRow_26 : decode cX6_wrongRow 26 = .ok (.getfield 34, 3) := by decide +kernel
theorem dX6_wrongRow_29 : decode cX6_wrongRow 29 = .ok (.iload_n 1, 1) := by decide +kernel
theorem dX6_wrongRow_30 : decode cX6_wrongRow 30 = .ok (.iaload, 1) := by decide +kernel
theorem dX6_wrongRow_31 : decode cX6_wrongRow 31 = .ok (.iconst 2, 1) := by decide +kernel
theorem dX6_wrongRow_32 : decode cX6_wrongRow 32 = .ok (.if_icmp .ne 17, 3) := by decide +kernel
theorem dX6_wrongRow_35 : decode cX6_wrongRow 35 = .ok (.iload_n 2, 1) := by decide +kernel
theorem dX6_wrongRow_36 : decode cX6_wrongRow 36 = .ok (.ifCond .lt 18, 3) := by decide +kernel
theorem dX6_wrongRow_39 : decode cX6_wrongRow 39 = .ok (.aload_n 0, 1) := by decide +kernel
theorem dX6_wrongRow_40 : decode cX6_wrongRow 40 = .ok (.getfield 43, 3) := by decide +kernel
theorem dX6_wrongRow_43 : decode cX6_wrongRow 43 = .ok (.iload_n 1, 1) := by decide +kernel
theorem dX6_wrongRow_44 : decode cX6_wrongRow 44 = .ok (.iaload, 1) := by decide +kernel
theorem dX6_wrongRow_45 : decode cX6_wrongRow 45 = .ok (.iload_n 2, 1) := by decide +kernel
theorem dX6_wrongRow_46 : decode cX6_wrongRow 46 = .ok (.if_icmp .eq 8, 3) := by decide +kernel
theorem dX6_wrongRow_49 : decode cX6_wrongRow 49 = .ok (.bipush (-12), 2) := by decide +kernel
theorem dX6_wrongRow_51 : decode cX6_wrongRow 51 = .ok (.goto 4, 3) := by decide +kernel
theorem dX6_wrongRow_54 : decode cX6_wrongRow 54 = .ok (.iconst 0, 1) := by decide +kernel
theorem dX6_wrongRow_55 : decode cX6_wrongRow 55 = .ok (.ireturn, 1) := by decide +kernel
set_option maxRecDepth 20000 in
theorem ggX6_wrongKept_X6_isShelf : GoodIn wsX6_wrongKept wsX6_isShelf := goodIn_r _ [5, 6, 7, 4, 8] (by decide +kernel) (by decide +kernel)
set_option maxRecDepth 20000 in
theorem gX6_wrongKept_X6_isShelf : GoodIn wsX6_wrongKept (va_wsS RX6 241 yX6_isShelf wsX6_isShelf) := goodIn_app (goodIn_of _ (by decide +kernel)) ggX6_wrongKept_X6_isShelf
theorem dX6_wrongKept_0 : decode cX6_wrongKept 0 = .ok (.iload_n 1, 1) := by decide +kernel
theorem dX6_wrongKept_1 : decode cX6_wrongKept 1 = .ok (.invokestatic 241, 3) := by decide +kernel
theorem dX6_wrongKept_4 : decode cX6_wrongKept 4 = .ok (.ifCond .ne 7, 3) := by decide +kernel
theorem dX6_wrongKept_7 : decode cX6_wrongKept 7 = .ok (.iconst (-1), 1) := by decide +kernel
theorem dX6_wrongKept_8 : decode cX6_wrongKept 8 = .ok (.goto 33, 3) := by decide +kernel
theorem dX6_wrongKept_11 : decode cX6_wrongKept 11 = .ok (.aload_n 0, 1) := by decide +kernel
theorem dX6_wrongKept_12 : decode cX6_wrongKept 12 = .ok (.getfield 34, 3) := by decide +kernel
theorem dX6_wrongKept_15 : decode cX6_wrongKept 15 = .ok (.iload_n 1, 1) := by decide +kernel
theorem dX6_wrongKept_16 : decode cX6_wrongKept 16 = .ok (.iaload, 1) := by decide +kernel
theorem dX6_wrongKept_17 : decode cX6_wrongKept 17 = .ok (.ifCond .ne 8, 3) := by decide +kernel
theorem dX6_wrongKept_20 : decode cX6_wrongKept 20 = .ok (.bipush (-11), 2) := by decide +kernel
theorem dX6_wrongKept_22 : decode cX6_wrongKept 22 = .ok (.goto 19, 3) := by decide +kernel
theorem dX6_wrongKept_25 : decode cX6_wrongKept 25 = .ok (.aload_n 0, 1) := by decide +kernel
theorem dX6_wrongKept_26 : decode cX6_wrongKept 26 = .ok (.getfield 34, 3) := by decide +kernel
theorem dX6_wrongKept_29 : decode cX6_wrongKept 29 = .ok (.iload_n 1, 1) := by decide +kernel
theorem dX6_wrongKept_30 : decode cX6_wrongKept 30 = .ok (.iaload, 1) := by decide +kernel
theorem dX6_wrongKept_31 : decode cX6_wrongKept 31 = .ok (.iconst 2, 1) := by decide +kernel
theorem dX6_wrongKept_32 : decode cX6_wrongKept 32 = .ok (.if_icmp .ne 8, 3) := by decide +kernel
theorem dX6_wrongKept_35 : decode cX6_wrongKept 35 = .ok (.bipush (-12), 2) := by decide +kernel
theorem dX6_wrongKept_37 : decode cX6_wrongKept 37 = .ok (.goto 4, 3) := by decide +kernel
theorem dX6_wrongKept_40 : decode cX6_wrongKept 40 = .ok (.iconst 0, 1) := by decide +kernel
theorem dX6_wrongKept_41 : decode cX6_wrongKept 41 = .ok (.ireturn, 1) := by decide +kernel
set_option maxRecDepth 20000 in
theorem ggX6_keep_X6_isShelf : GoodIn wsX6_keep wsX6_isShelf := goodIn_r _ [7, 8, 9, 6, 10] (by decide +kernel) (by decide +kernel)
set_option maxRecDepth 20000 in
theorem gX6_keep_X6_isShelf : GoodIn wsX6_keep (va_wsS RX6 241 yX6_isShelf wsX6_isShelf) := goodIn_app (goodIn_of _ (by decide +kernel)) ggX6_keep_X6_isShelf
set_option maxRecDepth 20000 in
theorem ggX6_keep_X6_isIn : GoodIn wsX6_keep wsX6_isIn := goodIn_r _ [10] (by decide +kernel) (by decide +kernel)
set_option maxRecDepth 20000 in
theorem gX6_keep_X6_isIn : GoodIn wsX6_keep (va_wsS RX6 52 yX6_isIn wsX6_isIn) := goodIn_app (goodIn_of _ (by decide +kernel)) ggX6_keep_X6_isIn
theorem dX6_keep_0 : decode cX6_keep 0 = .ok (.iload_n 1, 1) := by decide +kernel
theorem dX6_keep_1 : decode cX6_keep 1 = .ok (.invokestatic 241, 3) := by decide +kernel
theorem dX6_keep_4 : decode cX6_keep 4 = .ok (.ifCond .eq 38, 3) := by decide +kernel
theorem dX6_keep_7 : decode cX6_keep 7 = .ok (.iload_n 2, 1) := by decide +kernel
theorem dX6_keep_8 : decode cX6_keep 8 = .ok (.iconst 0, 1) := by decide +kernel
theorem dX6_keep_9 : decode cX6_keep 9 = .ok (.iconst 1, 1) := by decide +kernel
theorem dX6_keep_10 : decode cX6_keep 10 = .ok (.invokestatic 52, 3) := by decide +kernel
theorem dX6_keep_13 : decode cX6_keep 13 = .ok (.ifCond .eq 29, 3) := by decide +kernel
theorem dX6_keep_16 : decode cX6_keep 16 = .ok (.iload_n 2, 1) := by decide +kernel
theorem dX6_keep_17 : decode cX6_keep 17 = .ok (.iconst 1, 1) := by decide +kernel
theorem dX6_keep_18 : decode cX6_keep 18 = .ok (.if_icmp .ne 26, 3) := by decide +kernel
theorem dX6_keep_21 : decode cX6_keep 21 = .ok (.iload_n 3, 1) := by decide +kernel
theorem dX6_keep_22 : decode cX6_keep 22 = .ok (.iconst 0, 1) := by decide +kernel
theorem dX6_keep_23 : decode cX6_keep 23 = .ok (.bipush 7, 2) := by decide +kernel
theorem dX6_keep_25 : decode cX6_keep 25 = .ok (.invokestatic 52, 3) := by decide +kernel
theorem dX6_keep_28 : decode cX6_keep 28 = .ok (.ifCond .eq 14, 3) := by decide +kernel
theorem dX6_keep_31 : decode cX6_keep 31 = .ok (.iload 4, 2) := by decide +kernel
theorem dX6_keep_33 : decode cX6_keep 33 = .ok (.iconst 0, 1) := by decide +kernel
theorem dX6_keep_34 : decode cX6_keep 34 = .ok (.bipush 9, 2) := by decide +kernel
theorem dX6_keep_36 : decode cX6_keep 36 = .ok (.invokestatic 52, 3) := by decide +kernel
theorem dX6_keep_39 : decode cX6_keep 39 = .ok (.ifCond .ne 5, 3) := by decide +kernel
theorem dX6_keep_42 : decode cX6_keep 42 = .ok (.iconst (-1), 1) := by decide +kernel
theorem dX6_keep_43 : decode cX6_keep 43 = .ok (.ireturn, 1) := by decide +kernel
theorem dX6_keep_44 : decode cX6_keep 44 = .ok (.aload_n 0, 1) := by decide +kernel
theorem dX6_keep_45 : decode cX6_keep 45 = .ok (.getfield 34, 3) := by decide +kernel
theorem dX6_keep_48 : decode cX6_keep 48 = .ok (.iload_n 1, 1) := by decide +kernel
theorem dX6_keep_49 : decode cX6_keep 49 = .ok (.iload_n 2, 1) := by decide +kernel
theorem dX6_keep_50 : decode cX6_keep 50 = .ok (.iastore, 1) := by decide +kernel
theorem dX6_keep_51 : decode cX6_keep 51 = .ok (.aload_n 0, 1) := by decide +kernel
theorem dX6_keep_52 : decode cX6_keep 52 = .ok (.getfield 37, 3) := by decide +kernel
theorem dX6_keep_55 : decode cX6_keep 55 = .ok (.iload_n 1, 1) := by decide +kernel
theorem dX6_keep_56 : decode cX6_keep 56 = .ok (.iload_n 3, 1) := by decide +kernel
theorem dX6_keep_57 : decode cX6_keep 57 = .ok (.iastore, 1) := by decide +kernel
theorem dX6_keep_58 : decode cX6_keep 58 = .ok (.aload_n 0, 1) := by decide +kernel
theorem dX6_keep_59 : decode cX6_keep 59 = .ok (.getfield 40, 3) := by decide +kernel
theorem dX6_keep_62 : decode cX6_keep 62 = .ok (.iload_n 1, 1) := by decide +kernel
theorem dX6_keep_63 : decode cX6_keep 63 = .ok (.iload 4, 2) := by decide +kernel
theorem dX6_keep_65 : decode cX6_keep 65 = .ok (.iastore, 1) := by decide +kernel
theorem dX6_keep_66 : decode cX6_keep 66 = .ok (.iconst 0, 1) := by decide +kernel
theorem dX6_keep_67 : decode cX6_keep 67 = .ok (.ireturn, 1) := by decide +kernel
set_option maxRecDepth 20000 in
theorem ggX6_row_X6_isShelf : GoodIn wsX6_row wsX6_isShelf := goodIn_r _ [8, 9, 10, 7, 11] (by decide +kernel) (by decide +kernel)
set_option maxRecDepth 20000 in
theorem gX6_row_X6_isShelf : GoodIn wsX6_row (va_wsS RX6 241 yX6_isShelf wsX6_isShelf) := goodIn_app (goodIn_of _ (by decide +kernel)) ggX6_row_X6_isShelf
set_option maxRecDepth 20000 in
theorem ggX6_row_X6_isIn : GoodIn wsX6_row wsX6_isIn := goodIn_r _ [11] (by decide +kernel) (by decide +kernel)
set_option maxRecDepth 20000 in
theorem gX6_row_X6_isIn : GoodIn wsX6_row (va_wsS RX6 52 yX6_isIn wsX6_isIn) := goodIn_app (goodIn_of _ (by decide +kernel)) ggX6_row_X6_isIn
theorem dX6_row_0 : decode cX6_row 0 = .ok (.iload_n 1, 1) := by decide +kernel
theorem dX6_row_1 : decode cX6_row 1 = .ok (.invokestatic 241, 3) := by decide +kernel
theorem dX6_row_4 : decode cX6_row 4 = .ok (.ifCond .eq 18, 3) := by decide +kernel
theorem dX6_row_7 : decode cX6_row 7 = .ok (.iload_n 2, 1) := by decide +kernel
theorem dX6_row_8 : decode cX6_row 8 = .ok (.iconst 0, 1) := by decide +kernel
theorem dX6_row_9 : decode cX6_row 9 = .ok (.iconst 2, 1) := by decide +kernel
theorem dX6_row_10 : decode cX6_row 10 = .ok (.invokestatic 52, 3) := by decide +kernel
theorem dX6_row_13 : decode cX6_row 13 = .ok (.ifCond .eq 9, 3) := by decide +kernel
theorem dX6_row_16 : decode cX6_row 16 = .ok (.iload_n 3, 1) := by decide +kernel
theorem dX6_row_17 : decode cX6_row 17 = .ok (.bipush 100, 2) := by decide +kernel
theorem dX6_row_19 : decode cX6_row 19 = .ok (.if_icmp .le 5, 3) := by decide +kernel
theorem dX6_row_22 : decode cX6_row 22 = .ok (.iconst (-1), 1) := by decide +kernel
theorem dX6_row_23 : decode cX6_row 23 = .ok (.ireturn, 1) := by decide +kernel
theorem dX6_row_24 : decode cX6_row 24 = .ok (.iload_n 3, 1) := by decide +kernel
theorem dX6_row_25 : decode cX6_row 25 = .ok (.ifCond .ge 6, 3) := by decide +kernel
theorem dX6_row_28 : decode cX6_row 28 = .ok (.bipush (-14), 2) := by decide +kernel
theorem dX6_row_30 : decode cX6_row 30 = .ok (.ireturn, 1) := by decide +kernel
theorem dX6_row_31 : decode cX6_row 31 = .ok (.aload_n 0, 1) := by decide +kernel
theorem dX6_row_32 : decode cX6_row 32 = .ok (.getfield 34, 3) := by decide +kernel
theorem dX6_row_35 : decode cX6_row 35 = .ok (.iload_n 1, 1) := by decide +kernel
theorem dX6_row_36 : decode cX6_row 36 = .ok (.iconst 2, 1) := by decide +kernel
theorem dX6_row_37 : decode cX6_row 37 = .ok (.iastore, 1) := by decide +kernel
theorem dX6_row_38 : decode cX6_row 38 = .ok (.aload_n 0, 1) := by decide +kernel
theorem dX6_row_39 : decode cX6_row 39 = .ok (.getfield 43, 3) := by decide +kernel
theorem dX6_row_42 : decode cX6_row 42 = .ok (.iload_n 1, 1) := by decide +kernel
theorem dX6_row_43 : decode cX6_row 43 = .ok (.iload_n 2, 1) := by decide +kernel
theorem dX6_row_44 : decode cX6_row 44 = .ok (.iastore, 1) := by decide +kernel
theorem dX6_row_45 : decode cX6_row 45 = .ok (.aload_n 0, 1) := by decide +kernel
theorem dX6_row_46 : decode cX6_row 46 = .ok (.getfield 46, 3) := by decide +kernel
theorem dX6_row_49 : decode cX6_row 49 = .ok (.iload_n 1, 1) := by decide +kernel
theorem dX6_row_50 : decode cX6_row 50 = .ok (.iload_n 3, 1) := by decide +kernel
theorem dX6_row_51 : decode cX6_row 51 = .ok (.iastore, 1) := by decide +kernel
theorem dX6_row_52 : decode cX6_row 52 = .ok (.iconst 0, 1) := by decide +kernel
theorem dX6_row_53 : decode cX6_row 53 = .ok (.istore 4, 2) := by decide +kernel
theorem dX6_row_55 : decode cX6_row 55 = .ok (.iload 4, 2) := by decide +kernel
theorem dX6_row_57 : decode cX6_row 57 = .ok (.bipush 100, 2) := by decide +kernel
theorem dX6_row_59 : decode cX6_row 59 = .ok (.if_icmp .ge 22, 3) := by decide +kernel
theorem dX6_row_62 : decode cX6_row 62 = .ok (.aload_n 0, 1) := by decide +kernel
theorem dX6_row_63 : decode cX6_row 63 = .ok (.getfield 49, 3) := by decide +kernel
theorem dX6_row_66 : decode cX6_row 66 = .ok (.bipush 100, 2) := by decide +kernel
theorem dX6_row_68 : decode cX6_row 68 = .ok (.iload_n 1, 1) := by decide +kernel
theorem dX6_row_69 : decode cX6_row 69 = .ok (.imul, 1) := by decide +kernel
theorem dX6_row_70 : decode cX6_row 70 = .ok (.iload 4, 2) := by decide +kernel
theorem dX6_row_72 : decode cX6_row 72 = .ok (.iadd, 1) := by decide +kernel
theorem dX6_row_73 : decode cX6_row 73 = .ok (.iconst 0, 1) := by decide +kernel
theorem dX6_row_74 : decode cX6_row 74 = .ok (.iastore, 1) := by decide +kernel
theorem dX6_row_75 : decode cX6_row 75 = .ok (.iinc 4 1, 3) := by decide +kernel
theorem dX6_row_78 : decode cX6_row 78 = .ok (.goto (-23), 3) := by decide +kernel
theorem dX6_row_81 : decode cX6_row 81 = .ok (.iconst 0, 1) := by decide +kernel
theorem dX6_row_82 : decode cX6_row 82 = .ok (.ireturn, 1) := by decide +kernel
set_option maxRecDepth 20000 in
theorem ggX6_put_X6_wrongRow : GoodIn wsX6_put wsX6_wrongRow := goodIn_r _ [8, 9, 3, 10, 11, 7, 12, 13, 14, 15, 16, 17, 18, 19, 20, 21, 22, 23, 24, 25, 26, 27, 28, 29, 30, 31, 32, 33, 34, 35, 36, 37] (by decide +kernel) (by decide +kernel)
set_option maxRecDepth 20000 in
theorem gX6_put_X6_wrongRow : GoodIn wsX6_put (wsV RX6 138 RX6 yX6_wrongRow wsX6_wrongRow) := goodIn_app (goodIn_of _ (by decide +kernel)) ggX6_put_X6_wrongRow
set_option maxRecDepth 20000 in
theorem ggX6_put_X6_isIn : GoodIn wsX6_put wsX6_isIn := goodIn_r _ [15] (by decide +kernel) (by decide +kernel)
set_option maxRecDepth 20000 in
theorem gX6_put_X6_isIn : GoodIn wsX6_put (va_wsS RX6 52 yX6_isIn wsX6_isIn) := goodIn_app (goodIn_of _ (by decide +kernel)) ggX6_put_X6_isIn
theorem dX6_put_0 : decode cX6_put 0 = .ok (.aload_n 0, 1) := by decide +kernel
theorem dX6_put_1 : decode cX6_put 1 = .ok (.iload_n 1, 1) := by decide +kernel
theorem dX6_put_2 : decode cX6_put 2 = .ok (.iconst (-1), 1) := by decide +kernel
theorem dX6_put_3 : decode cX6_put 3 = .ok (.invokevirtual 138, 3) := by decide +kernel
theorem dX6_put_6 : decode cX6_put 6 = .ok (.istore 4, 2) := by decide +kernel
theorem dX6_put_8 : decode cX6_put 8 = .ok (.iload 4, 2) := by decide +kernel
theorem dX6_put_10 : decode cX6_put 10 = .ok (.ifCond .eq 6, 3) := by decide +kernel
theorem dX6_put_13 : decode cX6_put 13 = .ok (.iload 4, 2) := by decide +kernel
theorem dX6_put_15 : decode cX6_put 15 = .ok (.ireturn, 1) := by decide +kernel
theorem dX6_put_16 : decode cX6_put 16 = .ok (.iload_n 2, 1) := by decide +kernel
theorem dX6_put_17 : decode cX6_put 17 = .ok (.iconst 0, 1) := by decide +kernel
theorem dX6_put_18 : decode cX6_put 18 = .ok (.aload_n 0, 1) := by decide +kernel
theorem dX6_put_19 : decode cX6_put 19 = .ok (.getfield 46, 3) := by decide +kernel
theorem dX6_put_22 : decode cX6_put 22 = .ok (.iload_n 1, 1) := by decide +kernel
theorem dX6_put_23 : decode cX6_put 23 = .ok (.iaload, 1) := by decide +kernel
theorem dX6_put_24 : decode cX6_put 24 = .ok (.iconst 1, 1) := by decide +kernel
theorem dX6_put_25 : decode cX6_put 25 = .ok (.isub, 1) := by decide +kernel
theorem dX6_put_26 : decode cX6_put 26 = .ok (.invokestatic 52, 3) := by decide +kernel
theorem dX6_put_29 : decode cX6_put 29 = .ok (.ifCond .ne 6, 3) := by decide +kernel
theorem dX6_put_32 : decode cX6_put 32 = .ok (.bipush (-13), 2) := by decide +kernel
theorem dX6_put_34 : decode cX6_put 34 = .ok (.ireturn, 1) := by decide +kernel
theorem dX6_put_35 : decode cX6_put 35 = .ok (.aload_n 0, 1) := by decide +kernel
theorem dX6_put_36 : decode cX6_put 36 = .ok (.getfield 49, 3) := by decide +kernel
theorem dX6_put_39 : decode cX6_put 39 = .ok (.bipush 100, 2) := by decide +kernel
theorem dX6_put_41 : decode cX6_put 41 = .ok (.iload_n 1, 1) := by decide +kernel
theorem dX6_put_42 : decode cX6_put 42 = .ok (.imul, 1) := by decide +kernel
theorem dX6_put_43 : decode cX6_put 43 = .ok (.iload_n 2, 1) := by decide +kernel
theorem dX6_put_44 : decode cX6_put 44 = .ok (.iadd, 1) := by decide +kernel
theorem dX6_put_45 : decode cX6_put 45 = .ok (.aload_n 0, 1) := by decide +kernel
theorem dX6_put_46 : decode cX6_put 46 = .ok (.getfield 43, 3) := by decide +kernel
theorem dX6_put_49 : decode cX6_put 49 = .ok (.iload_n 1, 1) := by decide +kernel
theorem dX6_put_50 : decode cX6_put 50 = .ok (.iaload, 1) := by decide +kernel
theorem dX6_put_51 : decode cX6_put 51 = .ok (.ifCond .ne 8, 3) := by decide +kernel
theorem dX6_put_54 : decode cX6_put 54 = .ok (.iload_n 3, 1) := by decide +kernel
theorem dX6_put_55 : decode cX6_put 55 = .ok (.i2b, 1) := by decide +kernel
theorem dX6_put_56 : decode cX6_put 56 = .ok (.goto 19, 3) := by decide +kernel
theorem dX6_put_59 : decode cX6_put 59 = .ok (.aload_n 0, 1) := by decide +kernel
theorem dX6_put_60 : decode cX6_put 60 = .ok (.getfield 43, 3) := by decide +kernel
theorem dX6_put_63 : decode cX6_put 63 = .ok (.iload_n 1, 1) := by decide +kernel
theorem dX6_put_64 : decode cX6_put 64 = .ok (.iaload, 1) := by decide +kernel
theorem dX6_put_65 : decode cX6_put 65 = .ok (.iconst 1, 1) := by decide +kernel
theorem dX6_put_66 : decode cX6_put 66 = .ok (.if_icmp .ne 8, 3) := by decide +kernel
theorem dX6_put_69 : decode cX6_put 69 = .ok (.iload_n 3, 1) := by decide +kernel
theorem dX6_put_70 : decode cX6_put 70 = .ok (.i2s, 1) := by decide +kernel
theorem dX6_put_71 : decode cX6_put 71 = .ok (.goto 4, 3) := by decide +kernel
theorem dX6_put_74 : decode cX6_put 74 = .ok (.iload_n 3, 1) := by decide +kernel
theorem dX6_put_75 : decode cX6_put 75 = .ok (.iastore, 1) := by decide +kernel
theorem dX6_put_76 : decode cX6_put 76 = .ok (.iconst 0, 1) := by decide +kernel
theorem dX6_put_77 : decode cX6_put 77 = .ok (.ireturn, 1) := by decide +kernel
set_option maxRecDepth 20000 in
theorem ggX6_element_X6_isShelf : GoodIn wsX6_element wsX6_isShelf := goodIn_r _ [8, 9, 10, 7, 11] (by decide +kernel) (by decide +kernel)
set_option maxRecDepth 20000 in
theorem gX6_element_X6_isShelf : GoodIn wsX6_element (va_wsS RX6 241 yX6_isShelf wsX6_isShelf) := goodIn_app (goodIn_of _ (by decide +kernel)) ggX6_element_X6_isShelf
set_option maxRecDepth 20000 in
theorem ggX6_element_X6_isIn : GoodIn wsX6_element wsX6_isIn := goodIn_r _ [11] (by decide +kernel) (by decide +kernel)
set_option maxRecDepth 20000 in
theorem gX6_element_X6_isIn : GoodIn wsX6_element (va_wsS RX6 52 yX6_isIn wsX6_isIn) := goodIn_app (goodIn_of _ (by decide +kernel)) ggX6_element_X6_isIn
theorem dX6_element_0 : decode cX6_element 0 = .ok (.aload_n 0, 1) := by decide +kernel
theorem dX6_element_1 : decode cX6_element 1 = .ok (.iload_n 1, 1) := by decide +kernel
theorem dX6_element_2 : decode cX6_element 2 = .ok (.invokestatic 241, 3) := by decide +kernel
theorem dX6_element_5 : decode cX6_element 5 = .ok (.ifCond .ne 7, 3) := by decide +kernel
theorem dX6_element_8 : decode cX6_element 8 = .ok (.iconst 1, 1) := by decide +kernel
theorem dX6_element_9 : decode cX6_element 9 = .ok (.goto 34, 3) := by decide +kernel
theorem dX6_element_12 : decode cX6_element 12 = .ok (.aload_n 0, 1) := by decide +kernel
theorem dX6_element_13 : decode cX6_element 13 = .ok (.getfield 34, 3) := by decide +kernel
theorem dX6_element_16 : decode cX6_element 16 = .ok (.iload_n 1, 1) := by decide +kernel
theorem dX6_element_17 : decode cX6_element 17 = .ok (.iaload, 1) := by decide +kernel
theorem dX6_element_18 : decode cX6_element 18 = .ok (.iconst 2, 1) := by decide +kernel
theorem dX6_element_19 : decode cX6_element 19 = .ok (.if_icmp .ne 19, 3) := by decide +kernel
theorem dX6_element_22 : decode cX6_element 22 = .ok (.iload_n 2, 1) := by decide +kernel
theorem dX6_element_23 : decode cX6_element 23 = .ok (.iconst 0, 1) := by decide +kernel
theorem dX6_element_24 : decode cX6_element 24 = .ok (.aload_n 0, 1) := by decide +kernel
theorem dX6_element_25 : decode cX6_element 25 = .ok (.getfield 46, 3) := by decide +kernel
theorem dX6_element_28 : decode cX6_element 28 = .ok (.iload_n 1, 1) := by decide +kernel
theorem dX6_element_29 : decode cX6_element 29 = .ok (.iaload, 1) := by decide +kernel
theorem dX6_element_30 : decode cX6_element 30 = .ok (.iconst 1, 1) := by decide +kernel
theorem dX6_element_31 : decode cX6_element 31 = .ok (.isub, 1) := by decide +kernel
theorem dX6_element_32 : decode cX6_element 32 = .ok (.invokestatic 52, 3) := by decide +kernel
theorem dX6_element_35 : decode cX6_element 35 = .ok (.ifCond .ne 7, 3) := by decide +kernel
theorem dX6_element_38 : decode cX6_element 38 = .ok (.iconst 2, 1) := by decide +kernel
theorem dX6_element_39 : decode cX6_element 39 = .ok (.goto 4, 3) := by decide +kernel
theorem dX6_element_42 : decode cX6_element 42 = .ok (.iconst 0, 1) := by decide +kernel
theorem dX6_element_43 : decode cX6_element 43 = .ok (.putfield 238, 3) := by decide +kernel
theorem dX6_element_46 : decode cX6_element 46 = .ok (.aload_n 0, 1) := by decide +kernel
theorem dX6_element_47 : decode cX6_element 47 = .ok (.getfield 238, 3) := by decide +kernel
theorem dX6_element_50 : decode cX6_element 50 = .ok (.ifCond .ne 18, 3) := by decide +kernel
theorem dX6_element_53 : decode cX6_element 53 = .ok (.aload_n 0, 1) := by decide +kernel
theorem dX6_element_54 : decode cX6_element 54 = .ok (.getfield 49, 3) := by decide +kernel
theorem dX6_element_57 : decode cX6_element 57 = .ok (.bipush 100, 2) := by decide +kernel
theorem dX6_element_59 : decode cX6_element 59 = .ok (.iload_n 1, 1) := by decide +kernel
theorem dX6_element_60 : decode cX6_element 60 = .ok (.imul, 1) := by decide +kernel
theorem dX6_element_61 : decode cX6_element 61 = .ok (.iload_n 2, 1) := by decide +kernel
theorem dX6_element_62 : decode cX6_element 62 = .ok (.iadd, 1) := by decide +kernel
theorem dX6_element_63 : decode cX6_element 63 = .ok (.iaload, 1) := by decide +kernel
theorem dX6_element_64 : decode cX6_element 64 = .ok (.i2l, 1) := by decide +kernel
theorem dX6_element_65 : decode cX6_element 65 = .ok (.goto 4, 3) := by decide +kernel
theorem dX6_element_68 : decode cX6_element 68 = .ok (.lconst 0, 1) := by decide +kernel
theorem dX6_element_69 : decode cX6_element 69 = .ok (.lreturn, 1) := by decide +kernel
set_option maxRecDepth 20000 in
theorem ggX6_copy_X6_isShelf : GoodIn wsX6_copy wsX6_isShelf := goodIn_r _ [8, 9, 10, 7, 11] (by decide +kernel) (by decide +kernel)
set_option maxRecDepth 20000 in
theorem gX6_copy_X6_isShelf : GoodIn wsX6_copy (va_wsS RX6 241 yX6_isShelf wsX6_isShelf) := goodIn_app (goodIn_of _ (by decide +kernel)) ggX6_copy_X6_isShelf
theorem dX6_copy_0 : decode cX6_copy 0 = .ok (.iload_n 1, 1) := by decide +kernel
theorem dX6_copy_1 : decode cX6_copy 1 = .ok (.invokestatic 241, 3) := by decide +kernel
theorem dX6_copy_4 : decode cX6_copy 4 = .ok (.ifCond .eq 10, 3) := by decide +kernel
theorem dX6_copy_7 : decode cX6_copy 7 = .ok (.iload_n 3, 1) := by decide +kernel
theorem dX6_copy_8 : decode cX6_copy 8 = .ok (.invokestatic 241, 3) := by decide +kernel
theorem dX6_copy_11 : decode cX6_copy 11 = .ok (.ifCond .ne 5, 3) := by decide +kernel
theorem dX6_copy_14 : decode cX6_copy 14 = .ok (.iconst (-1), 1) := by decide +kernel
theorem dX6_copy_15 : decode cX6_copy 15 = .ok (.ireturn, 1) := by decide +kernel
theorem dX6_copy_16 : decode cX6_copy 16 = .ok (.aload_n 0, 1) := by decide +kernel
theorem dX6_copy_17 : decode cX6_copy 17 = .ok (.getfield 34, 3) := by decide +kernel
theorem dX6_copy_20 : decode cX6_copy 20 = .ok (.iload_n 1, 1) := by decide +kernel
theorem dX6_copy_21 : decode cX6_copy 21 = .ok (.iaload, 1) := by decide +kernel
theorem dX6_copy_22 : decode cX6_copy 22 = .ok (.ifCond .eq 12, 3) := by decide +kernel
theorem dX6_copy_25 : decode cX6_copy 25 = .ok (.aload_n 0, 1) := by decide +kernel
theorem dX6_copy_26 : decode cX6_copy 26 = .ok (.getfield 34, 3) := by decide +kernel
theorem dX6_copy_29 : decode cX6_copy 29 = .ok (.iload_n 3, 1) := by decide +kernel
theorem dX6_copy_30 : decode cX6_copy 30 = .ok (.iaload, 1) := by decide +kernel
theorem dX6_copy_31 : decode cX6_copy 31 = .ok (.ifCond .ne 6, 3) := by decide +kernel
theorem dX6_copy_34 : decode cX6_copy 34 = .ok (.bipush (-11), 2) := by decide +kernel
theorem dX6_copy_36 : decode cX6_copy 36 = .ok (.ireturn, 1) := by decide +kernel
theorem dX6_copy_37 : decode cX6_copy 37 = .ok (.aload_n 0, 1) := by decide +kernel
theorem dX6_copy_38 : decode cX6_copy 38 = .ok (.getfield 34, 3) := by decide +kernel
theorem dX6_copy_41 : decode cX6_copy 41 = .ok (.iload_n 1, 1) := by decide +kernel
theorem dX6_copy_42 : decode cX6_copy 42 = .ok (.iaload, 1) := by decide +kernel
theorem dX6_copy_43 : decode cX6_copy 43 = .ok (.iconst 2, 1) := by decide +kernel
theorem dX6_copy_44 : decode cX6_copy 44 = .ok (.if_icmp .ne 28, 3) := by decide +kernel
theorem dX6_copy_47 : decode cX6_copy 47 = .ok (.aload_n 0, 1) := by decide +kernel
theorem dX6_copy_48 : decode cX6_copy 48 = .ok (.getfield 34, 3) := by decide +kernel
theorem dX6_copy_51 : decode cX6_copy 51 = .ok (.iload_n 3, 1) := by decide +kernel
theorem dX6_copy_52 : decode cX6_copy 52 = .ok (.iaload, 1) := by decide +kernel
theorem dX6_copy_53 : decode cX6_copy 53 = .ok (.iconst 2, 1) := by decide +kernel
theorem dX6_copy_54 : decode cX6_copy 54 = .ok (.if_icmp .ne 18, 3) := by decide +kernel
theorem dX6_copy_57 : decode cX6_copy 57 = .ok (.aload_n 0, 1) := by decide +kernel
theorem dX6_copy_58 : decode cX6_copy 58 = .ok (.getfield 43, 3) := by decide +kernel
theorem dX6_copy_61 : decode cX6_copy 61 = .ok (.iload_n 1, 1) := by decide +kernel
theorem dX6_copy_62 : decode cX6_copy 62 = .ok (.iaload, 1) := by decide +kernel
theorem dX6_copy_63 : decode cX6_copy 63 = .ok (.aload_n 0, 1) := by decide +kernel
theorem dX6_copy_64 : decode cX6_copy 64 = .ok (.getfield 43, 3) := by decide +kernel
theorem dX6_copy_67 : decode cX6_copy 67 = .ok (.iload_n 3, 1) := by decide +kernel
theorem dX6_copy_68 : decode cX6_copy 68 = .ok (.iaload, 1) := by decide +kernel
theorem dX6_copy_69 : decode cX6_copy 69 = .ok (.if_icmp .eq 6, 3) := by decide +kernel
theorem dX6_copy_72 : decode cX6_copy 72 = .ok (.bipush (-12), 2) := by decide +kernel
theorem dX6_copy_74 : decode cX6_copy 74 = .ok (.ireturn, 1) := by decide +kernel
theorem dX6_copy_75 : decode cX6_copy 75 = .ok (.iload 5, 2) := by decide +kernel
theorem dX6_copy_77 : decode cX6_copy 77 = .ok (.ifCond .lt 39, 3) := by decide +kernel
theorem dX6_copy_80 : decode cX6_copy 80 = .ok (.iload_n 2, 1) := by decide +kernel
theorem dX6_copy_81 : decode cX6_copy 81 = .ok (.ifCond .lt 35, 3) := by decide +kernel
theorem dX6_copy_84 : decode cX6_copy 84 = .ok (.iload 4, 2) := by decide +kernel
theorem dX6_copy_86 : decode cX6_copy 86 = .ok (.ifCond .lt 30, 3) := by decide +kernel
theorem dX6_copy_89 : decode cX6_copy 89 = .ok (.iload 5, 2) := by decide +kernel
theorem dX6_copy_91 : decode cX6_copy 91 = .ok (.aload_n 0, 1) := by decide +kernel
theorem dX6_copy_92 : decode cX6_copy 92 = .ok (.getfield 46, 3) := by decide +kernel
theorem dX6_copy_95 : decode cX6_copy 95 = .ok (.iload_n 1, 1) := by decide +kernel
theorem dX6_copy_96 : decode cX6_copy 96 = .ok (.iaload, 1) := by decide +kernel
theorem dX6_copy_97 : decode cX6_copy 97 = .ok (.iload_n 2, 1) := by decide +kernel
theorem dX6_copy_98 : decode cX6_copy 98 = .ok (.isub, 1) := by decide +kernel
theorem dX6_copy_99 : decode cX6_copy 99 = .ok (.if_icmp .gt 17, 3) := by decide +kernel
theorem dX6_copy_102 : decode cX6_copy 102 = .ok (.iload 5, 2) := by decide +kernel
theorem dX6_copy_104 : decode cX6_copy 104 = .ok (.aload_n 0, 1) := by decide +kernel
theorem dX6_copy_105 : decode cX6_copy 105 = .ok (.getfield 46, 3) := by decide +kernel
theorem dX6_copy_108 : decode cX6_copy 108 = .ok (.iload_n 3, 1) := by decide +kernel
theorem dX6_copy_109 : decode cX6_copy 109 = .ok (.iaload, 1) := by decide +kernel
theorem dX6_copy_110 : decode cX6_copy 110 = .ok (.iload 4, 2) := by decide +kernel
theorem dX6_copy_112 : decode cX6_copy 112 = .ok (.isub, 1) := by decide +kernel
theorem dX6_copy_113 : decode cX6_copy 113 = .ok (.if_icmp .le 6, 3) := by decide +kernel
theorem dX6_copy_116 : decode cX6_copy 116 = .ok (.bipush (-13), 2) := by decide +kernel
theorem dX6_copy_118 : decode cX6_copy 118 = .ok (.ireturn, 1) := by decide +kernel
theorem dX6_copy_119 : decode cX6_copy 119 = .ok (.iconst 0, 1) := by decide +kernel
theorem dX6_copy_120 : decode cX6_copy 120 = .ok (.istore 6, 2) := by decide +kernel
theorem dX6_copy_122 : decode cX6_copy 122 = .ok (.iload 6, 2) := by decide +kernel
theorem dX6_copy_124 : decode cX6_copy 124 = .ok (.iload 5, 2) := by decide +kernel
theorem dX6_copy_126 : decode cX6_copy 126 = .ok (.if_icmp .ge 58, 3) := by decide +kernel
theorem dX6_copy_129 : decode cX6_copy 129 = .ok (.iload_n 2, 1) := by decide +kernel
theorem dX6_copy_130 : decode cX6_copy 130 = .ok (.iload 4, 2) := by decide +kernel
theorem dX6_copy_132 : decode cX6_copy 132 = .ok (.if_icmp .le 8, 3) := by decide +kernel
theorem dX6_copy_135 : decode cX6_copy 135 = .ok (.iload 6, 2) := by decide +kernel
theorem dX6_copy_137 : decode cX6_copy 137 = .ok (.goto 10, 3) := by decide +kernel
theorem dX6_copy_140 : decode cX6_copy 140 = .ok (.iload 5, 2) := by decide +kernel
theorem dX6_copy_142 : decode cX6_copy 142 = .ok (.iconst 1, 1) := by decide +kernel
theorem dX6_copy_143 : decode cX6_copy 143 = .ok (.isub, 1) := by decide +kernel
theorem dX6_copy_144 : decode cX6_copy 144 = .ok (.iload 6, 2) := by decide +kernel
theorem dX6_copy_146 : decode cX6_copy 146 = .ok (.isub, 1) := by decide +kernel
theorem dX6_copy_147 : decode cX6_copy 147 = .ok (.istore 7, 2) := by decide +kernel
theorem dX6_copy_149 : decode cX6_copy 149 = .ok (.aload_n 0, 1) := by decide +kernel
theorem dX6_copy_150 : decode cX6_copy 150 = .ok (.getfield 49, 3) := by decide +kernel
theorem dX6_copy_153 : decode cX6_copy 153 = .ok (.bipush 100, 2) := by decide +kernel
theorem dX6_copy_155 : decode cX6_copy 155 = .ok (.iload_n 3, 1) := by decide +kernel
theorem dX6_copy_156 : decode cX6_copy 156 = .ok (.imul, 1) := by decide +kernel
theorem dX6_copy_157 : decode cX6_copy 157 = .ok (.iload 4, 2) := by decide +kernel
theorem dX6_copy_159 : decode cX6_copy 159 = .ok (.iadd, 1) := by decide +kernel
theorem dX6_copy_160 : decode cX6_copy 160 = .ok (.iload 7, 2) := by decide +kernel
theorem dX6_copy_162 : decode cX6_copy 162 = .ok (.iadd, 1) := by decide +kernel
theorem dX6_copy_163 : decode cX6_copy 163 = .ok (.aload_n 0, 1) := by decide +kernel
theorem dX6_copy_164 : decode cX6_copy 164 = .ok (.getfield 49, 3) := by decide +kernel
theorem dX6_copy_167 : decode cX6_copy 167 = .ok (.bipush 100, 2) := by decide +kernel
theorem dX6_copy_169 : decode cX6_copy 169 = .ok (.iload_n 1, 1) := by decide +kernel
theorem dX6_copy_170 : decode cX6_copy 170 = .ok (.imul, 1) := by decide +kernel
theorem dX6_copy_171 : decode cX6_copy 171 = .ok (.iload_n 2, 1) := by decide +kernel
theorem dX6_copy_172 : decode cX6_copy 172 = .ok (.iadd, 1) := by decide +kernel
theorem dX6_copy_173 : decode cX6_copy 173 = .ok (.iload 7, 2) := by decide +kernel
theorem dX6_copy_175 : decode cX6_copy 175 = .ok (.iadd, 1) := by decide +kernel
theorem dX6_copy_176 : decode cX6_copy 176 = .ok (.iaload, 1) := by decide +kernel
theorem dX6_copy_177 : decode cX6_copy 177 = .ok (.iastore, 1) := by decide +kernel
theorem dX6_copy_178 : decode cX6_copy 178 = .ok (.iinc 6 1, 3) := by decide +kernel
theorem dX6_copy_181 : decode cX6_copy 181 = .ok (.goto (-59), 3) := by decide +kernel
theorem dX6_copy_184 : decode cX6_copy 184 = .ok (.iload 5, 2) := by decide +kernel
theorem dX6_copy_186 : decode cX6_copy 186 = .ok (.ireturn, 1) := by decide +kernel
theorem dX6_costBy_0 : decode cX6_costBy 0 = .ok (.iload_n 0, 1) := by decide +kernel
theorem dX6_costBy_1 : decode cX6_costBy 1 = .ok (.tableswitch 60 1 7 #[43, 47, 50, 47, 52, 54, 56], 43) := by decide +kernel
theorem dX6_costBy_44 : decode cX6_costBy 44 = .ok (.iconst 2, 1) := by decide +kernel
theorem dX6_costBy_45 : decode cX6_costBy 45 = .ok (.iload_n 1, 1) := by decide +kernel
theorem dX6_costBy_46 : decode cX6_costBy 46 = .ok (.iadd, 1) := by decide +kernel
theorem dX6_costBy_47 : decode cX6_costBy 47 = .ok (.ireturn, 1) := by decide +kernel
theorem dX6_costBy_48 : decode cX6_costBy 48 = .ok (.bipush 6, 2) := by decide +kernel
theorem dX6_costBy_50 : decode cX6_costBy 50 = .ok (.ireturn, 1) := by decide +kernel
theorem dX6_costBy_51 : decode cX6_costBy 51 = .ok (.iconst 1, 1) := by decide +kernel
theorem dX6_costBy_52 : decode cX6_costBy 52 = .ok (.ireturn, 1) := by decide +kernel
theorem dX6_costBy_53 : decode cX6_costBy 53 = .ok (.iconst 0, 1) := by decide +kernel
theorem dX6_costBy_54 : decode cX6_costBy 54 = .ok (.ireturn, 1) := by decide +kernel
theorem dX6_costBy_55 : decode cX6_costBy 55 = .ok (.iconst 3, 1) := by decide +kernel
theorem dX6_costBy_56 : decode cX6_costBy 56 = .ok (.ireturn, 1) := by decide +kernel
theorem dX6_costBy_57 : decode cX6_costBy 57 = .ok (.iconst 3, 1) := by decide +kernel
theorem dX6_costBy_58 : decode cX6_costBy 58 = .ok (.iload_n 1, 1) := by decide +kernel
theorem dX6_costBy_59 : decode cX6_costBy 59 = .ok (.iadd, 1) := by decide +kernel
theorem dX6_costBy_60 : decode cX6_costBy 60 = .ok (.ireturn, 1) := by decide +kernel
theorem dX6_costBy_61 : decode cX6_costBy 61 = .ok (.iconst 2, 1) := by decide +kernel
theorem dX6_costBy_62 : decode cX6_costBy 62 = .ok (.ireturn, 1) := by decide +kernel
set_option maxRecDepth 20000 in
theorem ggX6_cost_X6_wrongKept : GoodIn wsX6_cost wsX6_wrongKept := goodIn_r _ [7, 8, 9, 10, 6, 11, 12, 13, 14, 18, 19, 20, 21, 22, 23, 24, 25, 26, 27, 28, 29, 30, 31, 32, 33, 34, 35, 36, 37, 38, 39] (by decide +kernel) (by decide +kernel)
set_option maxRecDepth 20000 in
theorem gX6_cost_X6_wrongKept : GoodIn wsX6_cost (wsV RX6 161 RX6 yX6_wrongKept wsX6_wrongKept) := goodIn_app (goodIn_of _ (by decide +kernel)) ggX6_cost_X6_wrongKept
set_option maxRecDepth 20000 in
theorem ggX6_cost_X6_costBy : GoodIn wsX6_cost wsX6_costBy := goodIn_r _ [17] (by decide +kernel) (by decide +kernel)
set_option maxRecDepth 20000 in
theorem gX6_cost_X6_costBy : GoodIn wsX6_cost (va_wsS RX6 244 yX6_costBy wsX6_costBy) := goodIn_app (goodIn_of _ (by decide +kernel)) ggX6_cost_X6_costBy
theorem dX6_cost_0 : decode cX6_cost 0 = .ok (.aload_n 0, 1) := by decide +kernel
theorem dX6_cost_1 : decode cX6_cost 1 = .ok (.iload_n 1, 1) := by decide +kernel
theorem dX6_cost_2 : decode cX6_cost 2 = .ok (.invokevirtual 161, 3) := by decide +kernel
theorem dX6_cost_5 : decode cX6_cost 5 = .ok (.istore_n 2, 1) := by decide +kernel
theorem dX6_cost_6 : decode cX6_cost 6 = .ok (.iload_n 2, 1) := by decide +kernel
theorem dX6_cost_7 : decode cX6_cost 7 = .ok (.ifCond .eq 7, 3) := by decide +kernel
theorem dX6_cost_10 : decode cX6_cost 10 = .ok (.iload_n 2, 1) := by decide +kernel
theorem dX6_cost_11 : decode cX6_cost 11 = .ok (.goto 18, 3) := by decide +kernel
theorem dX6_cost_14 : decode cX6_cost 14 = .ok (.aload_n 0, 1) := by decide +kernel
theorem dX6_cost_15 : decode cX6_cost 15 = .ok (.getfield 37, 3) := by decide +kernel
theorem dX6_cost_18 : decode cX6_cost 18 = .ok (.iload_n 1, 1) := by decide +kernel
theorem dX6_cost_19 : decode cX6_cost 19 = .ok (.iaload, 1) := by decide +kernel
theorem dX6_cost_20 : decode cX6_cost 20 = .ok (.aload_n 0, 1) := by decide +kernel
theorem dX6_cost_21 : decode cX6_cost 21 = .ok (.getfield 40, 3) := by decide +kernel
theorem dX6_cost_24 : decode cX6_cost 24 = .ok (.iload_n 1, 1) := by decide +kernel
theorem dX6_cost_25 : decode cX6_cost 25 = .ok (.iaload, 1) := by decide +kernel
theorem dX6_cost_26 : decode cX6_cost 26 = .ok (.invokestatic 244, 3) := by decide +kernel
theorem dX6_cost_29 : decode cX6_cost 29 = .ok (.ireturn, 1) := by decide +kernel
set_option maxRecDepth 20000 in
theorem ggX6_toss_X6_wrongKept : GoodIn wsX6_toss wsX6_wrongKept := goodIn_r _ [7, 8, 9, 10, 6, 11, 12, 13, 14, 18, 19, 20, 21, 22, 23, 24, 25, 26, 27, 28, 29, 30, 31, 32, 33, 34, 35, 36, 37, 38, 39] (by decide +kernel) (by decide +kernel)
set_option maxRecDepth 20000 in
theorem gX6_toss_X6_wrongKept : GoodIn wsX6_toss (wsV RX6 161 RX6 yX6_wrongKept wsX6_wrongKept) := goodIn_app (goodIn_of _ (by decide +kernel)) ggX6_toss_X6_wrongKept
set_option maxRecDepth 20000 in
theorem ggX6_toss_X6_costBy : GoodIn wsX6_toss wsX6_costBy := goodIn_r _ [17] (by decide +kernel) (by decide +kernel)
set_option maxRecDepth 20000 in
theorem gX6_toss_X6_costBy : GoodIn wsX6_toss (va_wsS RX6 244 yX6_costBy wsX6_costBy) := goodIn_app (goodIn_of _ (by decide +kernel)) ggX6_toss_X6_costBy
theorem dX6_toss_0 : decode cX6_toss 0 = .ok (.aload_n 0, 1) := by decide +kernel
theorem dX6_toss_1 : decode cX6_toss 1 = .ok (.iload_n 1, 1) := by decide +kernel
theorem dX6_toss_2 : decode cX6_toss 2 = .ok (.invokevirtual 161, 3) := by decide +kernel
theorem dX6_toss_5 : decode cX6_toss 5 = .ok (.istore_n 2, 1) := by decide +kernel
theorem dX6_toss_6 : decode cX6_toss 6 = .ok (.iload_n 2, 1) := by decide +kernel
theorem dX6_toss_7 : decode cX6_toss 7 = .ok (.ifCond .eq 5, 3) := by decide +kernel
theorem dX6_toss_10 : decode cX6_toss 10 = .ok (.iload_n 2, 1) := by decide +kernel
theorem dX6_toss_11 : decode cX6_toss 11 = .ok (.ireturn, 1) := by decide +kernel
theorem dX6_toss_12 : decode cX6_toss 12 = .ok (.aload_n 0, 1) := by decide +kernel
theorem dX6_toss_13 : decode cX6_toss 13 = .ok (.getfield 37, 3) := by decide +kernel
theorem dX6_toss_16 : decode cX6_toss 16 = .ok (.iload_n 1, 1) := by decide +kernel
theorem dX6_toss_17 : decode cX6_toss 17 = .ok (.iaload, 1) := by decide +kernel
theorem dX6_toss_18 : decode cX6_toss 18 = .ok (.istore_n 3, 1) := by decide +kernel
theorem dX6_toss_19 : decode cX6_toss 19 = .ok (.aload_n 0, 1) := by decide +kernel
theorem dX6_toss_20 : decode cX6_toss 20 = .ok (.getfield 40, 3) := by decide +kernel
theorem dX6_toss_23 : decode cX6_toss 23 = .ok (.iload_n 1, 1) := by decide +kernel
theorem dX6_toss_24 : decode cX6_toss 24 = .ok (.iaload, 1) := by decide +kernel
theorem dX6_toss_25 : decode cX6_toss 25 = .ok (.istore 4, 2) := by decide +kernel
theorem dX6_toss_27 : decode cX6_toss 27 = .ok (.iload_n 3, 1) := by decide +kernel
theorem dX6_toss_28 : decode cX6_toss 28 = .ok (.iconst 3, 1) := by decide +kernel
theorem dX6_toss_29 : decode cX6_toss 29 = .ok (.if_icmp .eq 13, 3) := by decide +kernel
theorem dX6_toss_32 : decode cX6_toss 32 = .ok (.iload_n 3, 1) := by decide +kernel
theorem dX6_toss_33 : decode cX6_toss 33 = .ok (.iconst 4, 1) := by decide +kernel
theorem dX6_toss_34 : decode cX6_toss 34 = .ok (.if_icmp .eq 8, 3) := by decide +kernel
theorem dX6_toss_37 : decode cX6_toss 37 = .ok (.iload 4, 2) := by decide +kernel
theorem dX6_toss_39 : decode cX6_toss 39 = .ok (.ifCond .ne 6, 3) := by decide +kernel
theorem dX6_toss_42 : decode cX6_toss 42 = .ok (.bipush (-15), 2) := by decide +kernel
theorem dX6_toss_44 : decode cX6_toss 44 = .ok (.ireturn, 1) := by decide +kernel
theorem dX6_toss_45 : decode cX6_toss 45 = .ok (.iload_n 3, 1) := by decide +kernel
theorem dX6_toss_46 : decode cX6_toss 46 = .ok (.bipush 7, 2) := by decide +kernel
theorem dX6_toss_48 : decode cX6_toss 48 = .ok (.if_icmp .ne 16, 3) := by decide +kernel
theorem dX6_toss_51 : decode cX6_toss 51 = .ok (.sipush 200, 3) := by decide +kernel
theorem dX6_toss_54 : decode cX6_toss 54 = .ok (.iload_n 3, 1) := by decide +kernel
theorem dX6_toss_55 : decode cX6_toss 55 = .ok (.iload 4, 2) := by decide +kernel
theorem dX6_toss_57 : decode cX6_toss 57 = .ok (.invokestatic 244, 3) := by decide +kernel
theorem dX6_toss_60 : decode cX6_toss 60 = .ok (.iadd, 1) := by decide +kernel
theorem dX6_toss_61 : decode cX6_toss 61 = .ok (.goto 24, 3) := by decide +kernel
theorem dX6_toss_64 : decode cX6_toss 64 = .ok (.iload_n 3, 1) := by decide +kernel
theorem dX6_toss_65 : decode cX6_toss 65 = .ok (.iconst 2, 1) := by decide +kernel
theorem dX6_toss_66 : decode cX6_toss 66 = .ok (.if_icmp .eq 9, 3) := by decide +kernel
theorem dX6_toss_69 : decode cX6_toss 69 = .ok (.iload_n 3, 1) := by decide +kernel
theorem dX6_toss_70 : decode cX6_toss 70 = .ok (.bipush 6, 2) := by decide +kernel
theorem dX6_toss_72 : decode cX6_toss 72 = .ok (.if_icmp .ne 11, 3) := by decide +kernel
theorem dX6_toss_75 : decode cX6_toss 75 = .ok (.bipush 100, 2) := by decide +kernel
theorem dX6_toss_77 : decode cX6_toss 77 = .ok (.iload 4, 2) := by decide +kernel
theorem dX6_toss_79 : decode cX6_toss 79 = .ok (.iadd, 1) := by decide +kernel
theorem dX6_toss_80 : decode cX6_toss 80 = .ok (.goto 5, 3) := by decide +kernel
theorem dX6_toss_83 : decode cX6_toss 83 = .ok (.iload 4, 2) := by decide +kernel
theorem dX6_toss_85 : decode cX6_toss 85 = .ok (.ireturn, 1) := by decide +kernel
