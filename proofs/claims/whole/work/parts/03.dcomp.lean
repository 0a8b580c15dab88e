theorem dX0_init_0 : decode cX0_init 0 = .ok (.aload_n 0, 1) := by decide +kernel
theorem dX0_init_1 : decode cX0_init 1 = .ok (.invokespecial 3, 3) := by decide +kernel
theorem dX0_init_4 : decode cX0_init 4 = .ok (.aload_n 0, 1) := by decide +kernel
theorem dX0_init_5 : decode cX0_init 5 = .ok (.bipush 8, 2) := by decide +kernel
theorem dX0_init_7 : decode cX0_init 7 = .ok (.newarray .int, 2) := by decide +kernel
theorem dX0_init_9 : decode cX0_init 9 = .ok (.putfield 9, 3) := by decide +kernel
theorem dX0_init_12 : decode cX0_init 12 = .ok (.aload_n 0, 1) := by decide +kernel
theorem dX0_init_13 : decode cX0_init 13 = .ok (.bipush 8, 2) := by decide +kernel
theorem dX0_init_15 : decode cX0_init 15 = .ok (.sipush 256, 3) := by decide +kernel
theorem dX0_init_18 : decode cX0_init 18 = .ok (.multianewarray 15 2, 4) := by decide +kernel
theorem dX0_init_22 : decode cX0_init 22 = .ok (.putfield 17, 3) := by decide +kernel
theorem dX0_init_25 : decode cX0_init 25 = .ok (.return_, 1) := by decide +kernel
set_option maxRecDepth 20000 in
theorem ggX0_look_X4_payers : GoodIn wsX0_look wsX4_payers := goodIn_r _ [10, 11, 12, 13, 14, 15, 16, 17, 18, 19, 20, 9, 21, 22, 23, 24, 25, 26, 27, 28, 29, 30, 31, 32, 33, 34, 35, 36, 37, 38, 39, 40, 41, 42, 43, 44, 45, 46, 47] (by decide +kernel) (by decide +kernel)
set_option maxRecDepth 20000 in
theorem gX0_look_X4_payers : GoodIn wsX0_look (wsV RX0 27 RX4 yX4_payers wsX4_payers) := goodIn_app (goodIn_of _ (by decide +kernel)) ggX0_look_X4_payers
theorem dX0_look_0 : decode cX0_look 0 = .ok (.aload_n 0, 1) := by decide +kernel
theorem dX0_look_1 : decode cX0_look 1 = .ok (.aload_n 1, 1) := by decide +kernel
theorem dX0_look_2 : decode cX0_look 2 = .ok (.getfield 20, 3) := by decide +kernel
theorem dX0_look_5 : decode cX0_look 5 = .ok (.putfield 26, 3) := by decide +kernel
theorem dX0_look_8 : decode cX0_look 8 = .ok (.iconst 0, 1) := by decide +kernel
theorem dX0_look_9 : decode cX0_look 9 = .ok (.istore_n 2, 1) := by decide +kernel
theorem dX0_look_10 : decode cX0_look 10 = .ok (.iload_n 2, 1) := by decide +kernel
theorem dX0_look_11 : decode cX0_look 11 = .ok (.aload_n 0, 1) := by decide +kernel
theorem dX0_look_12 : decode cX0_look 12 = .ok (.getfield 26, 3) := by decide +kernel
theorem dX0_look_15 : decode cX0_look 15 = .ok (.if_icmp .ge 47, 3) := by decide +kernel
theorem dX0_look_18 : decode cX0_look 18 = .ok (.aload_n 0, 1) := by decide +kernel
theorem dX0_look_19 : decode cX0_look 19 = .ok (.getfield 9, 3) := by decide +kernel
theorem dX0_look_22 : decode cX0_look 22 = .ok (.iload_n 2, 1) := by decide +kernel
theorem dX0_look_23 : decode cX0_look 23 = .ok (.aload_n 1, 1) := by decide +kernel
theorem dX0_look_24 : decode cX0_look 24 = .ok (.iload_n 2, 1) := by decide +kernel
theorem dX0_look_25 : decode cX0_look 25 = .ok (.invokevirtual 27, 3) := by decide +kernel
theorem dX0_look_28 : decode cX0_look 28 = .ok (.iastore, 1) := by decide +kernel
theorem dX0_look_29 : decode cX0_look 29 = .ok (.iconst 0, 1) := by decide +kernel
theorem dX0_look_30 : decode cX0_look 30 = .ok (.istore_n 3, 1) := by decide +kernel
theorem dX0_look_31 : decode cX0_look 31 = .ok (.iload_n 3, 1) := by decide +kernel
theorem dX0_look_32 : decode cX0_look 32 = .ok (.iconst 1, 1) := by decide +kernel
theorem dX0_look_33 : decode cX0_look 33 = .ok (.aload_n 1, 1) := by decide +kernel
theorem dX0_look_34 : decode cX0_look 34 = .ok (.getfield 31, 3) := by decide +kernel
theorem dX0_look_37 : decode cX0_look 37 = .ok (.ishl, 1) := by decide +kernel
theorem dX0_look_38 : decode cX0_look 38 = .ok (.if_icmp .ge 18, 3) := by decide +kernel
theorem dX0_look_41 : decode cX0_look 41 = .ok (.aload_n 0, 1) := by decide +kernel
theorem dX0_look_42 : decode cX0_look 42 = .ok (.getfield 17, 3) := by decide +kernel
theorem dX0_look_45 : decode cX0_look 45 = .ok (.iload_n 2, 1) := by decide +kernel
theorem dX0_look_46 : decode cX0_look 46 = .ok (.aaload, 1) := by decide +kernel
theorem dX0_look_47 : decode cX0_look 47 = .ok (.iload_n 3, 1) := by decide +kernel
theorem dX0_look_48 : decode cX0_look 48 = .ok (.iconst (-1), 1) := by decide +kernel
theorem dX0_look_49 : decode cX0_look 49 = .ok (.iastore, 1) := by decide +kernel
theorem dX0_look_50 : decode cX0_look 50 = .ok (.iinc 3 1, 3) := by decide +kernel
theorem dX0_look_53 : decode cX0_look 53 = .ok (.goto (-22), 3) := by decide +kernel
theorem dX0_look_56 : decode cX0_look 56 = .ok (.iinc 2 1, 3) := by decide +kernel
theorem dX0_look_59 : decode cX0_look 59 = .ok (.goto (-49), 3) := by decide +kernel
theorem dX0_look_62 : decode cX0_look 62 = .ok (.return_, 1) := by decide +kernel
set_option maxRecDepth 20000 in
theorem ggX0_payment_X0_firstBest : GoodIn wsX0_payment wsX0_firstBest := goodIn_r _ [5, 6, 7, 8, 9, 10, 11, 12, 13, 14, 15, 16, 17, 18, 19, 20, 21, 22, 23] (by decide +kernel) (by decide +kernel)
set_option maxRecDepth 20000 in
theorem gX0_payment_X0_firstBest : GoodIn wsX0_payment (wsV RX0 34 RX0 yX0_firstBest wsX0_firstBest) := goodIn_app (goodIn_of _ (by decide +kernel)) ggX0_payment_X0_firstBest
theorem dX0_payment_0 : decode cX0_payment 0 = .ok (.iconst 0, 1) := by decide +kernel
theorem dX0_payment_1 : decode cX0_payment 1 = .ok (.istore_n 2, 1) := by decide +kernel
theorem dX0_payment_2 : decode cX0_payment 2 = .ok (.iconst 0, 1) := by decide +kernel
theorem dX0_payment_3 : decode cX0_payment 3 = .ok (.istore_n 3, 1) := by decide +kernel
theorem dX0_payment_4 : decode cX0_payment 4 = .ok (.iload_n 3, 1) := by decide +kernel
theorem dX0_payment_5 : decode cX0_payment 5 = .ok (.iload_n 1, 1) := by decide +kernel
theorem dX0_payment_6 : decode cX0_payment 6 = .ok (.if_icmp .ge 29, 3) := by decide +kernel
theorem dX0_payment_9 : decode cX0_payment 9 = .ok (.aload_n 0, 1) := by decide +kernel
theorem dX0_payment_10 : decode cX0_payment 10 = .ok (.iload_n 3, 1) := by decide +kernel
theorem dX0_payment_11 : decode cX0_payment 11 = .ok (.iload_n 2, 1) := by decide +kernel
theorem dX0_payment_12 : decode cX0_payment 12 = .ok (.invokevirtual 34, 3) := by decide +kernel
theorem dX0_payment_15 : decode cX0_payment 15 = .ok (.istore 4, 2) := by decide +kernel
theorem dX0_payment_17 : decode cX0_payment 17 = .ok (.iload 4, 2) := by decide +kernel
theorem dX0_payment_19 : decode cX0_payment 19 = .ok (.ifCond .lt 10, 3) := by decide +kernel
theorem dX0_payment_22 : decode cX0_payment 22 = .ok (.iload_n 2, 1) := by decide +kernel
theorem dX0_payment_23 : decode cX0_payment 23 = .ok (.iconst 1, 1) := by decide +kernel
theorem dX0_payment_24 : decode cX0_payment 24 = .ok (.iload 4, 2) := by decide +kernel
theorem dX0_payment_26 : decode cX0_payment 26 = .ok (.ishl, 1) := by decide +kernel
theorem dX0_payment_27 : decode cX0_payment 27 = .ok (.ior, 1) := by decide +kernel
theorem dX0_payment_28 : decode cX0_payment 28 = .ok (.istore_n 2, 1) := by decide +kernel
theorem dX0_payment_29 : decode cX0_payment 29 = .ok (.iinc 3 1, 3) := by decide +kernel
theorem dX0_payment_32 : decode cX0_payment 32 = .ok (.goto (-28), 3) := by decide +kernel
theorem dX0_payment_35 : decode cX0_payment 35 = .ok (.aload_n 0, 1) := by decide +kernel
theorem dX0_payment_36 : decode cX0_payment 36 = .ok (.iload_n 1, 1) := by decide +kernel
theorem dX0_payment_37 : decode cX0_payment 37 = .ok (.iload_n 2, 1) := by decide +kernel
theorem dX0_payment_38 : decode cX0_payment 38 = .ok (.invokevirtual 34, 3) := by decide +kernel
theorem dX0_payment_41 : decode cX0_payment 41 = .ok (.ireturn, 1) := by decide +kernel
set_option maxRecDepth 20000 in
theorem ggX0_firstBest_X5_mostPaid : GoodIn wsX0_firstBest wsX5_mostPaid := goodIn_r _ [4, 5, 6, 7, 8, 9, 10, 11, 12, 2, 3, 13, 14, 15, 16, 17, 18] (by decide +kernel) (by decide +kernel)
set_option maxRecDepth 20000 in
theorem gX0_firstBest_X5_mostPaid_n38 : GoodIn wsX0_firstBest (wsX5_mostPaid) := ggX0_firstBest_X5_mostPaid
set_option maxRecDepth 20000 in
theorem ggX0_firstBest_X5_has : GoodIn wsX0_firstBest wsX5_has := goodIn_r _ [15] (by decide +kernel) (by decide +kernel)
set_option maxRecDepth 20000 in
theorem gX0_firstBest_X5_has_n42 : GoodIn wsX0_firstBest (wsX5_has) := ggX0_firstBest_X5_has
theorem dX0_firstBest_0 : decode cX0_firstBest 0 = .ok (.aload_n 0, 1) := by decide +kernel
theorem dX0_firstBest_1 : decode cX0_firstBest 1 = .ok (.iload_n 1, 1) := by decide +kernel
theorem dX0_firstBest_2 : decode cX0_firstBest 2 = .ok (.iload_n 2, 1) := by decide +kernel
theorem dX0_firstBest_3 : decode cX0_firstBest 3 = .ok (.invokestatic 38, 3) := by decide +kernel
theorem dX0_firstBest_6 : decode cX0_firstBest 6 = .ok (.istore_n 3, 1) := by decide +kernel
theorem dX0_firstBest_7 : decode cX0_firstBest 7 = .ok (.aload_n 0, 1) := by decide +kernel
theorem dX0_firstBest_8 : decode cX0_firstBest 8 = .ok (.getfield 9, 3) := by decide +kernel
theorem dX0_firstBest_11 : decode cX0_firstBest 11 = .ok (.iload_n 1, 1) := by decide +kernel
theorem dX0_firstBest_12 : decode cX0_firstBest 12 = .ok (.iaload, 1) := by decide +kernel
theorem dX0_firstBest_13 : decode cX0_firstBest 13 = .ok (.iload_n 2, 1) := by decide +kernel
theorem dX0_firstBest_14 : decode cX0_firstBest 14 = .ok (.iconst (-1), 1) := by decide +kernel
theorem dX0_firstBest_15 : decode cX0_firstBest 15 = .ok (.ixor, 1) := by decide +kernel
theorem dX0_firstBest_16 : decode cX0_firstBest 16 = .ok (.iand, 1) := by decide +kernel
theorem dX0_firstBest_17 : decode cX0_firstBest 17 = .ok (.istore 4, 2) := by decide +kernel
theorem dX0_firstBest_19 : decode cX0_firstBest 19 = .ok (.iconst 0, 1) := by decide +kernel
theorem dX0_firstBest_20 : decode cX0_firstBest 20 = .ok (.istore 5, 2) := by decide +kernel
theorem dX0_firstBest_22 : decode cX0_firstBest 22 = .ok (.iload 5, 2) := by decide +kernel
theorem dX0_firstBest_24 : decode cX0_firstBest 24 = .ok (.bipush 8, 2) := by decide +kernel
theorem dX0_firstBest_26 : decode cX0_firstBest 26 = .ok (.if_icmp .ge 41, 3) := by decide +kernel
theorem dX0_firstBest_29 : decode cX0_firstBest 29 = .ok (.iload 4, 2) := by decide +kernel
theorem dX0_firstBest_31 : decode cX0_firstBest 31 = .ok (.iload 5, 2) := by decide +kernel
theorem dX0_firstBest_33 : decode cX0_firstBest 33 = .ok (.invokestatic 42, 3) := by decide +kernel
theorem dX0_firstBest_36 : decode cX0_firstBest 36 = .ok (.ifCond .eq 25, 3) := by decide +kernel
theorem dX0_firstBest_39 : decode cX0_firstBest 39 = .ok (.iconst 1, 1) := by decide +kernel
theorem dX0_firstBest_40 : decode cX0_firstBest 40 = .ok (.aload_n 0, 1) := by decide +kernel
theorem dX0_firstBest_41 : decode cX0_firstBest 41 = .ok (.iload_n 1, 1) := by decide +kernel
theorem dX0_firstBest_42 : decode cX0_firstBest 42 = .ok (.iconst 1, 1) := by decide +kernel
theorem dX0_firstBest_43 : decode cX0_firstBest 43 = .ok (.iadd, 1) := by decide +kernel
theorem dX0_firstBest_44 : decode cX0_firstBest 44 = .ok (.iload_n 2, 1) := by decide +kernel
theorem dX0_firstBest_45 : decode cX0_firstBest 45 = .ok (.iconst 1, 1) := by decide +kernel
theorem dX0_firstBest_46 : decode cX0_firstBest 46 = .ok (.iload 5, 2) := by decide +kernel
theorem dX0_firstBest_48 : decode cX0_firstBest 48 = .ok (.ishl, 1) := by decide +kernel
theorem dX0_firstBest_49 : decode cX0_firstBest 49 = .ok (.ior, 1) := by decide +kernel
theorem dX0_firstBest_50 : decode cX0_firstBest 50 = .ok (.invokestatic 38, 3) := by decide +kernel
theorem dX0_firstBest_53 : decode cX0_firstBest 53 = .ok (.iadd, 1) := by decide +kernel
theorem dX0_firstBest_54 : decode cX0_firstBest 54 = .ok (.iload_n 3, 1) := by decide +kernel
theorem dX0_firstBest_55 : decode cX0_firstBest 55 = .ok (.if_icmp .ne 6, 3) := by decide +kernel
theorem dX0_firstBest_58 : decode cX0_firstBest 58 = .ok (.iload 5, 2) := by decide +kernel
theorem dX0_firstBest_60 : decode cX0_firstBest 60 = .ok (.ireturn, 1) := by decide +kernel
theorem dX0_firstBest_61 : decode cX0_firstBest 61 = .ok (.iinc 5 1, 3) := by decide +kernel
theorem dX0_firstBest_64 : decode cX0_firstBest 64 = .ok (.goto (-42), 3) := by decide +kernel
theorem dX0_firstBest_67 : decode cX0_firstBest 67 = .ok (.bipush (-4), 2) := by decide +kernel
theorem dX0_firstBest_69 : decode cX0_firstBest 69 = .ok (.ireturn, 1) := by decide +kernel
theorem dX1_init_0 : decode cX1_init 0 = .ok (.aload_n 0, 1) := by decide +kernel
theorem dX1_init_1 : decode cX1_init 1 = .ok (.invokespecial 3, 3) := by decide +kernel
theorem dX1_init_4 : decode cX1_init 4 = .ok (.aload_n 0, 1) := by decide +kernel
theorem dX1_init_5 : decode cX1_init 5 = .ok (.bipush 100, 2) := by decide +kernel
theorem dX1_init_7 : decode cX1_init 7 = .ok (.newarray .int, 2) := by decide +kernel
theorem dX1_init_9 : decode cX1_init 9 = .ok (.putfield 9, 3) := by decide +kernel
theorem dX1_init_12 : decode cX1_init 12 = .ok (.return_, 1) := by decide +kernel
theorem dX1_holdThing_0 : decode cX1_holdThing 0 = .ok (.aload_n 0, 1) := by decide +kernel
theorem dX1_holdThing_1 : decode cX1_holdThing 1 = .ok (.iconst 1, 1) := by decide +kernel
theorem dX1_holdThing_2 : decode cX1_holdThing 2 = .ok (.putfield 15, 3) := by decide +kernel
theorem dX1_holdThing_5 : decode cX1_holdThing 5 = .ok (.aload_n 0, 1) := by decide +kernel
theorem dX1_holdThing_6 : decode cX1_holdThing 6 = .ok (.iload_n 1, 1) := by decide +kernel
theorem dX1_holdThing_7 : decode cX1_holdThing 7 = .ok (.putfield 19, 3) := by decide +kernel
theorem dX1_holdThing_10 : decode cX1_holdThing 10 = .ok (.aload_n 0, 1) := by decide +kernel
theorem dX1_holdThing_11 : decode cX1_holdThing 11 = .ok (.iload_n 2, 1) := by decide +kernel
theorem dX1_holdThing_12 : decode cX1_holdThing 12 = .ok (.putfield 22, 3) := by decide +kernel
theorem dX1_holdThing_15 : decode cX1_holdThing 15 = .ok (.return_, 1) := by decide +kernel
theorem dX1_holdRow_0 : decode cX1_holdRow 0 = .ok (.aload_n 0, 1) := by decide +kernel
theorem dX1_holdRow_1 : decode cX1_holdRow 1 = .ok (.iconst 2, 1) := by decide +kernel
theorem dX1_holdRow_2 : decode cX1_holdRow 2 = .ok (.putfield 15, 3) := by decide +kernel
theorem dX1_holdRow_5 : decode cX1_holdRow 5 = .ok (.aload_n 0, 1) := by decide +kernel
theorem dX1_holdRow_6 : decode cX1_holdRow 6 = .ok (.iload_n 1, 1) := by decide +kernel
theorem dX1_holdRow_7 : decode cX1_holdRow 7 = .ok (.putfield 25, 3) := by decide +kernel
theorem dX1_holdRow_10 : decode cX1_holdRow 10 = .ok (.aload_n 0, 1) := by decide +kernel
theorem dX1_holdRow_11 : decode cX1_holdRow 11 = .ok (.iload_n 2, 1) := by decide +kernel
theorem dX1_holdRow_12 : decode cX1_holdRow 12 = .ok (.putfield 28, 3) := by decide +kernel
theorem dX1_holdRow_15 : decode cX1_holdRow 15 = .ok (.iconst 0, 1) := by decide +kernel
theorem dX1_holdRow_16 : decode cX1_holdRow 16 = .ok (.istore_n 3, 1) := by decide +kernel
theorem dX1_holdRow_17 : decode cX1_holdRow 17 = .ok (.iload_n 3, 1) := by decide +kernel
theorem dX1_holdRow_18 : decode cX1_holdRow 18 = .ok (.bipush 100, 2) := by decide +kernel
theorem dX1_holdRow_20 : decode cX1_holdRow 20 = .ok (.if_icmp .ge 16, 3) := by decide +kernel
theorem dX1_holdRow_23 : decode cX1_holdRow 23 = .ok (.aload_n 0, 1) := by decide +kernel
theorem dX1_holdRow_24 : decode cX1_holdRow 24 = .ok (.getfield 9, 3) := by decide +kernel
theorem dX1_holdRow_27 : decode cX1_holdRow 27 = .ok (.iload_n 3, 1) := by decide +kernel
theorem dX1_holdRow_28 : decode cX1_holdRow 28 = .ok (.iconst 0, 1) := by decide +kernel
theorem dX1_holdRow_29 : decode cX1_holdRow 29 = .ok (.iastore, 1) := by decide +kernel
theorem dX1_holdRow_30 : decode cX1_holdRow 30 = .ok (.iinc 3 1, 3) := by decide +kernel
theorem dX1_holdRow_33 : decode cX1_holdRow 33 = .ok (.goto (-16), 3) := by decide +kernel
theorem dX1_holdRow_36 : decode cX1_holdRow 36 = .ok (.return_, 1) := by decide +kernel
theorem dX1_refusal_0 : decode cX1_refusal 0 = .ok (.aload_n 0, 1) := by decide +kernel
theorem dX1_refusal_1 : decode cX1_refusal 1 = .ok (.getfield 15, 3) := by decide +kernel
theorem dX1_refusal_4 : decode cX1_refusal 4 = .ok (.ifCond .ne 6, 3) := by decide +kernel
theorem dX1_refusal_7 : decode cX1_refusal 7 = .ok (.bipush (-11), 2) := by decide +kernel
theorem dX1_refusal_9 : decode cX1_refusal 9 = .ok (.ireturn, 1) := by decide +kernel
theorem dX1_refusal_10 : decode cX1_refusal 10 = .ok (.aload_n 0, 1) := by decide +kernel
theorem dX1_refusal_11 : decode cX1_refusal 11 = .ok (.getfield 15, 3) := by decide +kernel
theorem dX1_refusal_14 : decode cX1_refusal 14 = .ok (.iload_n 1, 1) := by decide +kernel
theorem dX1_refusal_15 : decode cX1_refusal 15 = .ok (.if_icmp .ne 7, 3) := by decide +kernel
theorem dX1_refusal_18 : decode cX1_refusal 18 = .ok (.iconst 0, 1) := by decide +kernel
theorem dX1_refusal_19 : decode cX1_refusal 19 = .ok (.goto 5, 3) := by decide +kernel
theorem dX1_refusal_22 : decode cX1_refusal 22 = .ok (.bipush (-12), 2) := by decide +kernel
theorem dX1_refusal_24 : decode cX1_refusal 24 = .ok (.ireturn, 1) := by decide +kernel
theorem dX1_isPlace_0 : decode cX1_isPlace 0 = .ok (.iload_n 1, 1) := by decide +kernel
theorem dX1_isPlace_1 : decode cX1_isPlace 1 = .ok (.ifCond .lt 15, 3) := by decide +kernel
theorem dX1_isPlace_4 : decode cX1_isPlace 4 = .ok (.iload_n 1, 1) := by decide +kernel
theorem dX1_isPlace_5 : decode cX1_isPlace 5 = .ok (.aload_n 0, 1) := by decide +kernel
theorem dX1_isPlace_6 : decode cX1_isPlace 6 = .ok (.getfield 28, 3) := by decide +kernel
theorem dX1_isPlace_9 : decode cX1_isPlace 9 = .ok (.if_icmp .ge 7, 3) := by decide +kernel
theorem dX1_isPlace_12 : decode cX1_isPlace 12 = .ok (.iconst 1, 1) := by decide +kernel
theorem dX1_isPlace_13 : decode cX1_isPlace 13 = .ok (.goto 4, 3) := by decide +kernel
theorem dX1_isPlace_16 : decode cX1_isPlace 16 = .ok (.iconst 0, 1) := by decide +kernel
theorem dX1_isPlace_17 : decode cX1_isPlace 17 = .ok (.ireturn, 1) := by decide +kernel
theorem dX1_isStretch_0 : decode cX1_isStretch 0 = .ok (.iload_n 1, 1) := by decide +kernel
theorem dX1_isStretch_1 : decode cX1_isStretch 1 = .ok (.ifCond .lt 29, 3) := by decide +kernel
theorem dX1_isStretch_4 : decode cX1_isStretch 4 = .ok (.iload_n 1, 1) := by decide +kernel
theorem dX1_isStretch_5 : decode cX1_isStretch 5 = .ok (.aload_n 0, 1) := by decide +kernel
theorem dX1_isStretch_6 : decode cX1_isStretch 6 = .ok (.getfield 28, 3) := by decide +kernel
theorem dX1_isStretch_9 : decode cX1_isStretch 9 = .ok (.if_icmp .gt 21, 3) := by decide +kernel
theorem dX1_isStretch_12 : decode cX1_isStretch 12 = .ok (.iload_n 2, 1) := by decide +kernel
theorem dX1_isStretch_13 : decode cX1_isStretch 13 = .ok (.ifCond .lt 17, 3) := by decide +kernel
theorem dX1_isStretch_16 : decode cX1_isStretch 16 = .ok (.iload_n 2, 1) := by decide +kernel
theorem dX1_isStretch_17 : decode cX1_isStretch 17 = .ok (.aload_n 0, 1) := by decide +kernel
theorem dX1_isStretch_18 : decode cX1_isStretch 18 = .ok (.getfield 28, 3) := by decide +kernel
theorem dX1_isStretch_21 : decode cX1_isStretch 21 = .ok (.iload_n 1, 1) := by decide +kernel
theorem dX1_isStretch_22 : decode cX1_isStretch 22 = .ok (.isub, 1) := by decide +kernel
theorem dX1_isStretch_23 : decode cX1_isStretch 23 = .ok (.if_icmp .gt 7, 3) := by decide +kernel
theorem dX1_isStretch_26 : decode cX1_isStretch 26 = .ok (.iconst 1, 1) := by decide +kernel
theorem dX1_isStretch_27 : decode cX1_isStretch 27 = .ok (.goto 4, 3) := by decide +kernel
theorem dX1_isStretch_30 : decode cX1_isStretch 30 = .ok (.iconst 0, 1) := by decide +kernel
theorem dX1_isStretch_31 : decode cX1_isStretch 31 = .ok (.ireturn, 1) := by decide +kernel
theorem dX1_fill_0 : decode cX1_fill 0 = .ok (.aload_n 0, 1) := by decide +kernel
theorem dX1_fill_1 : decode cX1_fill 1 = .ok (.getfield 25, 3) := by decide +kernel
theorem dX1_fill_4 : decode cX1_fill 4 = .ok (.ifCond .ne 14, 3) := by decide +kernel
theorem dX1_fill_7 : decode cX1_fill 7 = .ok (.aload_n 0, 1) := by decide +kernel
theorem dX1_fill_8 : decode cX1_fill 8 = .ok (.getfield 9, 3) := by decide +kernel
theorem dX1_fill_11 : decode cX1_fill 11 = .ok (.iload_n 1, 1) := by decide +kernel
theorem dX1_fill_12 : decode cX1_fill 12 = .ok (.iload_n 2, 1) := by decide +kernel
theorem dX1_fill_13 : decode cX1_fill 13 = .ok (.i2b, 1) := by decide +kernel
theorem dX1_fill_14 : decode cX1_fill 14 = .ok (.iastore, 1) := by decide +kernel
theorem dX1_fill_15 : decode cX1_fill 15 = .ok (.goto 29, 3) := by decide +kernel
theorem dX1_fill_18 : decode cX1_fill 18 = .ok (.aload_n 0, 1) := by decide +kernel
theorem dX1_fill_19 : decode cX1_fill 19 = .ok (.getfield 25, 3) := by decide +kernel
theorem dX1_fill_22 : decode cX1_fill 22 = .ok (.iconst 1, 1) := by decide +kernel
theorem dX1_fill_23 : decode cX1_fill 23 = .ok (.if_icmp .ne 14, 3) := by decide +kernel
theorem dX1_fill_26 : decode cX1_fill 26 = .ok (.aload_n 0, 1) := by decide +kernel
theorem dX1_fill_27 : decode cX1_fill 27 = .ok (.getfield 9, 3) := by decide +kernel
theorem dX1_fill_30 : decode cX1_fill 30 = .ok (.iload_n 1, 1) := by decide +kernel
theorem dX1_fill_31 : decode cX1_fill 31 = .ok (.iload_n 2, 1) := by decide +kernel
theorem dX1_fill_32 : decode cX1_fill 32 = .ok (.i2s, 1) := by decide +kernel
theorem dX1_fill_33 : decode cX1_fill 33 = .ok (.iastore, 1) := by decide +kernel
theorem dX1_fill_34 : decode cX1_fill 34 = .ok (.goto 10, 3) := by decide +kernel
theorem dX1_fill_37 : decode cX1_fill 37 = .ok (.aload_n 0, 1) := by decide +kernel
theorem dX1_fill_38 : decode cX1_fill 38 = .ok (.getfield 9, 3) := by decide +kernel
theorem dX1_fill_41 : decode cX1_fill 41 = .ok (.iload_n 1, 1) := by decide +kernel
theorem dX1_fill_42 : decode cX1_fill 42 = .ok (.iload_n 2, 1) := by decide +kernel
theorem dX1_fill_43 : decode cX1_fill 43 = .ok (.iastore, 1) := by decide +kernel
theorem dX1_fill_44 : decode cX1_fill 44 = .ok (.return_, 1) := by decide +kernel
theorem dX1_isSkipped_0 : decode cX1_isSkipped 0 = .ok (.aload_n 0, 1) := by decide +kernel
theorem dX1_isSkipped_1 : decode cX1_isSkipped 1 = .ok (.getfield 25, 3) := by decide +kernel
theorem dX1_isSkipped_4 : decode cX1_isSkipped 4 = .ok (.ifCond .ne 20, 3) := by decide +kernel
theorem dX1_isSkipped_7 : decode cX1_isSkipped 7 = .ok (.aload_n 0, 1) := by decide +kernel
theorem dX1_isSkipped_8 : decode cX1_isSkipped 8 = .ok (.getfield 9, 3) := by decide +kernel
theorem dX1_isSkipped_11 : decode cX1_isSkipped 11 = .ok (.iload_n 1, 1) := by decide +kernel
theorem dX1_isSkipped_12 : decode cX1_isSkipped 12 = .ok (.iaload, 1) := by decide +kernel
theorem dX1_isSkipped_13 : decode cX1_isSkipped 13 = .ok (.bipush (-128), 2) := by decide +kernel
theorem dX1_isSkipped_15 : decode cX1_isSkipped 15 = .ok (.if_icmp .ne 7, 3) := by decide +kernel
theorem dX1_isSkipped_18 : decode cX1_isSkipped 18 = .ok (.iconst 1, 1) := by decide +kernel
theorem dX1_isSkipped_19 : decode cX1_isSkipped 19 = .ok (.goto 4, 3) := by decide +kernel
theorem dX1_isSkipped_22 : decode cX1_isSkipped 22 = .ok (.iconst 0, 1) := by decide +kernel
theorem dX1_isSkipped_23 : decode cX1_isSkipped 23 = .ok (.ireturn, 1) := by decide +kernel
theorem dX1_isSkipped_24 : decode cX1_isSkipped 24 = .ok (.aload_n 0, 1) := by decide +kernel
theorem dX1_isSkipped_25 : decode cX1_isSkipped 25 = .ok (.getfield 9, 3) := by decide +kernel
theorem dX1_isSkipped_28 : decode cX1_isSkipped 28 = .ok (.iload_n 1, 1) := by decide +kernel
theorem dX1_isSkipped_29 : decode cX1_isSkipped 29 = .ok (.iaload, 1) := by decide +kernel
theorem dX1_isSkipped_30 : decode cX1_isSkipped 30 = .ok (.aload_n 0, 1) := by decide +kernel
theorem dX1_isSkipped_31 : decode cX1_isSkipped 31 = .ok (.getfield 25, 3) := by decide +kernel
theorem dX1_isSkipped_34 : decode cX1_isSkipped 34 = .ok (.iconst 1, 1) := by decide +kernel
theorem dX1_isSkipped_35 : decode cX1_isSkipped 35 = .ok (.if_icmp .ne 9, 3) := by decide +kernel
theorem dX1_isSkipped_38 : decode cX1_isSkipped 38 = .ok (.sipush (-32768), 3) := by decide +kernel
theorem dX1_isSkipped_41 : decode cX1_isSkipped 41 = .ok (.goto 5, 3) := by decide +kernel
theorem dX1_isSkipped_44 : decode cX1_isSkipped 44 = .ok (.ldc 31, 2) := by decide +kernel
theorem dX1_isSkipped_46 : decode cX1_isSkipped 46 = .ok (.if_icmp .ne 7, 3) := by decide +kernel
theorem dX1_isSkipped_49 : decode cX1_isSkipped 49 = .ok (.iconst 1, 1) := by decide +kernel
theorem dX1_isSkipped_50 : decode cX1_isSkipped 50 = .ok (.goto 4, 3) := by decide +kernel
theorem dX1_isSkipped_53 : decode cX1_isSkipped 53 = .ok (.iconst 0, 1) := by decide +kernel
theorem dX1_isSkipped_54 : decode cX1_isSkipped 54 = .ok (.ireturn, 1) := by decide +kernel
set_option maxRecDepth 20000 in
theorem ggX1_digit_X1_isPlace : GoodIn wsX1_digit wsX1_isPlace := goodIn_r _ [6, 7, 8, 9, 10, 11, 12, 13] (by decide +kernel) (by decide +kernel)
set_option maxRecDepth 20000 in
theorem gX1_digit_X1_isPlace : GoodIn wsX1_digit (wsV RX1 32 RX1 yX1_isPlace wsX1_isPlace) := goodIn_app (goodIn_of _ (by decide +kernel)) ggX1_digit_X1_isPlace
theorem dX1_digit_0 : decode cX1_digit 0 = .ok (.aload_n 0, 1) := by decide +kernel
theorem dX1_digit_1 : decode cX1_digit 1 = .ok (.iload_n 1, 1) := by decide +kernel
theorem dX1_digit_2 : decode cX1_digit 2 = .ok (.invokevirtual 32, 3) := by decide +kernel
theorem dX1_digit_5 : decode cX1_digit 5 = .ok (.ifCond .eq 15, 3) := by decide +kernel
theorem dX1_digit_8 : decode cX1_digit 8 = .ok (.aload_n 0, 1) := by decide +kernel
theorem dX1_digit_9 : decode cX1_digit 9 = .ok (.getfield 9, 3) := by decide +kernel
theorem dX1_digit_12 : decode cX1_digit 12 = .ok (.iload_n 1, 1) := by decide +kernel
theorem dX1_digit_13 : decode cX1_digit 13 = .ok (.iaload, 1) := by decide +kernel
theorem dX1_digit_14 : decode cX1_digit 14 = .ok (.bipush 48, 2) := by decide +kernel
theorem dX1_digit_16 : decode cX1_digit 16 = .ok (.isub, 1) := by decide +kernel
theorem dX1_digit_17 : decode cX1_digit 17 = .ok (.goto 4, 3) := by decide +kernel
theorem dX1_digit_20 : decode cX1_digit 20 = .ok (.iconst 0, 1) := by decide +kernel
theorem dX1_digit_21 : decode cX1_digit 21 = .ok (.ireturn, 1) := by decide +kernel
theorem dX2_init_0 : decode cX2_init 0 = .ok (.aload_n 0, 1) := by decide +kernel
theorem dX2_init_1 : decode cX2_init 1 = .ok (.invokespecial 3, 3) := by decide +kernel
theorem dX2_init_4 : decode cX2_init 4 = .ok (.aload_n 0, 1) := by decide +kernel
theorem dX2_init_5 : decode cX2_init 5 = .ok (.bipush 8, 2) := by decide +kernel
theorem dX2_init_7 : decode cX2_init 7 = .ok (.newarray .int, 2) := by decide +kernel
theorem dX2_init_9 : decode cX2_init 9 = .ok (.putfield 9, 3) := by decide +kernel
theorem dX2_init_12 : decode cX2_init 12 = .ok (.aload_n 0, 1) := by decide +kernel
theorem dX2_init_13 : decode cX2_init 13 = .ok (.bipush 8, 2) := by decide +kernel
theorem dX2_init_15 : decode cX2_init 15 = .ok (.newarray .int, 2) := by decide +kernel
theorem dX2_init_17 : decode cX2_init 17 = .ok (.putfield 15, 3) := by decide +kernel
theorem dX2_init_20 : decode cX2_init 20 = .ok (.aload_n 0, 1) := by decide +kernel
theorem dX2_init_21 : decode cX2_init 21 = .ok (.bipush 8, 2) := by decide +kernel
theorem dX2_init_23 : decode cX2_init 23 = .ok (.newarray .int, 2) := by decide +kernel
theorem dX2_init_25 : decode cX2_init 25 = .ok (.putfield 18, 3) := by decide +kernel
theorem dX2_init_28 : decode cX2_init 28 = .ok (.return_, 1) := by decide +kernel
set_option maxRecDepth 20000 in
theorem ggX2_fewest_X2_read : GoodIn wsX2_fewest wsX2_read := goodIn_r _ [5, 6, 7, 8, 9, 10, 11, 12, 4, 13, 14, 15, 16, 17, 18, 19, 20, 21, 22, 23, 24, 35, 36, 37, 38, 39, 40, 41, 42, 43] (by decide +kernel) (by decide +kernel)
set_option maxRecDepth 20000 in
theorem gX2_fewest_X2_read : GoodIn wsX2_fewest (wsV RX2 21 RX2 yX2_read wsX2_read) := goodIn_app (goodIn_of _ (by decide +kernel)) ggX2_fewest_X2_read
set_option maxRecDepth 20000 in
theorem ggX2_fewest_X5_classify : GoodIn wsX2_fewest wsX5_classify := goodIn_r _ [26, 27, 28, 29, 25, 23, 30, 31, 32, 4, 33, 7, 34, 22, 24, 35, 36, 37] (by decide +kernel) (by decide +kernel)
set_option maxRecDepth 20000 in
theorem gX2_fewest_X5_classify_n25 : GoodIn wsX2_fewest (wsX5_classify) := ggX2_fewest_X5_classify
theorem dX2_fewest_0 : decode cX2_fewest 0 = .ok (.aload_n 0, 1) := by decide +kernel
theorem dX2_fewest_1 : decode cX2_fewest 1 = .ok (.aload_n 1, 1) := by decide +kernel
theorem dX2_fewest_2 : decode cX2_fewest 2 = .ok (.invokevirtual 21, 3) := by decide +kernel
theorem dX2_fewest_5 : decode cX2_fewest 5 = .ok (.ifCond .ne 6, 3) := by decide +kernel
theorem dX2_fewest_8 : decode cX2_fewest 8 = .ok (.bipush (-4), 2) := by decide +kernel
theorem dX2_fewest_10 : decode cX2_fewest 10 = .ok (.ireturn, 1) := by decide +kernel
theorem dX2_fewest_11 : decode cX2_fewest 11 = .ok (.iconst 1, 1) := by decide +kernel
theorem dX2_fewest_12 : decode cX2_fewest 12 = .ok (.istore_n 2, 1) := by decide +kernel
theorem dX2_fewest_13 : decode cX2_fewest 13 = .ok (.iload_n 2, 1) := by decide +kernel
theorem dX2_fewest_14 : decode cX2_fewest 14 = .ok (.bipush 8, 2) := by decide +kernel
theorem dX2_fewest_16 : decode cX2_fewest 16 = .ok (.if_icmp .gt 21, 3) := by decide +kernel
theorem dX2_fewest_19 : decode cX2_fewest 19 = .ok (.aload_n 0, 1) := by decide +kernel
theorem dX2_fewest_20 : decode cX2_fewest 20 = .ok (.iconst 0, 1) := by decide +kernel
theorem dX2_fewest_21 : decode cX2_fewest 21 = .ok (.iconst 0, 1) := by decide +kernel
theorem dX2_fewest_22 : decode cX2_fewest 22 = .ok (.iload_n 2, 1) := by decide +kernel
theorem dX2_fewest_23 : decode cX2_fewest 23 = .ok (.invokestatic 25, 3) := by decide +kernel
theorem dX2_fewest_26 : decode cX2_fewest 26 = .ok (.ifCond .eq 5, 3) := by decide +kernel
theorem dX2_fewest_29 : decode cX2_fewest 29 = .ok (.iload_n 2, 1) := by decide +kernel
theorem dX2_fewest_30 : decode cX2_fewest 30 = .ok (.ireturn, 1) := by decide +kernel
theorem dX2_fewest_31 : decode cX2_fewest 31 = .ok (.iinc 2 1, 3) := by decide +kernel
theorem dX2_fewest_34 : decode cX2_fewest 34 = .ok (.goto (-21), 3) := by decide +kernel
theorem dX2_fewest_37 : decode cX2_fewest 37 = .ok (.bipush (-4), 2) := by decide +kernel
theorem dX2_fewest_39 : decode cX2_fewest 39 = .ok (.ireturn, 1) := by decide +kernel
set_option maxRecDepth 20000 in
theorem ggX2_isBarred_X5_has : GoodIn wsX2_isBarred wsX5_has := goodIn_r _ [5] (by decide +kernel) (by decide +kernel)
set_option maxRecDepth 20000 in
theorem gX2_isBarred_X5_has_n29 : GoodIn wsX2_isBarred (wsX5_has) := ggX2_isBarred_X5_has
theorem dX2_isBarred_0 : decode cX2_isBarred 0 = .ok (.iconst 0, 1) := by decide +kernel
theorem dX2_isBarred_1 : decode cX2_isBarred 1 = .ok (.istore_n 3, 1) := by decide +kernel
theorem dX2_isBarred_2 : decode cX2_isBarred 2 = .ok (.iload_n 3, 1) := by decide +kernel
theorem dX2_isBarred_3 : decode cX2_isBarred 3 = .ok (.iload_n 1, 1) := by decide +kernel
theorem dX2_isBarred_4 : decode cX2_isBarred 4 = .ok (.if_icmp .ge 34, 3) := by decide +kernel
theorem dX2_isBarred_7 : decode cX2_isBarred 7 = .ok (.aload_n 0, 1) := by decide +kernel
theorem dX2_isBarred_8 : decode cX2_isBarred 8 = .ok (.getfield 15, 3) := by decide +kernel
theorem dX2_isBarred_11 : decode cX2_isBarred 11 = .ok (.iload_n 1, 1) := by decide +kernel
theorem dX2_isBarred_12 : decode cX2_isBarred 12 = .ok (.iaload, 1) := by decide +kernel
theorem dX2_isBarred_13 : decode cX2_isBarred 13 = .ok (.iload_n 3, 1) := by decide +kernel
theorem dX2_isBarred_14 : decode cX2_isBarred 14 = .ok (.invokestatic 29, 3) := by decide +kernel
theorem dX2_isBarred_17 : decode cX2_isBarred 17 = .ok (.ifCond .eq 15, 3) := by decide +kernel
theorem dX2_isBarred_20 : decode cX2_isBarred 20 = .ok (.aload_n 0, 1) := by decide +kernel
theorem dX2_isBarred_21 : decode cX2_isBarred 21 = .ok (.getfield 18, 3) := by decide +kernel
theorem dX2_isBarred_24 : decode cX2_isBarred 24 = .ok (.iload_n 3, 1) := by decide +kernel
theorem dX2_isBarred_25 : decode cX2_isBarred 25 = .ok (.iaload, 1) := by decide +kernel
theorem dX2_isBarred_26 : decode cX2_isBarred 26 = .ok (.iload_n 2, 1) := by decide +kernel
theorem dX2_isBarred_27 : decode cX2_isBarred 27 = .ok (.if_icmp .ne 5, 3) := by decide +kernel
theorem dX2_isBarred_30 : decode cX2_isBarred 30 = .ok (.iconst 1, 1) := by decide +kernel
theorem dX2_isBarred_31 : decode cX2_isBarred 31 = .ok (.ireturn, 1) := by decide +kernel
theorem dX2_isBarred_32 : decode cX2_isBarred 32 = .ok (.iinc 3 1, 3) := by decide +kernel
theorem dX2_isBarred_35 : decode cX2_isBarred 35 = .ok (.goto (-33), 3) := by decide +kernel
theorem dX2_isBarred_38 : decode cX2_isBarred 38 = .ok (.iconst 0, 1) := by decide +kernel
theorem dX2_isBarred_39 : decode cX2_isBarred 39 = .ok (.ireturn, 1) := by decide +kernel
set_option maxRecDepth 20000 in
theorem ggX2_read_X2_join : GoodIn wsX2_read wsX2_join := goodIn_r _ [9, 10, 11, 12, 13, 1, 21, 22, 23] (by decide +kernel) (by decide +kernel)
set_option maxRecDepth 20000 in
theorem gX2_read_X2_join : GoodIn wsX2_read (wsV RX2 42 RX2 yX2_join wsX2_join) := goodIn_app (goodIn_of _ (by decide +kernel)) ggX2_read_X2_join
set_option maxRecDepth 20000 in
theorem ggX2_read_X2_isGainsaid : GoodIn wsX2_read wsX2_isGainsaid := goodIn_r _ [17, 2, 18, 19, 20, 21, 22, 23] (by decide +kernel) (by decide +kernel)
set_option maxRecDepth 20000 in
theorem gX2_read_X2_isGainsaid : GoodIn wsX2_read (wsV RX2 46 RX2 yX2_isGainsaid wsX2_isGainsaid) := goodIn_app (goodIn_of _ (by decide +kernel)) ggX2_read_X2_isGainsaid
theorem dX2_read_0 : decode cX2_read 0 = .ok (.iconst 0, 1) := by decide +kernel
theorem dX2_read_1 : decode cX2_read 1 = .ok (.istore_n 2, 1) := by decide +kernel
theorem dX2_read_2 : decode cX2_read 2 = .ok (.iload_n 2, 1) := by decide +kernel
theorem dX2_read_3 : decode cX2_read 3 = .ok (.bipush 8, 2) := by decide +kernel
theorem dX2_read_5 : decode cX2_read 5 = .ok (.if_icmp .ge 23, 3) := by decide +kernel
theorem dX2_read_8 : decode cX2_read 8 = .ok (.aload_n 0, 1) := by decide +kernel
theorem dX2_read_9 : decode cX2_read 9 = .ok (.getfield 9, 3) := by decide +kernel
theorem dX2_read_12 : decode cX2_read 12 = .ok (.iload_n 2, 1) := by decide +kernel
theorem dX2_read_13 : decode cX2_read 13 = .ok (.iload_n 2, 1) := by decide +kernel
theorem dX2_read_14 : decode cX2_read 14 = .ok (.iastore, 1) := by decide +kernel
theorem dX2_read_15 : decode cX2_read 15 = .ok (.aload_n 0, 1) := by decide +kernel
theorem dX2_read_16 : decode cX2_read 16 = .ok (.getfield 15, 3) := by decide +kernel
theorem dX2_read_19 : decode cX2_read 19 = .ok (.iload_n 2, 1) := by decide +kernel
theorem dX2_read_20 : decode cX2_read 20 = .ok (.iconst 0, 1) := by decide +kernel
theorem dX2_read_21 : decode cX2_read 21 = .ok (.iastore, 1) := by decide +kernel
theorem dX2_read_22 : decode cX2_read 22 = .ok (.iinc 2 1, 3) := by decide +kernel
theorem dX2_read_25 : decode cX2_read 25 = .ok (.goto (-23), 3) := by decide +kernel
theorem dX2_read_28 : decode cX2_read 28 = .ok (.iconst 0, 1) := by decide +kernel
theorem dX2_read_29 : decode cX2_read 29 = .ok (.istore_n 2, 1) := by decide +kernel
theorem dX2_read_30 : decode cX2_read 30 = .ok (.iload_n 2, 1) := by decide +kernel
theorem dX2_read_31 : decode cX2_read 31 = .ok (.iconst 2, 1) := by decide +kernel
theorem dX2_read_32 : decode cX2_read 32 = .ok (.iadd, 1) := by decide +kernel
theorem dX2_read_33 : decode cX2_read 33 = .ok (.aload_n 1, 1) := by decide +kernel
theorem dX2_read_34 : decode cX2_read 34 = .ok (.getfield 33, 3) := by decide +kernel
theorem dX2_read_37 : decode cX2_read 37 = .ok (.if_icmp .ge 49, 3) := by decide +kernel
theorem dX2_read_40 : decode cX2_read 40 = .ok (.aload_n 1, 1) := by decide +kernel
theorem dX2_read_41 : decode cX2_read 41 = .ok (.getfield 39, 3) := by decide +kernel
theorem dX2_read_44 : decode cX2_read 44 = .ok (.iload_n 2, 1) := by decide +kernel
theorem dX2_read_45 : decode cX2_read 45 = .ok (.iconst 2, 1) := by decide +kernel
theorem dX2_read_46 : decode cX2_read 46 = .ok (.iadd, 1) := by decide +kernel
theorem dX2_read_47 : decode cX2_read 47 = .ok (.iaload, 1) := by decide +kernel
theorem dX2_read_48 : decode cX2_read 48 = .ok (.iconst 1, 1) := by decide +kernel
theorem dX2_read_49 : decode cX2_read 49 = .ok (.if_icmp .ne 31, 3) := by decide +kernel
theorem dX2_read_52 : decode cX2_read 52 = .ok (.aload_n 0, 1) := by decide +kernel
theorem dX2_read_53 : decode cX2_read 53 = .ok (.aload_n 0, 1) := by decide +kernel
theorem dX2_read_54 : decode cX2_read 54 = .ok (.getfield 9, 3) := by decide +kernel
theorem dX2_read_57 : decode cX2_read 57 = .ok (.aload_n 1, 1) := by decide +kernel
theorem dX2_read_58 : decode cX2_read 58 = .ok (.getfield 39, 3) := by decide +kernel
theorem dX2_read_61 : decode cX2_read 61 = .ok (.iload_n 2, 1) := by decide +kernel
theorem dX2_read_62 : decode cX2_read 62 = .ok (.iaload, 1) := by decide +kernel
theorem dX2_read_63 : decode cX2_read 63 = .ok (.iaload, 1) := by decide +kernel
theorem dX2_read_64 : decode cX2_read 64 = .ok (.aload_n 0, 1) := by decide +kernel
theorem dX2_read_65 : decode cX2_read 65 = .ok (.getfield 9, 3) := by decide +kernel
theorem dX2_read_68 : decode cX2_read 68 = .ok (.aload_n 1, 1) := by decide +kernel
theorem dX2_read_69 : decode cX2_read 69 = .ok (.getfield 39, 3) := by decide +kernel
theorem dX2_read_72 : decode cX2_read 72 = .ok (.iload_n 2, 1) := by decide +kernel
theorem dX2_read_73 : decode cX2_read 73 = .ok (.iconst 1, 1) := by decide +kernel
theorem dX2_read_74 : decode cX2_read 74 = .ok (.iadd, 1) := by decide +kernel
theorem dX2_read_75 : decode cX2_read 75 = .ok (.iaload, 1) := by decide +kernel
theorem dX2_read_76 : decode cX2_read 76 = .ok (.iaload, 1) := by decide +kernel
theorem dX2_read_77 : decode cX2_read 77 = .ok (.invokevirtual 42, 3) := by decide +kernel
theorem dX2_read_80 : decode cX2_read 80 = .ok (.iinc 2 3, 3) := by decide +kernel
theorem dX2_read_83 : decode cX2_read 83 = .ok (.goto (-53), 3) := by decide +kernel
theorem dX2_read_86 : decode cX2_read 86 = .ok (.iconst 0, 1) := by decide +kernel
theorem dX2_read_87 : decode cX2_read 87 = .ok (.istore_n 2, 1) := by decide +kernel
theorem dX2_read_88 : decode cX2_read 88 = .ok (.iload_n 2, 1) := by decide +kernel
theorem dX2_read_89 : decode cX2_read 89 = .ok (.iconst 2, 1) := by decide +kernel
theorem dX2_read_90 : decode cX2_read 90 = .ok (.iadd, 1) := by decide +kernel
theorem dX2_read_91 : decode cX2_read 91 = .ok (.aload_n 1, 1) := by decide +kernel
theorem dX2_read_92 : decode cX2_read 92 = .ok (.getfield 33, 3) := by decide +kernel
theorem dX2_read_95 : decode cX2_read 95 = .ok (.if_icmp .ge 73, 3) := by decide +kernel
theorem dX2_read_98 : decode cX2_read 98 = .ok (.aload_n 0, 1) := by decide +kernel
theorem dX2_read_99 : decode cX2_read 99 = .ok (.getfield 9, 3) := by decide +kernel
theorem dX2_read_102 : decode cX2_read 102 = .ok (.aload_n 1, 1) := by decide +kernel
theorem dX2_read_103 : decode cX2_read 103 = .ok (.getfield 39, 3) := by decide +kernel
theorem dX2_read_106 : decode cX2_read 106 = .ok (.iload_n 2, 1) := by decide +kernel
theorem dX2_read_107 : decode cX2_read 107 = .ok (.iaload, 1) := by decide +kernel
theorem dX2_read_108 : decode cX2_read 108 = .ok (.iaload, 1) := by decide +kernel
theorem dX2_read_109 : decode cX2_read 109 = .ok (.istore_n 3, 1) := by decide +kernel
theorem dX2_read_110 : decode cX2_read 110 = .ok (.aload_n 0, 1) := by decide +kernel
theorem dX2_read_111 : decode cX2_read 111 = .ok (.getfield 9, 3) := by decide +kernel
theorem dX2_read_114 : decode cX2_read 114 = .ok (.aload_n 1, 1) := by decide +kernel
theorem dX2_read_115 : decode cX2_read 115 = .ok (.getfield 39, 3) := by decide +kernel
theorem dX2_read_118 : decode cX2_read 118 = .ok (.iload_n 2, 1) := by decide +kernel
theorem dX2_read_119 : decode cX2_read 119 = .ok (.iconst 1, 1) := by decide +kernel
theorem dX2_read_120 : decode cX2_read 120 = .ok (.iadd, 1) := by decide +kernel
theorem dX2_read_121 : decode cX2_read 121 = .ok (.iaload, 1) := by decide +kernel
theorem dX2_read_122 : decode cX2_read 122 = .ok (.iaload, 1) := by decide +kernel
theorem dX2_read_123 : decode cX2_read 123 = .ok (.istore 4, 2) := by decide +kernel
theorem dX2_read_125 : decode cX2_read 125 = .ok (.aload_n 1, 1) := by decide +kernel
theorem dX2_read_126 : decode cX2_read 126 = .ok (.getfield 39, 3) := by decide +kernel
theorem dX2_read_129 : decode cX2_read 129 = .ok (.iload_n 2, 1) := by decide +kernel
theorem dX2_read_130 : decode cX2_read 130 = .ok (.iconst 2, 1) := by decide +kernel
theorem dX2_read_131 : decode cX2_read 131 = .ok (.iadd, 1) := by decide +kernel
theorem dX2_read_132 : decode cX2_read 132 = .ok (.iaload, 1) := by decide +kernel
theorem dX2_read_133 : decode cX2_read 133 = .ok (.ifCond .ne 29, 3) := by decide +kernel
theorem dX2_read_136 : decode cX2_read 136 = .ok (.aload_n 0, 1) := by decide +kernel
theorem dX2_read_137 : decode cX2_read 137 = .ok (.getfield 15, 3) := by decide +kernel
theorem dX2_read_140 : decode cX2_read 140 = .ok (.iload_n 3, 1) := by decide +kernel
theorem dX2_read_141 : decode cX2_read 141 = .ok (.dup2, 1) := by decide +kernel
theorem dX2_read_142 : decode cX2_read 142 = .ok (.iaload, 1) := by decide +kernel
theorem dX2_read_143 : decode cX2_read 143 = .ok (.iconst 1, 1) := by decide +kernel
theorem dX2_read_144 : decode cX2_read 144 = .ok (.iload 4, 2) := by decide +kernel
theorem dX2_read_146 : decode cX2_read 146 = .ok (.ishl, 1) := by decide +kernel
theorem dX2_read_147 : decode cX2_read 147 = .ok (.ior, 1) := by decide +kernel
theorem dX2_read_148 : decode cX2_read 148 = .ok (.iastore, 1) := by decide +kernel
theorem dX2_read_149 : decode cX2_read 149 = .ok (.aload_n 0, 1) := by decide +kernel
theorem dX2_read_150 : decode cX2_read 150 = .ok (.getfield 15, 3) := by decide +kernel
theorem dX2_read_153 : decode cX2_read 153 = .ok (.iload 4, 2) := by decide +kernel
theorem dX2_read_155 : decode cX2_read 155 = .ok (.dup2, 1) := by decide +kernel
theorem dX2_read_156 : decode cX2_read 156 = .ok (.iaload, 1) := by decide +kernel
theorem dX2_read_157 : decode cX2_read 157 = .ok (.iconst 1, 1) := by decide +kernel
theorem dX2_read_158 : decode cX2_read 158 = .ok (.iload_n 3, 1) := by decide +kernel
theorem dX2_read_159 : decode cX2_read 159 = .ok (.ishl, 1) := by decide +kernel
theorem dX2_read_160 : decode cX2_read 160 = .ok (.ior, 1) := by decide +kernel
theorem dX2_read_161 : decode cX2_read 161 = .ok (.iastore, 1) := by decide +kernel
theorem dX2_read_162 : decode cX2_read 162 = .ok (.iinc 2 3, 3) := by decide +kernel
theorem dX2_read_165 : decode cX2_read 165 = .ok (.goto (-77), 3) := by decide +kernel
theorem dX2_read_168 : decode cX2_read 168 = .ok (.aload_n 0, 1) := by decide +kernel
theorem dX2_read_169 : decode cX2_read 169 = .ok (.invokevirtual 46, 3) := by decide +kernel
theorem dX2_read_172 : decode cX2_read 172 = .ok (.ifCond .ne 7, 3) := by decide +kernel
theorem dX2_read_175 : decode cX2_read 175 = .ok (.iconst 1, 1) := by decide +kernel
theorem dX2_read_176 : decode cX2_read 176 = .ok (.goto 4, 3) := by decide +kernel
theorem dX2_read_179 : decode cX2_read 179 = .ok (.iconst 0, 1) := by decide +kernel
theorem dX2_read_180 : decode cX2_read 180 = .ok (.ireturn, 1) := by decide +kernel
theorem dX2_join_0 : decode cX2_join 0 = .ok (.iload_n 1, 1) := by decide +kernel
theorem dX2_join_1 : decode cX2_join 1 = .ok (.iload_n 2, 1) := by decide +kernel
theorem dX2_join_2 : decode cX2_join 2 = .ok (.invokestatic 50, 3) := by decide +kernel
theorem dX2_join_5 : decode cX2_join 5 = .ok (.istore_n 3, 1) := by decide +kernel
theorem dX2_join_6 : decode cX2_join 6 = .ok (.iconst 0, 1) := by decide +kernel
theorem dX2_join_7 : decode cX2_join 7 = .ok (.istore 4, 2) := by decide +kernel
theorem dX2_join_9 : decode cX2_join 9 = .ok (.iload 4, 2) := by decide +kernel
theorem dX2_join_11 : decode cX2_join 11 = .ok (.bipush 8, 2) := by decide +kernel
theorem dX2_join_13 : decode cX2_join 13 = .ok (.if_icmp .ge 39, 3) := by decide +kernel
theorem dX2_join_16 : decode cX2_join 16 = .ok (.aload_n 0, 1) := by decide +kernel
theorem dX2_join_17 : decode cX2_join 17 = .ok (.getfield 9, 3) := by decide +kernel
theorem dX2_join_20 : decode cX2_join 20 = .ok (.iload 4, 2) := by decide +kernel
theorem dX2_join_22 : decode cX2_join 22 = .ok (.iaload, 1) := by decide +kernel
theorem dX2_join_23 : decode cX2_join 23 = .ok (.iload_n 1, 1) := by decide +kernel
theorem dX2_join_24 : decode cX2_join 24 = .ok (.if_icmp .eq 14, 3) := by decide +kernel
theorem dX2_join_27 : decode cX2_join 27 = .ok (.aload_n 0, 1) := by decide +kernel
theorem dX2_join_28 : decode cX2_join 28 = .ok (.getfield 9, 3) := by decide +kernel
theorem dX2_join_31 : decode cX2_join 31 = .ok (.iload 4, 2) := by decide +kernel
theorem dX2_join_33 : decode cX2_join 33 = .ok (.iaload, 1) := by decide +kernel
theorem dX2_join_34 : decode cX2_join 34 = .ok (.iload_n 2, 1) := by decide +kernel
theorem dX2_join_35 : decode cX2_join 35 = .ok (.if_icmp .ne 11, 3) := by decide +kernel
theorem dX2_join_38 : decode cX2_join 38 = .ok (.aload_n 0, 1) := by decide +kernel
theorem dX2_join_39 : decode cX2_join 39 = .ok (.getfield 9, 3) := by decide +kernel
theorem dX2_join_42 : decode cX2_join 42 = .ok (.iload 4, 2) := by decide +kernel
theorem dX2_join_44 : decode cX2_join 44 = .ok (.iload_n 3, 1) := by decide +kernel
theorem dX2_join_45 : decode cX2_join 45 = .ok (.iastore, 1) := by decide +kernel
theorem dX2_join_46 : decode cX2_join 46 = .ok (.iinc 4 1, 3) := by decide +kernel
theorem dX2_join_49 : decode cX2_join 49 = .ok (.goto (-40), 3) := by decide +kernel
theorem dX2_join_52 : decode cX2_join 52 = .ok (.return_, 1) := by decide +kernel
set_option maxRecDepth 20000 in
theorem ggX2_isGainsaid_X5_has : GoodIn wsX2_isGainsaid wsX5_has := goodIn_r _ [4] (by decide +kernel) (by decide +kernel)
set_option maxRecDepth 20000 in
theorem gX2_isGainsaid_X5_has_n29 : GoodIn wsX2_isGainsaid (wsX5_has) := ggX2_isGainsaid_X5_has
theorem dX2_isGainsaid_0 : decode cX2_isGainsaid 0 = .ok (.iconst 0, 1) := by decide +kernel
theorem dX2_isGainsaid_1 : decode cX2_isGainsaid 1 = .ok (.istore_n 1, 1) := by decide +kernel
theorem dX2_isGainsaid_2 : decode cX2_isGainsaid 2 = .ok (.iload_n 1, 1) := by decide +kernel
theorem dX2_isGainsaid_3 : decode cX2_isGainsaid 3 = .ok (.bipush 8, 2) := by decide +kernel
theorem dX2_isGainsaid_5 : decode cX2_isGainsaid 5 = .ok (.if_icmp .ge 24, 3) := by decide +kernel
theorem dX2_isGainsaid_8 : decode cX2_isGainsaid 8 = .ok (.aload_n 0, 1) := by decide +kernel
theorem dX2_isGainsaid_9 : decode cX2_isGainsaid 9 = .ok (.getfield 15, 3) := by decide +kernel
theorem dX2_isGainsaid_12 : decode cX2_isGainsaid 12 = .ok (.iload_n 1, 1) := by decide +kernel
theorem dX2_isGainsaid_13 : decode cX2_isGainsaid 13 = .ok (.iaload, 1) := by decide +kernel
theorem dX2_isGainsaid_14 : decode cX2_isGainsaid 14 = .ok (.iload_n 1, 1) := by decide +kernel
theorem dX2_isGainsaid_15 : decode cX2_isGainsaid 15 = .ok (.invokestatic 29, 3) := by decide +kernel
theorem dX2_isGainsaid_18 : decode cX2_isGainsaid 18 = .ok (.ifCond .eq 5, 3) := by decide +kernel
theorem dX2_isGainsaid_21 : decode cX2_isGainsaid 21 = .ok (.iconst 1, 1) := by decide +kernel
theorem dX2_isGainsaid_22 : decode cX2_isGainsaid 22 = .ok (.ireturn, 1) := by decide +kernel
theorem dX2_isGainsaid_23 : decode cX2_isGainsaid 23 = .ok (.iinc 1 1, 3) := by decide +kernel
theorem dX2_isGainsaid_26 : decode cX2_isGainsaid 26 = .ok (.goto (-24), 3) := by decide +kernel
theorem dX2_isGainsaid_29 : decode cX2_isGainsaid 29 = .ok (.iconst 0, 1) := by decide +kernel
theorem dX2_isGainsaid_30 : decode cX2_isGainsaid 30 = .ok (.ireturn, 1) := by decide +kernel
theorem dX3_init_0 : decode cX3_init 0 = .ok (.aload_n 0, 1) := by decide +kernel
theorem dX3_init_1 : decode cX3_init 1 = .ok (.invokespecial 3, 3) := by decide +kernel
theorem dX3_init_4 : decode cX3_init 4 = .ok (.aload_n 0, 1) := by decide +kernel
theorem dX3_init_5 : decode cX3_init 5 = .ok (.bipush 8, 2) := by decide +kernel
theorem dX3_init_7 : decode cX3_init 7 = .ok (.newarray .int, 2) := by decide +kernel
theorem dX3_init_9 : decode cX3_init 9 = .ok (.putfield 9, 3) := by decide +kernel
theorem dX3_init_12 : decode cX3_init 12 = .ok (.aload_n 0, 1) := by decide +kernel
theorem dX3_init_13 : decode cX3_init 13 = .ok (.bipush 8, 2) := by decide +kernel
theorem dX3_init_15 : decode cX3_init 15 = .ok (.newarray .int, 2) := by decide +kernel
theorem dX3_init_17 : decode cX3_init 17 = .ok (.putfield 15, 3) := by decide +kernel
theorem dX3_init_20 : decode cX3_init 20 = .ok (.return_, 1) := by decide +kernel
set_option maxRecDepth 20000 in
theorem ggX3_look_X4_takenFor : GoodIn wsX3_look wsX4_takenFor := goodIn_r _ [8, 9, 10, 11, 12, 13, 14, 15, 16, 17, 18, 19, 20, 21, 22, 23, 24, 25, 26, 27, 28, 29, 30] (by decide +kernel) (by decide +kernel)
set_option maxRecDepth 20000 in
theorem gX3_look_X4_takenFor : GoodIn wsX3_look (wsV RX3 25 RX4 yX4_takenFor wsX4_takenFor) := goodIn_app (goodIn_of _ (by decide +kernel)) ggX3_look_X4_takenFor
theorem dX3_look_0 : decode cX3_look 0 = .ok (.aload_n 0, 1) := by decide +kernel
theorem dX3_look_1 : decode cX3_look 1 = .ok (.aload_n 1, 1) := by decide +kernel
theorem dX3_look_2 : decode cX3_look 2 = .ok (.getfield 18, 3) := by decide +kernel
theorem dX3_look_5 : decode cX3_look 5 = .ok (.putfield 24, 3) := by decide +kernel
theorem dX3_look_8 : decode cX3_look 8 = .ok (.iconst 0, 1) := by decide +kernel
theorem dX3_look_9 : decode cX3_look 9 = .ok (.istore_n 3, 1) := by decide +kernel
theorem dX3_look_10 : decode cX3_look 10 = .ok (.iload_n 3, 1) := by decide +kernel
theorem dX3_look_11 : decode cX3_look 11 = .ok (.aload_n 0, 1) := by decide +kernel
theorem dX3_look_12 : decode cX3_look 12 = .ok (.getfield 24, 3) := by decide +kernel
theorem dX3_look_15 : decode cX3_look 15 = .ok (.if_icmp .ge 21, 3) := by decide +kernel
theorem dX3_look_18 : decode cX3_look 18 = .ok (.aload_n 0, 1) := by decide +kernel
theorem dX3_look_19 : decode cX3_look 19 = .ok (.getfield 9, 3) := by decide +kernel
theorem dX3_look_22 : decode cX3_look 22 = .ok (.iload_n 3, 1) := by decide +kernel
theorem dX3_look_23 : decode cX3_look 23 = .ok (.aload_n 1, 1) := by decide +kernel
theorem dX3_look_24 : decode cX3_look 24 = .ok (.iload_n 2, 1) := by decide +kernel
theorem dX3_look_25 : decode cX3_look 25 = .ok (.iload_n 3, 1) := by decide +kernel
theorem dX3_look_26 : decode cX3_look 26 = .ok (.invokevirtual 25, 3) := by decide +kernel
theorem dX3_look_29 : decode cX3_look 29 = .ok (.iastore, 1) := by decide +kernel
theorem dX3_look_30 : decode cX3_look 30 = .ok (.iinc 3 1, 3) := by decide +kernel
theorem dX3_look_33 : decode cX3_look 33 = .ok (.goto (-23), 3) := by decide +kernel
theorem dX3_look_36 : decode cX3_look 36 = .ok (.return_, 1) := by decide +kernel
set_option maxRecDepth 20000 in
theorem ggX3_countTo_X3_nextWith : GoodIn wsX3_countTo wsX3_nextWith := goodIn_r _ [7, 1, 8, 2, 9, 10, 11, 12, 13, 14] (by decide +kernel) (by decide +kernel)
set_option maxRecDepth 20000 in
theorem gX3_countTo_X3_nextWith : GoodIn wsX3_countTo (wsV RX3 29 RX3 yX3_nextWith wsX3_nextWith) := goodIn_app (goodIn_of _ (by decide +kernel)) ggX3_countTo_X3_nextWith
theorem dX3_countTo_0 : decode cX3_countTo 0 = .ok (.iconst 0, 1) := by decide +kernel
theorem dX3_countTo_1 : decode cX3_countTo 1 = .ok (.istore_n 2, 1) := by decide +kernel
theorem dX3_countTo_2 : decode cX3_countTo 2 = .ok (.iload_n 2, 1) := by decide +kernel
theorem dX3_countTo_3 : decode cX3_countTo 3 = .ok (.aload_n 0, 1) := by decide +kernel
theorem dX3_countTo_4 : decode cX3_countTo 4 = .ok (.getfield 24, 3) := by decide +kernel
theorem dX3_countTo_7 : decode cX3_countTo 7 = .ok (.if_icmp .ge 26, 3) := by decide +kernel
theorem dX3_countTo_10 : decode cX3_countTo 10 = .ok (.aload_n 0, 1) := by decide +kernel
theorem dX3_countTo_11 : decode cX3_countTo 11 = .ok (.getfield 15, 3) := by decide +kernel
theorem dX3_countTo_14 : decode cX3_countTo 14 = .ok (.iload_n 2, 1) := by decide +kernel
theorem dX3_countTo_15 : decode cX3_countTo 15 = .ok (.iload_n 2, 1) := by decide +kernel
theorem dX3_countTo_16 : decode cX3_countTo 16 = .ok (.iload_n 1, 1) := by decide +kernel
theorem dX3_countTo_17 : decode cX3_countTo 17 = .ok (.if_icmp .ne 7, 3) := by decide +kernel
theorem dX3_countTo_20 : decode cX3_countTo 20 = .ok (.iconst 0, 1) := by decide +kernel
theorem dX3_countTo_21 : decode cX3_countTo 21 = .ok (.goto 5, 3) := by decide +kernel
theorem dX3_countTo_24 : decode cX3_countTo 24 = .ok (.bipush (-4), 2) := by decide +kernel
theorem dX3_countTo_26 : decode cX3_countTo 26 = .ok (.iastore, 1) := by decide +kernel
theorem dX3_countTo_27 : decode cX3_countTo 27 = .ok (.iinc 2 1, 3) := by decide +kernel
theorem dX3_countTo_30 : decode cX3_countTo 30 = .ok (.goto (-28), 3) := by decide +kernel
theorem dX3_countTo_33 : decode cX3_countTo 33 = .ok (.iconst 1, 1) := by decide +kernel
theorem dX3_countTo_34 : decode cX3_countTo 34 = .ok (.istore_n 2, 1) := by decide +kernel
theorem dX3_countTo_35 : decode cX3_countTo 35 = .ok (.iload_n 2, 1) := by decide +kernel
theorem dX3_countTo_36 : decode cX3_countTo 36 = .ok (.aload_n 0, 1) := by decide +kernel
theorem dX3_countTo_37 : decode cX3_countTo 37 = .ok (.getfield 24, 3) := by decide +kernel
theorem dX3_countTo_40 : decode cX3_countTo 40 = .ok (.if_icmp .ge 52, 3) := by decide +kernel
theorem dX3_countTo_43 : decode cX3_countTo 43 = .ok (.iconst 0, 1) := by decide +kernel
theorem dX3_countTo_44 : decode cX3_countTo 44 = .ok (.istore_n 3, 1) := by decide +kernel
theorem dX3_countTo_45 : decode cX3_countTo 45 = .ok (.iload_n 3, 1) := by decide +kernel
theorem dX3_countTo_46 : decode cX3_countTo 46 = .ok (.aload_n 0, 1) := by decide +kernel
theorem dX3_countTo_47 : decode cX3_countTo 47 = .ok (.getfield 24, 3) := by decide +kernel
theorem dX3_countTo_50 : decode cX3_countTo 50 = .ok (.if_icmp .ge 36, 3) := by decide +kernel
theorem dX3_countTo_53 : decode cX3_countTo 53 = .ok (.aload_n 0, 1) := by decide +kernel
theorem dX3_countTo_54 : decode cX3_countTo 54 = .ok (.getfield 15, 3) := by decide +kernel
theorem dX3_countTo_57 : decode cX3_countTo 57 = .ok (.iload_n 3, 1) := by decide +kernel
theorem dX3_countTo_58 : decode cX3_countTo 58 = .ok (.iaload, 1) := by decide +kernel
theorem dX3_countTo_59 : decode cX3_countTo 59 = .ok (.ifCond .ge 21, 3) := by decide +kernel
theorem dX3_countTo_62 : decode cX3_countTo 62 = .ok (.aload_n 0, 1) := by decide +kernel
theorem dX3_countTo_63 : decode cX3_countTo 63 = .ok (.iload_n 3, 1) := by decide +kernel
theorem dX3_countTo_64 : decode cX3_countTo 64 = .ok (.iload_n 2, 1) := by decide +kernel
theorem dX3_countTo_65 : decode cX3_countTo 65 = .ok (.iconst 1, 1) := by decide +kernel
theorem dX3_countTo_66 : decode cX3_countTo 66 = .ok (.isub, 1) := by decide +kernel
theorem dX3_countTo_67 : decode cX3_countTo 67 = .ok (.invokevirtual 29, 3) := by decide +kernel
theorem dX3_countTo_70 : decode cX3_countTo 70 = .ok (.ifCond .lt 10, 3) := by decide +kernel
theorem dX3_countTo_73 : decode cX3_countTo 73 = .ok (.aload_n 0, 1) := by decide +kernel
theorem dX3_countTo_74 : decode cX3_countTo 74 = .ok (.getfield 15, 3) := by decide +kernel
theorem dX3_countTo_77 : decode cX3_countTo 77 = .ok (.iload_n 3, 1) := by decide +kernel
theorem dX3_countTo_78 : decode cX3_countTo 78 = .ok (.iload_n 2, 1) := by decide +kernel
theorem dX3_countTo_79 : decode cX3_countTo 79 = .ok (.iastore, 1) := by decide +kernel
theorem dX3_countTo_80 : decode cX3_countTo 80 = .ok (.iinc 3 1, 3) := by decide +kernel
theorem dX3_countTo_83 : decode cX3_countTo 83 = .ok (.goto (-38), 3) := by decide +kernel
theorem dX3_countTo_86 : decode cX3_countTo 86 = .ok (.iinc 2 1, 3) := by decide +kernel
theorem dX3_countTo_89 : decode cX3_countTo 89 = .ok (.goto (-54), 3) := by decide +kernel
theorem dX3_countTo_92 : decode cX3_countTo 92 = .ok (.return_, 1) := by decide +kernel
set_option maxRecDepth 20000 in
theorem ggX3_firstFrom_X3_nextWith : GoodIn wsX3_firstFrom wsX3_nextWith := goodIn_r _ [6, 7, 8, 1, 9, 10, 11, 12, 13, 14] (by decide +kernel) (by decide +kernel)
set_option maxRecDepth 20000 in
theorem gX3_firstFrom_X3_nextWith : GoodIn wsX3_firstFrom (wsV RX3 29 RX3 yX3_nextWith wsX3_nextWith) := goodIn_app (goodIn_of _ (by decide +kernel)) ggX3_firstFrom_X3_nextWith
theorem dX3_firstFrom_0 : decode cX3_firstFrom 0 = .ok (.aload_n 0, 1) := by decide +kernel
theorem dX3_firstFrom_1 : decode cX3_firstFrom 1 = .ok (.getfield 15, 3) := by decide +kernel
theorem dX3_firstFrom_4 : decode cX3_firstFrom 4 = .ok (.iload_n 1, 1) := by decide +kernel
theorem dX3_firstFrom_5 : decode cX3_firstFrom 5 = .ok (.iaload, 1) := by decide +kernel
theorem dX3_firstFrom_6 : decode cX3_firstFrom 6 = .ok (.ifCond .le 19, 3) := by decide +kernel
theorem dX3_firstFrom_9 : decode cX3_firstFrom 9 = .ok (.aload_n 0, 1) := by decide +kernel
theorem dX3_firstFrom_10 : decode cX3_firstFrom 10 = .ok (.iload_n 1, 1) := by decide +kernel
theorem dX3_firstFrom_11 : decode cX3_firstFrom 11 = .ok (.aload_n 0, 1) := by decide +kernel
theorem dX3_firstFrom_12 : decode cX3_firstFrom 12 = .ok (.getfield 15, 3) := by decide +kernel
theorem dX3_firstFrom_15 : decode cX3_firstFrom 15 = .ok (.iload_n 1, 1) := by decide +kernel
theorem dX3_firstFrom_16 : decode cX3_firstFrom 16 = .ok (.iaload, 1) := by decide +kernel
theorem dX3_firstFrom_17 : decode cX3_firstFrom 17 = .ok (.iconst 1, 1) := by decide +kernel
theorem dX3_firstFrom_18 : decode cX3_firstFrom 18 = .ok (.isub, 1) := by decide +kernel
theorem dX3_firstFrom_19 : decode cX3_firstFrom 19 = .ok (.invokevirtual 29, 3) := by decide +kernel
theorem dX3_firstFrom_22 : decode cX3_firstFrom 22 = .ok (.goto 5, 3) := by decide +kernel
theorem dX3_firstFrom_25 : decode cX3_firstFrom 25 = .ok (.bipush (-4), 2) := by decide +kernel
theorem dX3_firstFrom_27 : decode cX3_firstFrom 27 = .ok (.ireturn, 1) := by decide +kernel
set_option maxRecDepth 20000 in
theorem ggX3_nextWith_X5_has : GoodIn wsX3_nextWith wsX5_has := goodIn_r _ [6] (by decide +kernel) (by decide +kernel)
set_option maxRecDepth 20000 in
theorem gX3_nextWith_X5_has_n32 : GoodIn wsX3_nextWith (wsX5_has) := ggX3_nextWith_X5_has
theorem dX3_nextWith_0 : decode cX3_nextWith 0 = .ok (.iconst 0, 1) := by decide +kernel
theorem dX3_nextWith_1 : decode cX3_nextWith 1 = .ok (.istore_n 3, 1) := by decide +kernel
theorem dX3_nextWith_2 : decode cX3_nextWith 2 = .ok (.iload_n 3, 1) := by decide +kernel
theorem dX3_nextWith_3 : decode cX3_nextWith 3 = .ok (.aload_n 0, 1) := by decide +kernel
theorem dX3_nextWith_4 : decode cX3_nextWith 4 = .ok (.getfield 24, 3) := by decide +kernel
theorem dX3_nextWith_7 : decode cX3_nextWith 7 = .ok (.if_icmp .ge 34, 3) := by decide +kernel
theorem dX3_nextWith_10 : decode cX3_nextWith 10 = .ok (.aload_n 0, 1) := by decide +kernel
theorem dX3_nextWith_11 : decode cX3_nextWith 11 = .ok (.getfield 9, 3) := by decide +kernel
theorem dX3_nextWith_14 : decode cX3_nextWith 14 = .ok (.iload_n 1, 1) := by decide +kernel
theorem dX3_nextWith_15 : decode cX3_nextWith 15 = .ok (.iaload, 1) := by decide +kernel
theorem dX3_nextWith_16 : decode cX3_nextWith 16 = .ok (.iload_n 3, 1) := by decide +kernel
theorem dX3_nextWith_17 : decode cX3_nextWith 17 = .ok (.invokestatic 32, 3) := by decide +kernel
theorem dX3_nextWith_20 : decode cX3_nextWith 20 = .ok (.ifCond .eq 15, 3) := by decide +kernel
theorem dX3_nextWith_23 : decode cX3_nextWith 23 = .ok (.aload_n 0, 1) := by decide +kernel
theorem dX3_nextWith_24 : decode cX3_nextWith 24 = .ok (.getfield 15, 3) := by decide +kernel
theorem dX3_nextWith_27 : decode cX3_nextWith 27 = .ok (.iload_n 3, 1) := by decide +kernel
theorem dX3_nextWith_28 : decode cX3_nextWith 28 = .ok (.iaload, 1) := by decide +kernel
theorem dX3_nextWith_29 : decode cX3_nextWith 29 = .ok (.iload_n 2, 1) := by decide +kernel
theorem dX3_nextWith_30 : decode cX3_nextWith 30 = .ok (.if_icmp .ne 5, 3) := by decide +kernel
theorem dX3_nextWith_33 : decode cX3_nextWith 33 = .ok (.iload_n 3, 1) := by decide +kernel
theorem dX3_nextWith_34 : decode cX3_nextWith 34 = .ok (.ireturn, 1) := by decide +kernel
theorem dX3_nextWith_35 : decode cX3_nextWith 35 = .ok (.iinc 3 1, 3) := by decide +kernel
theorem dX3_nextWith_38 : decode cX3_nextWith 38 = .ok (.goto (-36), 3) := by decide +kernel
theorem dX3_nextWith_41 : decode cX3_nextWith 41 = .ok (.bipush (-4), 2) := by decide +kernel
theorem dX3_nextWith_43 : decode cX3_nextWith 43 = .ok (.ireturn, 1) := by decide +kernel
set_option maxRecDepth 20000 in
theorem ggX3_reachedFrom_X5_has : GoodIn wsX3_reachedFrom wsX5_has := goodIn_r _ [5] (by decide +kernel) (by decide +kernel)
set_option maxRecDepth 20000 in
theorem gX3_reachedFrom_X5_has_n32 : GoodIn wsX3_reachedFrom (wsX5_has) := ggX3_reachedFrom_X5_has
theorem dX3_reachedFrom_0 : decode cX3_reachedFrom 0 = .ok (.iconst 1, 1) := by decide +kernel
theorem dX3_reachedFrom_1 : decode cX3_reachedFrom 1 = .ok (.iload_n 1, 1) := by decide +kernel
theorem dX3_reachedFrom_2 : decode cX3_reachedFrom 2 = .ok (.ishl, 1) := by decide +kernel
theorem dX3_reachedFrom_3 : decode cX3_reachedFrom 3 = .ok (.istore_n 2, 1) := by decide +kernel
theorem dX3_reachedFrom_4 : decode cX3_reachedFrom 4 = .ok (.iconst 1, 1) := by decide +kernel
theorem dX3_reachedFrom_5 : decode cX3_reachedFrom 5 = .ok (.istore_n 3, 1) := by decide +kernel
theorem dX3_reachedFrom_6 : decode cX3_reachedFrom 6 = .ok (.iload_n 3, 1) := by decide +kernel
theorem dX3_reachedFrom_7 : decode cX3_reachedFrom 7 = .ok (.aload_n 0, 1) := by decide +kernel
theorem dX3_reachedFrom_8 : decode cX3_reachedFrom 8 = .ok (.getfield 24, 3) := by decide +kernel
theorem dX3_reachedFrom_11 : decode cX3_reachedFrom 11 = .ok (.if_icmp .ge 46, 3) := by decide +kernel
theorem dX3_reachedFrom_14 : decode cX3_reachedFrom 14 = .ok (.iconst 0, 1) := by decide +kernel
theorem dX3_reachedFrom_15 : decode cX3_reachedFrom 15 = .ok (.istore 4, 2) := by decide +kernel
theorem dX3_reachedFrom_17 : decode cX3_reachedFrom 17 = .ok (.iload 4, 2) := by decide +kernel
theorem dX3_reachedFrom_19 : decode cX3_reachedFrom 19 = .ok (.aload_n 0, 1) := by decide +kernel
theorem dX3_reachedFrom_20 : decode cX3_reachedFrom 20 = .ok (.getfield 24, 3) := by decide +kernel
theorem dX3_reachedFrom_23 : decode cX3_reachedFrom 23 = .ok (.if_icmp .ge 28, 3) := by decide +kernel
theorem dX3_reachedFrom_26 : decode cX3_reachedFrom 26 = .ok (.iload_n 2, 1) := by decide +kernel
theorem dX3_reachedFrom_27 : decode cX3_reachedFrom 27 = .ok (.iload 4, 2) := by decide +kernel
theorem dX3_reachedFrom_29 : decode cX3_reachedFrom 29 = .ok (.invokestatic 32, 3) := by decide +kernel
theorem dX3_reachedFrom_32 : decode cX3_reachedFrom 32 = .ok (.ifCond .eq 13, 3) := by decide +kernel
theorem dX3_reachedFrom_35 : decode cX3_reachedFrom 35 = .ok (.iload_n 2, 1) := by decide +kernel
theorem dX3_reachedFrom_36 : decode cX3_reachedFrom 36 = .ok (.aload_n 0, 1) := by decide +kernel
theorem dX3_reachedFrom_37 : decode cX3_reachedFrom 37 = .ok (.getfield 9, 3) := by decide +kernel
theorem dX3_reachedFrom_40 : decode cX3_reachedFrom 40 = .ok (.iload 4, 2) := by decide +kernel
theorem dX3_reachedFrom_42 : decode cX3_reachedFrom 42 = .ok (.iaload, 1) := by decide +kernel
theorem dX3_reachedFrom_43 : decode cX3_reachedFrom 43 = .ok (.ior, 1) := by decide +kernel
theorem dX3_reachedFrom_44 : decode cX3_reachedFrom 44 = .ok (.istore_n 2, 1) := by decide +kernel
theorem dX3_reachedFrom_45 : decode cX3_reachedFrom 45 = .ok (.iinc 4 1, 3) := by decide +kernel
theorem dX3_reachedFrom_48 : decode cX3_reachedFrom 48 = .ok (.goto (-31), 3) := by decide +kernel
theorem dX3_reachedFrom_51 : decode cX3_reachedFrom 51 = .ok (.iinc 3 1, 3) := by decide +kernel
theorem dX3_reachedFrom_54 : decode cX3_reachedFrom 54 = .ok (.goto (-48), 3) := by decide +kernel
theorem dX3_reachedFrom_57 : decode cX3_reachedFrom 57 = .ok (.iload_n 2, 1) := by decide +kernel
theorem dX3_reachedFrom_58 : decode cX3_reachedFrom 58 = .ok (.ireturn, 1) := by decide +kernel
theorem dX4_init_0 : decode cX4_init 0 = .ok (.aload_n 0, 1) := by decide +kernel
theorem dX4_init_1 : decode cX4_init 1 = .ok (.invokespecial 3, 3) := by decide +kernel
theorem dX4_init_4 : decode cX4_init 4 = .ok (.aload_n 0, 1) := by decide +kernel
theorem dX4_init_5 : decode cX4_init 5 = .ok (.bipush 8, 2) := by decide +kernel
theorem dX4_init_7 : decode cX4_init 7 = .ok (.newarray .int, 2) := by decide +kernel
theorem dX4_init_9 : decode cX4_init 9 = .ok (.putfield 9, 3) := by decide +kernel
theorem dX4_init_12 : decode cX4_init 12 = .ok (.aload_n 0, 1) := by decide +kernel
theorem dX4_init_13 : decode cX4_init 13 = .ok (.bipush 8, 2) := by decide +kernel
theorem dX4_init_15 : decode cX4_init 15 = .ok (.newarray .int, 2) := by decide +kernel
theorem dX4_init_17 : decode cX4_init 17 = .ok (.putfield 15, 3) := by decide +kernel
theorem dX4_init_20 : decode cX4_init 20 = .ok (.aload_n 0, 1) := by decide +kernel
theorem dX4_init_21 : decode cX4_init 21 = .ok (.bipush 8, 2) := by decide +kernel
theorem dX4_init_23 : decode cX4_init 23 = .ok (.newarray .int, 2) := by decide +kernel
theorem dX4_init_25 : decode cX4_init 25 = .ok (.putfield 18, 3) := by decide +kernel
theorem dX4_init_28 : decode cX4_init 28 = .ok (.aload_n 0, 1) := by decide +kernel
theorem dX4_init_29 : decode cX4_init 29 = .ok (.bipush 6, 2) := by decide +kernel
theorem dX4_init_31 : decode cX4_init 31 = .ok (.newarray .int, 2) := by decide +kernel
theorem dX4_init_33 : decode cX4_init 33 = .ok (.putfield 21, 3) := by decide +kernel
theorem dX4_init_36 : decode cX4_init 36 = .ok (.aload_n 0, 1) := by decide +kernel
theorem dX4_init_37 : decode cX4_init 37 = .ok (.bipush 8, 2) := by decide +kernel
theorem dX4_init_39 : decode cX4_init 39 = .ok (.newarray .int, 2) := by decide +kernel
theorem dX4_init_41 : decode cX4_init 41 = .ok (.putfield 24, 3) := by decide +kernel
theorem dX4_init_44 : decode cX4_init 44 = .ok (.aload_n 0, 1) := by decide +kernel
theorem dX4_init_45 : decode cX4_init 45 = .ok (.bipush 8, 2) := by decide +kernel
theorem dX4_init_47 : decode cX4_init 47 = .ok (.newarray .int, 2) := by decide +kernel
theorem dX4_init_49 : decode cX4_init 49 = .ok (.putfield 27, 3) := by decide +kernel
theorem dX4_init_52 : decode cX4_init 52 = .ok (.aload_n 0, 1) := by decide +kernel
theorem dX4_init_53 : decode cX4_init 53 = .ok (.bipush 8, 2) := by decide +kernel
theorem dX4_init_55 : decode cX4_init 55 = .ok (.newarray .int, 2) := by decide +kernel
theorem dX4_init_57 : decode cX4_init 57 = .ok (.putfield 30, 3) := by decide +kernel
theorem dX4_init_60 : decode cX4_init 60 = .ok (.aload_n 0, 1) := by decide +kernel
theorem dX4_init_61 : decode cX4_init 61 = .ok (.bipush 8, 2) := by decide +kernel
theorem dX4_init_63 : decode cX4_init 63 = .ok (.newarray .int, 2) := by decide +kernel
theorem dX4_init_65 : decode cX4_init 65 = .ok (.putfield 33, 3) := by decide +kernel
theorem dX4_init_68 : decode cX4_init 68 = .ok (.iconst 0, 1) := by decide +kernel
theorem dX4_init_69 : decode cX4_init 69 = .ok (.istore_n 1, 1) := by decide +kernel
theorem dX4_init_70 : decode cX4_init 70 = .ok (.iload_n 1, 1) := by decide +kernel
theorem dX4_init_71 : decode cX4_init 71 = .ok (.bipush 8, 2) := by decide +kernel
theorem dX4_init_73 : decode cX4_init 73 = .ok (.if_icmp .ge 16, 3) := by decide +kernel
theorem dX4_init_76 : decode cX4_init 76 = .ok (.aload_n 0, 1) := by decide +kernel
theorem dX4_init_77 : decode cX4_init 77 = .ok (.getfield 33, 3) := by decide +kernel
theorem dX4_init_80 : decode cX4_init 80 = .ok (.iload_n 1, 1) := by decide +kernel
theorem dX4_init_81 : decode cX4_init 81 = .ok (.iload_n 1, 1) := by decide +kernel
theorem dX4_init_82 : decode cX4_init 82 = .ok (.iastore, 1) := by decide +kernel
theorem dX4_init_83 : decode cX4_init 83 = .ok (.iinc 1 1, 3) := by decide +kernel
theorem dX4_init_86 : decode cX4_init 86 = .ok (.goto (-16), 3) := by decide +kernel
theorem dX4_init_89 : decode cX4_init 89 = .ok (.return_, 1) := by decide +kernel
theorem dX4_become_0 : decode cX4_become 0 = .ok (.aload_n 1, 1) := by decide +kernel
theorem dX4_become_1 : decode cX4_become 1 = .ok (.getfield 9, 3) := by decide +kernel
theorem dX4_become_4 : decode cX4_become 4 = .ok (.iconst 0, 1) := by decide +kernel
theorem dX4_become_5 : decode cX4_become 5 = .ok (.aload_n 0, 1) := by decide +kernel
theorem dX4_become_6 : decode cX4_become 6 = .ok (.getfield 9, 3) := by decide +kernel
theorem dX4_become_9 : decode cX4_become 9 = .ok (.iconst 0, 1) := by decide +kernel
theorem dX4_become_10 : decode cX4_become 10 = .ok (.bipush 8, 2) := by decide +kernel
theorem dX4_become_12 : decode cX4_become 12 = .ok (.invokestatic 36, 3) := by decide +kernel
theorem dX4_become_15 : decode cX4_become 15 = .ok (.aload_n 1, 1) := by decide +kernel
theorem dX4_become_16 : decode cX4_become 16 = .ok (.getfield 15, 3) := by decide +kernel
theorem dX4_become_19 : decode cX4_become 19 = .ok (.iconst 0, 1) := by decide +kernel
theorem dX4_become_20 : decode cX4_become 20 = .ok (.aload_n 0, 1) := by decide +kernel
theorem dX4_become_21 : decode cX4_become 21 = .ok (.getfield 15, 3) := by decide +kernel
theorem dX4_become_24 : decode cX4_become 24 = .ok (.iconst 0, 1) := by decide +kernel
theorem dX4_become_25 : decode cX4_become 25 = .ok (.bipush 8, 2) := by decide +kernel
theorem dX4_become_27 : decode cX4_become 27 = .ok (.invokestatic 36, 3) := by decide +kernel
theorem dX4_become_30 : decode cX4_become 30 = .ok (.aload_n 1, 1) := by decide +kernel
theorem dX4_become_31 : decode cX4_become 31 = .ok (.getfield 18, 3) := by decide +kernel
theorem dX4_become_34 : decode cX4_become 34 = .ok (.iconst 0, 1) := by decide +kernel
theorem dX4_become_35 : decode cX4_become 35 = .ok (.aload_n 0, 1) := by decide +kernel
theorem dX4_become_36 : decode cX4_become 36 = .ok (.getfield 18, 3) := by decide +kernel
theorem dX4_become_39 : decode cX4_become 39 = .ok (.iconst 0, 1) := by decide +kernel
theorem dX4_become_40 : decode cX4_become 40 = .ok (.bipush 8, 2) := by decide +kernel
theorem dX4_become_42 : decode cX4_become 42 = .ok (.invokestatic 36, 3) := by decide +kernel
theorem dX4_become_45 : decode cX4_become 45 = .ok (.aload_n 0, 1) := by decide +kernel
theorem dX4_become_46 : decode cX4_become 46 = .ok (.aload_n 1, 1) := by decide +kernel
theorem dX4_become_47 : decode cX4_become 47 = .ok (.getfield 42, 3) := by decide +kernel
theorem dX4_become_50 : decode cX4_become 50 = .ok (.putfield 42, 3) := by decide +kernel
theorem dX4_become_53 : decode cX4_become 53 = .ok (.aload_n 1, 1) := by decide +kernel
theorem dX4_become_54 : decode cX4_become 54 = .ok (.getfield 21, 3) := by decide +kernel
theorem dX4_become_57 : decode cX4_become 57 = .ok (.iconst 0, 1) := by decide +kernel
theorem dX4_become_58 : decode cX4_become 58 = .ok (.aload_n 0, 1) := by decide +kernel
theorem dX4_become_59 : decode cX4_become 59 = .ok (.getfield 21, 3) := by decide +kernel
theorem dX4_become_62 : decode cX4_become 62 = .ok (.iconst 0, 1) := by decide +kernel
theorem dX4_become_63 : decode cX4_become 63 = .ok (.bipush 6, 2) := by decide +kernel
theorem dX4_become_65 : decode cX4_become 65 = .ok (.invokestatic 36, 3) := by decide +kernel
theorem dX4_become_68 : decode cX4_become 68 = .ok (.aload_n 0, 1) := by decide +kernel
theorem dX4_become_69 : decode cX4_become 69 = .ok (.aload_n 1, 1) := by decide +kernel
theorem dX4_become_70 : decode cX4_become 70 = .ok (.getfield 46, 3) := by decide +kernel
theorem dX4_become_73 : decode cX4_become 73 = .ok (.putfield 46, 3) := by decide +kernel
theorem dX4_become_76 : decode cX4_become 76 = .ok (.aload_n 1, 1) := by decide +kernel
theorem dX4_become_77 : decode cX4_become 77 = .ok (.getfield 24, 3) := by decide +kernel
theorem dX4_become_80 : decode cX4_become 80 = .ok (.iconst 0, 1) := by decide +kernel
theorem dX4_become_81 : decode cX4_become 81 = .ok (.aload_n 0, 1) := by decide +kernel
theorem dX4_become_82 : decode cX4_become 82 = .ok (.getfield 24, 3) := by decide +kernel
theorem dX4_become_85 : decode cX4_become 85 = .ok (.iconst 0, 1) := by decide +kernel
theorem dX4_become_86 : decode cX4_become 86 = .ok (.bipush 8, 2) := by decide +kernel
theorem dX4_become_88 : decode cX4_become 88 = .ok (.invokestatic 36, 3) := by decide +kernel
theorem dX4_become_91 : decode cX4_become 91 = .ok (.aload_n 1, 1) := by decide +kernel
theorem dX4_become_92 : decode cX4_become 92 = .ok (.getfield 27, 3) := by decide +kernel
theorem dX4_become_95 : decode cX4_become 95 = .ok (.iconst 0, 1) := by decide +kernel
theorem dX4_become_96 : decode cX4_become 96 = .ok (.aload_n 0, 1) := by decide +kernel
theorem dX4_become_97 : decode cX4_become 97 = .ok (.getfield 27, 3) := by decide +kernel
theorem dX4_become_100 : decode cX4_become 100 = .ok (.iconst 0, 1) := by decide +kernel
theorem dX4_become_101 : decode cX4_become 101 = .ok (.bipush 8, 2) := by decide +kernel
theorem dX4_become_103 : decode cX4_become 103 = .ok (.invokestatic 36, 3) := by decide +kernel
theorem dX4_become_106 : decode cX4_become 106 = .ok (.aload_n 1, 1) := by decide +kernel
theorem dX4_become_107 : decode cX4_become 107 = .ok (.getfield 30, 3) := by decide +kernel
theorem dX4_become_110 : decode cX4_become 110 = .ok (.iconst 0, 1) := by decide +kernel
theorem dX4_become_111 : decode cX4_become 111 = .ok (.aload_n 0, 1) := by decide +kernel
theorem dX4_become_112 : decode cX4_become 112 = .ok (.getfield 30, 3) := by decide +kernel
theorem dX4_become_115 : decode cX4_become 115 = .ok (.iconst 0, 1) := by decide +kernel
theorem dX4_become_116 : decode cX4_become 116 = .ok (.bipush 8, 2) := by decide +kernel
theorem dX4_become_118 : decode cX4_become 118 = .ok (.invokestatic 36, 3) := by decide +kernel
theorem dX4_become_121 : decode cX4_become 121 = .ok (.aload_n 0, 1) := by decide +kernel
theorem dX4_become_122 : decode cX4_become 122 = .ok (.aload_n 1, 1) := by decide +kernel
theorem dX4_become_123 : decode cX4_become 123 = .ok (.getfield 49, 3) := by decide +kernel
theorem dX4_become_126 : decode cX4_become 126 = .ok (.putfield 49, 3) := by decide +kernel
theorem dX4_become_129 : decode cX4_become 129 = .ok (.aload_n 0, 1) := by decide +kernel
theorem dX4_become_130 : decode cX4_become 130 = .ok (.aload_n 1, 1) := by decide +kernel
theorem dX4_become_131 : decode cX4_become 131 = .ok (.getfield 52, 3) := by decide +kernel
theorem dX4_become_134 : decode cX4_become 134 = .ok (.putfield 52, 3) := by decide +kernel
theorem dX4_become_137 : decode cX4_become 137 = .ok (.aload_n 1, 1) := by decide +kernel
theorem dX4_become_138 : decode cX4_become 138 = .ok (.getfield 33, 3) := by decide +kernel
theorem dX4_become_141 : decode cX4_become 141 = .ok (.iconst 0, 1) := by decide +kernel
theorem dX4_become_142 : decode cX4_become 142 = .ok (.aload_n 0, 1) := by decide +kernel
theorem dX4_become_143 : decode cX4_become 143 = .ok (.getfield 33, 3) := by decide +kernel
theorem dX4_become_146 : decode cX4_become 146 = .ok (.iconst 0, 1) := by decide +kernel
theorem dX4_become_147 : decode cX4_become 147 = .ok (.bipush 8, 2) := by decide +kernel
theorem dX4_become_149 : decode cX4_become 149 = .ok (.invokestatic 36, 3) := by decide +kernel
theorem dX4_become_152 : decode cX4_become 152 = .ok (.aload_n 0, 1) := by decide +kernel
theorem dX4_become_153 : decode cX4_become 153 = .ok (.aload_n 1, 1) := by decide +kernel
theorem dX4_become_154 : decode cX4_become 154 = .ok (.getfield 55, 3) := by decide +kernel
theorem dX4_become_157 : decode cX4_become 157 = .ok (.putfield 55, 3) := by decide +kernel
theorem dX4_become_160 : decode cX4_become 160 = .ok (.return_, 1) := by decide +kernel
theorem dX4_isGoods_0 : decode cX4_isGoods 0 = .ok (.iload_n 1, 1) := by decide +kernel
theorem dX4_isGoods_1 : decode cX4_isGoods 1 = .ok (.ifCond .lt 15, 3) := by decide +kernel
theorem dX4_isGoods_4 : decode cX4_isGoods 4 = .ok (.iload_n 1, 1) := by decide +kernel
theorem dX4_isGoods_5 : decode cX4_isGoods 5 = .ok (.aload_n 0, 1) := by decide +kernel
theorem dX4_isGoods_6 : decode cX4_isGoods 6 = .ok (.getfield 42, 3) := by decide +kernel
theorem dX4_isGoods_9 : decode cX4_isGoods 9 = .ok (.if_icmp .ge 7, 3) := by decide +kernel
theorem dX4_isGoods_12 : decode cX4_isGoods 12 = .ok (.iconst 1, 1) := by decide +kernel
theorem dX4_isGoods_13 : decode cX4_isGoods 13 = .ok (.goto 4, 3) := by decide +kernel
theorem dX4_isGoods_16 : decode cX4_isGoods 16 = .ok (.iconst 0, 1) := by decide +kernel
theorem dX4_isGoods_17 : decode cX4_isGoods 17 = .ok (.ireturn, 1) := by decide +kernel
theorem dX4_isPerson_0 : decode cX4_isPerson 0 = .ok (.iload_n 1, 1) := by decide +kernel
theorem dX4_isPerson_1 : decode cX4_isPerson 1 = .ok (.ifCond .lt 15, 3) := by decide +kernel
theorem dX4_isPerson_4 : decode cX4_isPerson 4 = .ok (.iload_n 1, 1) := by decide +kernel
theorem dX4_isPerson_5 : decode cX4_isPerson 5 = .ok (.aload_n 0, 1) := by decide +kernel
theorem dX4_isPerson_6 : decode cX4_isPerson 6 = .ok (.getfield 46, 3) := by decide +kernel
theorem dX4_isPerson_9 : decode cX4_isPerson 9 = .ok (.if_icmp .ge 7, 3) := by decide +kernel
theorem dX4_isPerson_12 : decode cX4_isPerson 12 = .ok (.iconst 1, 1) := by decide +kernel
theorem dX4_isPerson_13 : decode cX4_isPerson 13 = .ok (.goto 4, 3) := by decide +kernel
theorem dX4_isPerson_16 : decode cX4_isPerson 16 = .ok (.iconst 0, 1) := by decide +kernel
theorem dX4_isPerson_17 : decode cX4_isPerson 17 = .ok (.ireturn, 1) := by decide +kernel
theorem dX4_isLoan_0 : decode cX4_isLoan 0 = .ok (.iload_n 1, 1) := by decide +kernel
theorem dX4_isLoan_1 : decode cX4_isLoan 1 = .ok (.ifCond .lt 15, 3) := by decide +kernel
theorem dX4_isLoan_4 : decode cX4_isLoan 4 = .ok (.iload_n 1, 1) := by decide +kernel
theorem dX4_isLoan_5 : decode cX4_isLoan 5 = .ok (.aload_n 0, 1) := by decide +kernel
theorem dX4_isLoan_6 : decode cX4_isLoan 6 = .ok (.getfield 49, 3) := by decide +kernel
theorem dX4_isLoan_9 : decode cX4_isLoan 9 = .ok (.if_icmp .ge 7, 3) := by decide +kernel
theorem dX4_isLoan_12 : decode cX4_isLoan 12 = .ok (.iconst 1, 1) := by decide +kernel
theorem dX4_isLoan_13 : decode cX4_isLoan 13 = .ok (.goto 4, 3) := by decide +kernel
theorem dX4_isLoan_16 : decode cX4_isLoan 16 = .ok (.iconst 0, 1) := by decide +kernel
theorem dX4_isLoan_17 : decode cX4_isLoan 17 = .ok (.ireturn, 1) := by decide +kernel
theorem dX4_addPerson_0 : decode cX4_addPerson 0 = .ok (.iload_n 1, 1) := by decide +kernel
theorem dX4_addPerson_1 : decode cX4_addPerson 1 = .ok (.ifCond .lt 9, 3) := by decide +kernel
theorem dX4_addPerson_4 : decode cX4_addPerson 4 = .ok (.iload_n 1, 1) := by decide +kernel
theorem dX4_addPerson_5 : decode cX4_addPerson 5 = .ok (.bipush 10, 2) := by decide +kernel
theorem dX4_addPerson_7 : decode cX4_addPerson 7 = .ok (.if_icmp .lt 5, 3) := by decide +kernel
theorem dX4_addPerson_10 : decode cX4_addPerson 10 = .ok (.iconst (-1), 1) := by decide +kernel
theorem dX4_addPerson_11 : decode cX4_addPerson 11 = .ok (.ireturn, 1) := by decide +kernel
theorem dX4_addPerson_12 : decode cX4_addPerson 12 = .ok (.aload_n 0, 1) := by decide +kernel
theorem dX4_addPerson_13 : decode cX4_addPerson 13 = .ok (.getfield 46, 3) := by decide +kernel
theorem dX4_addPerson_16 : decode cX4_addPerson 16 = .ok (.bipush 6, 2) := by decide +kernel
theorem dX4_addPerson_18 : decode cX4_addPerson 18 = .ok (.if_icmp .lt 6, 3) := by decide +kernel
theorem dX4_addPerson_21 : decode cX4_addPerson 21 = .ok (.bipush (-2), 2) := by decide +kernel
theorem dX4_addPerson_23 : decode cX4_addPerson 23 = .ok (.ireturn, 1) := by decide +kernel
theorem dX4_addPerson_24 : decode cX4_addPerson 24 = .ok (.aload_n 0, 1) := by decide +kernel
theorem dX4_addPerson_25 : decode cX4_addPerson 25 = .ok (.getfield 21, 3) := by decide +kernel
theorem dX4_addPerson_28 : decode cX4_addPerson 28 = .ok (.aload_n 0, 1) := by decide +kernel
theorem dX4_addPerson_29 : decode cX4_addPerson 29 = .ok (.getfield 46, 3) := by decide +kernel
theorem dX4_addPerson_32 : decode cX4_addPerson 32 = .ok (.iload_n 1, 1) := by decide +kernel
theorem dX4_addPerson_33 : decode cX4_addPerson 33 = .ok (.iastore, 1) := by decide +kernel
theorem dX4_addPerson_34 : decode cX4_addPerson 34 = .ok (.aload_n 0, 1) := by decide +kernel
theorem dX4_addPerson_35 : decode cX4_addPerson 35 = .ok (.dup, 1) := by decide +kernel
theorem dX4_addPerson_36 : decode cX4_addPerson 36 = .ok (.getfield 46, 3) := by decide +kernel
theorem dX4_addPerson_39 : decode cX4_addPerson 39 = .ok (.iconst 1, 1) := by decide +kernel
theorem dX4_addPerson_40 : decode cX4_addPerson 40 = .ok (.iadd, 1) := by decide +kernel
theorem dX4_addPerson_41 : decode cX4_addPerson 41 = .ok (.putfield 46, 3) := by decide +kernel
theorem dX4_addPerson_44 : decode cX4_addPerson 44 = .ok (.aload_n 0, 1) := by decide +kernel
theorem dX4_addPerson_45 : decode cX4_addPerson 45 = .ok (.getfield 46, 3) := by decide +kernel
theorem dX4_addPerson_48 : decode cX4_addPerson 48 = .ok (.iconst 1, 1) := by decide +kernel
theorem dX4_addPerson_49 : decode cX4_addPerson 49 = .ok (.isub, 1) := by decide +kernel
theorem dX4_addPerson_50 : decode cX4_addPerson 50 = .ok (.ireturn, 1) := by decide +kernel
set_option maxRecDepth 20000 in
theorem ggX4_addGoods_X5_isKind : GoodIn wsX4_addGoods wsX5_isKind := goodIn_r _ [7] (by decide +kernel) (by decide +kernel)
set_option maxRecDepth 20000 in
theorem gX4_addGoods_X5_isKind_n58 : GoodIn wsX4_addGoods (wsX5_isKind) := ggX4_addGoods_X5_isKind
set_option maxRecDepth 20000 in
theorem ggX4_addGoods_X5_isFigure : GoodIn wsX4_addGoods wsX5_isFigure := goodIn_r _ [9] (by decide +kernel) (by decide +kernel)
set_option maxRecDepth 20000 in
theorem gX4_addGoods_X5_isFigure_n62 : GoodIn wsX4_addGoods (wsX5_isFigure) := ggX4_addGoods_X5_isFigure
set_option maxRecDepth 20000 in
theorem ggX4_addGoods_X4_isPerson : GoodIn wsX4_addGoods wsX4_isPerson := goodIn_r _ [14, 15, 16, 17, 18, 19, 20, 21, 22, 23, 24, 25, 26, 27, 28] (by decide +kernel) (by decide +kernel)
set_option maxRecDepth 20000 in
theorem gX4_addGoods_X4_isPerson : GoodIn wsX4_addGoods (wsV RX4 65 RX4 yX4_isPerson wsX4_isPerson) := goodIn_app (goodIn_of _ (by decide +kernel)) ggX4_addGoods_X4_isPerson
theorem dX4_addGoods_0 : decode cX4_addGoods 0 = .ok (.iload_n 1, 1) := by decide +kernel
theorem dX4_addGoods_1 : decode cX4_addGoods 1 = .ok (.invokestatic 58, 3) := by decide +kernel
theorem dX4_addGoods_4 : decode cX4_addGoods 4 = .ok (.ifCond .eq 18, 3) := by decide +kernel
theorem dX4_addGoods_7 : decode cX4_addGoods 7 = .ok (.iload_n 2, 1) := by decide +kernel
theorem dX4_addGoods_8 : decode cX4_addGoods 8 = .ok (.invokestatic 62, 3) := by decide +kernel
theorem dX4_addGoods_11 : decode cX4_addGoods 11 = .ok (.ifCond .eq 11, 3) := by decide +kernel
theorem dX4_addGoods_14 : decode cX4_addGoods 14 = .ok (.aload_n 0, 1) := by decide +kernel
theorem dX4_addGoods_15 : decode cX4_addGoods 15 = .ok (.iload_n 3, 1) := by decide +kernel
theorem dX4_addGoods_16 : decode cX4_addGoods 16 = .ok (.invokevirtual 65, 3) := by decide +kernel
theorem dX4_addGoods_19 : decode cX4_addGoods 19 = .ok (.ifCond .ne 5, 3) := by decide +kernel
theorem dX4_addGoods_22 : decode cX4_addGoods 22 = .ok (.iconst (-1), 1) := by decide +kernel
theorem dX4_addGoods_23 : decode cX4_addGoods 23 = .ok (.ireturn, 1) := by decide +kernel
theorem dX4_addGoods_24 : decode cX4_addGoods 24 = .ok (.aload_n 0, 1) := by decide +kernel
theorem dX4_addGoods_25 : decode cX4_addGoods 25 = .ok (.getfield 42, 3) := by decide +kernel
theorem dX4_addGoods_28 : decode cX4_addGoods 28 = .ok (.bipush 8, 2) := by decide +kernel
theorem dX4_addGoods_30 : decode cX4_addGoods 30 = .ok (.if_icmp .lt 6, 3) := by decide +kernel
theorem dX4_addGoods_33 : decode cX4_addGoods 33 = .ok (.bipush (-2), 2) := by decide +kernel
theorem dX4_addGoods_35 : decode cX4_addGoods 35 = .ok (.ireturn, 1) := by decide +kernel
theorem dX4_addGoods_36 : decode cX4_addGoods 36 = .ok (.aload_n 0, 1) := by decide +kernel
theorem dX4_addGoods_37 : decode cX4_addGoods 37 = .ok (.getfield 9, 3) := by decide +kernel
theorem dX4_addGoods_40 : decode cX4_addGoods 40 = .ok (.aload_n 0, 1) := by decide +kernel
theorem dX4_addGoods_41 : decode cX4_addGoods 41 = .ok (.getfield 42, 3) := by decide +kernel
theorem dX4_addGoods_44 : decode cX4_addGoods 44 = .ok (.iload_n 1, 1) := by decide +kernel
theorem dX4_addGoods_45 : decode cX4_addGoods 45 = .ok (.iastore, 1) := by decide +kernel
theorem dX4_addGoods_46 : decode cX4_addGoods 46 = .ok (.aload_n 0, 1) := by decide +kernel
theorem dX4_addGoods_47 : decode cX4_addGoods 47 = .ok (.getfield 15, 3) := by decide +kernel
theorem dX4_addGoods_50 : decode cX4_addGoods 50 = .ok (.aload_n 0, 1) := by decide +kernel
theorem dX4_addGoods_51 : decode cX4_addGoods 51 = .ok (.getfield 42, 3) := by decide +kernel
theorem dX4_addGoods_54 : decode cX4_addGoods 54 = .ok (.iload_n 2, 1) := by decide +kernel
theorem dX4_addGoods_55 : decode cX4_addGoods 55 = .ok (.iastore, 1) := by decide +kernel
theorem dX4_addGoods_56 : decode cX4_addGoods 56 = .ok (.aload_n 0, 1) := by decide +kernel
theorem dX4_addGoods_57 : decode cX4_addGoods 57 = .ok (.getfield 18, 3) := by decide +kernel
theorem dX4_addGoods_60 : decode cX4_addGoods 60 = .ok (.aload_n 0, 1) := by decide +kernel
theorem dX4_addGoods_61 : decode cX4_addGoods 61 = .ok (.getfield 42, 3) := by decide +kernel
theorem dX4_addGoods_64 : decode cX4_addGoods 64 = .ok (.iload_n 3, 1) := by decide +kernel
theorem dX4_addGoods_65 : decode cX4_addGoods 65 = .ok (.iastore, 1) := by decide +kernel
theorem dX4_addGoods_66 : decode cX4_addGoods 66 = .ok (.aload_n 0, 1) := by decide +kernel
theorem dX4_addGoods_67 : decode cX4_addGoods 67 = .ok (.dup, 1) := by decide +kernel
theorem dX4_addGoods_68 : decode cX4_addGoods 68 = .ok (.getfield 42, 3) := by decide +kernel
theorem dX4_addGoods_71 : decode cX4_addGoods 71 = .ok (.iconst 1, 1) := by decide +kernel
theorem dX4_addGoods_72 : decode cX4_addGoods 72 = .ok (.iadd, 1) := by decide +kernel
theorem dX4_addGoods_73 : decode cX4_addGoods 73 = .ok (.putfield 42, 3) := by decide +kernel
theorem dX4_addGoods_76 : decode cX4_addGoods 76 = .ok (.aload_n 0, 1) := by decide +kernel
theorem dX4_addGoods_77 : decode cX4_addGoods 77 = .ok (.getfield 42, 3) := by decide +kernel
theorem dX4_addGoods_80 : decode cX4_addGoods 80 = .ok (.iconst 1, 1) := by decide +kernel
theorem dX4_addGoods_81 : decode cX4_addGoods 81 = .ok (.isub, 1) := by decide +kernel
theorem dX4_addGoods_82 : decode cX4_addGoods 82 = .ok (.ireturn, 1) := by decide +kernel
set_option maxRecDepth 20000 in
theorem ggX4_addLoan_X4_isGoods : GoodIn wsX4_addLoan wsX4_isGoods := goodIn_r _ [11, 12, 18, 19, 20, 21, 22, 23, 24, 25, 26, 27, 28, 29, 30] (by decide +kernel) (by decide +kernel)
set_option maxRecDepth 20000 in
theorem gX4_addLoan_X4_isGoods : GoodIn wsX4_addLoan (wsV RX4 68 RX4 yX4_isGoods wsX4_isGoods) := goodIn_app (goodIn_of _ (by decide +kernel)) ggX4_addLoan_X4_isGoods
set_option maxRecDepth 20000 in
theorem ggX4_addLoan_X4_isPerson : GoodIn wsX4_addLoan wsX4_isPerson := goodIn_r _ [16, 17, 18, 19, 20, 21, 22, 23, 24, 25, 26, 27, 28, 29, 30] (by decide +kernel) (by decide +kernel)
set_option maxRecDepth 20000 in
theorem gX4_addLoan_X4_isPerson : GoodIn wsX4_addLoan (wsV RX4 65 RX4 yX4_isPerson wsX4_isPerson) := goodIn_app (goodIn_of _ (by decide +kernel)) ggX4_addLoan_X4_isPerson
theorem dX4_addLoan_0 : decode cX4_addLoan 0 = .ok (.aload_n 0, 1) := by decide +kernel
theorem dX4_addLoan_1 : decode cX4_addLoan 1 = .ok (.iload_n 1, 1) := by decide +kernel
theorem dX4_addLoan_2 : decode cX4_addLoan 2 = .ok (.invokevirtual 68, 3) := by decide +kernel
theorem dX4_addLoan_5 : decode cX4_addLoan 5 = .ok (.ifCond .eq 11, 3) := by decide +kernel
theorem dX4_addLoan_8 : decode cX4_addLoan 8 = .ok (.aload_n 0, 1) := by decide +kernel
theorem dX4_addLoan_9 : decode cX4_addLoan 9 = .ok (.iload_n 2, 1) := by decide +kernel
theorem dX4_addLoan_10 : decode cX4_addLoan 10 = .ok (.invokevirtual 65, 3) := by decide +kernel
theorem dX4_addLoan_13 : decode cX4_addLoan 13 = .ok (.ifCond .ne 5, 3) := by decide +kernel
theorem dX4_addLoan_16 : decode cX4_addLoan 16 = .ok (.iconst (-1), 1) := by decide +kernel
theorem dX4_addLoan_17 : decode cX4_addLoan 17 = .ok (.ireturn, 1) := by decide +kernel
theorem dX4_addLoan_18 : decode cX4_addLoan 18 = .ok (.aload_n 0, 1) := by decide +kernel
theorem dX4_addLoan_19 : decode cX4_addLoan 19 = .ok (.getfield 18, 3) := by decide +kernel
theorem dX4_addLoan_22 : decode cX4_addLoan 22 = .ok (.iload_n 1, 1) := by decide +kernel
theorem dX4_addLoan_23 : decode cX4_addLoan 23 = .ok (.iaload, 1) := by decide +kernel
theorem dX4_addLoan_24 : decode cX4_addLoan 24 = .ok (.iload_n 2, 1) := by decide +kernel
theorem dX4_addLoan_25 : decode cX4_addLoan 25 = .ok (.if_icmp .ne 6, 3) := by decide +kernel
theorem dX4_addLoan_28 : decode cX4_addLoan 28 = .ok (.bipush (-3), 2) := by decide +kernel
theorem dX4_addLoan_30 : decode cX4_addLoan 30 = .ok (.ireturn, 1) := by decide +kernel
theorem dX4_addLoan_31 : decode cX4_addLoan 31 = .ok (.aload_n 0, 1) := by decide +kernel
theorem dX4_addLoan_32 : decode cX4_addLoan 32 = .ok (.getfield 49, 3) := by decide +kernel
theorem dX4_addLoan_35 : decode cX4_addLoan 35 = .ok (.bipush 8, 2) := by decide +kernel
theorem dX4_addLoan_37 : decode cX4_addLoan 37 = .ok (.if_icmp .lt 6, 3) := by decide +kernel
theorem dX4_addLoan_40 : decode cX4_addLoan 40 = .ok (.bipush (-2), 2) := by decide +kernel
theorem dX4_addLoan_42 : decode cX4_addLoan 42 = .ok (.ireturn, 1) := by decide +kernel
theorem dX4_addLoan_43 : decode cX4_addLoan 43 = .ok (.aload_n 0, 1) := by decide +kernel
theorem dX4_addLoan_44 : decode cX4_addLoan 44 = .ok (.getfield 24, 3) := by decide +kernel
theorem dX4_addLoan_47 : decode cX4_addLoan 47 = .ok (.aload_n 0, 1) := by decide +kernel
theorem dX4_addLoan_48 : decode cX4_addLoan 48 = .ok (.getfield 49, 3) := by decide +kernel
theorem dX4_addLoan_51 : decode cX4_addLoan 51 = .ok (.aload_n 0, 1) := by decide +kernel
theorem dX4_addLoan_52 : decode cX4_addLoan 52 = .ok (.getfield 18, 3) := by decide +kernel
theorem dX4_addLoan_55 : decode cX4_addLoan 55 = .ok (.iload_n 1, 1) := by decide +kernel
theorem dX4_addLoan_56 : decode cX4_addLoan 56 = .ok (.iaload, 1) := by decide +kernel
theorem dX4_addLoan_57 : decode cX4_addLoan 57 = .ok (.iastore, 1) := by decide +kernel
theorem dX4_addLoan_58 : decode cX4_addLoan 58 = .ok (.aload_n 0, 1) := by decide +kernel
theorem dX4_addLoan_59 : decode cX4_addLoan 59 = .ok (.getfield 27, 3) := by decide +kernel
theorem dX4_addLoan_62 : decode cX4_addLoan 62 = .ok (.aload_n 0, 1) := by decide +kernel
theorem dX4_addLoan_63 : decode cX4_addLoan 63 = .ok (.getfield 49, 3) := by decide +kernel
theorem dX4_addLoan_66 : decode cX4_addLoan 66 = .ok (.iload_n 2, 1) := by decide +kernel
theorem dX4_addLoan_67 : decode cX4_addLoan 67 = .ok (.iastore, 1) := by decide +kernel
theorem dX4_addLoan_68 : decode cX4_addLoan 68 = .ok (.aload_n 0, 1) := by decide +kernel
theorem dX4_addLoan_69 : decode cX4_addLoan 69 = .ok (.getfield 30, 3) := by decide +kernel
theorem dX4_addLoan_72 : decode cX4_addLoan 72 = .ok (.aload_n 0, 1) := by decide +kernel
theorem dX4_addLoan_73 : decode cX4_addLoan 73 = .ok (.getfield 49, 3) := by decide +kernel
theorem dX4_addLoan_76 : decode cX4_addLoan 76 = .ok (.iload_n 1, 1) := by decide +kernel
theorem dX4_addLoan_77 : decode cX4_addLoan 77 = .ok (.iastore, 1) := by decide +kernel
theorem dX4_addLoan_78 : decode cX4_addLoan 78 = .ok (.aload_n 0, 1) := by decide +kernel
theorem dX4_addLoan_79 : decode cX4_addLoan 79 = .ok (.dup, 1) := by decide +kernel
theorem dX4_addLoan_80 : decode cX4_addLoan 80 = .ok (.getfield 52, 3) := by decide +kernel
theorem dX4_addLoan_83 : decode cX4_addLoan 83 = .ok (.iconst 1, 1) := by decide +kernel
theorem dX4_addLoan_84 : decode cX4_addLoan 84 = .ok (.aload_n 0, 1) := by decide +kernel
theorem dX4_addLoan_85 : decode cX4_addLoan 85 = .ok (.getfield 49, 3) := by decide +kernel
theorem dX4_addLoan_88 : decode cX4_addLoan 88 = .ok (.ishl, 1) := by decide +kernel
theorem dX4_addLoan_89 : decode cX4_addLoan 89 = .ok (.ior, 1) := by decide +kernel
theorem dX4_addLoan_90 : decode cX4_addLoan 90 = .ok (.putfield 52, 3) := by decide +kernel
theorem dX4_addLoan_93 : decode cX4_addLoan 93 = .ok (.aload_n 0, 1) := by decide +kernel
theorem dX4_addLoan_94 : decode cX4_addLoan 94 = .ok (.getfield 18, 3) := by decide +kernel
theorem dX4_addLoan_97 : decode cX4_addLoan 97 = .ok (.iload_n 1, 1) := by decide +kernel
theorem dX4_addLoan_98 : decode cX4_addLoan 98 = .ok (.iload_n 2, 1) := by decide +kernel
theorem dX4_addLoan_99 : decode cX4_addLoan 99 = .ok (.iastore, 1) := by decide +kernel
theorem dX4_addLoan_100 : decode cX4_addLoan 100 = .ok (.aload_n 0, 1) := by decide +kernel
theorem dX4_addLoan_101 : decode cX4_addLoan 101 = .ok (.dup, 1) := by decide +kernel
theorem dX4_addLoan_102 : decode cX4_addLoan 102 = .ok (.getfield 49, 3) := by decide +kernel
theorem dX4_addLoan_105 : decode cX4_addLoan 105 = .ok (.iconst 1, 1) := by decide +kernel
theorem dX4_addLoan_106 : decode cX4_addLoan 106 = .ok (.iadd, 1) := by decide +kernel
theorem dX4_addLoan_107 : decode cX4_addLoan 107 = .ok (.putfield 49, 3) := by decide +kernel
theorem dX4_addLoan_110 : decode cX4_addLoan 110 = .ok (.aload_n 0, 1) := by decide +kernel
theorem dX4_addLoan_111 : decode cX4_addLoan 111 = .ok (.getfield 49, 3) := by decide +kernel
theorem dX4_addLoan_114 : decode cX4_addLoan 114 = .ok (.iconst 1, 1) := by decide +kernel
theorem dX4_addLoan_115 : decode cX4_addLoan 115 = .ok (.isub, 1) := by decide +kernel
theorem dX4_addLoan_116 : decode cX4_addLoan 116 = .ok (.ireturn, 1) := by decide +kernel
set_option maxRecDepth 20000 in
theorem ggX4_liken_X5_isKind : GoodIn wsX4_liken wsX5_isKind := goodIn_r _ [4] (by decide +kernel) (by decide +kernel)
set_option maxRecDepth 20000 in
theorem gX4_liken_X5_isKind_n58 : GoodIn wsX4_liken (wsX5_isKind) := ggX4_liken_X5_isKind
theorem dX4_liken_0 : decode cX4_liken 0 = .ok (.iload_n 1, 1) := by decide +kernel
theorem dX4_liken_1 : decode cX4_liken 1 = .ok (.invokestatic 58, 3) := by decide +kernel
theorem dX4_liken_4 : decode cX4_liken 4 = .ok (.ifCond .eq 10, 3) := by decide +kernel
theorem dX4_liken_7 : decode cX4_liken 7 = .ok (.iload_n 2, 1) := by decide +kernel
theorem dX4_liken_8 : decode cX4_liken 8 = .ok (.invokestatic 58, 3) := by decide +kernel
theorem dX4_liken_11 : decode cX4_liken 11 = .ok (.ifCond .ne 5, 3) := by decide +kernel
theorem dX4_liken_14 : decode cX4_liken 14 = .ok (.iconst (-1), 1) := by decide +kernel
theorem dX4_liken_15 : decode cX4_liken 15 = .ok (.ireturn, 1) := by decide +kernel
theorem dX4_liken_16 : decode cX4_liken 16 = .ok (.aload_n 0, 1) := by decide +kernel
theorem dX4_liken_17 : decode cX4_liken 17 = .ok (.getfield 33, 3) := by decide +kernel
theorem dX4_liken_20 : decode cX4_liken 20 = .ok (.iload_n 2, 1) := by decide +kernel
theorem dX4_liken_21 : decode cX4_liken 21 = .ok (.iaload, 1) := by decide +kernel
theorem dX4_liken_22 : decode cX4_liken 22 = .ok (.istore_n 3, 1) := by decide +kernel
theorem dX4_liken_23 : decode cX4_liken 23 = .ok (.aload_n 0, 1) := by decide +kernel
theorem dX4_liken_24 : decode cX4_liken 24 = .ok (.getfield 33, 3) := by decide +kernel
theorem dX4_liken_27 : decode cX4_liken 27 = .ok (.iload_n 2, 1) := by decide +kernel
theorem dX4_liken_28 : decode cX4_liken 28 = .ok (.aload_n 0, 1) := by decide +kernel
theorem dX4_liken_29 : decode cX4_liken 29 = .ok (.getfield 33, 3) := by decide +kernel
theorem dX4_liken_32 : decode cX4_liken 32 = .ok (.iload_n 1, 1) := by decide +kernel
theorem dX4_liken_33 : decode cX4_liken 33 = .ok (.iaload, 1) := by decide +kernel
theorem dX4_liken_34 : decode cX4_liken 34 = .ok (.iastore, 1) := by decide +kernel
theorem dX4_liken_35 : decode cX4_liken 35 = .ok (.iload_n 3, 1) := by decide +kernel
theorem dX4_liken_36 : decode cX4_liken 36 = .ok (.ireturn, 1) := by decide +kernel
set_option maxRecDepth 20000 in
theorem ggX4_passWeeks_X4_passWeek : GoodIn wsX4_passWeeks wsX4_passWeek := goodIn_r _ [7, 1, 8, 9, 10, 11, 12, 6, 13, 2, 14, 15, 16, 17, 18, 19, 20, 21, 22, 23, 24, 25, 26, 27, 28, 29, 30, 31, 32, 33, 34, 35, 36, 37, 38, 39, 40, 41, 42, 43, 44, 45, 46, 54, 55, 56, 57, 58, 59, 60, 61, 62, 63, 64, 65, 66] (by decide +kernel) (by decide +kernel)
set_option maxRecDepth 20000 in
theorem gX4_passWeeks_X4_passWeek : GoodIn wsX4_passWeeks (wsV RX4 71 RX4 yX4_passWeek wsX4_passWeek) := goodIn_app (goodIn_of _ (by decide +kernel)) ggX4_passWeeks_X4_passWeek
set_option maxRecDepth 20000 in
theorem ggX4_passWeeks_J6_bitCount_0f7a4 : GoodIn wsX4_passWeeks wsJ6_bitCount_0f7a4 := goodIn_r _ [50, 51, 52, 53] (by decide +kernel) (by decide +kernel)
set_option maxRecDepth 20000 in
theorem gX4_passWeeks_J6_bitCount_0f7a4 : GoodIn wsX4_passWeeks (va_wsS RX4 74 yJ6_bitCount_0f7a4 wsJ6_bitCount_0f7a4) := goodIn_app (goodIn_of _ (by decide +kernel)) ggX4_passWeeks_J6_bitCount_0f7a4
theorem dX4_passWeeks_0 : decode cX4_passWeeks 0 = .ok (.iload_n 1, 1) := by decide +kernel
theorem dX4_passWeeks_1 : decode cX4_passWeeks 1 = .ok (.iconst 1, 1) := by decide +kernel
theorem dX4_passWeeks_2 : decode cX4_passWeeks 2 = .ok (.if_icmp .lt 9, 3) := by decide +kernel
theorem dX4_passWeeks_5 : decode cX4_passWeeks 5 = .ok (.iload_n 1, 1) := by decide +kernel
theorem dX4_passWeeks_6 : decode cX4_passWeeks 6 = .ok (.bipush 60, 2) := by decide +kernel
theorem dX4_passWeeks_8 : decode cX4_passWeeks 8 = .ok (.if_icmp .le 5, 3) := by decide +kernel
theorem dX4_passWeeks_11 : decode cX4_passWeeks 11 = .ok (.iconst (-1), 1) := by decide +kernel
theorem dX4_passWeeks_12 : decode cX4_passWeeks 12 = .ok (.ireturn, 1) := by decide +kernel
theorem dX4_passWeeks_13 : decode cX4_passWeeks 13 = .ok (.aload_n 0, 1) := by decide +kernel
theorem dX4_passWeeks_14 : decode cX4_passWeeks 14 = .ok (.getfield 55, 3) := by decide +kernel
theorem dX4_passWeeks_17 : decode cX4_passWeeks 17 = .ok (.iload_n 1, 1) := by decide +kernel
theorem dX4_passWeeks_18 : decode cX4_passWeeks 18 = .ok (.iadd, 1) := by decide +kernel
theorem dX4_passWeeks_19 : decode cX4_passWeeks 19 = .ok (.sipush 999, 3) := by decide +kernel
theorem dX4_passWeeks_22 : decode cX4_passWeeks 22 = .ok (.if_icmp .le 6, 3) := by decide +kernel
theorem dX4_passWeeks_25 : decode cX4_passWeeks 25 = .ok (.bipush (-3), 2) := by decide +kernel
theorem dX4_passWeeks_27 : decode cX4_passWeeks 27 = .ok (.ireturn, 1) := by decide +kernel
theorem dX4_passWeeks_28 : decode cX4_passWeeks 28 = .ok (.iconst 0, 1) := by decide +kernel
theorem dX4_passWeeks_29 : decode cX4_passWeeks 29 = .ok (.istore_n 2, 1) := by decide +kernel
theorem dX4_passWeeks_30 : decode cX4_passWeeks 30 = .ok (.iload_n 2, 1) := by decide +kernel
theorem dX4_passWeeks_31 : decode cX4_passWeeks 31 = .ok (.iload_n 1, 1) := by decide +kernel
theorem dX4_passWeeks_32 : decode cX4_passWeeks 32 = .ok (.if_icmp .ge 13, 3) := by decide +kernel
theorem dX4_passWeeks_35 : decode cX4_passWeeks 35 = .ok (.aload_n 0, 1) := by decide +kernel
theorem dX4_passWeeks_36 : decode cX4_passWeeks 36 = .ok (.invokevirtual 71, 3) := by decide +kernel
theorem dX4_passWeeks_39 : decode cX4_passWeeks 39 = .ok (.iinc 2 1, 3) := by decide +kernel
theorem dX4_passWeeks_42 : decode cX4_passWeeks 42 = .ok (.goto (-12), 3) := by decide +kernel
theorem dX4_passWeeks_45 : decode cX4_passWeeks 45 = .ok (.aload_n 0, 1) := by decide +kernel
theorem dX4_passWeeks_46 : decode cX4_passWeeks 46 = .ok (.getfield 52, 3) := by decide +kernel
theorem dX4_passWeeks_49 : decode cX4_passWeeks 49 = .ok (.invokestatic 74, 3) := by decide +kernel
theorem dX4_passWeeks_52 : decode cX4_passWeeks 52 = .ok (.ireturn, 1) := by decide +kernel
set_option maxRecDepth 20000 in
theorem ggX4_passWeek_X4_payers : GoodIn wsX4_passWeek wsX4_payers := goodIn_r _ [8, 9, 3, 10, 11, 12, 13, 14, 15, 16, 17, 7, 18, 19, 20, 21, 22, 23, 24, 25, 26, 27, 1, 28, 29, 30, 43, 44, 45, 46, 47, 48, 49, 50, 51, 52, 53, 54, 55] (by decide +kernel) (by decide +kernel)
set_option maxRecDepth 20000 in
theorem gX4_passWeek_X4_payers : GoodIn wsX4_passWeek (wsV RX4 80 RX4 yX4_payers wsX4_payers) := goodIn_app (goodIn_of _ (by decide +kernel)) ggX4_passWeek_X4_payers
set_option maxRecDepth 20000 in
theorem ggX4_passWeek_X4_choice : GoodIn wsX4_passWeek wsX4_choice := goodIn_r _ [34, 19, 35, 36, 37, 7, 38, 26, 27, 25, 1, 29, 13, 30, 12, 14, 43, 44, 45, 46, 47, 48, 49, 50, 51, 52, 53, 54, 55] (by decide +kernel) (by decide +kernel)
set_option maxRecDepth 20000 in
theorem gX4_passWeek_X4_choice : GoodIn wsX4_passWeek (wsV RX4 83 RX4 yX4_choice wsX4_choice) := goodIn_app (goodIn_of _ (by decide +kernel)) ggX4_passWeek_X4_choice
set_option maxRecDepth 20000 in
theorem ggX4_passWeek_X4_settle : GoodIn wsX4_passWeek wsX4_settle := goodIn_r _ [42, 20, 10, 9, 43, 44, 45, 46, 47, 48, 49, 50, 51, 52, 53, 54, 55] (by decide +kernel) (by decide +kernel)
set_option maxRecDepth 20000 in
theorem gX4_passWeek_X4_settle : GoodIn wsX4_passWeek (wsV RX4 87 RX4 yX4_settle wsX4_settle) := goodIn_app (goodIn_of _ (by decide +kernel)) ggX4_passWeek_X4_settle
theorem dX4_passWeek_0 : decode cX4_passWeek 0 = .ok (.aload_n 0, 1) := by decide +kernel
theorem dX4_passWeek_1 : decode cX4_passWeek 1 = .ok (.dup, 1) := by decide +kernel
theorem dX4_passWeek_2 : decode cX4_passWeek 2 = .ok (.getfield 55, 3) := by decide +kernel
theorem dX4_passWeek_5 : decode cX4_passWeek 5 = .ok (.iconst 1, 1) := by decide +kernel
theorem dX4_passWeek_6 : decode cX4_passWeek 6 = .ok (.iadd, 1) := by decide +kernel
theorem dX4_passWeek_7 : decode cX4_passWeek 7 = .ok (.putfield 55, 3) := by decide +kernel
theorem dX4_passWeek_10 : decode cX4_passWeek 10 = .ok (.iconst 0, 1) := by decide +kernel
theorem dX4_passWeek_11 : decode cX4_passWeek 11 = .ok (.istore_n 1, 1) := by decide +kernel
theorem dX4_passWeek_12 : decode cX4_passWeek 12 = .ok (.iload_n 1, 1) := by decide +kernel
theorem dX4_passWeek_13 : decode cX4_passWeek 13 = .ok (.aload_n 0, 1) := by decide +kernel
theorem dX4_passWeek_14 : decode cX4_passWeek 14 = .ok (.getfield 49, 3) := by decide +kernel
theorem dX4_passWeek_17 : decode cX4_passWeek 17 = .ok (.if_icmp .ge 36, 3) := by decide +kernel
theorem dX4_passWeek_20 : decode cX4_passWeek 20 = .ok (.aload_n 0, 1) := by decide +kernel
theorem dX4_passWeek_21 : decode cX4_passWeek 21 = .ok (.aload_n 0, 1) := by decide +kernel
theorem dX4_passWeek_22 : decode cX4_passWeek 22 = .ok (.getfield 27, 3) := by decide +kernel
theorem dX4_passWeek_25 : decode cX4_passWeek 25 = .ok (.iload_n 1, 1) := by decide +kernel
theorem dX4_passWeek_26 : decode cX4_passWeek 26 = .ok (.iaload, 1) := by decide +kernel
theorem dX4_passWeek_27 : decode cX4_passWeek 27 = .ok (.aload_n 0, 1) := by decide +kernel
theorem dX4_passWeek_28 : decode cX4_passWeek 28 = .ok (.iload_n 1, 1) := by decide +kernel
theorem dX4_passWeek_29 : decode cX4_passWeek 29 = .ok (.invokevirtual 80, 3) := by decide +kernel
theorem dX4_passWeek_32 : decode cX4_passWeek 32 = .ok (.iconst (-1), 1) := by decide +kernel
theorem dX4_passWeek_33 : decode cX4_passWeek 33 = .ok (.invokevirtual 83, 3) := by decide +kernel
theorem dX4_passWeek_36 : decode cX4_passWeek 36 = .ok (.istore_n 2, 1) := by decide +kernel
theorem dX4_passWeek_37 : decode cX4_passWeek 37 = .ok (.iload_n 2, 1) := by decide +kernel
theorem dX4_passWeek_38 : decode cX4_passWeek 38 = .ok (.ifCond .lt 9, 3) := by decide +kernel
theorem dX4_passWeek_41 : decode cX4_passWeek 41 = .ok (.aload_n 0, 1) := by decide +kernel
theorem dX4_passWeek_42 : decode cX4_passWeek 42 = .ok (.iload_n 1, 1) := by decide +kernel
theorem dX4_passWeek_43 : decode cX4_passWeek 43 = .ok (.iload_n 2, 1) := by decide +kernel
theorem dX4_passWeek_44 : decode cX4_passWeek 44 = .ok (.invokevirtual 87, 3) := by decide +kernel
theorem dX4_passWeek_47 : decode cX4_passWeek 47 = .ok (.iinc 1 1, 3) := by decide +kernel
theorem dX4_passWeek_50 : decode cX4_passWeek 50 = .ok (.goto (-38), 3) := by decide +kernel
theorem dX4_passWeek_53 : decode cX4_passWeek 53 = .ok (.return_, 1) := by decide +kernel
theorem dX4_settle_0 : decode cX4_settle 0 = .ok (.aload_n 0, 1) := by decide +kernel
theorem dX4_settle_1 : decode cX4_settle 1 = .ok (.getfield 18, 3) := by decide +kernel
theorem dX4_settle_4 : decode cX4_settle 4 = .ok (.iload_n 2, 1) := by decide +kernel
theorem dX4_settle_5 : decode cX4_settle 5 = .ok (.aload_n 0, 1) := by decide +kernel
theorem dX4_settle_6 : decode cX4_settle 6 = .ok (.getfield 24, 3) := by decide +kernel
theorem dX4_settle_9 : decode cX4_settle 9 = .ok (.iload_n 1, 1) := by decide +kernel
theorem dX4_settle_10 : decode cX4_settle 10 = .ok (.iaload, 1) := by decide +kernel
theorem dX4_settle_11 : decode cX4_settle 11 = .ok (.iastore, 1) := by decide +kernel
theorem dX4_settle_12 : decode cX4_settle 12 = .ok (.aload_n 0, 1) := by decide +kernel
theorem dX4_settle_13 : decode cX4_settle 13 = .ok (.dup, 1) := by decide +kernel
theorem dX4_settle_14 : decode cX4_settle 14 = .ok (.getfield 52, 3) := by decide +kernel
theorem dX4_settle_17 : decode cX4_settle 17 = .ok (.iconst 1, 1) := by decide +kernel
theorem dX4_settle_18 : decode cX4_settle 18 = .ok (.iload_n 1, 1) := by decide +kernel
theorem dX4_settle_19 : decode cX4_settle 19 = .ok (.ishl, 1) := by decide +kernel
theorem dX4_settle_20 : decode cX4_settle 20 = .ok (.iconst (-1), 1) := by decide +kernel
theorem dX4_settle_21 : decode cX4_settle 21 = .ok (.ixor, 1) := by decide +kernel
theorem dX4_settle_22 : decode cX4_settle 22 = .ok (.iand, 1) := by decide +kernel
theorem dX4_settle_23 : decode cX4_settle 23 = .ok (.putfield 52, 3) := by decide +kernel
theorem dX4_settle_26 : decode cX4_settle 26 = .ok (.return_, 1) := by decide +kernel
set_option maxRecDepth 20000 in
theorem ggX4_worthTo_X5_worthOf : GoodIn wsX4_worthTo wsX5_worthOf := goodIn_r _ [7] (by decide +kernel) (by decide +kernel)
set_option maxRecDepth 20000 in
theorem gX4_worthTo_X5_worthOf_n91 : GoodIn wsX4_worthTo (wsX5_worthOf) := ggX4_worthTo_X5_worthOf
theorem dX4_worthTo_0 : decode cX4_worthTo 0 = .ok (.aload_n 0, 1) := by decide +kernel
theorem dX4_worthTo_1 : decode cX4_worthTo 1 = .ok (.getfield 9, 3) := by decide +kernel
theorem dX4_worthTo_4 : decode cX4_worthTo 4 = .ok (.iload_n 2, 1) := by decide +kernel
theorem dX4_worthTo_5 : decode cX4_worthTo 5 = .ok (.iaload, 1) := by decide +kernel
theorem dX4_worthTo_6 : decode cX4_worthTo 6 = .ok (.aload_n 0, 1) := by decide +kernel
theorem dX4_worthTo_7 : decode cX4_worthTo 7 = .ok (.getfield 15, 3) := by decide +kernel
theorem dX4_worthTo_10 : decode cX4_worthTo 10 = .ok (.iload_n 2, 1) := by decide +kernel
theorem dX4_worthTo_11 : decode cX4_worthTo 11 = .ok (.iaload, 1) := by decide +kernel
theorem dX4_worthTo_12 : decode cX4_worthTo 12 = .ok (.aload_n 0, 1) := by decide +kernel
theorem dX4_worthTo_13 : decode cX4_worthTo 13 = .ok (.getfield 21, 3) := by decide +kernel
theorem dX4_worthTo_16 : decode cX4_worthTo 16 = .ok (.iload_n 1, 1) := by decide +kernel
theorem dX4_worthTo_17 : decode cX4_worthTo 17 = .ok (.iaload, 1) := by decide +kernel
theorem dX4_worthTo_18 : decode cX4_worthTo 18 = .ok (.aload_n 0, 1) := by decide +kernel
theorem dX4_worthTo_19 : decode cX4_worthTo 19 = .ok (.getfield 55, 3) := by decide +kernel
theorem dX4_worthTo_22 : decode cX4_worthTo 22 = .ok (.invokestatic 91, 3) := by decide +kernel
theorem dX4_worthTo_25 : decode cX4_worthTo 25 = .ok (.ireturn, 1) := by decide +kernel
set_option maxRecDepth 20000 in
theorem ggX4_isTaken_X4_takenFor : GoodIn wsX4_isTaken wsX4_takenFor := goodIn_r _ [5, 6, 7, 8, 9, 10, 11, 12, 13, 14, 17, 18, 19, 20, 21, 22, 23, 24, 25, 26, 27, 28, 29] (by decide +kernel) (by decide +kernel)
set_option maxRecDepth 20000 in
theorem gX4_isTaken_X4_takenFor : GoodIn wsX4_isTaken (wsV RX4 95 RX4 yX4_takenFor wsX4_takenFor) := goodIn_app (goodIn_of _ (by decide +kernel)) ggX4_isTaken_X4_takenFor
set_option maxRecDepth 20000 in
theorem ggX4_isTaken_X5_has : GoodIn wsX4_isTaken wsX5_has := goodIn_r _ [16] (by decide +kernel) (by decide +kernel)
set_option maxRecDepth 20000 in
theorem gX4_isTaken_X5_has_n99 : GoodIn wsX4_isTaken (wsX5_has) := ggX4_isTaken_X5_has
theorem dX4_isTaken_0 : decode cX4_isTaken 0 = .ok (.aload_n 0, 1) := by decide +kernel
theorem dX4_isTaken_1 : decode cX4_isTaken 1 = .ok (.iload_n 1, 1) := by decide +kernel
theorem dX4_isTaken_2 : decode cX4_isTaken 2 = .ok (.iload_n 2, 1) := by decide +kernel
theorem dX4_isTaken_3 : decode cX4_isTaken 3 = .ok (.invokevirtual 95, 3) := by decide +kernel
theorem dX4_isTaken_6 : decode cX4_isTaken 6 = .ok (.iload_n 3, 1) := by decide +kernel
theorem dX4_isTaken_7 : decode cX4_isTaken 7 = .ok (.invokestatic 99, 3) := by decide +kernel
theorem dX4_isTaken_10 : decode cX4_isTaken 10 = .ok (.ireturn, 1) := by decide +kernel
set_option maxRecDepth 20000 in
theorem ggX4_takenFor_X5_worthOf : GoodIn wsX4_takenFor wsX5_worthOf := goodIn_r _ [9] (by decide +kernel) (by decide +kernel)
set_option maxRecDepth 20000 in
theorem gX4_takenFor_X5_worthOf_n91 : GoodIn wsX4_takenFor (wsX5_worthOf) := ggX4_takenFor_X5_worthOf
theorem dX4_takenFor_0 : decode cX4_takenFor 0 = .ok (.aload_n 0, 1) := by decide +kernel
theorem dX4_takenFor_1 : decode cX4_takenFor 1 = .ok (.getfield 21, 3) := by decide +kernel
theorem dX4_takenFor_4 : decode cX4_takenFor 4 = .ok (.iload_n 1, 1) := by decide +kernel
theorem dX4_takenFor_5 : decode cX4_takenFor 5 = .ok (.iaload, 1) := by decide +kernel
theorem dX4_takenFor_6 : decode cX4_takenFor 6 = .ok (.istore_n 3, 1) := by decide +kernel
theorem dX4_takenFor_7 : decode cX4_takenFor 7 = .ok (.aload_n 0, 1) := by decide +kernel
theorem dX4_takenFor_8 : decode cX4_takenFor 8 = .ok (.getfield 9, 3) := by decide +kernel
theorem dX4_takenFor_11 : decode cX4_takenFor 11 = .ok (.iload_n 2, 1) := by decide +kernel
theorem dX4_takenFor_12 : decode cX4_takenFor 12 = .ok (.iaload, 1) := by decide +kernel
theorem dX4_takenFor_13 : decode cX4_takenFor 13 = .ok (.aload_n 0, 1) := by decide +kernel
theorem dX4_takenFor_14 : decode cX4_takenFor 14 = .ok (.getfield 15, 3) := by decide +kernel
theorem dX4_takenFor_17 : decode cX4_takenFor 17 = .ok (.iload_n 2, 1) := by decide +kernel
theorem dX4_takenFor_18 : decode cX4_takenFor 18 = .ok (.iaload, 1) := by decide +kernel
theorem dX4_takenFor_19 : decode cX4_takenFor 19 = .ok (.iload_n 3, 1) := by decide +kernel
theorem dX4_takenFor_20 : decode cX4_takenFor 20 = .ok (.aload_n 0, 1) := by decide +kernel
theorem dX4_takenFor_21 : decode cX4_takenFor 21 = .ok (.getfield 55, 3) := by decide +kernel
theorem dX4_takenFor_24 : decode cX4_takenFor 24 = .ok (.invokestatic 91, 3) := by decide +kernel
theorem dX4_takenFor_27 : decode cX4_takenFor 27 = .ok (.istore 4, 2) := by decide +kernel
theorem dX4_takenFor_29 : decode cX4_takenFor 29 = .ok (.iconst 0, 1) := by decide +kernel
theorem dX4_takenFor_30 : decode cX4_takenFor 30 = .ok (.istore 5, 2) := by decide +kernel
theorem dX4_takenFor_32 : decode cX4_takenFor 32 = .ok (.iconst 0, 1) := by decide +kernel
theorem dX4_takenFor_33 : decode cX4_takenFor 33 = .ok (.istore 6, 2) := by decide +kernel
theorem dX4_takenFor_35 : decode cX4_takenFor 35 = .ok (.iload 6, 2) := by decide +kernel
theorem dX4_takenFor_37 : decode cX4_takenFor 37 = .ok (.aload_n 0, 1) := by decide +kernel
theorem dX4_takenFor_38 : decode cX4_takenFor 38 = .ok (.getfield 42, 3) := by decide +kernel
theorem dX4_takenFor_41 : decode cX4_takenFor 41 = .ok (.if_icmp .ge 83, 3) := by decide +kernel
theorem dX4_takenFor_44 : decode cX4_takenFor 44 = .ok (.aload_n 0, 1) := by decide +kernel
theorem dX4_takenFor_45 : decode cX4_takenFor 45 = .ok (.getfield 33, 3) := by decide +kernel
theorem dX4_takenFor_48 : decode cX4_takenFor 48 = .ok (.aload_n 0, 1) := by decide +kernel
theorem dX4_takenFor_49 : decode cX4_takenFor 49 = .ok (.getfield 9, 3) := by decide +kernel
theorem dX4_takenFor_52 : decode cX4_takenFor 52 = .ok (.iload 6, 2) := by decide +kernel
theorem dX4_takenFor_54 : decode cX4_takenFor 54 = .ok (.iaload, 1) := by decide +kernel
theorem dX4_takenFor_55 : decode cX4_takenFor 55 = .ok (.iaload, 1) := by decide +kernel
theorem dX4_takenFor_56 : decode cX4_takenFor 56 = .ok (.aload_n 0, 1) := by decide +kernel
theorem dX4_takenFor_57 : decode cX4_takenFor 57 = .ok (.getfield 33, 3) := by decide +kernel
theorem dX4_takenFor_60 : decode cX4_takenFor 60 = .ok (.aload_n 0, 1) := by decide +kernel
theorem dX4_takenFor_61 : decode cX4_takenFor 61 = .ok (.getfield 9, 3) := by decide +kernel
theorem dX4_takenFor_64 : decode cX4_takenFor 64 = .ok (.iload_n 2, 1) := by decide +kernel
theorem dX4_takenFor_65 : decode cX4_takenFor 65 = .ok (.iaload, 1) := by decide +kernel
theorem dX4_takenFor_66 : decode cX4_takenFor 66 = .ok (.iaload, 1) := by decide +kernel
theorem dX4_takenFor_67 : decode cX4_takenFor 67 = .ok (.if_icmp .ne 7, 3) := by decide +kernel
theorem dX4_takenFor_70 : decode cX4_takenFor 70 = .ok (.iconst 1, 1) := by decide +kernel
theorem dX4_takenFor_71 : decode cX4_takenFor 71 = .ok (.goto 4, 3) := by decide +kernel
theorem dX4_takenFor_74 : decode cX4_takenFor 74 = .ok (.iconst 0, 1) := by decide +kernel
theorem dX4_takenFor_75 : decode cX4_takenFor 75 = .ok (.istore 7, 2) := by decide +kernel
theorem dX4_takenFor_77 : decode cX4_takenFor 77 = .ok (.iload 7, 2) := by decide +kernel
theorem dX4_takenFor_79 : decode cX4_takenFor 79 = .ok (.ifCond .ne 39, 3) := by decide +kernel
theorem dX4_takenFor_82 : decode cX4_takenFor 82 = .ok (.aload_n 0, 1) := by decide +kernel
theorem dX4_takenFor_83 : decode cX4_takenFor 83 = .ok (.getfield 9, 3) := by decide +kernel
theorem dX4_takenFor_86 : decode cX4_takenFor 86 = .ok (.iload 6, 2) := by decide +kernel
theorem dX4_takenFor_88 : decode cX4_takenFor 88 = .ok (.iaload, 1) := by decide +kernel
theorem dX4_takenFor_89 : decode cX4_takenFor 89 = .ok (.aload_n 0, 1) := by decide +kernel
theorem dX4_takenFor_90 : decode cX4_takenFor 90 = .ok (.getfield 15, 3) := by decide +kernel
theorem dX4_takenFor_93 : decode cX4_takenFor 93 = .ok (.iload 6, 2) := by decide +kernel
theorem dX4_takenFor_95 : decode cX4_takenFor 95 = .ok (.iaload, 1) := by decide +kernel
theorem dX4_takenFor_96 : decode cX4_takenFor 96 = .ok (.iload_n 3, 1) := by decide +kernel
theorem dX4_takenFor_97 : decode cX4_takenFor 97 = .ok (.aload_n 0, 1) := by decide +kernel
theorem dX4_takenFor_98 : decode cX4_takenFor 98 = .ok (.getfield 55, 3) := by decide +kernel
theorem dX4_takenFor_101 : decode cX4_takenFor 101 = .ok (.invokestatic 91, 3) := by decide +kernel
theorem dX4_takenFor_104 : decode cX4_takenFor 104 = .ok (.iload 4, 2) := by decide +kernel
theorem dX4_takenFor_106 : decode cX4_takenFor 106 = .ok (.if_icmp .lt 12, 3) := by decide +kernel
theorem dX4_takenFor_109 : decode cX4_takenFor 109 = .ok (.iload 5, 2) := by decide +kernel
theorem dX4_takenFor_111 : decode cX4_takenFor 111 = .ok (.iconst 1, 1) := by decide +kernel
theorem dX4_takenFor_112 : decode cX4_takenFor 112 = .ok (.iload 6, 2) := by decide +kernel
theorem dX4_takenFor_114 : decode cX4_takenFor 114 = .ok (.ishl, 1) := by decide +kernel
theorem dX4_takenFor_115 : decode cX4_takenFor 115 = .ok (.ior, 1) := by decide +kernel
theorem dX4_takenFor_116 : decode cX4_takenFor 116 = .ok (.istore 5, 2) := by decide +kernel
theorem dX4_takenFor_118 : decode cX4_takenFor 118 = .ok (.iinc 6 1, 3) := by decide +kernel
theorem dX4_takenFor_121 : decode cX4_takenFor 121 = .ok (.goto (-86), 3) := by decide +kernel
theorem dX4_takenFor_124 : decode cX4_takenFor 124 = .ok (.iload 5, 2) := by decide +kernel
theorem dX4_takenFor_126 : decode cX4_takenFor 126 = .ok (.ireturn, 1) := by decide +kernel
set_option maxRecDepth 20000 in
theorem ggX4_payers_X5_has : GoodIn wsX4_payers wsX5_has := goodIn_r _ [7] (by decide +kernel) (by decide +kernel)
set_option maxRecDepth 20000 in
theorem gX4_payers_X5_has_n99 : GoodIn wsX4_payers (wsX5_has) := ggX4_payers_X5_has
set_option maxRecDepth 20000 in
theorem ggX4_payers_X4_goodsHad : GoodIn wsX4_payers wsX4_goodsHad := goodIn_r _ [12, 13, 14, 26, 27, 28, 29, 30, 31, 32, 33, 34, 35, 36, 37, 38] (by decide +kernel) (by decide +kernel)
set_option maxRecDepth 20000 in
theorem gX4_payers_X4_goodsHad : GoodIn wsX4_payers (wsV RX4 103 RX4 yX4_goodsHad wsX4_goodsHad) := goodIn_app (goodIn_of _ (by decide +kernel)) ggX4_payers_X4_goodsHad
set_option maxRecDepth 20000 in
theorem ggX4_payers_X4_takenFor : GoodIn wsX4_payers wsX4_takenFor := goodIn_r _ [18, 19, 20, 21, 22, 13, 23, 24, 6, 25, 26, 27, 28, 29, 30, 31, 32, 33, 34, 35, 36, 37, 38] (by decide +kernel) (by decide +kernel)
set_option maxRecDepth 20000 in
theorem gX4_payers_X4_takenFor : GoodIn wsX4_payers (wsV RX4 95 RX4 yX4_takenFor wsX4_takenFor) := goodIn_app (goodIn_of _ (by decide +kernel)) ggX4_payers_X4_takenFor
theorem dX4_payers_0 : decode cX4_payers 0 = .ok (.aload_n 0, 1) := by decide +kernel
theorem dX4_payers_1 : decode cX4_payers 1 = .ok (.getfield 52, 3) := by decide +kernel
theorem dX4_payers_4 : decode cX4_payers 4 = .ok (.iload_n 1, 1) := by decide +kernel
theorem dX4_payers_5 : decode cX4_payers 5 = .ok (.invokestatic 99, 3) := by decide +kernel
theorem dX4_payers_8 : decode cX4_payers 8 = .ok (.ifCond .ne 5, 3) := by decide +kernel
theorem dX4_payers_11 : decode cX4_payers 11 = .ok (.iconst 0, 1) := by decide +kernel
theorem dX4_payers_12 : decode cX4_payers 12 = .ok (.ireturn, 1) := by decide +kernel
theorem dX4_payers_13 : decode cX4_payers 13 = .ok (.aload_n 0, 1) := by decide +kernel
theorem dX4_payers_14 : decode cX4_payers 14 = .ok (.aload_n 0, 1) := by decide +kernel
theorem dX4_payers_15 : decode cX4_payers 15 = .ok (.getfield 27, 3) := by decide +kernel
theorem dX4_payers_18 : decode cX4_payers 18 = .ok (.iload_n 1, 1) := by decide +kernel
theorem dX4_payers_19 : decode cX4_payers 19 = .ok (.iaload, 1) := by decide +kernel
theorem dX4_payers_20 : decode cX4_payers 20 = .ok (.invokevirtual 103, 3) := by decide +kernel
theorem dX4_payers_23 : decode cX4_payers 23 = .ok (.aload_n 0, 1) := by decide +kernel
theorem dX4_payers_24 : decode cX4_payers 24 = .ok (.aload_n 0, 1) := by decide +kernel
theorem dX4_payers_25 : decode cX4_payers 25 = .ok (.getfield 24, 3) := by decide +kernel
theorem dX4_payers_28 : decode cX4_payers 28 = .ok (.iload_n 1, 1) := by decide +kernel
theorem dX4_payers_29 : decode cX4_payers 29 = .ok (.iaload, 1) := by decide +kernel
theorem dX4_payers_30 : decode cX4_payers 30 = .ok (.aload_n 0, 1) := by decide +kernel
theorem dX4_payers_31 : decode cX4_payers 31 = .ok (.getfield 30, 3) := by decide +kernel
theorem dX4_payers_34 : decode cX4_payers 34 = .ok (.iload_n 1, 1) := by decide +kernel
theorem dX4_payers_35 : decode cX4_payers 35 = .ok (.iaload, 1) := by decide +kernel
theorem dX4_payers_36 : decode cX4_payers 36 = .ok (.invokevirtual 95, 3) := by decide +kernel
theorem dX4_payers_39 : decode cX4_payers 39 = .ok (.iand, 1) := by decide +kernel
theorem dX4_payers_40 : decode cX4_payers 40 = .ok (.ireturn, 1) := by decide +kernel
theorem dX4_goodsHad_0 : decode cX4_goodsHad 0 = .ok (.iconst 0, 1) := by decide +kernel
theorem dX4_goodsHad_1 : decode cX4_goodsHad 1 = .ok (.istore_n 2, 1) := by decide +kernel
theorem dX4_goodsHad_2 : decode cX4_goodsHad 2 = .ok (.iconst 0, 1) := by decide +kernel
theorem dX4_goodsHad_3 : decode cX4_goodsHad 3 = .ok (.istore_n 3, 1) := by decide +kernel
theorem dX4_goodsHad_4 : decode cX4_goodsHad 4 = .ok (.iload_n 3, 1) := by decide +kernel
theorem dX4_goodsHad_5 : decode cX4_goodsHad 5 = .ok (.aload_n 0, 1) := by decide +kernel
theorem dX4_goodsHad_6 : decode cX4_goodsHad 6 = .ok (.getfield 42, 3) := by decide +kernel
theorem dX4_goodsHad_9 : decode cX4_goodsHad 9 = .ok (.if_icmp .ge 25, 3) := by decide +kernel
theorem dX4_goodsHad_12 : decode cX4_goodsHad 12 = .ok (.aload_n 0, 1) := by decide +kernel
theorem dX4_goodsHad_13 : decode cX4_goodsHad 13 = .ok (.getfield 18, 3) := by decide +kernel
theorem dX4_goodsHad_16 : decode cX4_goodsHad 16 = .ok (.iload_n 3, 1) := by decide +kernel
theorem dX4_goodsHad_17 : decode cX4_goodsHad 17 = .ok (.iaload, 1) := by decide +kernel
theorem dX4_goodsHad_18 : decode cX4_goodsHad 18 = .ok (.iload_n 1, 1) := by decide +kernel
theorem dX4_goodsHad_19 : decode cX4_goodsHad 19 = .ok (.if_icmp .ne 9, 3) := by decide +kernel
theorem dX4_goodsHad_22 : decode cX4_goodsHad 22 = .ok (.iload_n 2, 1) := by decide +kernel
theorem dX4_goodsHad_23 : decode cX4_goodsHad 23 = .ok (.iconst 1, 1) := by decide +kernel
theorem dX4_goodsHad_24 : decode cX4_goodsHad 24 = .ok (.iload_n 3, 1) := by decide +kernel
theorem dX4_goodsHad_25 : decode cX4_goodsHad 25 = .ok (.ishl, 1) := by decide +kernel
theorem dX4_goodsHad_26 : decode cX4_goodsHad 26 = .ok (.ior, 1) := by decide +kernel
theorem dX4_goodsHad_27 : decode cX4_goodsHad 27 = .ok (.istore_n 2, 1) := by decide +kernel
theorem dX4_goodsHad_28 : decode cX4_goodsHad 28 = .ok (.iinc 3 1, 3) := by decide +kernel
theorem dX4_goodsHad_31 : decode cX4_goodsHad 31 = .ok (.goto (-27), 3) := by decide +kernel
theorem dX4_goodsHad_34 : decode cX4_goodsHad 34 = .ok (.iload_n 2, 1) := by decide +kernel
theorem dX4_goodsHad_35 : decode cX4_goodsHad 35 = .ok (.ireturn, 1) := by decide +kernel
set_option maxRecDepth 20000 in
theorem ggX4_choice_X4_worthTo : GoodIn wsX4_choice wsX4_worthTo := goodIn_r _ [6, 7, 8, 9, 10, 11, 12, 13, 16, 17, 18, 19, 20, 21, 22, 23, 24, 25, 26, 27, 28] (by decide +kernel) (by decide +kernel)
set_option maxRecDepth 20000 in
theorem gX4_choice_X4_worthTo : GoodIn wsX4_choice (wsV RX4 106 RX4 yX4_worthTo wsX4_worthTo) := goodIn_app (goodIn_of _ (by decide +kernel)) ggX4_choice_X4_worthTo
set_option maxRecDepth 20000 in
theorem ggX4_choice_X5_has : GoodIn wsX4_choice wsX5_has := goodIn_r _ [15] (by decide +kernel) (by decide +kernel)
set_option maxRecDepth 20000 in
theorem gX4_choice_X5_has_n99 : GoodIn wsX4_choice (wsX5_has) := ggX4_choice_X5_has
theorem dX4_choice_0 : decode cX4_choice 0 = .ok (.bipush (-4), 2) := by decide +kernel
theorem dX4_choice_2 : decode cX4_choice 2 = .ok (.istore 4, 2) := by decide +kernel
theorem dX4_choice_4 : decode cX4_choice 4 = .ok (.iconst 0, 1) := by decide +kernel
theorem dX4_choice_5 : decode cX4_choice 5 = .ok (.istore 5, 2) := by decide +kernel
theorem dX4_choice_7 : decode cX4_choice 7 = .ok (.iconst 0, 1) := by decide +kernel
theorem dX4_choice_8 : decode cX4_choice 8 = .ok (.istore 6, 2) := by decide +kernel
theorem dX4_choice_10 : decode cX4_choice 10 = .ok (.iload 6, 2) := by decide +kernel
theorem dX4_choice_12 : decode cX4_choice 12 = .ok (.aload_n 0, 1) := by decide +kernel
theorem dX4_choice_13 : decode cX4_choice 13 = .ok (.getfield 42, 3) := by decide +kernel
theorem dX4_choice_16 : decode cX4_choice 16 = .ok (.if_icmp .ge 49, 3) := by decide +kernel
theorem dX4_choice_19 : decode cX4_choice 19 = .ok (.iload_n 3, 1) := by decide +kernel
theorem dX4_choice_20 : decode cX4_choice 20 = .ok (.aload_n 0, 1) := by decide +kernel
theorem dX4_choice_21 : decode cX4_choice 21 = .ok (.iload_n 1, 1) := by decide +kernel
theorem dX4_choice_22 : decode cX4_choice 22 = .ok (.iload 6, 2) := by decide +kernel
theorem dX4_choice_24 : decode cX4_choice 24 = .ok (.invokevirtual 106, 3) := by decide +kernel
theorem dX4_choice_27 : decode cX4_choice 27 = .ok (.imul, 1) := by decide +kernel
theorem dX4_choice_28 : decode cX4_choice 28 = .ok (.istore 7, 2) := by decide +kernel
theorem dX4_choice_30 : decode cX4_choice 30 = .ok (.iload_n 2, 1) := by decide +kernel
theorem dX4_choice_31 : decode cX4_choice 31 = .ok (.iload 6, 2) := by decide +kernel
theorem dX4_choice_33 : decode cX4_choice 33 = .ok (.invokestatic 99, 3) := by decide +kernel
theorem dX4_choice_36 : decode cX4_choice 36 = .ok (.ifCond .eq 23, 3) := by decide +kernel
theorem dX4_choice_39 : decode cX4_choice 39 = .ok (.iload 4, 2) := by decide +kernel
theorem dX4_choice_41 : decode cX4_choice 41 = .ok (.ifCond .lt 10, 3) := by decide +kernel
theorem dX4_choice_44 : decode cX4_choice 44 = .ok (.iload 7, 2) := by decide +kernel
theorem dX4_choice_46 : decode cX4_choice 46 = .ok (.iload 5, 2) := by decide +kernel
theorem dX4_choice_48 : decode cX4_choice 48 = .ok (.if_icmp .le 11, 3) := by decide +kernel
theorem dX4_choice_51 : decode cX4_choice 51 = .ok (.iload 6, 2) := by decide +kernel
theorem dX4_choice_53 : decode cX4_choice 53 = .ok (.istore 4, 2) := by decide +kernel
theorem dX4_choice_55 : decode cX4_choice 55 = .ok (.iload 7, 2) := by decide +kernel
theorem dX4_choice_57 : decode cX4_choice 57 = .ok (.istore 5, 2) := by decide +kernel
theorem dX4_choice_59 : decode cX4_choice 59 = .ok (.iinc 6 1, 3) := by decide +kernel
theorem dX4_choice_62 : decode cX4_choice 62 = .ok (.goto (-52), 3) := by decide +kernel
theorem dX4_choice_65 : decode cX4_choice 65 = .ok (.iload 4, 2) := by decide +kernel
theorem dX4_choice_67 : decode cX4_choice 67 = .ok (.ireturn, 1) := by decide +kernel
set_option maxRecDepth 20000 in
theorem ggX4_wealth_X4_worthTo : GoodIn wsX4_wealth wsX4_worthTo := goodIn_r _ [7, 8, 9, 10, 11, 12, 13, 14, 15, 16, 17, 18, 19, 20, 21, 22, 23, 24, 25, 26, 27] (by decide +kernel) (by decide +kernel)
set_option maxRecDepth 20000 in
theorem gX4_wealth_X4_worthTo : GoodIn wsX4_wealth (wsV RX4 106 RX4 yX4_worthTo wsX4_worthTo) := goodIn_app (goodIn_of _ (by decide +kernel)) ggX4_wealth_X4_worthTo
theorem dX4_wealth_0 : decode cX4_wealth 0 = .ok (.iconst 0, 1) := by decide +kernel
theorem dX4_wealth_1 : decode cX4_wealth 1 = .ok (.istore_n 2, 1) := by decide +kernel
theorem dX4_wealth_2 : decode cX4_wealth 2 = .ok (.iconst 0, 1) := by decide +kernel
theorem dX4_wealth_3 : decode cX4_wealth 3 = .ok (.istore_n 3, 1) := by decide +kernel
theorem dX4_wealth_4 : decode cX4_wealth 4 = .ok (.iload_n 3, 1) := by decide +kernel
theorem dX4_wealth_5 : decode cX4_wealth 5 = .ok (.aload_n 0, 1) := by decide +kernel
theorem dX4_wealth_6 : decode cX4_wealth 6 = .ok (.getfield 42, 3) := by decide +kernel
theorem dX4_wealth_9 : decode cX4_wealth 9 = .ok (.if_icmp .ge 28, 3) := by decide +kernel
theorem dX4_wealth_12 : decode cX4_wealth 12 = .ok (.aload_n 0, 1) := by decide +kernel
theorem dX4_wealth_13 : decode cX4_wealth 13 = .ok (.getfield 18, 3) := by decide +kernel
theorem dX4_wealth_16 : decode cX4_wealth 16 = .ok (.iload_n 3, 1) := by decide +kernel
theorem dX4_wealth_17 : decode cX4_wealth 17 = .ok (.iaload, 1) := by decide +kernel
theorem dX4_wealth_18 : decode cX4_wealth 18 = .ok (.iload_n 1, 1) := by decide +kernel
theorem dX4_wealth_19 : decode cX4_wealth 19 = .ok (.if_icmp .ne 12, 3) := by decide +kernel
theorem dX4_wealth_22 : decode cX4_wealth 22 = .ok (.iload_n 2, 1) := by decide +kernel
theorem dX4_wealth_23 : decode cX4_wealth 23 = .ok (.aload_n 0, 1) := by decide +kernel
theorem dX4_wealth_24 : decode cX4_wealth 24 = .ok (.iload_n 1, 1) := by decide +kernel
theorem dX4_wealth_25 : decode cX4_wealth 25 = .ok (.iload_n 3, 1) := by decide +kernel
theorem dX4_wealth_26 : decode cX4_wealth 26 = .ok (.invokevirtual 106, 3) := by decide +kernel
theorem dX4_wealth_29 : decode cX4_wealth 29 = .ok (.iadd, 1) := by decide +kernel
theorem dX4_wealth_30 : decode cX4_wealth 30 = .ok (.istore_n 2, 1) := by decide +kernel
theorem dX4_wealth_31 : decode cX4_wealth 31 = .ok (.iinc 3 1, 3) := by decide +kernel
theorem dX4_wealth_34 : decode cX4_wealth 34 = .ok (.goto (-30), 3) := by decide +kernel
theorem dX4_wealth_37 : decode cX4_wealth 37 = .ok (.iload_n 2, 1) := by decide +kernel
theorem dX4_wealth_38 : decode cX4_wealth 38 = .ok (.ireturn, 1) := by decide +kernel
set_option maxRecDepth 20000 in
theorem ggX4_allWealth_X4_wealth : GoodIn wsX4_allWealth wsX4_wealth := goodIn_r _ [6, 7, 8, 9, 10, 11, 5, 12, 13, 14, 15, 16, 17, 18, 19, 20, 21, 22, 23, 24, 25, 26, 27, 28, 29, 30, 31, 32] (by decide +kernel) (by decide +kernel)
set_option maxRecDepth 20000 in
theorem gX4_allWealth_X4_wealth : GoodIn wsX4_allWealth (wsV RX4 109 RX4 yX4_wealth wsX4_wealth) := goodIn_app (goodIn_of _ (by decide +kernel)) ggX4_allWealth_X4_wealth
theorem dX4_allWealth_0 : decode cX4_allWealth 0 = .ok (.iconst 0, 1) := by decide +kernel
theorem dX4_allWealth_1 : decode cX4_allWealth 1 = .ok (.istore_n 1, 1) := by decide +kernel
theorem dX4_allWealth_2 : decode cX4_allWealth 2 = .ok (.iconst 0, 1) := by decide +kernel
theorem dX4_allWealth_3 : decode cX4_allWealth 3 = .ok (.istore_n 2, 1) := by decide +kernel
theorem dX4_allWealth_4 : decode cX4_allWealth 4 = .ok (.iload_n 2, 1) := by decide +kernel
theorem dX4_allWealth_5 : decode cX4_allWealth 5 = .ok (.aload_n 0, 1) := by decide +kernel
theorem dX4_allWealth_6 : decode cX4_allWealth 6 = .ok (.getfield 46, 3) := by decide +kernel
theorem dX4_allWealth_9 : decode cX4_allWealth 9 = .ok (.if_icmp .ge 17, 3) := by decide +kernel
theorem dX4_allWealth_12 : decode cX4_allWealth 12 = .ok (.iload_n 1, 1) := by decide +kernel
theorem dX4_allWealth_13 : decode cX4_allWealth 13 = .ok (.aload_n 0, 1) := by decide +kernel
theorem dX4_allWealth_14 : decode cX4_allWealth 14 = .ok (.iload_n 2, 1) := by decide +kernel
theorem dX4_allWealth_15 : decode cX4_allWealth 15 = .ok (.invokevirtual 109, 3) := by decide +kernel
theorem dX4_allWealth_18 : decode cX4_allWealth 18 = .ok (.iadd, 1) := by decide +kernel
theorem dX4_allWealth_19 : decode cX4_allWealth 19 = .ok (.istore_n 1, 1) := by decide +kernel
theorem dX4_allWealth_20 : decode cX4_allWealth 20 = .ok (.iinc 2 1, 3) := by decide +kernel
theorem dX4_allWealth_23 : decode cX4_allWealth 23 = .ok (.goto (-19), 3) := by decide +kernel
theorem dX4_allWealth_26 : decode cX4_allWealth 26 = .ok (.iload_n 1, 1) := by decide +kernel
theorem dX4_allWealth_27 : decode cX4_allWealth 27 = .ok (.ireturn, 1) := by decide +kernel
set_option maxRecDepth 20000 in
theorem ggX4_classes_J6_bitCount_0f7a4 : GoodIn wsX4_classes wsJ6_bitCount_0f7a4 := goodIn_r _ [5, 6, 7, 8] (by decide +kernel) (by decide +kernel)
set_option maxRecDepth 20000 in
theorem gX4_classes_J6_bitCount_0f7a4 : GoodIn wsX4_classes (va_wsS RX4 74 yJ6_bitCount_0f7a4 wsJ6_bitCount_0f7a4) := goodIn_app (goodIn_of _ (by decide +kernel)) ggX4_classes_J6_bitCount_0f7a4
theorem dX4_classes_0 : decode cX4_classes 0 = .ok (.iconst 0, 1) := by decide +kernel
theorem dX4_classes_1 : decode cX4_classes 1 = .ok (.istore_n 1, 1) := by decide +kernel
theorem dX4_classes_2 : decode cX4_classes 2 = .ok (.iconst 0, 1) := by decide +kernel
theorem dX4_classes_3 : decode cX4_classes 3 = .ok (.istore_n 2, 1) := by decide +kernel
theorem dX4_classes_4 : decode cX4_classes 4 = .ok (.iload_n 2, 1) := by decide +kernel
theorem dX4_classes_5 : decode cX4_classes 5 = .ok (.bipush 8, 2) := by decide +kernel
theorem dX4_classes_7 : decode cX4_classes 7 = .ok (.if_icmp .ge 20, 3) := by decide +kernel
theorem dX4_classes_10 : decode cX4_classes 10 = .ok (.iload_n 1, 1) := by decide +kernel
theorem dX4_classes_11 : decode cX4_classes 11 = .ok (.iconst 1, 1) := by decide +kernel
theorem dX4_classes_12 : decode cX4_classes 12 = .ok (.aload_n 0, 1) := by decide +kernel
theorem dX4_classes_13 : decode cX4_classes 13 = .ok (.getfield 33, 3) := by decide +kernel
theorem dX4_classes_16 : decode cX4_classes 16 = .ok (.iload_n 2, 1) := by decide +kernel
theorem dX4_classes_17 : decode cX4_classes 17 = .ok (.iaload, 1) := by decide +kernel
theorem dX4_classes_18 : decode cX4_classes 18 = .ok (.ishl, 1) := by decide +kernel
theorem dX4_classes_19 : decode cX4_classes 19 = .ok (.ior, 1) := by decide +kernel
theorem dX4_classes_20 : decode cX4_classes 20 = .ok (.istore_n 1, 1) := by decide +kernel
theorem dX4_classes_21 : decode cX4_classes 21 = .ok (.iinc 2 1, 3) := by decide +kernel
theorem dX4_classes_24 : decode cX4_classes 24 = .ok (.goto (-20), 3) := by decide +kernel
theorem dX4_classes_27 : decode cX4_classes 27 = .ok (.iload_n 1, 1) := by decide +kernel
theorem dX4_classes_28 : decode cX4_classes 28 = .ok (.invokestatic 74, 3) := by decide +kernel
theorem dX4_classes_31 : decode cX4_classes 31 = .ok (.ireturn, 1) := by decide +kernel
set_option maxRecDepth 20000 in
theorem ggX4_isQuarrel_X4_worthTo : GoodIn wsX4_isQuarrel wsX4_worthTo := goodIn_r _ [6, 7, 8, 9, 10, 11, 12, 13, 14, 15, 16, 17, 18, 19, 20, 21, 22, 23, 24, 25, 26] (by decide +kernel) (by decide +kernel)
set_option maxRecDepth 20000 in
theorem gX4_isQuarrel_X4_worthTo : GoodIn wsX4_isQuarrel (wsV RX4 106 RX4 yX4_worthTo wsX4_worthTo) := goodIn_app (goodIn_of _ (by decide +kernel)) ggX4_isQuarrel_X4_worthTo
theorem dX4_isQuarrel_0 : decode cX4_isQuarrel 0 = .ok (.iconst 0, 1) := by decide +kernel
theorem dX4_isQuarrel_1 : decode cX4_isQuarrel 1 = .ok (.istore_n 3, 1) := by decide +kernel
theorem dX4_isQuarrel_2 : decode cX4_isQuarrel 2 = .ok (.iconst 0, 1) := by decide +kernel
theorem dX4_isQuarrel_3 : decode cX4_isQuarrel 3 = .ok (.istore 4, 2) := by decide +kernel
theorem dX4_isQuarrel_5 : decode cX4_isQuarrel 5 = .ok (.iconst 0, 1) := by decide +kernel
theorem dX4_isQuarrel_6 : decode cX4_isQuarrel 6 = .ok (.istore 5, 2) := by decide +kernel
theorem dX4_isQuarrel_8 : decode cX4_isQuarrel 8 = .ok (.iload 5, 2) := by decide +kernel
theorem dX4_isQuarrel_10 : decode cX4_isQuarrel 10 = .ok (.aload_n 0, 1) := by decide +kernel
theorem dX4_isQuarrel_11 : decode cX4_isQuarrel 11 = .ok (.getfield 46, 3) := by decide +kernel
theorem dX4_isQuarrel_14 : decode cX4_isQuarrel 14 = .ok (.if_icmp .ge 58, 3) := by decide +kernel
theorem dX4_isQuarrel_17 : decode cX4_isQuarrel 17 = .ok (.aload_n 0, 1) := by decide +kernel
theorem dX4_isQuarrel_18 : decode cX4_isQuarrel 18 = .ok (.iload 5, 2) := by decide +kernel
theorem dX4_isQuarrel_20 : decode cX4_isQuarrel 20 = .ok (.iload_n 1, 1) := by decide +kernel
theorem dX4_isQuarrel_21 : decode cX4_isQuarrel 21 = .ok (.invokevirtual 106, 3) := by decide +kernel
theorem dX4_isQuarrel_24 : decode cX4_isQuarrel 24 = .ok (.aload_n 0, 1) := by decide +kernel
theorem dX4_isQuarrel_25 : decode cX4_isQuarrel 25 = .ok (.iload 5, 2) := by decide +kernel
theorem dX4_isQuarrel_27 : decode cX4_isQuarrel 27 = .ok (.iload_n 2, 1) := by decide +kernel
theorem dX4_isQuarrel_28 : decode cX4_isQuarrel 28 = .ok (.invokevirtual 106, 3) := by decide +kernel
theorem dX4_isQuarrel_31 : decode cX4_isQuarrel 31 = .ok (.isub, 1) := by decide +kernel
theorem dX4_isQuarrel_32 : decode cX4_isQuarrel 32 = .ok (.istore 6, 2) := by decide +kernel
theorem dX4_isQuarrel_34 : decode cX4_isQuarrel 34 = .ok (.iload_n 3, 1) := by decide +kernel
theorem dX4_isQuarrel_35 : decode cX4_isQuarrel 35 = .ok (.ifCond .ne 8, 3) := by decide +kernel
theorem dX4_isQuarrel_38 : decode cX4_isQuarrel 38 = .ok (.iload 6, 2) := by decide +kernel
theorem dX4_isQuarrel_40 : decode cX4_isQuarrel 40 = .ok (.ifCond .le 7, 3) := by decide +kernel
theorem dX4_isQuarrel_43 : decode cX4_isQuarrel 43 = .ok (.iconst 1, 1) := by decide +kernel
theorem dX4_isQuarrel_44 : decode cX4_isQuarrel 44 = .ok (.goto 4, 3) := by decide +kernel
theorem dX4_isQuarrel_47 : decode cX4_isQuarrel 47 = .ok (.iconst 0, 1) := by decide +kernel
theorem dX4_isQuarrel_48 : decode cX4_isQuarrel 48 = .ok (.istore_n 3, 1) := by decide +kernel
theorem dX4_isQuarrel_49 : decode cX4_isQuarrel 49 = .ok (.iload 4, 2) := by decide +kernel
theorem dX4_isQuarrel_51 : decode cX4_isQuarrel 51 = .ok (.ifCond .ne 8, 3) := by decide +kernel
theorem dX4_isQuarrel_54 : decode cX4_isQuarrel 54 = .ok (.iload 6, 2) := by decide +kernel
theorem dX4_isQuarrel_56 : decode cX4_isQuarrel 56 = .ok (.ifCond .ge 7, 3) := by decide +kernel
theorem dX4_isQuarrel_59 : decode cX4_isQuarrel 59 = .ok (.iconst 1, 1) := by decide +kernel
theorem dX4_isQuarrel_60 : decode cX4_isQuarrel 60 = .ok (.goto 4, 3) := by decide +kernel
theorem dX4_isQuarrel_63 : decode cX4_isQuarrel 63 = .ok (.iconst 0, 1) := by decide +kernel
theorem dX4_isQuarrel_64 : decode cX4_isQuarrel 64 = .ok (.istore 4, 2) := by decide +kernel
theorem dX4_isQuarrel_66 : decode cX4_isQuarrel 66 = .ok (.iinc 5 1, 3) := by decide +kernel
theorem dX4_isQuarrel_69 : decode cX4_isQuarrel 69 = .ok (.goto (-61), 3) := by decide +kernel
theorem dX4_isQuarrel_72 : decode cX4_isQuarrel 72 = .ok (.iload_n 3, 1) := by decide +kernel
theorem dX4_isQuarrel_73 : decode cX4_isQuarrel 73 = .ok (.ifCond .eq 12, 3) := by decide +kernel
theorem dX4_isQuarrel_76 : decode cX4_isQuarrel 76 = .ok (.iload 4, 2) := by decide +kernel
theorem dX4_isQuarrel_78 : decode cX4_isQuarrel 78 = .ok (.ifCond .eq 7, 3) := by decide +kernel
theorem dX4_isQuarrel_81 : decode cX4_isQuarrel 81 = .ok (.iconst 1, 1) := by decide +kernel
theorem dX4_isQuarrel_82 : decode cX4_isQuarrel 82 = .ok (.goto 4, 3) := by decide +kernel
theorem dX4_isQuarrel_85 : decode cX4_isQuarrel 85 = .ok (.iconst 0, 1) := by decide +kernel
theorem dX4_isQuarrel_86 : decode cX4_isQuarrel 86 = .ok (.ireturn, 1) := by decide +kernel
set_option maxRecDepth 20000 in
theorem ggX4_allQuarrels_X4_isQuarrel : GoodIn wsX4_allQuarrels wsX4_isQuarrel := goodIn_r _ [6, 7, 8, 9, 10, 5, 11, 12, 13, 14, 15, 16, 17, 18, 19, 20, 21, 22, 23, 24, 25, 26, 27, 28, 29, 30, 31] (by decide +kernel) (by decide +kernel)
set_option maxRecDepth 20000 in
theorem gX4_allQuarrels_X4_isQuarrel : GoodIn wsX4_allQuarrels (wsV RX4 112 RX4 yX4_isQuarrel wsX4_isQuarrel) := goodIn_app (goodIn_of _ (by decide +kernel)) ggX4_allQuarrels_X4_isQuarrel
theorem dX4_allQuarrels_0 : decode cX4_allQuarrels 0 = .ok (.iconst 0, 1) := by decide +kernel
theorem dX4_allQuarrels_1 : decode cX4_allQuarrels 1 = .ok (.istore_n 1, 1) := by decide +kernel
theorem dX4_allQuarrels_2 : decode cX4_allQuarrels 2 = .ok (.iconst 0, 1) := by decide +kernel
theorem dX4_allQuarrels_3 : decode cX4_allQuarrels 3 = .ok (.istore_n 2, 1) := by decide +kernel
theorem dX4_allQuarrels_4 : decode cX4_allQuarrels 4 = .ok (.iload_n 2, 1) := by decide +kernel
theorem dX4_allQuarrels_5 : decode cX4_allQuarrels 5 = .ok (.aload_n 0, 1) := by decide +kernel
theorem dX4_allQuarrels_6 : decode cX4_allQuarrels 6 = .ok (.getfield 42, 3) := by decide +kernel
theorem dX4_allQuarrels_9 : decode cX4_allQuarrels 9 = .ok (.if_icmp .ge 39, 3) := by decide +kernel
theorem dX4_allQuarrels_12 : decode cX4_allQuarrels 12 = .ok (.iload_n 2, 1) := by decide +kernel
theorem dX4_allQuarrels_13 : decode cX4_allQuarrels 13 = .ok (.iconst 1, 1) := by decide +kernel
theorem dX4_allQuarrels_14 : decode cX4_allQuarrels 14 = .ok (.iadd, 1) := by decide +kernel
theorem dX4_allQuarrels_15 : decode cX4_allQuarrels 15 = .ok (.istore_n 3, 1) := by decide +kernel
theorem dX4_allQuarrels_16 : decode cX4_allQuarrels 16 = .ok (.iload_n 3, 1) := by decide +kernel
theorem dX4_allQuarrels_17 : decode cX4_allQuarrels 17 = .ok (.aload_n 0, 1) := by decide +kernel
theorem dX4_allQuarrels_18 : decode cX4_allQuarrels 18 = .ok (.getfield 42, 3) := by decide +kernel
theorem dX4_allQuarrels_21 : decode cX4_allQuarrels 21 = .ok (.if_icmp .ge 21, 3) := by decide +kernel
theorem dX4_allQuarrels_24 : decode cX4_allQuarrels 24 = .ok (.aload_n 0, 1) := by decide +kernel
theorem dX4_allQuarrels_25 : decode cX4_allQuarrels 25 = .ok (.iload_n 2, 1) := by decide +kernel
theorem dX4_allQuarrels_26 : decode cX4_allQuarrels 26 = .ok (.iload_n 3, 1) := by decide +kernel
theorem dX4_allQuarrels_27 : decode cX4_allQuarrels 27 = .ok (.invokevirtual 112, 3) := by decide +kernel
theorem dX4_allQuarrels_30 : decode cX4_allQuarrels 30 = .ok (.ifCond .eq 6, 3) := by decide +kernel
theorem dX4_allQuarrels_33 : decode cX4_allQuarrels 33 = .ok (.iinc 1 1, 3) := by decide +kernel
theorem dX4_allQuarrels_36 : decode cX4_allQuarrels 36 = .ok (.iinc 3 1, 3) := by decide +kernel
theorem dX4_allQuarrels_39 : decode cX4_allQuarrels 39 = .ok (.goto (-23), 3) := by decide +kernel
theorem dX4_allQuarrels_42 : decode cX4_allQuarrels 42 = .ok (.iinc 2 1, 3) := by decide +kernel
theorem dX4_allQuarrels_45 : decode cX4_allQuarrels 45 = .ok (.goto (-41), 3) := by decide +kernel
theorem dX4_allQuarrels_48 : decode cX4_allQuarrels 48 = .ok (.iload_n 1, 1) := by decide +kernel
theorem dX4_allQuarrels_49 : decode cX4_allQuarrels 49 = .ok (.ireturn, 1) := by decide +kernel
set_option maxRecDepth 20000 in
theorem ggX5_init_X4_init : GoodIn wsX5_init wsX4_init := goodIn_r _ [28, 29, 2, 3, 30, 31, 32, 33, 34, 35, 36, 37, 38, 60, 61, 62, 63, 64, 65, 66, 67, 68, 69, 70, 71, 72] (by decide +kernel) (by decide +kernel)
set_option maxRecDepth 20000 in
theorem gX5_init_X4_init : GoodIn wsX5_init (wsX4_init) := ggX5_init_X4_init
set_option maxRecDepth 20000 in
theorem ggX5_init_X1_init : GoodIn wsX5_init wsX1_init := goodIn_r _ [40, 41, 2, 3, 30, 42, 82, 83, 84, 85, 86, 87] (by decide +kernel) (by decide +kernel)
set_option maxRecDepth 20000 in
theorem gX5_init_X1_init_n28 : GoodIn wsX5_init (wsX1_init) := ggX5_init_X1_init
set_option maxRecDepth 20000 in
theorem ggX5_init_X3_init : GoodIn wsX5_init wsX3_init := goodIn_r _ [44, 45, 2, 3, 30, 46, 47, 88, 89, 90] (by decide +kernel) (by decide +kernel)
set_option maxRecDepth 20000 in
theorem gX5_init_X3_init_n31 : GoodIn wsX5_init (wsX3_init) := ggX5_init_X3_init
set_option maxRecDepth 20000 in
theorem ggX5_init_X0_init : GoodIn wsX5_init wsX0_init := goodIn_r _ [49, 50, 2, 3, 30, 51, 52, 53, 91, 92, 93] (by decide +kernel) (by decide +kernel)
set_option maxRecDepth 20000 in
theorem gX5_init_X0_init_n38 : GoodIn wsX5_init (wsX0_init) := ggX5_init_X0_init
set_option maxRecDepth 20000 in
theorem ggX5_init_X2_init : GoodIn wsX5_init wsX2_init := goodIn_r _ [55, 56, 2, 3, 30, 57, 58, 59, 94, 95, 96] (by decide +kernel) (by decide +kernel)
set_option maxRecDepth 20000 in
theorem gX5_init_X2_init_n45 : GoodIn wsX5_init (wsX2_init) := ggX5_init_X2_init
theorem dX5_init_0 : decode cX5_init 0 = .ok (.aload_n 0, 1) := by decide +kernel
theorem dX5_init_1 : decode cX5_init 1 = .ok (.invokespecial 1, 3) := by decide +kernel
theorem dX5_init_4 : decode cX5_init 4 = .ok (.aload_n 0, 1) := by decide +kernel
theorem dX5_init_5 : decode cX5_init 5 = .ok (.new 7, 3) := by decide +kernel
theorem dX5_init_8 : decode cX5_init 8 = .ok (.dup, 1) := by decide +kernel
theorem dX5_init_9 : decode cX5_init 9 = .ok (.invokespecial 9, 3) := by decide +kernel
theorem dX5_init_12 : decode cX5_init 12 = .ok (.putfield 10, 3) := by decide +kernel
theorem dX5_init_15 : decode cX5_init 15 = .ok (.aload_n 0, 1) := by decide +kernel
theorem dX5_init_16 : decode cX5_init 16 = .ok (.new 7, 3) := by decide +kernel
theorem dX5_init_19 : decode cX5_init 19 = .ok (.dup, 1) := by decide +kernel
theorem dX5_init_20 : decode cX5_init 20 = .ok (.invokespecial 9, 3) := by decide +kernel
theorem dX5_init_23 : decode cX5_init 23 = .ok (.putfield 16, 3) := by decide +kernel
theorem dX5_init_26 : decode cX5_init 26 = .ok (.aload_n 0, 1) := by decide +kernel
theorem dX5_init_27 : decode cX5_init 27 = .ok (.new 7, 3) := by decide +kernel
theorem dX5_init_30 : decode cX5_init 30 = .ok (.dup, 1) := by decide +kernel
theorem dX5_init_31 : decode cX5_init 31 = .ok (.invokespecial 9, 3) := by decide +kernel
theorem dX5_init_34 : decode cX5_init 34 = .ok (.putfield 19, 3) := by decide +kernel
theorem dX5_init_37 : decode cX5_init 37 = .ok (.aload_n 0, 1) := by decide +kernel
theorem dX5_init_38 : decode cX5_init 38 = .ok (.bipush 8, 2) := by decide +kernel
theorem dX5_init_40 : decode cX5_init 40 = .ok (.anewarray 22, 3) := by decide +kernel
theorem dX5_init_43 : decode cX5_init 43 = .ok (.putfield 24, 3) := by decide +kernel
theorem dX5_init_46 : decode cX5_init 46 = .ok (.iconst 0, 1) := by decide +kernel
theorem dX5_init_47 : decode cX5_init 47 = .ok (.istore_n 1, 1) := by decide +kernel
theorem dX5_init_48 : decode cX5_init 48 = .ok (.iload_n 1, 1) := by decide +kernel
theorem dX5_init_49 : decode cX5_init 49 = .ok (.bipush 8, 2) := by decide +kernel
theorem dX5_init_51 : decode cX5_init 51 = .ok (.if_icmp .ge 22, 3) := by decide +kernel
theorem dX5_init_54 : decode cX5_init 54 = .ok (.aload_n 0, 1) := by decide +kernel
theorem dX5_init_55 : decode cX5_init 55 = .ok (.getfield 24, 3) := by decide +kernel
theorem dX5_init_58 : decode cX5_init 58 = .ok (.iload_n 1, 1) := by decide +kernel
theorem dX5_init_59 : decode cX5_init 59 = .ok (.new 22, 3) := by decide +kernel
theorem dX5_init_62 : decode cX5_init 62 = .ok (.dup, 1) := by decide +kernel
theorem dX5_init_63 : decode cX5_init 63 = .ok (.invokespecial 28, 3) := by decide +kernel
theorem dX5_init_66 : decode cX5_init 66 = .ok (.aastore, 1) := by decide +kernel
theorem dX5_init_67 : decode cX5_init 67 = .ok (.iinc 1 1, 3) := by decide +kernel
theorem dX5_init_70 : decode cX5_init 70 = .ok (.goto (-22), 3) := by decide +kernel
theorem dX5_init_73 : decode cX5_init 73 = .ok (.aload_n 0, 1) := by decide +kernel
theorem dX5_init_74 : decode cX5_init 74 = .ok (.new 29, 3) := by decide +kernel
theorem dX5_init_77 : decode cX5_init 77 = .ok (.dup, 1) := by decide +kernel
theorem dX5_init_78 : decode cX5_init 78 = .ok (.invokespecial 31, 3) := by decide +kernel
theorem dX5_init_81 : decode cX5_init 81 = .ok (.putfield 32, 3) := by decide +kernel
theorem dX5_init_84 : decode cX5_init 84 = .ok (.aload_n 0, 1) := by decide +kernel
theorem dX5_init_85 : decode cX5_init 85 = .ok (.new 36, 3) := by decide +kernel
theorem dX5_init_88 : decode cX5_init 88 = .ok (.dup, 1) := by decide +kernel
theorem dX5_init_89 : decode cX5_init 89 = .ok (.invokespecial 38, 3) := by decide +kernel
theorem dX5_init_92 : decode cX5_init 92 = .ok (.putfield 39, 3) := by decide +kernel
theorem dX5_init_95 : decode cX5_init 95 = .ok (.aload_n 0, 1) := by decide +kernel
theorem dX5_init_96 : decode cX5_init 96 = .ok (.new 43, 3) := by decide +kernel
theorem dX5_init_99 : decode cX5_init 99 = .ok (.dup, 1) := by decide +kernel
theorem dX5_init_100 : decode cX5_init 100 = .ok (.invokespecial 45, 3) := by decide +kernel
theorem dX5_init_103 : decode cX5_init 103 = .ok (.putfield 46, 3) := by decide +kernel
theorem dX5_init_106 : decode cX5_init 106 = .ok (.return_, 1) := by decide +kernel
set_option maxRecDepth 20000 in
theorem ggX5_town_X5_isShelf : GoodIn wsX5_town wsX5_isShelf := goodIn_r _ [10] (by decide +kernel) (by decide +kernel)
set_option maxRecDepth 20000 in
theorem gX5_town_X5_isShelf : GoodIn wsX5_town (va_wsS RX5 50 yX5_isShelf wsX5_isShelf) := goodIn_app (goodIn_of _ (by decide +kernel)) ggX5_town_X5_isShelf
set_option maxRecDepth 20000 in
theorem ggX5_town_X1_refusal : GoodIn wsX5_town wsX1_refusal := goodIn_r _ [15, 16, 142, 143, 144, 145, 146, 147] (by decide +kernel) (by decide +kernel)
set_option maxRecDepth 20000 in
theorem gX5_town_X1_refusal : GoodIn wsX5_town (wsV RX5 54 RX1 yX1_refusal wsX1_refusal) := goodIn_app (goodIn_of _ (by decide +kernel)) ggX5_town_X1_refusal
set_option maxRecDepth 20000 in
theorem ggX5_town_X5_badPlace : GoodIn wsX5_town wsX5_badPlace := goodIn_r _ [19, 5, 6, 20, 21, 9, 22, 23, 24, 25, 142, 143, 144, 145, 146, 147] (by decide +kernel) (by decide +kernel)
set_option maxRecDepth 20000 in
theorem gX5_town_X5_badPlace : GoodIn wsX5_town (va_wsS RX5 62 yX5_badPlace wsX5_badPlace) := goodIn_app (goodIn_of _ (by decide +kernel)) ggX5_town_X5_badPlace
set_option maxRecDepth 20000 in
theorem ggX5_town_X4_become : GoodIn wsX5_town wsX4_become := goodIn_r _ [30, 31, 32, 33, 34, 35, 36, 37, 38, 39, 40, 41, 42, 43, 44, 45, 46, 47, 148, 149, 150, 151, 152, 153, 154, 155, 156, 157, 158, 159, 160] (by decide +kernel) (by decide +kernel)
set_option maxRecDepth 20000 in
theorem gX5_town_X4_become : GoodIn wsX5_town (wsV RX5 66 RX4 yX4_become wsX4_become) := goodIn_app (goodIn_of _ (by decide +kernel)) ggX5_town_X4_become
set_option maxRecDepth 20000 in
theorem ggX5_town_X5_perform : GoodIn wsX5_town wsX5_perform := goodIn_r _ [51, 6, 3, 52, 53, 54, 14, 55, 56, 57, 58, 59, 60, 61, 62, 63, 64, 29, 65, 40, 39, 66, 67, 68, 69, 38, 31, 36, 37, 70, 9, 71, 72, 73, 74, 75, 76, 77, 78, 79, 80, 81, 44, 41, 42, 43, 45, 82, 83, 84, 85, 86, 87, 88, 89, 46, 90, 91, 92, 93, 47, 94, 95, 96, 97, 98, 99, 100, 101, 102, 103, 104, 105, 106, 107, 108, 109, 110, 111, 112, 113, 114, 115, 116, 117, 118, 119, 120, 121, 122, 123, 124, 125, 126, 127, 128, 129, 130, 131, 132, 142, 143, 144, 145, 146, 147, 133, 134, 135, 136, 137, 138, 139, 140, 141, 148, 149, 150, 151, 152, 153, 154, 155, 156, 157, 158, 159, 160] (by decide +kernel) (by decide +kernel)
set_option maxRecDepth 20000 in
theorem gX5_town_X5_perform : GoodIn wsX5_town (wsV RX5 73 RX5 yX5_perform wsX5_perform) := goodIn_app (goodIn_of _ (by decide +kernel)) ggX5_town_X5_perform
set_option maxRecDepth 20000 in
theorem ggX5_town_X5_digitsBehind : GoodIn wsX5_town wsX5_digitsBehind := goodIn_r _ [22] (by decide +kernel) (by decide +kernel)
set_option maxRecDepth 20000 in
theorem gX5_town_X5_digitsBehind : GoodIn wsX5_town (va_wsS RX5 81 yX5_digitsBehind wsX5_digitsBehind) := goodIn_app (goodIn_of _ (by decide +kernel)) ggX5_town_X5_digitsBehind
theorem dX5_town_0 : decode cX5_town 0 = .ok (.iload_n 1, 1) := by decide +kernel
theorem dX5_town_1 : decode cX5_town 1 = .ok (.invokestatic 50, 3) := by decide +kernel
theorem dX5_town_4 : decode cX5_town 4 = .ok (.ifCond .ne 5, 3) := by decide +kernel
theorem dX5_town_7 : decode cX5_town 7 = .ok (.iconst (-1), 1) := by decide +kernel
theorem dX5_town_8 : decode cX5_town 8 = .ok (.ireturn, 1) := by decide +kernel
theorem dX5_town_9 : decode cX5_town 9 = .ok (.aload_n 0, 1) := by decide +kernel
theorem dX5_town_10 : decode cX5_town 10 = .ok (.getfield 24, 3) := by decide +kernel
theorem dX5_town_13 : decode cX5_town 13 = .ok (.iload_n 1, 1) := by decide +kernel
theorem dX5_town_14 : decode cX5_town 14 = .ok (.aaload, 1) := by decide +kernel
theorem dX5_town_15 : decode cX5_town 15 = .ok (.iconst 2, 1) := by decide +kernel
theorem dX5_town_16 : decode cX5_town 16 = .ok (.invokevirtual 54, 3) := by decide +kernel
theorem dX5_town_19 : decode cX5_town 19 = .ok (.istore_n 2, 1) := by decide +kernel
theorem dX5_town_20 : decode cX5_town 20 = .ok (.iload_n 2, 1) := by decide +kernel
theorem dX5_town_21 : decode cX5_town 21 = .ok (.ifCond .eq 5, 3) := by decide +kernel
theorem dX5_town_24 : decode cX5_town 24 = .ok (.iload_n 2, 1) := by decide +kernel
theorem dX5_town_25 : decode cX5_town 25 = .ok (.ireturn, 1) := by decide +kernel
theorem dX5_town_26 : decode cX5_town 26 = .ok (.aload_n 0, 1) := by decide +kernel
theorem dX5_town_27 : decode cX5_town 27 = .ok (.getfield 24, 3) := by decide +kernel
theorem dX5_town_30 : decode cX5_town 30 = .ok (.iload_n 1, 1) := by decide +kernel
theorem dX5_town_31 : decode cX5_town 31 = .ok (.aaload, 1) := by decide +kernel
theorem dX5_town_32 : decode cX5_town 32 = .ok (.astore_n 3, 1) := by decide +kernel
theorem dX5_town_33 : decode cX5_town 33 = .ok (.aload_n 3, 1) := by decide +kernel
theorem dX5_town_34 : decode cX5_town 34 = .ok (.getfield 58, 3) := by decide +kernel
theorem dX5_town_37 : decode cX5_town 37 = .ok (.ifCond .eq 6, 3) := by decide +kernel
theorem dX5_town_40 : decode cX5_town 40 = .ok (.bipush (-12), 2) := by decide +kernel
theorem dX5_town_42 : decode cX5_town 42 = .ok (.ireturn, 1) := by decide +kernel
theorem dX5_town_43 : decode cX5_town 43 = .ok (.aload_n 3, 1) := by decide +kernel
theorem dX5_town_44 : decode cX5_town 44 = .ok (.invokestatic 62, 3) := by decide +kernel
theorem dX5_town_47 : decode cX5_town 47 = .ok (.istore 4, 2) := by decide +kernel
theorem dX5_town_49 : decode cX5_town 49 = .ok (.iload 4, 2) := by decide +kernel
theorem dX5_town_51 : decode cX5_town 51 = .ok (.ifCond .lt 10, 3) := by decide +kernel
theorem dX5_town_54 : decode cX5_town 54 = .ok (.sipush (-1000), 3) := by decide +kernel
theorem dX5_town_57 : decode cX5_town 57 = .ok (.iload 4, 2) := by decide +kernel
theorem dX5_town_59 : decode cX5_town 59 = .ok (.isub, 1) := by decide +kernel
theorem dX5_town_60 : decode cX5_town 60 = .ok (.ireturn, 1) := by decide +kernel
theorem dX5_town_61 : decode cX5_town 61 = .ok (.aload_n 0, 1) := by decide +kernel
theorem dX5_town_62 : decode cX5_town 62 = .ok (.getfield 16, 3) := by decide +kernel
theorem dX5_town_65 : decode cX5_town 65 = .ok (.aload_n 0, 1) := by decide +kernel
theorem dX5_town_66 : decode cX5_town 66 = .ok (.getfield 10, 3) := by decide +kernel
theorem dX5_town_69 : decode cX5_town 69 = .ok (.invokevirtual 66, 3) := by decide +kernel
theorem dX5_town_72 : decode cX5_town 72 = .ok (.iconst 0, 1) := by decide +kernel
theorem dX5_town_73 : decode cX5_town 73 = .ok (.istore 5, 2) := by decide +kernel
theorem dX5_town_75 : decode cX5_town 75 = .ok (.iconst 0, 1) := by decide +kernel
theorem dX5_town_76 : decode cX5_town 76 = .ok (.istore 6, 2) := by decide +kernel
theorem dX5_town_78 : decode cX5_town 78 = .ok (.iload 6, 2) := by decide +kernel
theorem dX5_town_80 : decode cX5_town 80 = .ok (.aload_n 3, 1) := by decide +kernel
theorem dX5_town_81 : decode cX5_town 81 = .ok (.getfield 70, 3) := by decide +kernel
theorem dX5_town_84 : decode cX5_town 84 = .ok (.if_icmp .ge 43, 3) := by decide +kernel
theorem dX5_town_87 : decode cX5_town 87 = .ok (.aload_n 0, 1) := by decide +kernel
theorem dX5_town_88 : decode cX5_town 88 = .ok (.aload_n 3, 1) := by decide +kernel
theorem dX5_town_89 : decode cX5_town 89 = .ok (.iload 6, 2) := by decide +kernel
theorem dX5_town_91 : decode cX5_town 91 = .ok (.invokevirtual 73, 3) := by decide +kernel
theorem dX5_town_94 : decode cX5_town 94 = .ok (.ifCond .ge 10, 3) := by decide +kernel
theorem dX5_town_97 : decode cX5_town 97 = .ok (.sipush (-2000), 3) := by decide +kernel
theorem dX5_town_100 : decode cX5_town 100 = .ok (.iload 6, 2) := by decide +kernel
theorem dX5_town_102 : decode cX5_town 102 = .ok (.isub, 1) := by decide +kernel
theorem dX5_town_103 : decode cX5_town 103 = .ok (.ireturn, 1) := by decide +kernel
theorem dX5_town_104 : decode cX5_town 104 = .ok (.iinc 5 1, 3) := by decide +kernel
theorem dX5_town_107 : decode cX5_town 107 = .ok (.iload 6, 2) := by decide +kernel
theorem dX5_town_109 : decode cX5_town 109 = .ok (.aload_n 3, 1) := by decide +kernel
theorem dX5_town_110 : decode cX5_town 110 = .ok (.getfield 77, 3) := by decide +kernel
theorem dX5_town_113 : decode cX5_town 113 = .ok (.iload 6, 2) := by decide +kernel
theorem dX5_town_115 : decode cX5_town 115 = .ok (.iaload, 1) := by decide +kernel
theorem dX5_town_116 : decode cX5_town 116 = .ok (.invokestatic 81, 3) := by decide +kernel
theorem dX5_town_119 : decode cX5_town 119 = .ok (.iconst 2, 1) := by decide +kernel
theorem dX5_town_120 : decode cX5_town 120 = .ok (.iadd, 1) := by decide +kernel
theorem dX5_town_121 : decode cX5_town 121 = .ok (.iadd, 1) := by decide +kernel
theorem dX5_town_122 : decode cX5_town 122 = .ok (.istore 6, 2) := by decide +kernel
theorem dX5_town_124 : decode cX5_town 124 = .ok (.goto (-46), 3) := by decide +kernel
theorem dX5_town_127 : decode cX5_town 127 = .ok (.aload_n 0, 1) := by decide +kernel
theorem dX5_town_128 : decode cX5_town 128 = .ok (.getfield 10, 3) := by decide +kernel
theorem dX5_town_131 : decode cX5_town 131 = .ok (.aload_n 0, 1) := by decide +kernel
theorem dX5_town_132 : decode cX5_town 132 = .ok (.getfield 16, 3) := by decide +kernel
theorem dX5_town_135 : decode cX5_town 135 = .ok (.invokevirtual 66, 3) := by decide +kernel
theorem dX5_town_138 : decode cX5_town 138 = .ok (.iload 5, 2) := by decide +kernel
theorem dX5_town_140 : decode cX5_town 140 = .ok (.ireturn, 1) := by decide +kernel
set_option maxRecDepth 20000 in
theorem ggX5_good_X4_isGoods : GoodIn wsX5_good wsX4_isGoods := goodIn_r _ [10, 11, 21, 22, 23, 24, 25, 26, 27, 28, 29, 30, 31, 32, 33] (by decide +kernel) (by decide +kernel)
set_option maxRecDepth 20000 in
theorem gX5_good_X4_isGoods : GoodIn wsX5_good (wsV RX5 84 RX4 yX4_isGoods wsX4_isGoods) := goodIn_app (goodIn_of _ (by decide +kernel)) ggX5_good_X4_isGoods
theorem dX5_good_0 : decode cX5_good 0 = .ok (.aload_n 0, 1) := by decide +kernel
theorem dX5_good_1 : decode cX5_good 1 = .ok (.getfield 10, 3) := by decide +kernel
theorem dX5_good_4 : decode cX5_good 4 = .ok (.iload_n 1, 1) := by decide +kernel
theorem dX5_good_5 : decode cX5_good 5 = .ok (.invokevirtual 84, 3) := by decide +kernel
theorem dX5_good_8 : decode cX5_good 8 = .ok (.ifCond .ne 5, 3) := by decide +kernel
theorem dX5_good_11 : decode cX5_good 11 = .ok (.iconst (-1), 1) := by decide +kernel
theorem dX5_good_12 : decode cX5_good 12 = .ok (.ireturn, 1) := by decide +kernel
theorem dX5_good_13 : decode cX5_good 13 = .ok (.iload_n 2, 1) := by decide +kernel
theorem dX5_good_14 : decode cX5_good 14 = .ok (.tableswitch 78 0 3 #[30, 40, 50, 60], 30) := by decide +kernel
theorem dX5_good_44 : decode cX5_good 44 = .ok (.aload_n 0, 1) := by decide +kernel
theorem dX5_good_45 : decode cX5_good 45 = .ok (.getfield 10, 3) := by decide +kernel
theorem dX5_good_48 : decode cX5_good 48 = .ok (.getfield 87, 3) := by decide +kernel
theorem dX5_good_51 : decode cX5_good 51 = .ok (.iload_n 1, 1) := by decide +kernel
theorem dX5_good_52 : decode cX5_good 52 = .ok (.iaload, 1) := by decide +kernel
theorem dX5_good_53 : decode cX5_good 53 = .ok (.ireturn, 1) := by decide +kernel
theorem dX5_good_54 : decode cX5_good 54 = .ok (.aload_n 0, 1) := by decide +kernel
theorem dX5_good_55 : decode cX5_good 55 = .ok (.getfield 10, 3) := by decide +kernel
theorem dX5_good_58 : decode cX5_good 58 = .ok (.getfield 90, 3) := by decide +kernel
theorem dX5_good_61 : decode cX5_good 61 = .ok (.iload_n 1, 1) := by decide +kernel
theorem dX5_good_62 : decode cX5_good 62 = .ok (.iaload, 1) := by decide +kernel
theorem dX5_good_63 : decode cX5_good 63 = .ok (.ireturn, 1) := by decide +kernel
theorem dX5_good_64 : decode cX5_good 64 = .ok (.aload_n 0, 1) := by decide +kernel
theorem dX5_good_65 : decode cX5_good 65 = .ok (.getfield 10, 3) := by decide +kernel
theorem dX5_good_68 : decode cX5_good 68 = .ok (.getfield 93, 3) := by decide +kernel
theorem dX5_good_71 : decode cX5_good 71 = .ok (.iload_n 1, 1) := by decide +kernel
theorem dX5_good_72 : decode cX5_good 72 = .ok (.iaload, 1) := by decide +kernel
theorem dX5_good_73 : decode cX5_good 73 = .ok (.ireturn, 1) := by decide +kernel
theorem dX5_good_74 : decode cX5_good 74 = .ok (.aload_n 0, 1) := by decide +kernel
theorem dX5_good_75 : decode cX5_good 75 = .ok (.getfield 10, 3) := by decide +kernel
theorem dX5_good_78 : decode cX5_good 78 = .ok (.getfield 96, 3) := by decide +kernel
theorem dX5_good_81 : decode cX5_good 81 = .ok (.aload_n 0, 1) := by decide +kernel
theorem dX5_good_82 : decode cX5_good 82 = .ok (.getfield 10, 3) := by decide +kernel
theorem dX5_good_85 : decode cX5_good 85 = .ok (.getfield 87, 3) := by decide +kernel
theorem dX5_good_88 : decode cX5_good 88 = .ok (.iload_n 1, 1) := by decide +kernel
theorem dX5_good_89 : decode cX5_good 89 = .ok (.iaload, 1) := by decide +kernel
theorem dX5_good_90 : decode cX5_good 90 = .ok (.iaload, 1) := by decide +kernel
theorem dX5_good_91 : decode cX5_good 91 = .ok (.ireturn, 1) := by decide +kernel
theorem dX5_good_92 : decode cX5_good 92 = .ok (.iconst (-1), 1) := by decide +kernel
theorem dX5_good_93 : decode cX5_good 93 = .ok (.ireturn, 1) := by decide +kernel
set_option maxRecDepth 20000 in
theorem ggX5_person_X4_isPerson : GoodIn wsX5_person wsX4_isPerson := goodIn_r _ [7, 8, 39, 40, 41, 42, 43, 44, 45, 46, 47, 48, 49, 50, 51] (by decide +kernel) (by decide +kernel)
set_option maxRecDepth 20000 in
theorem gX5_person_X4_isPerson : GoodIn wsX5_person (wsV RX5 99 RX4 yX4_isPerson wsX4_isPerson) := goodIn_app (goodIn_of _ (by decide +kernel)) ggX5_person_X4_isPerson
set_option maxRecDepth 20000 in
theorem ggX5_person_X4_goodsHad : GoodIn wsX5_person wsX4_goodsHad := goodIn_r _ [12, 13, 14, 39, 40, 41, 42, 43, 44, 45, 46, 47, 48, 49, 50, 51] (by decide +kernel) (by decide +kernel)
set_option maxRecDepth 20000 in
theorem gX5_person_X4_goodsHad : GoodIn wsX5_person (wsV RX5 105 RX4 yX4_goodsHad wsX4_goodsHad) := goodIn_app (goodIn_of _ (by decide +kernel)) ggX5_person_X4_goodsHad
set_option maxRecDepth 20000 in
theorem ggX5_person_X4_wealth : GoodIn wsX5_person wsX4_wealth := goodIn_r _ [18, 13, 14, 19, 20, 21, 6, 22, 23, 24, 25, 26, 27, 28, 29, 39, 40, 41, 42, 43, 44, 45, 46, 47, 48, 49, 50, 51] (by decide +kernel) (by decide +kernel)
set_option maxRecDepth 20000 in
theorem gX5_person_X4_wealth : GoodIn wsX5_person (wsV RX5 108 RX4 yX4_wealth wsX4_wealth) := goodIn_app (goodIn_of _ (by decide +kernel)) ggX5_person_X4_wealth
theorem dX5_person_0 : decode cX5_person 0 = .ok (.aload_n 0, 1) := by decide +kernel
theorem dX5_person_1 : decode cX5_person 1 = .ok (.getfield 10, 3) := by decide +kernel
theorem dX5_person_4 : decode cX5_person 4 = .ok (.iload_n 1, 1) := by decide +kernel
theorem dX5_person_5 : decode cX5_person 5 = .ok (.invokevirtual 99, 3) := by decide +kernel
theorem dX5_person_8 : decode cX5_person 8 = .ok (.ifCond .ne 5, 3) := by decide +kernel
theorem dX5_person_11 : decode cX5_person 11 = .ok (.iconst (-1), 1) := by decide +kernel
theorem dX5_person_12 : decode cX5_person 12 = .ok (.ireturn, 1) := by decide +kernel
theorem dX5_person_13 : decode cX5_person 13 = .ok (.iload_n 2, 1) := by decide +kernel
theorem dX5_person_14 : decode cX5_person 14 = .ok (.tableswitch 54 0 2 #[26, 36, 45], 26) := by decide +kernel
theorem dX5_person_40 : decode cX5_person 40 = .ok (.aload_n 0, 1) := by decide +kernel
theorem dX5_person_41 : decode cX5_person 41 = .ok (.getfield 10, 3) := by decide +kernel
theorem dX5_person_44 : decode cX5_person 44 = .ok (.getfield 102, 3) := by decide +kernel
theorem dX5_person_47 : decode cX5_person 47 = .ok (.iload_n 1, 1) := by decide +kernel
theorem dX5_person_48 : decode cX5_person 48 = .ok (.iaload, 1) := by decide +kernel
theorem dX5_person_49 : decode cX5_person 49 = .ok (.ireturn, 1) := by decide +kernel
theorem dX5_person_50 : decode cX5_person 50 = .ok (.aload_n 0, 1) := by decide +kernel
theorem dX5_person_51 : decode cX5_person 51 = .ok (.getfield 10, 3) := by decide +kernel
theorem dX5_person_54 : decode cX5_person 54 = .ok (.iload_n 1, 1) := by decide +kernel
theorem dX5_person_55 : decode cX5_person 55 = .ok (.invokevirtual 105, 3) := by decide +kernel
theorem dX5_person_58 : decode cX5_person 58 = .ok (.ireturn, 1) := by decide +kernel
theorem dX5_person_59 : decode cX5_person 59 = .ok (.aload_n 0, 1) := by decide +kernel
theorem dX5_person_60 : decode cX5_person 60 = .ok (.getfield 10, 3) := by decide +kernel
theorem dX5_person_63 : decode cX5_person 63 = .ok (.iload_n 1, 1) := by decide +kernel
theorem dX5_person_64 : decode cX5_person 64 = .ok (.invokevirtual 108, 3) := by decide +kernel
theorem dX5_person_67 : decode cX5_person 67 = .ok (.ireturn, 1) := by decide +kernel
theorem dX5_person_68 : decode cX5_person 68 = .ok (.iconst (-1), 1) := by decide +kernel
theorem dX5_person_69 : decode cX5_person 69 = .ok (.ireturn, 1) := by decide +kernel
set_option maxRecDepth 20000 in
theorem ggX5_loan_X4_isLoan : GoodIn wsX5_loan wsX4_isLoan := goodIn_r _ [10, 11, 25, 26, 27, 28, 29, 30, 31, 32, 33, 34, 35, 36, 37] (by decide +kernel) (by decide +kernel)
set_option maxRecDepth 20000 in
theorem gX5_loan_X4_isLoan : GoodIn wsX5_loan (wsV RX5 111 RX4 yX4_isLoan wsX4_isLoan) := goodIn_app (goodIn_of _ (by decide +kernel)) ggX5_loan_X4_isLoan
set_option maxRecDepth 20000 in
theorem ggX5_loan_X5_has : GoodIn wsX5_loan wsX5_has := goodIn_r _ [15] (by decide +kernel) (by decide +kernel)
set_option maxRecDepth 20000 in
theorem gX5_loan_X5_has : GoodIn wsX5_loan (va_wsS RX5 126 yX5_has wsX5_has) := goodIn_app (goodIn_of _ (by decide +kernel)) ggX5_loan_X5_has
theorem dX5_loan_0 : decode cX5_loan 0 = .ok (.aload_n 0, 1) := by decide +kernel
theorem dX5_loan_1 : decode cX5_loan 1 = .ok (.getfield 10, 3) := by decide +kernel
theorem dX5_loan_4 : decode cX5_loan 4 = .ok (.iload_n 1, 1) := by decide +kernel
theorem dX5_loan_5 : decode cX5_loan 5 = .ok (.invokevirtual 111, 3) := by decide +kernel
theorem dX5_loan_8 : decode cX5_loan 8 = .ok (.ifCond .ne 5, 3) := by decide +kernel
theorem dX5_loan_11 : decode cX5_loan 11 = .ok (.iconst (-1), 1) := by decide +kernel
theorem dX5_loan_12 : decode cX5_loan 12 = .ok (.ireturn, 1) := by decide +kernel
theorem dX5_loan_13 : decode cX5_loan 13 = .ok (.iload_n 2, 1) := by decide +kernel
theorem dX5_loan_14 : decode cX5_loan 14 = .ok (.tableswitch 80 0 3 #[30, 40, 50, 60], 30) := by decide +kernel
theorem dX5_loan_44 : decode cX5_loan 44 = .ok (.aload_n 0, 1) := by decide +kernel
theorem dX5_loan_45 : decode cX5_loan 45 = .ok (.getfield 10, 3) := by decide +kernel
theorem dX5_loan_48 : decode cX5_loan 48 = .ok (.getfield 114, 3) := by decide +kernel
theorem dX5_loan_51 : decode cX5_loan 51 = .ok (.iload_n 1, 1) := by decide +kernel
theorem dX5_loan_52 : decode cX5_loan 52 = .ok (.iaload, 1) := by decide +kernel
theorem dX5_loan_53 : decode cX5_loan 53 = .ok (.ireturn, 1) := by decide +kernel
theorem dX5_loan_54 : decode cX5_loan 54 = .ok (.aload_n 0, 1) := by decide +kernel
theorem dX5_loan_55 : decode cX5_loan 55 = .ok (.getfield 10, 3) := by decide +kernel
theorem dX5_loan_58 : decode cX5_loan 58 = .ok (.getfield 117, 3) := by decide +kernel
theorem dX5_loan_61 : decode cX5_loan 61 = .ok (.iload_n 1, 1) := by decide +kernel
theorem dX5_loan_62 : decode cX5_loan 62 = .ok (.iaload, 1) := by decide +kernel
theorem dX5_loan_63 : decode cX5_loan 63 = .ok (.ireturn, 1) := by decide +kernel
theorem dX5_loan_64 : decode cX5_loan 64 = .ok (.aload_n 0, 1) := by decide +kernel
theorem dX5_loan_65 : decode cX5_loan 65 = .ok (.getfield 10, 3) := by decide +kernel
theorem dX5_loan_68 : decode cX5_loan 68 = .ok (.getfield 120, 3) := by decide +kernel
theorem dX5_loan_71 : decode cX5_loan 71 = .ok (.iload_n 1, 1) := by decide +kernel
theorem dX5_loan_72 : decode cX5_loan 72 = .ok (.iaload, 1) := by decide +kernel
theorem dX5_loan_73 : decode cX5_loan 73 = .ok (.ireturn, 1) := by decide +kernel
theorem dX5_loan_74 : decode cX5_loan 74 = .ok (.aload_n 0, 1) := by decide +kernel
theorem dX5_loan_75 : decode cX5_loan 75 = .ok (.getfield 10, 3) := by decide +kernel
theorem dX5_loan_78 : decode cX5_loan 78 = .ok (.getfield 123, 3) := by decide +kernel
theorem dX5_loan_81 : decode cX5_loan 81 = .ok (.iload_n 1, 1) := by decide +kernel
theorem dX5_loan_82 : decode cX5_loan 82 = .ok (.invokestatic 126, 3) := by decide +kernel
theorem dX5_loan_85 : decode cX5_loan 85 = .ok (.ifCond .eq 7, 3) := by decide +kernel
theorem dX5_loan_88 : decode cX5_loan 88 = .ok (.iconst 1, 1) := by decide +kernel
theorem dX5_loan_89 : decode cX5_loan 89 = .ok (.goto 4, 3) := by decide +kernel
theorem dX5_loan_92 : decode cX5_loan 92 = .ok (.iconst 0, 1) := by decide +kernel
theorem dX5_loan_93 : decode cX5_loan 93 = .ok (.ireturn, 1) := by decide +kernel
theorem dX5_loan_94 : decode cX5_loan 94 = .ok (.iconst (-1), 1) := by decide +kernel
theorem dX5_loan_95 : decode cX5_loan 95 = .ok (.ireturn, 1) := by decide +kernel
set_option maxRecDepth 20000 in
theorem ggX5_comes_X4_addPerson : GoodIn wsX5_comes wsX4_addPerson := goodIn_r _ [6, 7, 8, 18, 19, 20, 21, 22, 23, 24, 25, 26, 27, 28, 29, 30] (by decide +kernel) (by decide +kernel)
set_option maxRecDepth 20000 in
theorem gX5_comes_X4_addPerson : GoodIn wsX5_comes (wsV RX5 130 RX4 yX4_addPerson wsX4_addPerson) := goodIn_app (goodIn_of _ (by decide +kernel)) ggX5_comes_X4_addPerson
theorem dX5_comes_0 : decode cX5_comes 0 = .ok (.aload_n 0, 1) := by decide +kernel
theorem dX5_comes_1 : decode cX5_comes 1 = .ok (.getfield 10, 3) := by decide +kernel
theorem dX5_comes_4 : decode cX5_comes 4 = .ok (.iload_n 1, 1) := by decide +kernel
theorem dX5_comes_5 : decode cX5_comes 5 = .ok (.invokevirtual 130, 3) := by decide +kernel
theorem dX5_comes_8 : decode cX5_comes 8 = .ok (.ireturn, 1) := by decide +kernel
set_option maxRecDepth 20000 in
theorem ggX5_brings_X5_isShelf : GoodIn wsX5_brings wsX5_isShelf := goodIn_r _ [8] (by decide +kernel) (by decide +kernel)
set_option maxRecDepth 20000 in
theorem gX5_brings_X5_isShelf : GoodIn wsX5_brings (va_wsS RX5 50 yX5_isShelf wsX5_isShelf) := goodIn_app (goodIn_of _ (by decide +kernel)) ggX5_brings_X5_isShelf
set_option maxRecDepth 20000 in
theorem ggX5_brings_X4_isPerson : GoodIn wsX5_brings wsX4_isPerson := goodIn_r _ [13, 14, 49, 50, 51, 52, 53, 54, 55, 56, 57, 58, 59, 60, 61] (by decide +kernel) (by decide +kernel)
set_option maxRecDepth 20000 in
theorem gX5_brings_X4_isPerson : GoodIn wsX5_brings (wsV RX5 99 RX4 yX4_isPerson wsX4_isPerson) := goodIn_app (goodIn_of _ (by decide +kernel)) ggX5_brings_X4_isPerson
set_option maxRecDepth 20000 in
theorem ggX5_brings_X1_refusal : GoodIn wsX5_brings wsX1_refusal := goodIn_r _ [19, 20, 43, 44, 45, 46, 47, 48] (by decide +kernel) (by decide +kernel)
set_option maxRecDepth 20000 in
theorem gX5_brings_X1_refusal : GoodIn wsX5_brings (wsV RX5 54 RX1 yX1_refusal wsX1_refusal) := goodIn_app (goodIn_of _ (by decide +kernel)) ggX5_brings_X1_refusal
set_option maxRecDepth 20000 in
theorem ggX5_brings_X4_addGoods : GoodIn wsX5_brings wsX4_addGoods := goodIn_r _ [24, 25, 26, 27, 28, 29, 7, 30, 31, 32, 33, 10, 11, 12, 13, 14, 49, 50, 51, 52, 53, 54, 55, 56, 57, 58, 59, 60, 61] (by decide +kernel) (by decide +kernel)
set_option maxRecDepth 20000 in
theorem gX5_brings_X4_addGoods : GoodIn wsX5_brings (wsV RX5 139 RX4 yX4_addGoods wsX4_addGoods) := goodIn_app (goodIn_of _ (by decide +kernel)) ggX5_brings_X4_addGoods
theorem dX5_brings_0 : decode cX5_brings 0 = .ok (.iload_n 1, 1) := by decide +kernel
theorem dX5_brings_1 : decode cX5_brings 1 = .ok (.invokestatic 50, 3) := by decide +kernel
theorem dX5_brings_4 : decode cX5_brings 4 = .ok (.ifCond .eq 14, 3) := by decide +kernel
theorem dX5_brings_7 : decode cX5_brings 7 = .ok (.aload_n 0, 1) := by decide +kernel
theorem dX5_brings_8 : decode cX5_brings 8 = .ok (.getfield 10, 3) := by decide +kernel
theorem dX5_brings_11 : decode cX5_brings 11 = .ok (.iload_n 2, 1) := by decide +kernel
theorem dX5_brings_12 : decode cX5_brings 12 = .ok (.invokevirtual 99, 3) := by decide +kernel
theorem dX5_brings_15 : decode cX5_brings 15 = .ok (.ifCond .ne 5, 3) := by decide +kernel
theorem dX5_brings_18 : decode cX5_brings 18 = .ok (.iconst (-1), 1) := by decide +kernel
theorem dX5_brings_19 : decode cX5_brings 19 = .ok (.ireturn, 1) := by decide +kernel
theorem dX5_brings_20 : decode cX5_brings 20 = .ok (.aload_n 0, 1) := by decide +kernel
theorem dX5_brings_21 : decode cX5_brings 21 = .ok (.getfield 24, 3) := by decide +kernel
theorem dX5_brings_24 : decode cX5_brings 24 = .ok (.iload_n 1, 1) := by decide +kernel
theorem dX5_brings_25 : decode cX5_brings 25 = .ok (.aaload, 1) := by decide +kernel
theorem dX5_brings_26 : decode cX5_brings 26 = .ok (.iconst 1, 1) := by decide +kernel
theorem dX5_brings_27 : decode cX5_brings 27 = .ok (.invokevirtual 54, 3) := by decide +kernel
theorem dX5_brings_30 : decode cX5_brings 30 = .ok (.istore_n 3, 1) := by decide +kernel
theorem dX5_brings_31 : decode cX5_brings 31 = .ok (.iload_n 3, 1) := by decide +kernel
theorem dX5_brings_32 : decode cX5_brings 32 = .ok (.ifCond .eq 5, 3) := by decide +kernel
theorem dX5_brings_35 : decode cX5_brings 35 = .ok (.iload_n 3, 1) := by decide +kernel
theorem dX5_brings_36 : decode cX5_brings 36 = .ok (.ireturn, 1) := by decide +kernel
theorem dX5_brings_37 : decode cX5_brings 37 = .ok (.aload_n 0, 1) := by decide +kernel
theorem dX5_brings_38 : decode cX5_brings 38 = .ok (.getfield 10, 3) := by decide +kernel
theorem dX5_brings_41 : decode cX5_brings 41 = .ok (.aload_n 0, 1) := by decide +kernel
theorem dX5_brings_42 : decode cX5_brings 42 = .ok (.getfield 24, 3) := by decide +kernel
theorem dX5_brings_45 : decode cX5_brings 45 = .ok (.iload_n 1, 1) := by decide +kernel
theorem dX5_brings_46 : decode cX5_brings 46 = .ok (.aaload, 1) := by decide +kernel
theorem dX5_brings_47 : decode cX5_brings 47 = .ok (.getfield 133, 3) := by decide +kernel
theorem dX5_brings_50 : decode cX5_brings 50 = .ok (.aload_n 0, 1) := by decide +kernel
theorem dX5_brings_51 : decode cX5_brings 51 = .ok (.getfield 24, 3) := by decide +kernel
theorem dX5_brings_54 : decode cX5_brings 54 = .ok (.iload_n 1, 1) := by decide +kernel
theorem dX5_brings_55 : decode cX5_brings 55 = .ok (.aaload, 1) := by decide +kernel
theorem dX5_brings_56 : decode cX5_brings 56 = .ok (.getfield 136, 3) := by decide +kernel
theorem dX5_brings_59 : decode cX5_brings 59 = .ok (.iload_n 2, 1) := by decide +kernel
theorem dX5_brings_60 : decode cX5_brings 60 = .ok (.invokevirtual 139, 3) := by decide +kernel
theorem dX5_brings_63 : decode cX5_brings 63 = .ok (.ireturn, 1) := by decide +kernel
set_option maxRecDepth 20000 in
theorem ggX5_lends_X4_addLoan : GoodIn wsX5_lends wsX4_addLoan := goodIn_r _ [6, 7, 8, 9, 10, 11, 12, 13, 14, 15, 5, 16, 17, 18, 19, 20, 21, 22, 32, 33, 34, 35, 36, 37, 38, 39, 40, 41, 42, 43, 44] (by decide +kernel) (by decide +kernel)
set_option maxRecDepth 20000 in
theorem gX5_lends_X4_addLoan : GoodIn wsX5_lends (wsV RX5 143 RX4 yX4_addLoan wsX4_addLoan) := goodIn_app (goodIn_of _ (by decide +kernel)) ggX5_lends_X4_addLoan
theorem dX5_lends_0 : decode cX5_lends 0 = .ok (.aload_n 0, 1) := by decide +kernel
theorem dX5_lends_1 : decode cX5_lends 1 = .ok (.getfield 10, 3) := by decide +kernel
theorem dX5_lends_4 : decode cX5_lends 4 = .ok (.iload_n 1, 1) := by decide +kernel
theorem dX5_lends_5 : decode cX5_lends 5 = .ok (.iload_n 2, 1) := by decide +kernel
theorem dX5_lends_6 : decode cX5_lends 6 = .ok (.invokevirtual 143, 3) := by decide +kernel
theorem dX5_lends_9 : decode cX5_lends 9 = .ok (.ireturn, 1) := by decide +kernel
set_option maxRecDepth 20000 in
theorem ggX5_pays_X4_isLoan : GoodIn wsX5_pays wsX4_isLoan := goodIn_r _ [7, 8, 62, 63, 64, 65, 66, 67, 68, 69, 70, 71, 72, 73, 74] (by decide +kernel) (by decide +kernel)
set_option maxRecDepth 20000 in
theorem gX5_pays_X4_isLoan : GoodIn wsX5_pays (wsV RX5 111 RX4 yX4_isLoan wsX4_isLoan) := goodIn_app (goodIn_of _ (by decide +kernel)) ggX5_pays_X4_isLoan
set_option maxRecDepth 20000 in
theorem ggX5_pays_X4_isGoods : GoodIn wsX5_pays wsX4_isGoods := goodIn_r _ [12, 13, 62, 63, 64, 65, 66, 67, 68, 69, 70, 71, 72, 73, 74] (by decide +kernel) (by decide +kernel)
set_option maxRecDepth 20000 in
theorem gX5_pays_X4_isGoods : GoodIn wsX5_pays (wsV RX5 84 RX4 yX4_isGoods wsX4_isGoods) := goodIn_app (goodIn_of _ (by decide +kernel)) ggX5_pays_X4_isGoods
set_option maxRecDepth 20000 in
theorem ggX5_pays_X4_payers : GoodIn wsX5_pays wsX4_payers := goodIn_r _ [17, 18, 19, 20, 21, 22, 23, 24, 25, 26, 27, 6, 28, 13, 29, 30, 31, 32, 33, 34, 35, 36, 37, 38, 39, 40, 62, 63, 64, 65, 66, 67, 68, 69, 70, 71, 72, 73, 74] (by decide +kernel) (by decide +kernel)
set_option maxRecDepth 20000 in
theorem gX5_pays_X4_payers : GoodIn wsX5_pays (wsV RX5 147 RX4 yX4_payers wsX4_payers) := goodIn_app (goodIn_of _ (by decide +kernel)) ggX5_pays_X4_payers
set_option maxRecDepth 20000 in
theorem ggX5_pays_X5_has : GoodIn wsX5_pays wsX5_has := goodIn_r _ [24] (by decide +kernel) (by decide +kernel)
set_option maxRecDepth 20000 in
theorem gX5_pays_X5_has : GoodIn wsX5_pays (va_wsS RX5 126 yX5_has wsX5_has) := goodIn_app (goodIn_of _ (by decide +kernel)) ggX5_pays_X5_has
set_option maxRecDepth 20000 in
theorem ggX5_pays_X4_settle : GoodIn wsX5_pays wsX4_settle := goodIn_r _ [45, 29, 20, 18, 62, 63, 64, 65, 66, 67, 68, 69, 70, 71, 72, 73, 74] (by decide +kernel) (by decide +kernel)
set_option maxRecDepth 20000 in
theorem gX5_pays_X4_settle : GoodIn wsX5_pays (wsV RX5 150 RX4 yX4_settle wsX4_settle) := goodIn_app (goodIn_of _ (by decide +kernel)) ggX5_pays_X4_settle
set_option maxRecDepth 20000 in
theorem ggX5_pays_J6_bitCount_0f7a4 : GoodIn wsX5_pays wsJ6_bitCount_0f7a4 := goodIn_r _ [49, 50, 51, 52] (by decide +kernel) (by decide +kernel)
set_option maxRecDepth 20000 in
theorem gX5_pays_J6_bitCount_0f7a4 : GoodIn wsX5_pays (va_wsS RX5 154 yJ6_bitCount_0f7a4 wsJ6_bitCount_0f7a4) := goodIn_app (goodIn_of _ (by decide +kernel)) ggX5_pays_J6_bitCount_0f7a4
theorem dX5_pays_0 : decode cX5_pays 0 = .ok (.aload_n 0, 1) := by decide +kernel
theorem dX5_pays_1 : decode cX5_pays 1 = .ok (.getfield 10, 3) := by decide +kernel
theorem dX5_pays_4 : decode cX5_pays 4 = .ok (.iload_n 1, 1) := by decide +kernel
theorem dX5_pays_5 : decode cX5_pays 5 = .ok (.invokevirtual 111, 3) := by decide +kernel
theorem dX5_pays_8 : decode cX5_pays 8 = .ok (.ifCond .eq 14, 3) := by decide +kernel
theorem dX5_pays_11 : decode cX5_pays 11 = .ok (.aload_n 0, 1) := by decide +kernel
theorem dX5_pays_12 : decode cX5_pays 12 = .ok (.getfield 10, 3) := by decide +kernel
theorem dX5_pays_15 : decode cX5_pays 15 = .ok (.iload_n 2, 1) := by decide +kernel
theorem dX5_pays_16 : decode cX5_pays 16 = .ok (.invokevirtual 84, 3) := by decide +kernel
theorem dX5_pays_19 : decode cX5_pays 19 = .ok (.ifCond .ne 5, 3) := by decide +kernel
theorem dX5_pays_22 : decode cX5_pays 22 = .ok (.iconst (-1), 1) := by decide +kernel
theorem dX5_pays_23 : decode cX5_pays 23 = .ok (.ireturn, 1) := by decide +kernel
theorem dX5_pays_24 : decode cX5_pays 24 = .ok (.aload_n 0, 1) := by decide +kernel
theorem dX5_pays_25 : decode cX5_pays 25 = .ok (.getfield 10, 3) := by decide +kernel
theorem dX5_pays_28 : decode cX5_pays 28 = .ok (.iload_n 1, 1) := by decide +kernel
theorem dX5_pays_29 : decode cX5_pays 29 = .ok (.invokevirtual 147, 3) := by decide +kernel
theorem dX5_pays_32 : decode cX5_pays 32 = .ok (.iload_n 2, 1) := by decide +kernel
theorem dX5_pays_33 : decode cX5_pays 33 = .ok (.invokestatic 126, 3) := by decide +kernel
theorem dX5_pays_36 : decode cX5_pays 36 = .ok (.ifCond .ne 6, 3) := by decide +kernel
theorem dX5_pays_39 : decode cX5_pays 39 = .ok (.bipush (-3), 2) := by decide +kernel
theorem dX5_pays_41 : decode cX5_pays 41 = .ok (.ireturn, 1) := by decide +kernel
theorem dX5_pays_42 : decode cX5_pays 42 = .ok (.aload_n 0, 1) := by decide +kernel
theorem dX5_pays_43 : decode cX5_pays 43 = .ok (.getfield 10, 3) := by decide +kernel
theorem dX5_pays_46 : decode cX5_pays 46 = .ok (.iload_n 1, 1) := by decide +kernel
theorem dX5_pays_47 : decode cX5_pays 47 = .ok (.iload_n 2, 1) := by decide +kernel
theorem dX5_pays_48 : decode cX5_pays 48 = .ok (.invokevirtual 150, 3) := by decide +kernel
theorem dX5_pays_51 : decode cX5_pays 51 = .ok (.aload_n 0, 1) := by decide +kernel
theorem dX5_pays_52 : decode cX5_pays 52 = .ok (.getfield 10, 3) := by decide +kernel
theorem dX5_pays_55 : decode cX5_pays 55 = .ok (.getfield 123, 3) := by decide +kernel
theorem dX5_pays_58 : decode cX5_pays 58 = .ok (.invokestatic 154, 3) := by decide +kernel
theorem dX5_pays_61 : decode cX5_pays 61 = .ok (.ireturn, 1) := by decide +kernel
set_option maxRecDepth 20000 in
theorem ggX5_sames_X4_liken : GoodIn wsX5_sames wsX4_liken := goodIn_r _ [6, 7, 8, 9, 10, 20, 21, 22, 23, 24, 25, 26, 27, 28, 29, 30, 31, 32] (by decide +kernel) (by decide +kernel)
set_option maxRecDepth 20000 in
theorem gX5_sames_X4_liken : GoodIn wsX5_sames (wsV RX5 159 RX4 yX4_liken wsX4_liken) := goodIn_app (goodIn_of _ (by decide +kernel)) ggX5_sames_X4_liken
theorem dX5_sames_0 : decode cX5_sames 0 = .ok (.aload_n 0, 1) := by decide +kernel
theorem dX5_sames_1 : decode cX5_sames 1 = .ok (.getfield 10, 3) := by decide +kernel
theorem dX5_sames_4 : decode cX5_sames 4 = .ok (.iload_n 1, 1) := by decide +kernel
theorem dX5_sames_5 : decode cX5_sames 5 = .ok (.iload_n 2, 1) := by decide +kernel
theorem dX5_sames_6 : decode cX5_sames 6 = .ok (.invokevirtual 159, 3) := by decide +kernel
theorem dX5_sames_9 : decode cX5_sames 9 = .ok (.ireturn, 1) := by decide +kernel
set_option maxRecDepth 20000 in
theorem ggX5_weeks_X4_passWeeks : GoodIn wsX5_weeks wsX4_passWeeks := goodIn_r _ [6, 7, 8, 9, 10, 11, 5, 12, 13, 14, 15, 16, 17, 18, 19, 20, 21, 22, 23, 24, 25, 26, 27, 28, 29, 30, 31, 32, 33, 34, 35, 36, 37, 38, 39, 40, 41, 42, 43, 44, 45, 46, 47, 48, 49, 50, 51, 52, 53, 54, 55, 56, 57, 58, 68, 69, 70, 71, 72, 73, 74, 75, 76, 77, 78, 79, 80] (by decide +kernel) (by decide +kernel)
set_option maxRecDepth 20000 in
theorem gX5_weeks_X4_passWeeks : GoodIn wsX5_weeks (wsV RX5 162 RX4 yX4_passWeeks wsX4_passWeeks) := goodIn_app (goodIn_of _ (by decide +kernel)) ggX5_weeks_X4_passWeeks
theorem dX5_weeks_0 : decode cX5_weeks 0 = .ok (.aload_n 0, 1) := by decide +kernel
theorem dX5_weeks_1 : decode cX5_weeks 1 = .ok (.getfield 10, 3) := by decide +kernel
theorem dX5_weeks_4 : decode cX5_weeks 4 = .ok (.iload_n 1, 1) := by decide +kernel
theorem dX5_weeks_5 : decode cX5_weeks 5 = .ok (.invokevirtual 162, 3) := by decide +kernel
theorem dX5_weeks_8 : decode cX5_weeks 8 = .ok (.ireturn, 1) := by decide +kernel
set_option maxRecDepth 20000 in
theorem ggX5_worth_X4_isPerson : GoodIn wsX5_worth wsX4_isPerson := goodIn_r _ [6, 7, 33, 34, 35, 36, 37, 38, 39, 40, 41, 42, 43, 44, 45] (by decide +kernel) (by decide +kernel)
set_option maxRecDepth 20000 in
theorem gX5_worth_X4_isPerson : GoodIn wsX5_worth (wsV RX5 99 RX4 yX4_isPerson wsX4_isPerson) := goodIn_app (goodIn_of _ (by decide +kernel)) ggX5_worth_X4_isPerson
set_option maxRecDepth 20000 in
theorem ggX5_worth_X4_isGoods : GoodIn wsX5_worth wsX4_isGoods := goodIn_r _ [11, 12, 33, 34, 35, 36, 37, 38, 39, 40, 41, 42, 43, 44, 45] (by decide +kernel) (by decide +kernel)
set_option maxRecDepth 20000 in
theorem gX5_worth_X4_isGoods : GoodIn wsX5_worth (wsV RX5 84 RX4 yX4_isGoods wsX4_isGoods) := goodIn_app (goodIn_of _ (by decide +kernel)) ggX5_worth_X4_isGoods
set_option maxRecDepth 20000 in
theorem ggX5_worth_X4_worthTo : GoodIn wsX5_worth wsX4_worthTo := goodIn_r _ [16, 17, 18, 19, 20, 21, 22, 23, 33, 34, 35, 36, 37, 38, 39, 40, 41, 42, 43, 44, 45] (by decide +kernel) (by decide +kernel)
set_option maxRecDepth 20000 in
theorem gX5_worth_X4_worthTo : GoodIn wsX5_worth (wsV RX5 165 RX4 yX4_worthTo wsX4_worthTo) := goodIn_app (goodIn_of _ (by decide +kernel)) ggX5_worth_X4_worthTo
theorem dX5_worth_0 : decode cX5_worth 0 = .ok (.aload_n 0, 1) := by decide +kernel
theorem dX5_worth_1 : decode cX5_worth 1 = .ok (.getfield 10, 3) := by decide +kernel
theorem dX5_worth_4 : decode cX5_worth 4 = .ok (.iload_n 1, 1) := by decide +kernel
theorem dX5_worth_5 : decode cX5_worth 5 = .ok (.invokevirtual 99, 3) := by decide +kernel
theorem dX5_worth_8 : decode cX5_worth 8 = .ok (.ifCond .eq 14, 3) := by decide +kernel
theorem dX5_worth_11 : decode cX5_worth 11 = .ok (.aload_n 0, 1) := by decide +kernel
theorem dX5_worth_12 : decode cX5_worth 12 = .ok (.getfield 10, 3) := by decide +kernel
theorem dX5_worth_15 : decode cX5_worth 15 = .ok (.iload_n 2, 1) := by decide +kernel
theorem dX5_worth_16 : decode cX5_worth 16 = .ok (.invokevirtual 84, 3) := by decide +kernel
theorem dX5_worth_19 : decode cX5_worth 19 = .ok (.ifCond .ne 5, 3) := by decide +kernel
theorem dX5_worth_22 : decode cX5_worth 22 = .ok (.iconst (-1), 1) := by decide +kernel
theorem dX5_worth_23 : decode cX5_worth 23 = .ok (.ireturn, 1) := by decide +kernel
theorem dX5_worth_24 : decode cX5_worth 24 = .ok (.aload_n 0, 1) := by decide +kernel
theorem dX5_worth_25 : decode cX5_worth 25 = .ok (.getfield 10, 3) := by decide +kernel
theorem dX5_worth_28 : decode cX5_worth 28 = .ok (.iload_n 1, 1) := by decide +kernel
theorem dX5_worth_29 : decode cX5_worth 29 = .ok (.iload_n 2, 1) := by decide +kernel
theorem dX5_worth_30 : decode cX5_worth 30 = .ok (.invokevirtual 165, 3) := by decide +kernel
theorem dX5_worth_33 : decode cX5_worth 33 = .ok (.ireturn, 1) := by decide +kernel
set_option maxRecDepth 20000 in
theorem ggX5_would_X4_isPerson : GoodIn wsX5_would wsX4_isPerson := goodIn_r _ [6, 7, 40, 41, 42, 43, 44, 45, 46, 47, 48, 49, 50, 51, 52] (by decide +kernel) (by decide +kernel)
set_option maxRecDepth 20000 in
theorem gX5_would_X4_isPerson : GoodIn wsX5_would (wsV RX5 99 RX4 yX4_isPerson wsX4_isPerson) := goodIn_app (goodIn_of _ (by decide +kernel)) ggX5_would_X4_isPerson
set_option maxRecDepth 20000 in
theorem ggX5_would_X4_isGoods : GoodIn wsX5_would wsX4_isGoods := goodIn_r _ [11, 12, 40, 41, 42, 43, 44, 45, 46, 47, 48, 49, 50, 51, 52] (by decide +kernel) (by decide +kernel)
set_option maxRecDepth 20000 in
theorem gX5_would_X4_isGoods : GoodIn wsX5_would (wsV RX5 84 RX4 yX4_isGoods wsX4_isGoods) := goodIn_app (goodIn_of _ (by decide +kernel)) ggX5_would_X4_isGoods
set_option maxRecDepth 20000 in
theorem ggX5_would_X4_isTaken : GoodIn wsX5_would wsX4_isTaken := goodIn_r _ [16, 17, 18, 19, 5, 20, 21, 22, 23, 24, 12, 25, 26, 27, 28, 29, 30, 40, 41, 42, 43, 44, 45, 46, 47, 48, 49, 50, 51, 52] (by decide +kernel) (by decide +kernel)
set_option maxRecDepth 20000 in
theorem gX5_would_X4_isTaken : GoodIn wsX5_would (wsV RX5 168 RX4 yX4_isTaken wsX4_isTaken) := goodIn_app (goodIn_of _ (by decide +kernel)) ggX5_would_X4_isTaken
theorem dX5_would_0 : decode cX5_would 0 = .ok (.aload_n 0, 1) := by decide +kernel
theorem dX5_would_1 : decode cX5_would 1 = .ok (.getfield 10, 3) := by decide +kernel
theorem dX5_would_4 : decode cX5_would 4 = .ok (.iload_n 1, 1) := by decide +kernel
theorem dX5_would_5 : decode cX5_would 5 = .ok (.invokevirtual 99, 3) := by decide +kernel
theorem dX5_would_8 : decode cX5_would 8 = .ok (.ifCond .eq 25, 3) := by decide +kernel
theorem dX5_would_11 : decode cX5_would 11 = .ok (.aload_n 0, 1) := by decide +kernel
theorem dX5_would_12 : decode cX5_would 12 = .ok (.getfield 10, 3) := by decide +kernel
theorem dX5_would_15 : decode cX5_would 15 = .ok (.iload_n 2, 1) := by decide +kernel
theorem dX5_would_16 : decode cX5_would 16 = .ok (.invokevirtual 84, 3) := by decide +kernel
theorem dX5_would_19 : decode cX5_would 19 = .ok (.ifCond .eq 14, 3) := by decide +kernel
theorem dX5_would_22 : decode cX5_would 22 = .ok (.aload_n 0, 1) := by decide +kernel
theorem dX5_would_23 : decode cX5_would 23 = .ok (.getfield 10, 3) := by decide +kernel
theorem dX5_would_26 : decode cX5_would 26 = .ok (.iload_n 3, 1) := by decide +kernel
theorem dX5_would_27 : decode cX5_would 27 = .ok (.invokevirtual 84, 3) := by decide +kernel
theorem dX5_would_30 : decode cX5_would 30 = .ok (.ifCond .ne 5, 3) := by decide +kernel
theorem dX5_would_33 : decode cX5_would 33 = .ok (.iconst (-1), 1) := by decide +kernel
theorem dX5_would_34 : decode cX5_would 34 = .ok (.ireturn, 1) := by decide +kernel
theorem dX5_would_35 : decode cX5_would 35 = .ok (.aload_n 0, 1) := by decide +kernel
theorem dX5_would_36 : decode cX5_would 36 = .ok (.getfield 10, 3) := by decide +kernel
theorem dX5_would_39 : decode cX5_would 39 = .ok (.iload_n 1, 1) := by decide +kernel
theorem dX5_would_40 : decode cX5_would 40 = .ok (.iload_n 2, 1) := by decide +kernel
theorem dX5_would_41 : decode cX5_would 41 = .ok (.iload_n 3, 1) := by decide +kernel
theorem dX5_would_42 : decode cX5_would 42 = .ok (.invokevirtual 168, 3) := by decide +kernel
theorem dX5_would_45 : decode cX5_would 45 = .ok (.ifCond .eq 7, 3) := by decide +kernel
theorem dX5_would_48 : decode cX5_would 48 = .ok (.iconst 1, 1) := by decide +kernel
theorem dX5_would_49 : decode cX5_would 49 = .ok (.goto 4, 3) := by decide +kernel
theorem dX5_would_52 : decode cX5_would 52 = .ok (.iconst 0, 1) := by decide +kernel
theorem dX5_would_53 : decode cX5_would 53 = .ok (.ireturn, 1) := by decide +kernel
set_option maxRecDepth 20000 in
theorem ggX5_takes_X4_isPerson : GoodIn wsX5_takes wsX4_isPerson := goodIn_r _ [6, 7, 34, 35, 36, 37, 38, 39, 40, 41, 42, 43, 44, 45, 46] (by decide +kernel) (by decide +kernel)
set_option maxRecDepth 20000 in
theorem gX5_takes_X4_isPerson : GoodIn wsX5_takes (wsV RX5 99 RX4 yX4_isPerson wsX4_isPerson) := goodIn_app (goodIn_of _ (by decide +kernel)) ggX5_takes_X4_isPerson
set_option maxRecDepth 20000 in
theorem ggX5_takes_X4_isGoods : GoodIn wsX5_takes wsX4_isGoods := goodIn_r _ [11, 12, 34, 35, 36, 37, 38, 39, 40, 41, 42, 43, 44, 45, 46] (by decide +kernel) (by decide +kernel)
set_option maxRecDepth 20000 in
theorem gX5_takes_X4_isGoods : GoodIn wsX5_takes (wsV RX5 84 RX4 yX4_isGoods wsX4_isGoods) := goodIn_app (goodIn_of _ (by decide +kernel)) ggX5_takes_X4_isGoods
set_option maxRecDepth 20000 in
theorem ggX5_takes_X4_takenFor : GoodIn wsX5_takes wsX4_takenFor := goodIn_r _ [16, 17, 18, 19, 20, 12, 21, 22, 23, 24, 34, 35, 36, 37, 38, 39, 40, 41, 42, 43, 44, 45, 46] (by decide +kernel) (by decide +kernel)
set_option maxRecDepth 20000 in
theorem gX5_takes_X4_takenFor : GoodIn wsX5_takes (wsV RX5 172 RX4 yX4_takenFor wsX4_takenFor) := goodIn_app (goodIn_of _ (by decide +kernel)) ggX5_takes_X4_takenFor
theorem dX5_takes_0 : decode cX5_takes 0 = .ok (.aload_n 0, 1) := by decide +kernel
theorem dX5_takes_1 : decode cX5_takes 1 = .ok (.getfield 10, 3) := by decide +kernel
theorem dX5_takes_4 : decode cX5_takes 4 = .ok (.iload_n 1, 1) := by decide +kernel
theorem dX5_takes_5 : decode cX5_takes 5 = .ok (.invokevirtual 99, 3) := by decide +kernel
theorem dX5_takes_8 : decode cX5_takes 8 = .ok (.ifCond .eq 14, 3) := by decide +kernel
theorem dX5_takes_11 : decode cX5_takes 11 = .ok (.aload_n 0, 1) := by decide +kernel
theorem dX5_takes_12 : decode cX5_takes 12 = .ok (.getfield 10, 3) := by decide +kernel
theorem dX5_takes_15 : decode cX5_takes 15 = .ok (.iload_n 2, 1) := by decide +kernel
theorem dX5_takes_16 : decode cX5_takes 16 = .ok (.invokevirtual 84, 3) := by decide +kernel
theorem dX5_takes_19 : decode cX5_takes 19 = .ok (.ifCond .ne 5, 3) := by decide +kernel
theorem dX5_takes_22 : decode cX5_takes 22 = .ok (.iconst (-1), 1) := by decide +kernel
theorem dX5_takes_23 : decode cX5_takes 23 = .ok (.ireturn, 1) := by decide +kernel
theorem dX5_takes_24 : decode cX5_takes 24 = .ok (.aload_n 0, 1) := by decide +kernel
theorem dX5_takes_25 : decode cX5_takes 25 = .ok (.getfield 10, 3) := by decide +kernel
theorem dX5_takes_28 : decode cX5_takes 28 = .ok (.iload_n 1, 1) := by decide +kernel
theorem dX5_takes_29 : decode cX5_takes 29 = .ok (.iload_n 2, 1) := by decide +kernel
theorem dX5_takes_30 : decode cX5_takes 30 = .ok (.invokevirtual 172, 3) := by decide +kernel
theorem dX5_takes_33 : decode cX5_takes 33 = .ok (.ireturn, 1) := by decide +kernel
set_option maxRecDepth 20000 in
theorem ggX5_canPay_X4_isLoan : GoodIn wsX5_canPay wsX4_isLoan := goodIn_r _ [6, 7, 45, 46, 47, 48, 49, 50, 51, 52, 53, 54, 55, 56, 57] (by decide +kernel) (by decide +kernel)
set_option maxRecDepth 20000 in
theorem gX5_canPay_X4_isLoan : GoodIn wsX5_canPay (wsV RX5 111 RX4 yX4_isLoan wsX4_isLoan) := goodIn_app (goodIn_of _ (by decide +kernel)) ggX5_canPay_X4_isLoan
set_option maxRecDepth 20000 in
theorem ggX5_canPay_X4_payers : GoodIn wsX5_canPay wsX4_payers := goodIn_r _ [11, 12, 13, 14, 15, 16, 17, 18, 19, 20, 21, 5, 22, 23, 24, 25, 26, 27, 28, 29, 30, 31, 32, 33, 34, 35, 45, 46, 47, 48, 49, 50, 51, 52, 53, 54, 55, 56, 57] (by decide +kernel) (by decide +kernel)
set_option maxRecDepth 20000 in
theorem gX5_canPay_X4_payers : GoodIn wsX5_canPay (wsV RX5 147 RX4 yX4_payers wsX4_payers) := goodIn_app (goodIn_of _ (by decide +kernel)) ggX5_canPay_X4_payers
theorem dX5_canPay_0 : decode cX5_canPay 0 = .ok (.aload_n 0, 1) := by decide +kernel
theorem dX5_canPay_1 : decode cX5_canPay 1 = .ok (.getfield 10, 3) := by decide +kernel
theorem dX5_canPay_4 : decode cX5_canPay 4 = .ok (.iload_n 1, 1) := by decide +kernel
theorem dX5_canPay_5 : decode cX5_canPay 5 = .ok (.invokevirtual 111, 3) := by decide +kernel
theorem dX5_canPay_8 : decode cX5_canPay 8 = .ok (.ifCond .ne 5, 3) := by decide +kernel
theorem dX5_canPay_11 : decode cX5_canPay 11 = .ok (.iconst (-1), 1) := by decide +kernel
theorem dX5_canPay_12 : decode cX5_canPay 12 = .ok (.ireturn, 1) := by decide +kernel
theorem dX5_canPay_13 : decode cX5_canPay 13 = .ok (.aload_n 0, 1) := by decide +kernel
theorem dX5_canPay_14 : decode cX5_canPay 14 = .ok (.getfield 10, 3) := by decide +kernel
theorem dX5_canPay_17 : decode cX5_canPay 17 = .ok (.iload_n 1, 1) := by decide +kernel
theorem dX5_canPay_18 : decode cX5_canPay 18 = .ok (.invokevirtual 147, 3) := by decide +kernel
theorem dX5_canPay_21 : decode cX5_canPay 21 = .ok (.ireturn, 1) := by decide +kernel
set_option maxRecDepth 20000 in
theorem ggX5_bestPayment_X4_isLoan : GoodIn wsX5_bestPayment wsX4_isLoan := goodIn_r _ [7, 8, 54, 55, 56, 57, 58, 59, 60, 61, 62, 63, 64, 65, 66] (by decide +kernel) (by decide +kernel)
set_option maxRecDepth 20000 in
theorem gX5_bestPayment_X4_isLoan : GoodIn wsX5_bestPayment (wsV RX5 111 RX4 yX4_isLoan wsX4_isLoan) := goodIn_app (goodIn_of _ (by decide +kernel)) ggX5_bestPayment_X4_isLoan
set_option maxRecDepth 20000 in
theorem ggX5_bestPayment_X4_payers : GoodIn wsX5_bestPayment wsX4_payers := goodIn_r _ [12, 13, 14, 15, 16, 17, 18, 19, 20, 21, 22, 6, 23, 24, 25, 26, 27, 28, 29, 30, 31, 32, 33, 34, 35, 36, 54, 55, 56, 57, 58, 59, 60, 61, 62, 63, 64, 65, 66] (by decide +kernel) (by decide +kernel)
set_option maxRecDepth 20000 in
theorem gX5_bestPayment_X4_payers : GoodIn wsX5_bestPayment (wsV RX5 147 RX4 yX4_payers wsX4_payers) := goodIn_app (goodIn_of _ (by decide +kernel)) ggX5_bestPayment_X4_payers
set_option maxRecDepth 20000 in
theorem ggX5_bestPayment_X4_choice : GoodIn wsX5_bestPayment wsX4_choice := goodIn_r _ [40, 24, 41, 42, 43, 6, 44, 31, 32, 30, 33, 35, 18, 36, 17, 19, 54, 55, 56, 57, 58, 59, 60, 61, 62, 63, 64, 65, 66] (by decide +kernel) (by decide +kernel)
set_option maxRecDepth 20000 in
theorem gX5_bestPayment_X4_choice : GoodIn wsX5_bestPayment (wsV RX5 175 RX4 yX4_choice wsX4_choice) := goodIn_app (goodIn_of _ (by decide +kernel)) ggX5_bestPayment_X4_choice
theorem dX5_bestPayment_0 : decode cX5_bestPayment 0 = .ok (.aload_n 0, 1) := by decide +kernel
theorem dX5_bestPayment_1 : decode cX5_bestPayment 1 = .ok (.getfield 10, 3) := by decide +kernel
theorem dX5_bestPayment_4 : decode cX5_bestPayment 4 = .ok (.iload_n 1, 1) := by decide +kernel
theorem dX5_bestPayment_5 : decode cX5_bestPayment 5 = .ok (.invokevirtual 111, 3) := by decide +kernel
theorem dX5_bestPayment_8 : decode cX5_bestPayment 8 = .ok (.ifCond .ne 5, 3) := by decide +kernel
theorem dX5_bestPayment_11 : decode cX5_bestPayment 11 = .ok (.iconst (-1), 1) := by decide +kernel
theorem dX5_bestPayment_12 : decode cX5_bestPayment 12 = .ok (.ireturn, 1) := by decide +kernel
theorem dX5_bestPayment_13 : decode cX5_bestPayment 13 = .ok (.aload_n 0, 1) := by decide +kernel
theorem dX5_bestPayment_14 : decode cX5_bestPayment 14 = .ok (.getfield 10, 3) := by decide +kernel
theorem dX5_bestPayment_17 : decode cX5_bestPayment 17 = .ok (.aload_n 0, 1) := by decide +kernel
theorem dX5_bestPayment_18 : decode cX5_bestPayment 18 = .ok (.getfield 10, 3) := by decide +kernel
theorem dX5_bestPayment_21 : decode cX5_bestPayment 21 = .ok (.getfield 114, 3) := by decide +kernel
theorem dX5_bestPayment_24 : decode cX5_bestPayment 24 = .ok (.iload_n 1, 1) := by decide +kernel
theorem dX5_bestPayment_25 : decode cX5_bestPayment 25 = .ok (.iaload, 1) := by decide +kernel
theorem dX5_bestPayment_26 : decode cX5_bestPayment 26 = .ok (.aload_n 0, 1) := by decide +kernel
theorem dX5_bestPayment_27 : decode cX5_bestPayment 27 = .ok (.getfield 10, 3) := by decide +kernel
theorem dX5_bestPayment_30 : decode cX5_bestPayment 30 = .ok (.iload_n 1, 1) := by decide +kernel
theorem dX5_bestPayment_31 : decode cX5_bestPayment 31 = .ok (.invokevirtual 147, 3) := by decide +kernel
theorem dX5_bestPayment_34 : decode cX5_bestPayment 34 = .ok (.iconst 1, 1) := by decide +kernel
theorem dX5_bestPayment_35 : decode cX5_bestPayment 35 = .ok (.invokevirtual 175, 3) := by decide +kernel
theorem dX5_bestPayment_38 : decode cX5_bestPayment 38 = .ok (.ireturn, 1) := by decide +kernel
set_option maxRecDepth 20000 in
theorem ggX5_hasThen_X4_isGoods : GoodIn wsX5_hasThen wsX4_isGoods := goodIn_r _ [8, 9, 76, 77, 78, 79, 80, 81, 82, 83, 84, 85, 86, 87, 88] (by decide +kernel) (by decide +kernel)
set_option maxRecDepth 20000 in
theorem gX5_hasThen_X4_isGoods : GoodIn wsX5_hasThen (wsV RX5 84 RX4 yX4_isGoods wsX4_isGoods) := goodIn_app (goodIn_of _ (by decide +kernel)) ggX5_hasThen_X4_isGoods
set_option maxRecDepth 20000 in
theorem ggX5_hasThen_X5_imagineWeeks : GoodIn wsX5_hasThen wsX5_imagineWeeks := goodIn_r _ [14, 2, 1, 15, 16, 17, 7, 18, 19, 20, 21, 22, 23, 24, 25, 9, 26, 27, 28, 29, 30, 31, 32, 33, 34, 35, 36, 37, 38, 39, 40, 41, 42, 43, 13, 44, 45, 46, 47, 48, 49, 50, 51, 52, 53, 54, 55, 56, 57, 58, 59, 60, 61, 62, 63, 64, 65, 66, 67, 68, 69, 70, 71, 72, 73, 74, 75, 76, 77, 78, 79, 80, 81, 82, 83, 84, 85, 86, 87, 88] (by decide +kernel) (by decide +kernel)
set_option maxRecDepth 20000 in
theorem gX5_hasThen_X5_imagineWeeks : GoodIn wsX5_hasThen (wsV RX5 178 RX5 yX5_imagineWeeks wsX5_imagineWeeks) := goodIn_app (goodIn_of _ (by decide +kernel)) ggX5_hasThen_X5_imagineWeeks
theorem dX5_hasThen_0 : decode cX5_hasThen 0 = .ok (.aload_n 0, 1) := by decide +kernel
theorem dX5_hasThen_1 : decode cX5_hasThen 1 = .ok (.getfield 10, 3) := by decide +kernel
theorem dX5_hasThen_4 : decode cX5_hasThen 4 = .ok (.iload_n 1, 1) := by decide +kernel
theorem dX5_hasThen_5 : decode cX5_hasThen 5 = .ok (.invokevirtual 84, 3) := by decide +kernel
theorem dX5_hasThen_8 : decode cX5_hasThen 8 = .ok (.ifCond .eq 13, 3) := by decide +kernel
theorem dX5_hasThen_11 : decode cX5_hasThen 11 = .ok (.iload_n 2, 1) := by decide +kernel
theorem dX5_hasThen_12 : decode cX5_hasThen 12 = .ok (.ifCond .lt 9, 3) := by decide +kernel
theorem dX5_hasThen_15 : decode cX5_hasThen 15 = .ok (.iload_n 2, 1) := by decide +kernel
theorem dX5_hasThen_16 : decode cX5_hasThen 16 = .ok (.bipush 60, 2) := by decide +kernel
theorem dX5_hasThen_18 : decode cX5_hasThen 18 = .ok (.if_icmp .le 5, 3) := by decide +kernel
theorem dX5_hasThen_21 : decode cX5_hasThen 21 = .ok (.iconst (-1), 1) := by decide +kernel
theorem dX5_hasThen_22 : decode cX5_hasThen 22 = .ok (.ireturn, 1) := by decide +kernel
theorem dX5_hasThen_23 : decode cX5_hasThen 23 = .ok (.aload_n 0, 1) := by decide +kernel
theorem dX5_hasThen_24 : decode cX5_hasThen 24 = .ok (.iload_n 2, 1) := by decide +kernel
theorem dX5_hasThen_25 : decode cX5_hasThen 25 = .ok (.invokevirtual 178, 3) := by decide +kernel
theorem dX5_hasThen_28 : decode cX5_hasThen 28 = .ok (.aload_n 0, 1) := by decide +kernel
theorem dX5_hasThen_29 : decode cX5_hasThen 29 = .ok (.getfield 16, 3) := by decide +kernel
theorem dX5_hasThen_32 : decode cX5_hasThen 32 = .ok (.getfield 93, 3) := by decide +kernel
theorem dX5_hasThen_35 : decode cX5_hasThen 35 = .ok (.iload_n 1, 1) := by decide +kernel
theorem dX5_hasThen_36 : decode cX5_hasThen 36 = .ok (.iaload, 1) := by decide +kernel
theorem dX5_hasThen_37 : decode cX5_hasThen 37 = .ok (.ireturn, 1) := by decide +kernel
set_option maxRecDepth 20000 in
theorem ggX5_openThen_X5_imagineWeeks : GoodIn wsX5_openThen wsX5_imagineWeeks := goodIn_r _ [7, 1, 8, 9, 10, 11, 12, 13, 14, 15, 16, 17, 18, 19, 20, 21, 22, 23, 24, 25, 26, 27, 28, 29, 30, 31, 32, 33, 34, 35, 36, 37, 38, 39, 6, 40, 41, 42, 43, 44, 45, 46, 47, 48, 49, 50, 51, 52, 53, 54, 55, 56, 57, 58, 59, 60, 61, 62, 70, 71, 72, 73, 74, 75, 76, 77, 78, 79, 80, 81, 82, 83, 84, 85, 86, 87, 88, 89, 90, 91] (by decide +kernel) (by decide +kernel)
set_option maxRecDepth 20000 in
theorem gX5_openThen_X5_imagineWeeks : GoodIn wsX5_openThen (wsV RX5 178 RX5 yX5_imagineWeeks wsX5_imagineWeeks) := goodIn_app (goodIn_of _ (by decide +kernel)) ggX5_openThen_X5_imagineWeeks
set_option maxRecDepth 20000 in
theorem ggX5_openThen_J6_bitCount_0f7a4 : GoodIn wsX5_openThen wsJ6_bitCount_0f7a4 := goodIn_r _ [66, 67, 68, 69] (by decide +kernel) (by decide +kernel)
set_option maxRecDepth 20000 in
theorem gX5_openThen_J6_bitCount_0f7a4 : GoodIn wsX5_openThen (va_wsS RX5 154 yJ6_bitCount_0f7a4 wsJ6_bitCount_0f7a4) := goodIn_app (goodIn_of _ (by decide +kernel)) ggX5_openThen_J6_bitCount_0f7a4
theorem dX5_openThen_0 : decode cX5_openThen 0 = .ok (.iload_n 1, 1) := by decide +kernel
theorem dX5_openThen_1 : decode cX5_openThen 1 = .ok (.ifCond .lt 9, 3) := by decide +kernel
theorem dX5_openThen_4 : decode cX5_openThen 4 = .ok (.iload_n 1, 1) := by decide +kernel
theorem dX5_openThen_5 : decode cX5_openThen 5 = .ok (.bipush 60, 2) := by decide +kernel
theorem dX5_openThen_7 : decode cX5_openThen 7 = .ok (.if_icmp .le 5, 3) := by decide +kernel
theorem dX5_openThen_10 : decode cX5_openThen 10 = .ok (.iconst (-1), 1) := by decide +kernel
theorem dX5_openThen_11 : decode cX5_openThen 11 = .ok (.ireturn, 1) := by decide +kernel
theorem dX5_openThen_12 : decode cX5_openThen 12 = .ok (.aload_n 0, 1) := by decide +kernel
theorem dX5_openThen_13 : decode cX5_openThen 13 = .ok (.iload_n 1, 1) := by decide +kernel
theorem dX5_openThen_14 : decode cX5_openThen 14 = .ok (.invokevirtual 178, 3) := by decide +kernel
theorem dX5_openThen_17 : decode cX5_openThen 17 = .ok (.aload_n 0, 1) := by decide +kernel
theorem dX5_openThen_18 : decode cX5_openThen 18 = .ok (.getfield 16, 3) := by decide +kernel
theorem dX5_openThen_21 : decode cX5_openThen 21 = .ok (.getfield 123, 3) := by decide +kernel
theorem dX5_openThen_24 : decode cX5_openThen 24 = .ok (.invokestatic 154, 3) := by decide +kernel
theorem dX5_openThen_27 : decode cX5_openThen 27 = .ok (.ireturn, 1) := by decide +kernel
set_option maxRecDepth 20000 in
theorem ggX5_cleared_X4_become : GoodIn wsX5_cleared wsX4_become := goodIn_r _ [8, 9, 10, 11, 12, 13, 14, 15, 16, 17, 18, 19, 20, 21, 22, 23, 24, 25, 68, 69, 70, 71, 72, 73, 74, 75, 76, 77, 78, 79, 80] (by decide +kernel) (by decide +kernel)
set_option maxRecDepth 20000 in
theorem gX5_cleared_X4_become : GoodIn wsX5_cleared (wsV RX5 66 RX4 yX4_become wsX4_become) := goodIn_app (goodIn_of _ (by decide +kernel)) ggX5_cleared_X4_become
set_option maxRecDepth 20000 in
theorem ggX5_cleared_X4_passWeek : GoodIn wsX5_cleared wsX4_passWeek := goodIn_r _ [29, 25, 22, 20, 30, 31, 32, 7, 33, 23, 19, 21, 34, 35, 36, 37, 38, 39, 40, 16, 15, 41, 42, 43, 44, 17, 9, 14, 24, 45, 46, 47, 48, 49, 50, 51, 52, 53, 54, 55, 56, 57, 58, 68, 69, 70, 71, 72, 73, 74, 75, 76, 77, 78, 79, 80] (by decide +kernel) (by decide +kernel)
set_option maxRecDepth 20000 in
theorem gX5_cleared_X4_passWeek : GoodIn wsX5_cleared (wsV RX5 182 RX4 yX4_passWeek wsX4_passWeek) := goodIn_app (goodIn_of _ (by decide +kernel)) ggX5_cleared_X4_passWeek
theorem dX5_cleared_0 : decode cX5_cleared 0 = .ok (.aload_n 0, 1) := by decide +kernel
theorem dX5_cleared_1 : decode cX5_cleared 1 = .ok (.getfield 16, 3) := by decide +kernel
theorem dX5_cleared_4 : decode cX5_cleared 4 = .ok (.aload_n 0, 1) := by decide +kernel
theorem dX5_cleared_5 : decode cX5_cleared 5 = .ok (.getfield 10, 3) := by decide +kernel
theorem dX5_cleared_8 : decode cX5_cleared 8 = .ok (.invokevirtual 66, 3) := by decide +kernel
theorem dX5_cleared_11 : decode cX5_cleared 11 = .ok (.iconst 0, 1) := by decide +kernel
theorem dX5_cleared_12 : decode cX5_cleared 12 = .ok (.istore_n 1, 1) := by decide +kernel
theorem dX5_cleared_13 : decode cX5_cleared 13 = .ok (.iload_n 1, 1) := by decide +kernel
theorem dX5_cleared_14 : decode cX5_cleared 14 = .ok (.bipush 60, 2) := by decide +kernel
theorem dX5_cleared_16 : decode cX5_cleared 16 = .ok (.if_icmp .gt 28, 3) := by decide +kernel
theorem dX5_cleared_19 : decode cX5_cleared 19 = .ok (.aload_n 0, 1) := by decide +kernel
theorem dX5_cleared_20 : decode cX5_cleared 20 = .ok (.getfield 16, 3) := by decide +kernel
theorem dX5_cleared_23 : decode cX5_cleared 23 = .ok (.getfield 123, 3) := by decide +kernel
theorem dX5_cleared_26 : decode cX5_cleared 26 = .ok (.ifCond .ne 5, 3) := by decide +kernel
theorem dX5_cleared_29 : decode cX5_cleared 29 = .ok (.iload_n 1, 1) := by decide +kernel
theorem dX5_cleared_30 : decode cX5_cleared 30 = .ok (.ireturn, 1) := by decide +kernel
theorem dX5_cleared_31 : decode cX5_cleared 31 = .ok (.aload_n 0, 1) := by decide +kernel
theorem dX5_cleared_32 : decode cX5_cleared 32 = .ok (.getfield 16, 3) := by decide +kernel
theorem dX5_cleared_35 : decode cX5_cleared 35 = .ok (.invokevirtual 182, 3) := by decide +kernel
theorem dX5_cleared_38 : decode cX5_cleared 38 = .ok (.iinc 1 1, 3) := by decide +kernel
theorem dX5_cleared_41 : decode cX5_cleared 41 = .ok (.goto (-28), 3) := by decide +kernel
theorem dX5_cleared_44 : decode cX5_cleared 44 = .ok (.bipush (-4), 2) := by decide +kernel
theorem dX5_cleared_46 : decode cX5_cleared 46 = .ok (.ireturn, 1) := by decide +kernel
set_option maxRecDepth 20000 in
theorem ggX5_richest_X4_wealth : GoodIn wsX5_richest wsX4_wealth := goodIn_r _ [7, 8, 9, 10, 11, 12, 6, 13, 14, 15, 16, 17, 18, 19, 20, 30, 31, 32, 33, 34, 35, 36, 37, 38, 39, 40, 41, 42] (by decide +kernel) (by decide +kernel)
set_option maxRecDepth 20000 in
theorem gX5_richest_X4_wealth : GoodIn wsX5_richest (wsV RX5 108 RX4 yX4_wealth wsX4_wealth) := goodIn_app (goodIn_of _ (by decide +kernel)) ggX5_richest_X4_wealth
theorem dX5_richest_0 : decode cX5_richest 0 = .ok (.bipush (-4), 2) := by decide +kernel
theorem dX5_richest_2 : decode cX5_richest 2 = .ok (.istore_n 1, 1) := by decide +kernel
theorem dX5_richest_3 : decode cX5_richest 3 = .ok (.iconst (-1), 1) := by decide +kernel
theorem dX5_richest_4 : decode cX5_richest 4 = .ok (.istore_n 2, 1) := by decide +kernel
theorem dX5_richest_5 : decode cX5_richest 5 = .ok (.iconst 0, 1) := by decide +kernel
theorem dX5_richest_6 : decode cX5_richest 6 = .ok (.istore_n 3, 1) := by decide +kernel
theorem dX5_richest_7 : decode cX5_richest 7 = .ok (.iload_n 3, 1) := by decide +kernel
theorem dX5_richest_8 : decode cX5_richest 8 = .ok (.aload_n 0, 1) := by decide +kernel
theorem dX5_richest_9 : decode cX5_richest 9 = .ok (.getfield 10, 3) := by decide +kernel
theorem dX5_richest_12 : decode cX5_richest 12 = .ok (.getfield 185, 3) := by decide +kernel
theorem dX5_richest_15 : decode cX5_richest 15 = .ok (.if_icmp .ge 30, 3) := by decide +kernel
theorem dX5_richest_18 : decode cX5_richest 18 = .ok (.aload_n 0, 1) := by decide +kernel
theorem dX5_richest_19 : decode cX5_richest 19 = .ok (.getfield 10, 3) := by decide +kernel
theorem dX5_richest_22 : decode cX5_richest 22 = .ok (.iload_n 3, 1) := by decide +kernel
theorem dX5_richest_23 : decode cX5_richest 23 = .ok (.invokevirtual 108, 3) := by decide +kernel
theorem dX5_richest_26 : decode cX5_richest 26 = .ok (.istore 4, 2) := by decide +kernel
theorem dX5_richest_28 : decode cX5_richest 28 = .ok (.iload 4, 2) := by decide +kernel
theorem dX5_richest_30 : decode cX5_richest 30 = .ok (.iload_n 2, 1) := by decide +kernel
theorem dX5_richest_31 : decode cX5_richest 31 = .ok (.if_icmp .le 8, 3) := by decide +kernel
theorem dX5_richest_34 : decode cX5_richest 34 = .ok (.iload_n 3, 1) := by decide +kernel
theorem dX5_richest_35 : decode cX5_richest 35 = .ok (.istore_n 1, 1) := by decide +kernel
theorem dX5_richest_36 : decode cX5_richest 36 = .ok (.iload 4, 2) := by decide +kernel
theorem dX5_richest_38 : decode cX5_richest 38 = .ok (.istore_n 2, 1) := by decide +kernel
theorem dX5_richest_39 : decode cX5_richest 39 = .ok (.iinc 3 1, 3) := by decide +kernel
theorem dX5_richest_42 : decode cX5_richest 42 = .ok (.goto (-35), 3) := by decide +kernel
theorem dX5_richest_45 : decode cX5_richest 45 = .ok (.iload_n 1, 1) := by decide +kernel
theorem dX5_richest_46 : decode cX5_richest 46 = .ok (.ireturn, 1) := by decide +kernel
set_option maxRecDepth 20000 in
theorem ggX5_worst_X4_isPerson : GoodIn wsX5_worst wsX4_isPerson := goodIn_r _ [6, 7, 40, 41, 42, 43, 44, 45, 46, 47, 48, 49, 50, 51, 52] (by decide +kernel) (by decide +kernel)
set_option maxRecDepth 20000 in
theorem gX5_worst_X4_isPerson : GoodIn wsX5_worst (wsV RX5 99 RX4 yX4_isPerson wsX4_isPerson) := goodIn_app (goodIn_of _ (by decide +kernel)) ggX5_worst_X4_isPerson
set_option maxRecDepth 20000 in
theorem ggX5_worst_X4_goodsHad : GoodIn wsX5_worst wsX4_goodsHad := goodIn_r _ [11, 12, 13, 40, 41, 42, 43, 44, 45, 46, 47, 48, 49, 50, 51, 52] (by decide +kernel) (by decide +kernel)
set_option maxRecDepth 20000 in
theorem gX5_worst_X4_goodsHad : GoodIn wsX5_worst (wsV RX5 105 RX4 yX4_goodsHad wsX4_goodsHad) := goodIn_app (goodIn_of _ (by decide +kernel)) ggX5_worst_X4_goodsHad
set_option maxRecDepth 20000 in
theorem ggX5_worst_X4_choice : GoodIn wsX5_worst wsX4_choice := goodIn_r _ [17, 12, 18, 19, 20, 5, 21, 22, 23, 24, 25, 26, 27, 28, 29, 30, 40, 41, 42, 43, 44, 45, 46, 47, 48, 49, 50, 51, 52] (by decide +kernel) (by decide +kernel)
set_option maxRecDepth 20000 in
theorem gX5_worst_X4_choice : GoodIn wsX5_worst (wsV RX5 175 RX4 yX4_choice wsX4_choice) := goodIn_app (goodIn_of _ (by decide +kernel)) ggX5_worst_X4_choice
theorem dX5_worst_0 : decode cX5_worst 0 = .ok (.aload_n 0, 1) := by decide +kernel
theorem dX5_worst_1 : decode cX5_worst 1 = .ok (.getfield 10, 3) := by decide +kernel
theorem dX5_worst_4 : decode cX5_worst 4 = .ok (.iload_n 1, 1) := by decide +kernel
theorem dX5_worst_5 : decode cX5_worst 5 = .ok (.invokevirtual 99, 3) := by decide +kernel
theorem dX5_worst_8 : decode cX5_worst 8 = .ok (.ifCond .ne 5, 3) := by decide +kernel
theorem dX5_worst_11 : decode cX5_worst 11 = .ok (.iconst (-1), 1) := by decide +kernel
theorem dX5_worst_12 : decode cX5_worst 12 = .ok (.ireturn, 1) := by decide +kernel
theorem dX5_worst_13 : decode cX5_worst 13 = .ok (.aload_n 0, 1) := by decide +kernel
theorem dX5_worst_14 : decode cX5_worst 14 = .ok (.getfield 10, 3) := by decide +kernel
theorem dX5_worst_17 : decode cX5_worst 17 = .ok (.iload_n 1, 1) := by decide +kernel
theorem dX5_worst_18 : decode cX5_worst 18 = .ok (.aload_n 0, 1) := by decide +kernel
theorem dX5_worst_19 : decode cX5_worst 19 = .ok (.getfield 10, 3) := by decide +kernel
theorem dX5_worst_22 : decode cX5_worst 22 = .ok (.iload_n 1, 1) := by decide +kernel
theorem dX5_worst_23 : decode cX5_worst 23 = .ok (.invokevirtual 105, 3) := by decide +kernel
theorem dX5_worst_26 : decode cX5_worst 26 = .ok (.iconst (-1), 1) := by decide +kernel
theorem dX5_worst_27 : decode cX5_worst 27 = .ok (.invokevirtual 175, 3) := by decide +kernel
theorem dX5_worst_30 : decode cX5_worst 30 = .ok (.ireturn, 1) := by decide +kernel
set_option maxRecDepth 20000 in
theorem ggX5_chain_X4_isPerson : GoodIn wsX5_chain wsX4_isPerson := goodIn_r _ [8, 9, 62, 63, 64, 65, 66, 67, 68, 69, 70, 71, 72, 73, 74] (by decide +kernel) (by decide +kernel)
set_option maxRecDepth 20000 in
theorem gX5_chain_X4_isPerson : GoodIn wsX5_chain (wsV RX5 99 RX4 yX4_isPerson wsX4_isPerson) := goodIn_app (goodIn_of _ (by decide +kernel)) ggX5_chain_X4_isPerson
set_option maxRecDepth 20000 in
theorem ggX5_chain_X4_isGoods : GoodIn wsX5_chain wsX4_isGoods := goodIn_r _ [13, 14, 62, 63, 64, 65, 66, 67, 68, 69, 70, 71, 72, 73, 74] (by decide +kernel) (by decide +kernel)
set_option maxRecDepth 20000 in
theorem gX5_chain_X4_isGoods : GoodIn wsX5_chain (wsV RX5 84 RX4 yX4_isGoods wsX4_isGoods) := goodIn_app (goodIn_of _ (by decide +kernel)) ggX5_chain_X4_isGoods
set_option maxRecDepth 20000 in
theorem ggX5_chain_X3_look : GoodIn wsX5_chain wsX3_look := goodIn_r _ [19, 20, 21, 22, 23, 24, 25, 7, 26, 27, 28, 29, 30, 14, 31, 32, 33, 34, 62, 63, 64, 65, 66, 67, 68, 69, 70, 71, 72, 73, 74, 59, 60, 61] (by decide +kernel) (by decide +kernel)
set_option maxRecDepth 20000 in
theorem gX5_chain_X3_look : GoodIn wsX5_chain (wsV RX5 188 RX3 yX3_look wsX3_look) := goodIn_app (goodIn_of _ (by decide +kernel)) ggX5_chain_X3_look
set_option maxRecDepth 20000 in
theorem ggX5_chain_X3_countTo : GoodIn wsX5_chain wsX3_countTo := goodIn_r _ [38, 21, 39, 40, 41, 42, 18, 43, 22, 44, 33, 45, 59, 60, 61] (by decide +kernel) (by decide +kernel)
set_option maxRecDepth 20000 in
theorem gX5_chain_X3_countTo : GoodIn wsX5_chain (wsV RX5 192 RX3 yX3_countTo wsX3_countTo) := goodIn_app (goodIn_of _ (by decide +kernel)) ggX5_chain_X3_countTo
set_option maxRecDepth 20000 in
theorem ggX5_chain_X3_firstFrom : GoodIn wsX5_chain wsX3_firstFrom := goodIn_r _ [49, 39, 40, 41, 42, 18, 43, 21, 22, 44, 33, 45, 59, 60, 61] (by decide +kernel) (by decide +kernel)
set_option maxRecDepth 20000 in
theorem gX5_chain_X3_firstFrom : GoodIn wsX5_chain (wsV RX5 198 RX3 yX3_firstFrom wsX3_firstFrom) := goodIn_app (goodIn_of _ (by decide +kernel)) ggX5_chain_X3_firstFrom
theorem dX5_chain_0 : decode cX5_chain 0 = .ok (.aload_n 0, 1) := by decide +kernel
theorem dX5_chain_1 : decode cX5_chain 1 = .ok (.getfield 10, 3) := by decide +kernel
theorem dX5_chain_4 : decode cX5_chain 4 = .ok (.iload_n 1, 1) := by decide +kernel
theorem dX5_chain_5 : decode cX5_chain 5 = .ok (.invokevirtual 99, 3) := by decide +kernel
theorem dX5_chain_8 : decode cX5_chain 8 = .ok (.ifCond .eq 36, 3) := by decide +kernel
theorem dX5_chain_11 : decode cX5_chain 11 = .ok (.aload_n 0, 1) := by decide +kernel
theorem dX5_chain_12 : decode cX5_chain 12 = .ok (.getfield 10, 3) := by decide +kernel
theorem dX5_chain_15 : decode cX5_chain 15 = .ok (.iload_n 2, 1) := by decide +kernel
theorem dX5_chain_16 : decode cX5_chain 16 = .ok (.invokevirtual 84, 3) := by decide +kernel
theorem dX5_chain_19 : decode cX5_chain 19 = .ok (.ifCond .eq 25, 3) := by decide +kernel
theorem dX5_chain_22 : decode cX5_chain 22 = .ok (.aload_n 0, 1) := by decide +kernel
theorem dX5_chain_23 : decode cX5_chain 23 = .ok (.getfield 10, 3) := by decide +kernel
theorem dX5_chain_26 : decode cX5_chain 26 = .ok (.iload_n 3, 1) := by decide +kernel
theorem dX5_chain_27 : decode cX5_chain 27 = .ok (.invokevirtual 84, 3) := by decide +kernel
theorem dX5_chain_30 : decode cX5_chain 30 = .ok (.ifCond .eq 14, 3) := by decide +kernel
theorem dX5_chain_33 : decode cX5_chain 33 = .ok (.iload 4, 2) := by decide +kernel
theorem dX5_chain_35 : decode cX5_chain 35 = .ok (.ifCond .lt 9, 3) := by decide +kernel
theorem dX5_chain_38 : decode cX5_chain 38 = .ok (.iload 4, 2) := by decide +kernel
theorem dX5_chain_40 : decode cX5_chain 40 = .ok (.iconst 1, 1) := by decide +kernel
theorem dX5_chain_41 : decode cX5_chain 41 = .ok (.if_icmp .le 5, 3) := by decide +kernel
theorem dX5_chain_44 : decode cX5_chain 44 = .ok (.iconst (-1), 1) := by decide +kernel
theorem dX5_chain_45 : decode cX5_chain 45 = .ok (.ireturn, 1) := by decide +kernel
theorem dX5_chain_46 : decode cX5_chain 46 = .ok (.aload_n 0, 1) := by decide +kernel
theorem dX5_chain_47 : decode cX5_chain 47 = .ok (.getfield 32, 3) := by decide +kernel
theorem dX5_chain_50 : decode cX5_chain 50 = .ok (.aload_n 0, 1) := by decide +kernel
theorem dX5_chain_51 : decode cX5_chain 51 = .ok (.getfield 10, 3) := by decide +kernel
theorem dX5_chain_54 : decode cX5_chain 54 = .ok (.iload_n 1, 1) := by decide +kernel
theorem dX5_chain_55 : decode cX5_chain 55 = .ok (.invokevirtual 188, 3) := by decide +kernel
theorem dX5_chain_58 : decode cX5_chain 58 = .ok (.aload_n 0, 1) := by decide +kernel
theorem dX5_chain_59 : decode cX5_chain 59 = .ok (.getfield 32, 3) := by decide +kernel
theorem dX5_chain_62 : decode cX5_chain 62 = .ok (.iload_n 3, 1) := by decide +kernel
theorem dX5_chain_63 : decode cX5_chain 63 = .ok (.invokevirtual 192, 3) := by decide +kernel
theorem dX5_chain_66 : decode cX5_chain 66 = .ok (.iload 4, 2) := by decide +kernel
theorem dX5_chain_68 : decode cX5_chain 68 = .ok (.ifCond .ne 15, 3) := by decide +kernel
theorem dX5_chain_71 : decode cX5_chain 71 = .ok (.aload_n 0, 1) := by decide +kernel
theorem dX5_chain_72 : decode cX5_chain 72 = .ok (.getfield 32, 3) := by decide +kernel
theorem dX5_chain_75 : decode cX5_chain 75 = .ok (.getfield 195, 3) := by decide +kernel
theorem dX5_chain_78 : decode cX5_chain 78 = .ok (.iload_n 2, 1) := by decide +kernel
theorem dX5_chain_79 : decode cX5_chain 79 = .ok (.iaload, 1) := by decide +kernel
theorem dX5_chain_80 : decode cX5_chain 80 = .ok (.goto 11, 3) := by decide +kernel
theorem dX5_chain_83 : decode cX5_chain 83 = .ok (.aload_n 0, 1) := by decide +kernel
theorem dX5_chain_84 : decode cX5_chain 84 = .ok (.getfield 32, 3) := by decide +kernel
theorem dX5_chain_87 : decode cX5_chain 87 = .ok (.iload_n 2, 1) := by decide +kernel
theorem dX5_chain_88 : decode cX5_chain 88 = .ok (.invokevirtual 198, 3) := by decide +kernel
theorem dX5_chain_91 : decode cX5_chain 91 = .ok (.ireturn, 1) := by decide +kernel
set_option maxRecDepth 20000 in
theorem ggX5_climb_X4_isPerson : GoodIn wsX5_climb wsX4_isPerson := goodIn_r _ [7, 8, 58, 59, 60, 61, 62, 63, 64, 65, 66, 67, 68, 69, 70] (by decide +kernel) (by decide +kernel)
set_option maxRecDepth 20000 in
theorem gX5_climb_X4_isPerson : GoodIn wsX5_climb (wsV RX5 99 RX4 yX4_isPerson wsX4_isPerson) := goodIn_app (goodIn_of _ (by decide +kernel)) ggX5_climb_X4_isPerson
set_option maxRecDepth 20000 in
theorem ggX5_climb_X4_isGoods : GoodIn wsX5_climb wsX4_isGoods := goodIn_r _ [12, 13, 58, 59, 60, 61, 62, 63, 64, 65, 66, 67, 68, 69, 70] (by decide +kernel) (by decide +kernel)
set_option maxRecDepth 20000 in
theorem gX5_climb_X4_isGoods : GoodIn wsX5_climb (wsV RX5 84 RX4 yX4_isGoods wsX4_isGoods) := goodIn_app (goodIn_of _ (by decide +kernel)) ggX5_climb_X4_isGoods
set_option maxRecDepth 20000 in
theorem ggX5_climb_X3_look : GoodIn wsX5_climb wsX3_look := goodIn_r _ [18, 19, 20, 21, 22, 23, 24, 6, 25, 26, 27, 28, 29, 13, 30, 31, 32, 33, 58, 59, 60, 61, 62, 63, 64, 65, 66, 67, 68, 69, 70, 71, 72, 73] (by decide +kernel) (by decide +kernel)
set_option maxRecDepth 20000 in
theorem gX5_climb_X3_look : GoodIn wsX5_climb (wsV RX5 188 RX3 yX3_look wsX3_look) := goodIn_app (goodIn_of _ (by decide +kernel)) ggX5_climb_X3_look
set_option maxRecDepth 20000 in
theorem ggX5_climb_X3_reachedFrom : GoodIn wsX5_climb wsX3_reachedFrom := goodIn_r _ [37, 20, 21, 38, 32, 39, 71, 72, 73] (by decide +kernel) (by decide +kernel)
set_option maxRecDepth 20000 in
theorem gX5_climb_X3_reachedFrom : GoodIn wsX5_climb (wsV RX5 201 RX3 yX3_reachedFrom wsX3_reachedFrom) := goodIn_app (goodIn_of _ (by decide +kernel)) ggX5_climb_X3_reachedFrom
set_option maxRecDepth 20000 in
theorem ggX5_climb_X4_choice : GoodIn wsX5_climb wsX4_choice := goodIn_r _ [43, 13, 44, 45, 46, 6, 47, 27, 28, 26, 29, 31, 32, 33, 38, 39, 58, 59, 60, 61, 62, 63, 64, 65, 66, 67, 68, 69, 70] (by decide +kernel) (by decide +kernel)
set_option maxRecDepth 20000 in
theorem gX5_climb_X4_choice : GoodIn wsX5_climb (wsV RX5 175 RX4 yX4_choice wsX4_choice) := goodIn_app (goodIn_of _ (by decide +kernel)) ggX5_climb_X4_choice
set_option maxRecDepth 20000 in
theorem ggX5_climb_X4_worthTo : GoodIn wsX5_climb wsX4_worthTo := goodIn_r _ [47, 27, 28, 26, 29, 31, 32, 33, 58, 59, 60, 61, 62, 63, 64, 65, 66, 67, 68, 69, 70] (by decide +kernel) (by decide +kernel)
set_option maxRecDepth 20000 in
theorem gX5_climb_X4_worthTo : GoodIn wsX5_climb (wsV RX5 165 RX4 yX4_worthTo wsX4_worthTo) := goodIn_app (goodIn_of _ (by decide +kernel)) ggX5_climb_X4_worthTo
theorem dX5_climb_0 : decode cX5_climb 0 = .ok (.aload_n 0, 1) := by decide +kernel
theorem dX5_climb_1 : decode cX5_climb 1 = .ok (.getfield 10, 3) := by decide +kernel
theorem dX5_climb_4 : decode cX5_climb 4 = .ok (.iload_n 1, 1) := by decide +kernel
theorem dX5_climb_5 : decode cX5_climb 5 = .ok (.invokevirtual 99, 3) := by decide +kernel
theorem dX5_climb_8 : decode cX5_climb 8 = .ok (.ifCond .eq 14, 3) := by decide +kernel
theorem dX5_climb_11 : decode cX5_climb 11 = .ok (.aload_n 0, 1) := by decide +kernel
theorem dX5_climb_12 : decode cX5_climb 12 = .ok (.getfield 10, 3) := by decide +kernel
theorem dX5_climb_15 : decode cX5_climb 15 = .ok (.iload_n 2, 1) := by decide +kernel
theorem dX5_climb_16 : decode cX5_climb 16 = .ok (.invokevirtual 84, 3) := by decide +kernel
theorem dX5_climb_19 : decode cX5_climb 19 = .ok (.ifCond .ne 5, 3) := by decide +kernel
theorem dX5_climb_22 : decode cX5_climb 22 = .ok (.iconst (-1), 1) := by decide +kernel
theorem dX5_climb_23 : decode cX5_climb 23 = .ok (.ireturn, 1) := by decide +kernel
theorem dX5_climb_24 : decode cX5_climb 24 = .ok (.aload_n 0, 1) := by decide +kernel
theorem dX5_climb_25 : decode cX5_climb 25 = .ok (.getfield 32, 3) := by decide +kernel
theorem dX5_climb_28 : decode cX5_climb 28 = .ok (.aload_n 0, 1) := by decide +kernel
theorem dX5_climb_29 : decode cX5_climb 29 = .ok (.getfield 10, 3) := by decide +kernel
theorem dX5_climb_32 : decode cX5_climb 32 = .ok (.iload_n 1, 1) := by decide +kernel
theorem dX5_climb_33 : decode cX5_climb 33 = .ok (.invokevirtual 188, 3) := by decide +kernel
theorem dX5_climb_36 : decode cX5_climb 36 = .ok (.aload_n 0, 1) := by decide +kernel
theorem dX5_climb_37 : decode cX5_climb 37 = .ok (.getfield 10, 3) := by decide +kernel
theorem dX5_climb_40 : decode cX5_climb 40 = .ok (.iload_n 1, 1) := by decide +kernel
theorem dX5_climb_41 : decode cX5_climb 41 = .ok (.aload_n 0, 1) := by decide +kernel
theorem dX5_climb_42 : decode cX5_climb 42 = .ok (.getfield 32, 3) := by decide +kernel
theorem dX5_climb_45 : decode cX5_climb 45 = .ok (.iload_n 2, 1) := by decide +kernel
theorem dX5_climb_46 : decode cX5_climb 46 = .ok (.invokevirtual 201, 3) := by decide +kernel
theorem dX5_climb_49 : decode cX5_climb 49 = .ok (.iconst 1, 1) := by decide +kernel
theorem dX5_climb_50 : decode cX5_climb 50 = .ok (.invokevirtual 175, 3) := by decide +kernel
theorem dX5_climb_53 : decode cX5_climb 53 = .ok (.istore_n 3, 1) := by decide +kernel
theorem dX5_climb_54 : decode cX5_climb 54 = .ok (.iload_n 3, 1) := by decide +kernel
theorem dX5_climb_55 : decode cX5_climb 55 = .ok (.ifCond .ge 7, 3) := by decide +kernel
theorem dX5_climb_58 : decode cX5_climb 58 = .ok (.iconst 0, 1) := by decide +kernel
theorem dX5_climb_59 : decode cX5_climb 59 = .ok (.goto 22, 3) := by decide +kernel
theorem dX5_climb_62 : decode cX5_climb 62 = .ok (.aload_n 0, 1) := by decide +kernel
theorem dX5_climb_63 : decode cX5_climb 63 = .ok (.getfield 10, 3) := by decide +kernel
theorem dX5_climb_66 : decode cX5_climb 66 = .ok (.iload_n 1, 1) := by decide +kernel
theorem dX5_climb_67 : decode cX5_climb 67 = .ok (.iload_n 3, 1) := by decide +kernel
theorem dX5_climb_68 : decode cX5_climb 68 = .ok (.invokevirtual 165, 3) := by decide +kernel
theorem dX5_climb_71 : decode cX5_climb 71 = .ok (.aload_n 0, 1) := by decide +kernel
theorem dX5_climb_72 : decode cX5_climb 72 = .ok (.getfield 10, 3) := by decide +kernel
theorem dX5_climb_75 : decode cX5_climb 75 = .ok (.iload_n 1, 1) := by decide +kernel
theorem dX5_climb_76 : decode cX5_climb 76 = .ok (.iload_n 2, 1) := by decide +kernel
theorem dX5_climb_77 : decode cX5_climb 77 = .ok (.invokevirtual 165, 3) := by decide +kernel
theorem dX5_climb_80 : decode cX5_climb 80 = .ok (.isub, 1) := by decide +kernel
theorem dX5_climb_81 : decode cX5_climb 81 = .ok (.ireturn, 1) := by decide +kernel
set_option maxRecDepth 20000 in
theorem ggX5_clearing_X4_isLoan : GoodIn wsX5_clearing wsX4_isLoan := goodIn_r _ [7, 8, 75, 76, 77, 78, 79, 80, 81, 82, 83, 84, 85, 86, 87] (by decide +kernel) (by decide +kernel)
set_option maxRecDepth 20000 in
theorem gX5_clearing_X4_isLoan : GoodIn wsX5_clearing (wsV RX5 111 RX4 yX4_isLoan wsX4_isLoan) := goodIn_app (goodIn_of _ (by decide +kernel)) ggX5_clearing_X4_isLoan
set_option maxRecDepth 20000 in
theorem ggX5_clearing_X0_look : GoodIn wsX5_clearing wsX0_look := goodIn_r _ [13, 14, 15, 16, 17, 18, 19, 20, 21, 6, 22, 23, 24, 25, 26, 27, 28, 29, 30, 31, 32, 33, 34, 35, 36, 37, 38, 39, 40, 41, 42, 43, 44, 45, 46, 75, 76, 77, 78, 79, 80, 81, 82, 83, 84, 85, 86, 87, 88, 89, 90] (by decide +kernel) (by decide +kernel)
set_option maxRecDepth 20000 in
theorem gX5_clearing_X0_look : GoodIn wsX5_clearing (wsV RX5 204 RX0 yX0_look wsX0_look) := goodIn_app (goodIn_of _ (by decide +kernel)) ggX5_clearing_X0_look
set_option maxRecDepth 20000 in
theorem ggX5_clearing_X5_mostPaid : GoodIn wsX5_clearing wsX5_mostPaid := goodIn_r _ [49, 50, 51, 52, 53, 54, 55, 56, 47, 48, 28, 57, 27, 29, 88, 89, 90] (by decide +kernel) (by decide +kernel)
set_option maxRecDepth 20000 in
theorem gX5_clearing_X5_mostPaid : GoodIn wsX5_clearing (va_wsS RX5 206 yX5_mostPaid wsX5_mostPaid) := goodIn_app (goodIn_of _ (by decide +kernel)) ggX5_clearing_X5_mostPaid
set_option maxRecDepth 20000 in
theorem ggX5_clearing_X0_payment : GoodIn wsX5_clearing wsX0_payment := goodIn_r _ [61, 62, 63, 64, 12, 65, 16, 48, 28, 49, 50, 51, 52, 53, 54, 55, 56, 47, 57, 27, 29, 88, 89, 90] (by decide +kernel) (by decide +kernel)
set_option maxRecDepth 20000 in
theorem gX5_clearing_X0_payment : GoodIn wsX5_clearing (wsV RX5 210 RX0 yX0_payment wsX0_payment) := goodIn_app (goodIn_of _ (by decide +kernel)) ggX5_clearing_X0_payment
theorem dX5_clearing_0 : decode cX5_clearing 0 = .ok (.iload_n 1, 1) := by decide +kernel
theorem dX5_clearing_1 : decode cX5_clearing 1 = .ok (.iconst (-1), 1) := by decide +kernel
theorem dX5_clearing_2 : decode cX5_clearing 2 = .ok (.if_icmp .eq 16, 3) := by decide +kernel
theorem dX5_clearing_5 : decode cX5_clearing 5 = .ok (.aload_n 0, 1) := by decide +kernel
theorem dX5_clearing_6 : decode cX5_clearing 6 = .ok (.getfield 10, 3) := by decide +kernel
theorem dX5_clearing_9 : decode cX5_clearing 9 = .ok (.iload_n 1, 1) := by decide +kernel
theorem dX5_clearing_10 : decode cX5_clearing 10 = .ok (.invokevirtual 111, 3) := by decide +kernel
theorem dX5_clearing_13 : decode cX5_clearing 13 = .ok (.ifCond .ne 5, 3) := by decide +kernel
theorem dX5_clearing_16 : decode cX5_clearing 16 = .ok (.iconst (-1), 1) := by decide +kernel
theorem dX5_clearing_17 : decode cX5_clearing 17 = .ok (.ireturn, 1) := by decide +kernel
theorem dX5_clearing_18 : decode cX5_clearing 18 = .ok (.aload_n 0, 1) := by decide +kernel
theorem dX5_clearing_19 : decode cX5_clearing 19 = .ok (.getfield 39, 3) := by decide +kernel
theorem dX5_clearing_22 : decode cX5_clearing 22 = .ok (.aload_n 0, 1) := by decide +kernel
theorem dX5_clearing_23 : decode cX5_clearing 23 = .ok (.getfield 10, 3) := by decide +kernel
theorem dX5_clearing_26 : decode cX5_clearing 26 = .ok (.invokevirtual 204, 3) := by decide +kernel
theorem dX5_clearing_29 : decode cX5_clearing 29 = .ok (.iload_n 1, 1) := by decide +kernel
theorem dX5_clearing_30 : decode cX5_clearing 30 = .ok (.iconst (-1), 1) := by decide +kernel
theorem dX5_clearing_31 : decode cX5_clearing 31 = .ok (.if_icmp .ne 15, 3) := by decide +kernel
theorem dX5_clearing_34 : decode cX5_clearing 34 = .ok (.aload_n 0, 1) := by decide +kernel
theorem dX5_clearing_35 : decode cX5_clearing 35 = .ok (.getfield 39, 3) := by decide +kernel
theorem dX5_clearing_38 : decode cX5_clearing 38 = .ok (.iconst 0, 1) := by decide +kernel
theorem dX5_clearing_39 : decode cX5_clearing 39 = .ok (.iconst 0, 1) := by decide +kernel
theorem dX5_clearing_40 : decode cX5_clearing 40 = .ok (.invokestatic 206, 3) := by decide +kernel
theorem dX5_clearing_43 : decode cX5_clearing 43 = .ok (.goto 11, 3) := by decide +kernel
theorem dX5_clearing_46 : decode cX5_clearing 46 = .ok (.aload_n 0, 1) := by decide +kernel
theorem dX5_clearing_47 : decode cX5_clearing 47 = .ok (.getfield 39, 3) := by decide +kernel
theorem dX5_clearing_50 : decode cX5_clearing 50 = .ok (.iload_n 1, 1) := by decide +kernel
theorem dX5_clearing_51 : decode cX5_clearing 51 = .ok (.invokevirtual 210, 3) := by decide +kernel
theorem dX5_clearing_54 : decode cX5_clearing 54 = .ok (.ireturn, 1) := by decide +kernel
set_option maxRecDepth 20000 in
theorem ggX5_quarrel_X4_isGoods : GoodIn wsX5_quarrel wsX4_isGoods := goodIn_r _ [6, 7, 33, 34, 35, 36, 37, 38, 39, 40, 41, 42, 43, 44, 45] (by decide +kernel) (by decide +kernel)
set_option maxRecDepth 20000 in
theorem gX5_quarrel_X4_isGoods : GoodIn wsX5_quarrel (wsV RX5 84 RX4 yX4_isGoods wsX4_isGoods) := goodIn_app (goodIn_of _ (by decide +kernel)) ggX5_quarrel_X4_isGoods
set_option maxRecDepth 20000 in
theorem ggX5_quarrel_X4_isQuarrel : GoodIn wsX5_quarrel wsX4_isQuarrel := goodIn_r _ [11, 12, 13, 14, 15, 5, 16, 17, 18, 19, 20, 21, 22, 23, 33, 34, 35, 36, 37, 38, 39, 40, 41, 42, 43, 44, 45] (by decide +kernel) (by decide +kernel)
set_option maxRecDepth 20000 in
theorem gX5_quarrel_X4_isQuarrel : GoodIn wsX5_quarrel (wsV RX5 213 RX4 yX4_isQuarrel wsX4_isQuarrel) := goodIn_app (goodIn_of _ (by decide +kernel)) ggX5_quarrel_X4_isQuarrel
theorem dX5_quarrel_0 : decode cX5_quarrel 0 = .ok (.aload_n 0, 1) := by decide +kernel
theorem dX5_quarrel_1 : decode cX5_quarrel 1 = .ok (.getfield 10, 3) := by decide +kernel
theorem dX5_quarrel_4 : decode cX5_quarrel 4 = .ok (.iload_n 1, 1) := by decide +kernel
theorem dX5_quarrel_5 : decode cX5_quarrel 5 = .ok (.invokevirtual 84, 3) := by decide +kernel
theorem dX5_quarrel_8 : decode cX5_quarrel 8 = .ok (.ifCond .eq 19, 3) := by decide +kernel
theorem dX5_quarrel_11 : decode cX5_quarrel 11 = .ok (.aload_n 0, 1) := by decide +kernel
theorem dX5_quarrel_12 : decode cX5_quarrel 12 = .ok (.getfield 10, 3) := by decide +kernel
theorem dX5_quarrel_15 : decode cX5_quarrel 15 = .ok (.iload_n 2, 1) := by decide +kernel
theorem dX5_quarrel_16 : decode cX5_quarrel 16 = .ok (.invokevirtual 84, 3) := by decide +kernel
theorem dX5_quarrel_19 : decode cX5_quarrel 19 = .ok (.ifCond .eq 8, 3) := by decide +kernel
theorem dX5_quarrel_22 : decode cX5_quarrel 22 = .ok (.iload_n 1, 1) := by decide +kernel
theorem dX5_quarrel_23 : decode cX5_quarrel 23 = .ok (.iload_n 2, 1) := by decide +kernel
theorem dX5_quarrel_24 : decode cX5_quarrel 24 = .ok (.if_icmp .ne 5, 3) := by decide +kernel
theorem dX5_quarrel_27 : decode cX5_quarrel 27 = .ok (.iconst (-1), 1) := by decide +kernel
theorem dX5_quarrel_28 : decode cX5_quarrel 28 = .ok (.ireturn, 1) := by decide +kernel
theorem dX5_quarrel_29 : decode cX5_quarrel 29 = .ok (.aload_n 0, 1) := by decide +kernel
theorem dX5_quarrel_30 : decode cX5_quarrel 30 = .ok (.getfield 10, 3) := by decide +kernel
theorem dX5_quarrel_33 : decode cX5_quarrel 33 = .ok (.iload_n 1, 1) := by decide +kernel
theorem dX5_quarrel_34 : decode cX5_quarrel 34 = .ok (.iload_n 2, 1) := by decide +kernel
theorem dX5_quarrel_35 : decode cX5_quarrel 35 = .ok (.invokevirtual 213, 3) := by decide +kernel
theorem dX5_quarrel_38 : decode cX5_quarrel 38 = .ok (.ifCond .eq 7, 3) := by decide +kernel
theorem dX5_quarrel_41 : decode cX5_quarrel 41 = .ok (.iconst 1, 1) := by decide +kernel
theorem dX5_quarrel_42 : decode cX5_quarrel 42 = .ok (.goto 4, 3) := by decide +kernel
theorem dX5_quarrel_45 : decode cX5_quarrel 45 = .ok (.iconst 0, 1) := by decide +kernel
theorem dX5_quarrel_46 : decode cX5_quarrel 46 = .ok (.ireturn, 1) := by decide +kernel
set_option maxRecDepth 20000 in
theorem ggX5_shortest_X5_isShelf : GoodIn wsX5_shortest wsX5_isShelf := goodIn_r _ [7] (by decide +kernel) (by decide +kernel)
set_option maxRecDepth 20000 in
theorem gX5_shortest_X5_isShelf : GoodIn wsX5_shortest (va_wsS RX5 50 yX5_isShelf wsX5_isShelf) := goodIn_app (goodIn_of _ (by decide +kernel)) ggX5_shortest_X5_isShelf
set_option maxRecDepth 20000 in
theorem ggX5_shortest_X1_refusal : GoodIn wsX5_shortest wsX1_refusal := goodIn_r _ [12, 13, 70, 71, 72, 73, 74, 75] (by decide +kernel) (by decide +kernel)
set_option maxRecDepth 20000 in
theorem gX5_shortest_X1_refusal : GoodIn wsX5_shortest (wsV RX5 54 RX1 yX1_refusal wsX1_refusal) := goodIn_app (goodIn_of _ (by decide +kernel)) ggX5_shortest_X1_refusal
set_option maxRecDepth 20000 in
theorem ggX5_shortest_X5_tellsSames : GoodIn wsX5_shortest wsX5_tellsSames := goodIn_r _ [16, 17, 18, 19, 20, 6, 21, 70, 71, 72, 73, 74, 75] (by decide +kernel) (by decide +kernel)
set_option maxRecDepth 20000 in
theorem gX5_shortest_X5_tellsSames : GoodIn wsX5_shortest (va_wsS RX5 216 yX5_tellsSames wsX5_tellsSames) := goodIn_app (goodIn_of _ (by decide +kernel)) ggX5_shortest_X5_tellsSames
set_option maxRecDepth 20000 in
theorem ggX5_shortest_X2_fewest : GoodIn wsX5_shortest wsX2_fewest := goodIn_r _ [26, 27, 28, 29, 25, 30, 31, 32, 33, 34, 35, 36, 37, 38, 39, 40, 41, 42, 43, 44, 45, 46, 47, 6, 48, 49, 50, 51, 3, 52, 53, 54, 55, 56, 57, 67, 68, 69, 70, 71, 72, 73, 74, 75] (by decide +kernel) (by decide +kernel)
set_option maxRecDepth 20000 in
theorem gX5_shortest_X2_fewest : GoodIn wsX5_shortest (wsV RX5 220 RX2 yX2_fewest wsX2_fewest) := goodIn_app (goodIn_of _ (by decide +kernel)) ggX5_shortest_X2_fewest
theorem dX5_shortest_0 : decode cX5_shortest 0 = .ok (.iload_n 1, 1) := by decide +kernel
theorem dX5_shortest_1 : decode cX5_shortest 1 = .ok (.invokestatic 50, 3) := by decide +kernel
theorem dX5_shortest_4 : decode cX5_shortest 4 = .ok (.ifCond .eq 14, 3) := by decide +kernel
theorem dX5_shortest_7 : decode cX5_shortest 7 = .ok (.iload_n 2, 1) := by decide +kernel
theorem dX5_shortest_8 : decode cX5_shortest 8 = .ok (.iconst (-1), 1) := by decide +kernel
theorem dX5_shortest_9 : decode cX5_shortest 9 = .ok (.if_icmp .lt 9, 3) := by decide +kernel
theorem dX5_shortest_12 : decode cX5_shortest 12 = .ok (.iload_n 2, 1) := by decide +kernel
theorem dX5_shortest_13 : decode cX5_shortest 13 = .ok (.bipush 8, 2) := by decide +kernel
theorem dX5_shortest_15 : decode cX5_shortest 15 = .ok (.if_icmp .lt 5, 3) := by decide +kernel
theorem dX5_shortest_18 : decode cX5_shortest 18 = .ok (.iconst (-1), 1) := by decide +kernel
theorem dX5_shortest_19 : decode cX5_shortest 19 = .ok (.ireturn, 1) := by decide +kernel
theorem dX5_shortest_20 : decode cX5_shortest 20 = .ok (.aload_n 0, 1) := by decide +kernel
theorem dX5_shortest_21 : decode cX5_shortest 21 = .ok (.getfield 24, 3) := by decide +kernel
theorem dX5_shortest_24 : decode cX5_shortest 24 = .ok (.iload_n 1, 1) := by decide +kernel
theorem dX5_shortest_25 : decode cX5_shortest 25 = .ok (.aaload, 1) := by decide +kernel
theorem dX5_shortest_26 : decode cX5_shortest 26 = .ok (.iconst 2, 1) := by decide +kernel
theorem dX5_shortest_27 : decode cX5_shortest 27 = .ok (.invokevirtual 54, 3) := by decide +kernel
theorem dX5_shortest_30 : decode cX5_shortest 30 = .ok (.istore_n 3, 1) := by decide +kernel
theorem dX5_shortest_31 : decode cX5_shortest 31 = .ok (.iload_n 3, 1) := by decide +kernel
theorem dX5_shortest_32 : decode cX5_shortest 32 = .ok (.ifCond .eq 5, 3) := by decide +kernel
theorem dX5_shortest_35 : decode cX5_shortest 35 = .ok (.iload_n 3, 1) := by decide +kernel
theorem dX5_shortest_36 : decode cX5_shortest 36 = .ok (.ireturn, 1) := by decide +kernel
theorem dX5_shortest_37 : decode cX5_shortest 37 = .ok (.aload_n 0, 1) := by decide +kernel
theorem dX5_shortest_38 : decode cX5_shortest 38 = .ok (.getfield 24, 3) := by decide +kernel
theorem dX5_shortest_41 : decode cX5_shortest 41 = .ok (.iload_n 1, 1) := by decide +kernel
theorem dX5_shortest_42 : decode cX5_shortest 42 = .ok (.aaload, 1) := by decide +kernel
theorem dX5_shortest_43 : decode cX5_shortest 43 = .ok (.invokestatic 216, 3) := by decide +kernel
theorem dX5_shortest_46 : decode cX5_shortest 46 = .ok (.ifCond .ne 6, 3) := by decide +kernel
theorem dX5_shortest_49 : decode cX5_shortest 49 = .ok (.bipush (-13), 2) := by decide +kernel
theorem dX5_shortest_51 : decode cX5_shortest 51 = .ok (.ireturn, 1) := by decide +kernel
theorem dX5_shortest_52 : decode cX5_shortest 52 = .ok (.aload_n 0, 1) := by decide +kernel
theorem dX5_shortest_53 : decode cX5_shortest 53 = .ok (.getfield 46, 3) := by decide +kernel
theorem dX5_shortest_56 : decode cX5_shortest 56 = .ok (.aload_n 0, 1) := by decide +kernel
theorem dX5_shortest_57 : decode cX5_shortest 57 = .ok (.getfield 24, 3) := by decide +kernel
theorem dX5_shortest_60 : decode cX5_shortest 60 = .ok (.iload_n 1, 1) := by decide +kernel
theorem dX5_shortest_61 : decode cX5_shortest 61 = .ok (.aaload, 1) := by decide +kernel
theorem dX5_shortest_62 : decode cX5_shortest 62 = .ok (.invokevirtual 220, 3) := by decide +kernel
theorem dX5_shortest_65 : decode cX5_shortest 65 = .ok (.istore 4, 2) := by decide +kernel
theorem dX5_shortest_67 : decode cX5_shortest 67 = .ok (.iload 4, 2) := by decide +kernel
theorem dX5_shortest_69 : decode cX5_shortest 69 = .ok (.ifCond .lt 8, 3) := by decide +kernel
theorem dX5_shortest_72 : decode cX5_shortest 72 = .ok (.iload_n 2, 1) := by decide +kernel
theorem dX5_shortest_73 : decode cX5_shortest 73 = .ok (.iconst (-1), 1) := by decide +kernel
theorem dX5_shortest_74 : decode cX5_shortest 74 = .ok (.if_icmp .ne 6, 3) := by decide +kernel
theorem dX5_shortest_77 : decode cX5_shortest 77 = .ok (.iload 4, 2) := by decide +kernel
theorem dX5_shortest_79 : decode cX5_shortest 79 = .ok (.ireturn, 1) := by decide +kernel
theorem dX5_shortest_80 : decode cX5_shortest 80 = .ok (.aload_n 0, 1) := by decide +kernel
theorem dX5_shortest_81 : decode cX5_shortest 81 = .ok (.getfield 46, 3) := by decide +kernel
theorem dX5_shortest_84 : decode cX5_shortest 84 = .ok (.getfield 223, 3) := by decide +kernel
theorem dX5_shortest_87 : decode cX5_shortest 87 = .ok (.iload_n 2, 1) := by decide +kernel
theorem dX5_shortest_88 : decode cX5_shortest 88 = .ok (.iaload, 1) := by decide +kernel
theorem dX5_shortest_89 : decode cX5_shortest 89 = .ok (.ireturn, 1) := by decide +kernel
set_option maxRecDepth 20000 in
theorem ggX5_lent_X5_isShelf : GoodIn wsX5_lent wsX5_isShelf := goodIn_r _ [7] (by decide +kernel) (by decide +kernel)
set_option maxRecDepth 20000 in
theorem gX5_lent_X5_isShelf : GoodIn wsX5_lent (va_wsS RX5 50 yX5_isShelf wsX5_isShelf) := goodIn_app (goodIn_of _ (by decide +kernel)) ggX5_lent_X5_isShelf
set_option maxRecDepth 20000 in
theorem ggX5_lent_X4_isPerson : GoodIn wsX5_lent wsX4_isPerson := goodIn_r _ [12, 13, 61, 62, 63, 64, 65, 66, 67, 68, 69, 70, 71, 72, 73] (by decide +kernel) (by decide +kernel)
set_option maxRecDepth 20000 in
theorem gX5_lent_X4_isPerson : GoodIn wsX5_lent (wsV RX5 99 RX4 yX4_isPerson wsX4_isPerson) := goodIn_app (goodIn_of _ (by decide +kernel)) ggX5_lent_X4_isPerson
set_option maxRecDepth 20000 in
theorem ggX5_lent_X1_refusal : GoodIn wsX5_lent wsX1_refusal := goodIn_r _ [18, 19, 74, 75, 76, 77, 78, 79] (by decide +kernel) (by decide +kernel)
set_option maxRecDepth 20000 in
theorem gX5_lent_X1_refusal : GoodIn wsX5_lent (wsV RX5 54 RX1 yX1_refusal wsX1_refusal) := goodIn_app (goodIn_of _ (by decide +kernel)) ggX5_lent_X1_refusal
set_option maxRecDepth 20000 in
theorem ggX5_lent_X5_tellsGoods : GoodIn wsX5_lent wsX5_tellsGoods := goodIn_r _ [23, 24, 1, 25, 26, 27, 28, 11, 29, 30, 74, 75, 76, 77, 78, 79, 52, 53, 54, 55, 56, 57, 58, 59, 60, 61, 62, 63, 64, 65, 66, 67, 68, 69, 70, 71, 72, 73] (by decide +kernel) (by decide +kernel)
set_option maxRecDepth 20000 in
theorem gX5_lent_X5_tellsGoods : GoodIn wsX5_lent (wsV RX5 224 RX5 yX5_tellsGoods wsX5_tellsGoods) := goodIn_app (goodIn_of _ (by decide +kernel)) ggX5_lent_X5_tellsGoods
set_option maxRecDepth 20000 in
theorem ggX5_lent_X5_bitsOf : GoodIn wsX5_lent wsX5_bitsOf := goodIn_r _ [33, 24, 25, 74, 75, 76, 77, 78, 79] (by decide +kernel) (by decide +kernel)
set_option maxRecDepth 20000 in
theorem gX5_lent_X5_bitsOf : GoodIn wsX5_lent (va_wsS RX5 227 yX5_bitsOf wsX5_bitsOf) := goodIn_app (goodIn_of _ (by decide +kernel)) ggX5_lent_X5_bitsOf
set_option maxRecDepth 20000 in
theorem ggX5_lent_X4_takenFor : GoodIn wsX5_lent wsX4_takenFor := goodIn_r _ [37, 38, 39, 40, 41, 30, 42, 43, 6, 44, 61, 62, 63, 64, 65, 66, 67, 68, 69, 70, 71, 72, 73] (by decide +kernel) (by decide +kernel)
set_option maxRecDepth 20000 in
theorem gX5_lent_X4_takenFor : GoodIn wsX5_lent (wsV RX5 172 RX4 yX4_takenFor wsX4_takenFor) := goodIn_app (goodIn_of _ (by decide +kernel)) ggX5_lent_X4_takenFor
set_option maxRecDepth 20000 in
theorem ggX5_lent_J6_bitCount_0f7a4 : GoodIn wsX5_lent wsJ6_bitCount_0f7a4 := goodIn_r _ [48, 49, 50, 51] (by decide +kernel) (by decide +kernel)
set_option maxRecDepth 20000 in
theorem gX5_lent_J6_bitCount_0f7a4 : GoodIn wsX5_lent (va_wsS RX5 154 yJ6_bitCount_0f7a4 wsJ6_bitCount_0f7a4) := goodIn_app (goodIn_of _ (by decide +kernel)) ggX5_lent_J6_bitCount_0f7a4
theorem dX5_lent_0 : decode cX5_lent 0 = .ok (.iload_n 1, 1) := by decide +kernel
theorem dX5_lent_1 : decode cX5_lent 1 = .ok (.invokestatic 50, 3) := by decide +kernel
theorem dX5_lent_4 : decode cX5_lent 4 = .ok (.ifCond .eq 23, 3) := by decide +kernel
theorem dX5_lent_7 : decode cX5_lent 7 = .ok (.aload_n 0, 1) := by decide +kernel
theorem dX5_lent_8 : decode cX5_lent 8 = .ok (.getfield 10, 3) := by decide +kernel
theorem dX5_lent_11 : decode cX5_lent 11 = .ok (.iload_n 2, 1) := by decide +kernel
theorem dX5_lent_12 : decode cX5_lent 12 = .ok (.invokevirtual 99, 3) := by decide +kernel
theorem dX5_lent_15 : decode cX5_lent 15 = .ok (.ifCond .eq 12, 3) := by decide +kernel
theorem dX5_lent_18 : decode cX5_lent 18 = .ok (.iload_n 3, 1) := by decide +kernel
theorem dX5_lent_19 : decode cX5_lent 19 = .ok (.ifCond .lt 8, 3) := by decide +kernel
theorem dX5_lent_22 : decode cX5_lent 22 = .ok (.iload_n 3, 1) := by decide +kernel
theorem dX5_lent_23 : decode cX5_lent 23 = .ok (.iconst 1, 1) := by decide +kernel
theorem dX5_lent_24 : decode cX5_lent 24 = .ok (.if_icmp .le 5, 3) := by decide +kernel
theorem dX5_lent_27 : decode cX5_lent 27 = .ok (.iconst (-1), 1) := by decide +kernel
theorem dX5_lent_28 : decode cX5_lent 28 = .ok (.ireturn, 1) := by decide +kernel
theorem dX5_lent_29 : decode cX5_lent 29 = .ok (.aload_n 0, 1) := by decide +kernel
theorem dX5_lent_30 : decode cX5_lent 30 = .ok (.getfield 24, 3) := by decide +kernel
theorem dX5_lent_33 : decode cX5_lent 33 = .ok (.iload_n 1, 1) := by decide +kernel
theorem dX5_lent_34 : decode cX5_lent 34 = .ok (.aaload, 1) := by decide +kernel
theorem dX5_lent_35 : decode cX5_lent 35 = .ok (.iconst 2, 1) := by decide +kernel
theorem dX5_lent_36 : decode cX5_lent 36 = .ok (.invokevirtual 54, 3) := by decide +kernel
theorem dX5_lent_39 : decode cX5_lent 39 = .ok (.istore 4, 2) := by decide +kernel
theorem dX5_lent_41 : decode cX5_lent 41 = .ok (.iload 4, 2) := by decide +kernel
theorem dX5_lent_43 : decode cX5_lent 43 = .ok (.ifCond .eq 6, 3) := by decide +kernel
theorem dX5_lent_46 : decode cX5_lent 46 = .ok (.iload 4, 2) := by decide +kernel
theorem dX5_lent_48 : decode cX5_lent 48 = .ok (.ireturn, 1) := by decide +kernel
theorem dX5_lent_49 : decode cX5_lent 49 = .ok (.aload_n 0, 1) := by decide +kernel
theorem dX5_lent_50 : decode cX5_lent 50 = .ok (.aload_n 0, 1) := by decide +kernel
theorem dX5_lent_51 : decode cX5_lent 51 = .ok (.getfield 24, 3) := by decide +kernel
theorem dX5_lent_54 : decode cX5_lent 54 = .ok (.iload_n 1, 1) := by decide +kernel
theorem dX5_lent_55 : decode cX5_lent 55 = .ok (.aaload, 1) := by decide +kernel
theorem dX5_lent_56 : decode cX5_lent 56 = .ok (.invokevirtual 224, 3) := by decide +kernel
theorem dX5_lent_59 : decode cX5_lent 59 = .ok (.ifCond .ne 6, 3) := by decide +kernel
theorem dX5_lent_62 : decode cX5_lent 62 = .ok (.bipush (-13), 2) := by decide +kernel
theorem dX5_lent_64 : decode cX5_lent 64 = .ok (.ireturn, 1) := by decide +kernel
theorem dX5_lent_65 : decode cX5_lent 65 = .ok (.aload_n 0, 1) := by decide +kernel
theorem dX5_lent_66 : decode cX5_lent 66 = .ok (.getfield 24, 3) := by decide +kernel
theorem dX5_lent_69 : decode cX5_lent 69 = .ok (.iload_n 1, 1) := by decide +kernel
theorem dX5_lent_70 : decode cX5_lent 70 = .ok (.aaload, 1) := by decide +kernel
theorem dX5_lent_71 : decode cX5_lent 71 = .ok (.invokestatic 227, 3) := by decide +kernel
theorem dX5_lent_74 : decode cX5_lent 74 = .ok (.istore 5, 2) := by decide +kernel
theorem dX5_lent_76 : decode cX5_lent 76 = .ok (.iconst 0, 1) := by decide +kernel
theorem dX5_lent_77 : decode cX5_lent 77 = .ok (.istore 6, 2) := by decide +kernel
theorem dX5_lent_79 : decode cX5_lent 79 = .ok (.iconst 0, 1) := by decide +kernel
theorem dX5_lent_80 : decode cX5_lent 80 = .ok (.istore 7, 2) := by decide +kernel
theorem dX5_lent_82 : decode cX5_lent 82 = .ok (.iload 7, 2) := by decide +kernel
theorem dX5_lent_84 : decode cX5_lent 84 = .ok (.aload_n 0, 1) := by decide +kernel
theorem dX5_lent_85 : decode cX5_lent 85 = .ok (.getfield 10, 3) := by decide +kernel
theorem dX5_lent_88 : decode cX5_lent 88 = .ok (.getfield 230, 3) := by decide +kernel
theorem dX5_lent_91 : decode cX5_lent 91 = .ok (.if_icmp .ge 36, 3) := by decide +kernel
theorem dX5_lent_94 : decode cX5_lent 94 = .ok (.aload_n 0, 1) := by decide +kernel
theorem dX5_lent_95 : decode cX5_lent 95 = .ok (.getfield 10, 3) := by decide +kernel
theorem dX5_lent_98 : decode cX5_lent 98 = .ok (.iload_n 2, 1) := by decide +kernel
theorem dX5_lent_99 : decode cX5_lent 99 = .ok (.iload 7, 2) := by decide +kernel
theorem dX5_lent_101 : decode cX5_lent 101 = .ok (.invokevirtual 172, 3) := by decide +kernel
theorem dX5_lent_104 : decode cX5_lent 104 = .ok (.iload 5, 2) := by decide +kernel
theorem dX5_lent_106 : decode cX5_lent 106 = .ok (.iand, 1) := by decide +kernel
theorem dX5_lent_107 : decode cX5_lent 107 = .ok (.iload 5, 2) := by decide +kernel
theorem dX5_lent_109 : decode cX5_lent 109 = .ok (.if_icmp .ne 12, 3) := by decide +kernel
theorem dX5_lent_112 : decode cX5_lent 112 = .ok (.iload 6, 2) := by decide +kernel
theorem dX5_lent_114 : decode cX5_lent 114 = .ok (.iconst 1, 1) := by decide +kernel
theorem dX5_lent_115 : decode cX5_lent 115 = .ok (.iload 7, 2) := by decide +kernel
theorem dX5_lent_117 : decode cX5_lent 117 = .ok (.ishl, 1) := by decide +kernel
theorem dX5_lent_118 : decode cX5_lent 118 = .ok (.ior, 1) := by decide +kernel
theorem dX5_lent_119 : decode cX5_lent 119 = .ok (.istore 6, 2) := by decide +kernel
theorem dX5_lent_121 : decode cX5_lent 121 = .ok (.iinc 7 1, 3) := by decide +kernel
theorem dX5_lent_124 : decode cX5_lent 124 = .ok (.goto (-42), 3) := by decide +kernel
theorem dX5_lent_127 : decode cX5_lent 127 = .ok (.iload_n 3, 1) := by decide +kernel
theorem dX5_lent_128 : decode cX5_lent 128 = .ok (.ifCond .ne 8, 3) := by decide +kernel
theorem dX5_lent_131 : decode cX5_lent 131 = .ok (.iload 6, 2) := by decide +kernel
theorem dX5_lent_133 : decode cX5_lent 133 = .ok (.goto 8, 3) := by decide +kernel
theorem dX5_lent_136 : decode cX5_lent 136 = .ok (.iload 6, 2) := by decide +kernel
theorem dX5_lent_138 : decode cX5_lent 138 = .ok (.invokestatic 154, 3) := by decide +kernel
theorem dX5_lent_141 : decode cX5_lent 141 = .ok (.ireturn, 1) := by decide +kernel
set_option maxRecDepth 20000 in
theorem ggX5_whatIs_X5_isShelf : GoodIn wsX5_whatIs wsX5_isShelf := goodIn_r _ [9] (by decide +kernel) (by decide +kernel)
set_option maxRecDepth 20000 in
theorem gX5_whatIs_X5_isShelf : GoodIn wsX5_whatIs (va_wsS RX5 50 yX5_isShelf wsX5_isShelf) := goodIn_app (goodIn_of _ (by decide +kernel)) ggX5_whatIs_X5_isShelf
set_option maxRecDepth 20000 in
theorem ggX5_whatIs_X4_isPerson : GoodIn wsX5_whatIs wsX4_isPerson := goodIn_r _ [14, 15, 53, 54, 55, 56, 57, 58, 59, 60, 61, 62, 63, 64, 65] (by decide +kernel) (by decide +kernel)
set_option maxRecDepth 20000 in
theorem gX5_whatIs_X4_isPerson : GoodIn wsX5_whatIs (wsV RX5 99 RX4 yX4_isPerson wsX4_isPerson) := goodIn_app (goodIn_of _ (by decide +kernel)) ggX5_whatIs_X4_isPerson
set_option maxRecDepth 20000 in
theorem ggX5_whatIs_X4_isGoods : GoodIn wsX5_whatIs wsX4_isGoods := goodIn_r _ [19, 20, 53, 54, 55, 56, 57, 58, 59, 60, 61, 62, 63, 64, 65] (by decide +kernel) (by decide +kernel)
set_option maxRecDepth 20000 in
theorem gX5_whatIs_X4_isGoods : GoodIn wsX5_whatIs (wsV RX5 84 RX4 yX4_isGoods wsX4_isGoods) := goodIn_app (goodIn_of _ (by decide +kernel)) ggX5_whatIs_X4_isGoods
set_option maxRecDepth 20000 in
theorem ggX5_whatIs_X1_refusal : GoodIn wsX5_whatIs wsX1_refusal := goodIn_r _ [25, 26, 66, 67, 68, 69, 70, 71] (by decide +kernel) (by decide +kernel)
set_option maxRecDepth 20000 in
theorem gX5_whatIs_X1_refusal : GoodIn wsX5_whatIs (wsV RX5 54 RX1 yX1_refusal wsX1_refusal) := goodIn_app (goodIn_of _ (by decide +kernel)) ggX5_whatIs_X1_refusal
set_option maxRecDepth 20000 in
theorem ggX5_whatIs_X5_isWorthAsTold : GoodIn wsX5_whatIs wsX5_isWorthAsTold := goodIn_r _ [30, 31, 32, 1, 33, 34, 35, 36, 24, 37, 38, 39, 40, 41, 42, 8, 43, 66, 67, 68, 69, 70, 71, 44, 45, 46, 47, 48, 49, 50, 51, 52, 53, 54, 55, 56, 57, 58, 59, 60, 61, 62, 63, 64, 65] (by decide +kernel) (by decide +kernel)
set_option maxRecDepth 20000 in
theorem gX5_whatIs_X5_isWorthAsTold : GoodIn wsX5_whatIs (wsV RX5 233 RX5 yX5_isWorthAsTold wsX5_isWorthAsTold) := goodIn_app (goodIn_of _ (by decide +kernel)) ggX5_whatIs_X5_isWorthAsTold
theorem dX5_whatIs_0 : decode cX5_whatIs 0 = .ok (.iload_n 1, 1) := by decide +kernel
theorem dX5_whatIs_1 : decode cX5_whatIs 1 = .ok (.invokestatic 50, 3) := by decide +kernel
theorem dX5_whatIs_4 : decode cX5_whatIs 4 = .ok (.ifCond .eq 36, 3) := by decide +kernel
theorem dX5_whatIs_7 : decode cX5_whatIs 7 = .ok (.aload_n 0, 1) := by decide +kernel
theorem dX5_whatIs_8 : decode cX5_whatIs 8 = .ok (.getfield 10, 3) := by decide +kernel
theorem dX5_whatIs_11 : decode cX5_whatIs 11 = .ok (.iload_n 2, 1) := by decide +kernel
theorem dX5_whatIs_12 : decode cX5_whatIs 12 = .ok (.invokevirtual 99, 3) := by decide +kernel
theorem dX5_whatIs_15 : decode cX5_whatIs 15 = .ok (.ifCond .eq 25, 3) := by decide +kernel
theorem dX5_whatIs_18 : decode cX5_whatIs 18 = .ok (.aload_n 0, 1) := by decide +kernel
theorem dX5_whatIs_19 : decode cX5_whatIs 19 = .ok (.getfield 10, 3) := by decide +kernel
theorem dX5_whatIs_22 : decode cX5_whatIs 22 = .ok (.iload_n 3, 1) := by decide +kernel
theorem dX5_whatIs_23 : decode cX5_whatIs 23 = .ok (.invokevirtual 84, 3) := by decide +kernel
theorem dX5_whatIs_26 : decode cX5_whatIs 26 = .ok (.ifCond .eq 14, 3) := by decide +kernel
theorem dX5_whatIs_29 : decode cX5_whatIs 29 = .ok (.iload 4, 2) := by decide +kernel
theorem dX5_whatIs_31 : decode cX5_whatIs 31 = .ok (.ifCond .lt 9, 3) := by decide +kernel
theorem dX5_whatIs_34 : decode cX5_whatIs 34 = .ok (.iload 4, 2) := by decide +kernel
theorem dX5_whatIs_36 : decode cX5_whatIs 36 = .ok (.iconst 1, 1) := by decide +kernel
theorem dX5_whatIs_37 : decode cX5_whatIs 37 = .ok (.if_icmp .le 5, 3) := by decide +kernel
theorem dX5_whatIs_40 : decode cX5_whatIs 40 = .ok (.iconst (-1), 1) := by decide +kernel
theorem dX5_whatIs_41 : decode cX5_whatIs 41 = .ok (.ireturn, 1) := by decide +kernel
theorem dX5_whatIs_42 : decode cX5_whatIs 42 = .ok (.aload_n 0, 1) := by decide +kernel
theorem dX5_whatIs_43 : decode cX5_whatIs 43 = .ok (.getfield 24, 3) := by decide +kernel
theorem dX5_whatIs_46 : decode cX5_whatIs 46 = .ok (.iload_n 1, 1) := by decide +kernel
theorem dX5_whatIs_47 : decode cX5_whatIs 47 = .ok (.aaload, 1) := by decide +kernel
theorem dX5_whatIs_48 : decode cX5_whatIs 48 = .ok (.iconst 2, 1) := by decide +kernel
theorem dX5_whatIs_49 : decode cX5_whatIs 49 = .ok (.invokevirtual 54, 3) := by decide +kernel
theorem dX5_whatIs_52 : decode cX5_whatIs 52 = .ok (.istore 5, 2) := by decide +kernel
theorem dX5_whatIs_54 : decode cX5_whatIs 54 = .ok (.iload 5, 2) := by decide +kernel
theorem dX5_whatIs_56 : decode cX5_whatIs 56 = .ok (.ifCond .eq 6, 3) := by decide +kernel
theorem dX5_whatIs_59 : decode cX5_whatIs 59 = .ok (.iload 5, 2) := by decide +kernel
theorem dX5_whatIs_61 : decode cX5_whatIs 61 = .ok (.ireturn, 1) := by decide +kernel
theorem dX5_whatIs_62 : decode cX5_whatIs 62 = .ok (.iconst 0, 1) := by decide +kernel
theorem dX5_whatIs_63 : decode cX5_whatIs 63 = .ok (.istore 6, 2) := by decide +kernel
theorem dX5_whatIs_65 : decode cX5_whatIs 65 = .ok (.iload 4, 2) := by decide +kernel
theorem dX5_whatIs_67 : decode cX5_whatIs 67 = .ok (.ifCond .ne 8, 3) := by decide +kernel
theorem dX5_whatIs_70 : decode cX5_whatIs 70 = .ok (.bipush 8, 2) := by decide +kernel
theorem dX5_whatIs_72 : decode cX5_whatIs 72 = .ok (.goto 5, 3) := by decide +kernel
theorem dX5_whatIs_75 : decode cX5_whatIs 75 = .ok (.bipush 10, 2) := by decide +kernel
theorem dX5_whatIs_77 : decode cX5_whatIs 77 = .ok (.istore 7, 2) := by decide +kernel
theorem dX5_whatIs_79 : decode cX5_whatIs 79 = .ok (.iconst 0, 1) := by decide +kernel
theorem dX5_whatIs_80 : decode cX5_whatIs 80 = .ok (.istore 8, 2) := by decide +kernel
theorem dX5_whatIs_82 : decode cX5_whatIs 82 = .ok (.iload 8, 2) := by decide +kernel
theorem dX5_whatIs_84 : decode cX5_whatIs 84 = .ok (.iload 7, 2) := by decide +kernel
theorem dX5_whatIs_86 : decode cX5_whatIs 86 = .ok (.if_icmp .ge 86, 3) := by decide +kernel
theorem dX5_whatIs_89 : decode cX5_whatIs 89 = .ok (.iload 4, 2) := by decide +kernel
theorem dX5_whatIs_91 : decode cX5_whatIs 91 = .ok (.ifCond .ne 8, 3) := by decide +kernel
theorem dX5_whatIs_94 : decode cX5_whatIs 94 = .ok (.iload 8, 2) := by decide +kernel
theorem dX5_whatIs_96 : decode cX5_whatIs 96 = .ok (.goto 12, 3) := by decide +kernel
theorem dX5_whatIs_99 : decode cX5_whatIs 99 = .ok (.aload_n 0, 1) := by decide +kernel
theorem dX5_whatIs_100 : decode cX5_whatIs 100 = .ok (.getfield 10, 3) := by decide +kernel
theorem dX5_whatIs_103 : decode cX5_whatIs 103 = .ok (.getfield 87, 3) := by decide +kernel
theorem dX5_whatIs_106 : decode cX5_whatIs 106 = .ok (.iload_n 3, 1) := by decide +kernel
theorem dX5_whatIs_107 : decode cX5_whatIs 107 = .ok (.iaload, 1) := by decide +kernel
theorem dX5_whatIs_108 : decode cX5_whatIs 108 = .ok (.istore 9, 2) := by decide +kernel
theorem dX5_whatIs_110 : decode cX5_whatIs 110 = .ok (.iload 4, 2) := by decide +kernel
theorem dX5_whatIs_112 : decode cX5_whatIs 112 = .ok (.ifCond .ne 15, 3) := by decide +kernel
theorem dX5_whatIs_115 : decode cX5_whatIs 115 = .ok (.aload_n 0, 1) := by decide +kernel
theorem dX5_whatIs_116 : decode cX5_whatIs 116 = .ok (.getfield 10, 3) := by decide +kernel
theorem dX5_whatIs_119 : decode cX5_whatIs 119 = .ok (.getfield 90, 3) := by decide +kernel
theorem dX5_whatIs_122 : decode cX5_whatIs 122 = .ok (.iload_n 3, 1) := by decide +kernel
theorem dX5_whatIs_123 : decode cX5_whatIs 123 = .ok (.iaload, 1) := by decide +kernel
theorem dX5_whatIs_124 : decode cX5_whatIs 124 = .ok (.goto 5, 3) := by decide +kernel
theorem dX5_whatIs_127 : decode cX5_whatIs 127 = .ok (.iload 8, 2) := by decide +kernel
theorem dX5_whatIs_129 : decode cX5_whatIs 129 = .ok (.istore 10, 2) := by decide +kernel
theorem dX5_whatIs_131 : decode cX5_whatIs 131 = .ok (.aload_n 0, 1) := by decide +kernel
theorem dX5_whatIs_132 : decode cX5_whatIs 132 = .ok (.aload_n 0, 1) := by decide +kernel
theorem dX5_whatIs_133 : decode cX5_whatIs 133 = .ok (.getfield 24, 3) := by decide +kernel
theorem dX5_whatIs_136 : decode cX5_whatIs 136 = .ok (.iload_n 1, 1) := by decide +kernel
theorem dX5_whatIs_137 : decode cX5_whatIs 137 = .ok (.aaload, 1) := by decide +kernel
theorem dX5_whatIs_138 : decode cX5_whatIs 138 = .ok (.iload 9, 2) := by decide +kernel
theorem dX5_whatIs_140 : decode cX5_whatIs 140 = .ok (.iload 10, 2) := by decide +kernel
theorem dX5_whatIs_142 : decode cX5_whatIs 142 = .ok (.aload_n 0, 1) := by decide +kernel
theorem dX5_whatIs_143 : decode cX5_whatIs 143 = .ok (.getfield 10, 3) := by decide +kernel
theorem dX5_whatIs_146 : decode cX5_whatIs 146 = .ok (.getfield 102, 3) := by decide +kernel
theorem dX5_whatIs_149 : decode cX5_whatIs 149 = .ok (.iload_n 2, 1) := by decide +kernel
theorem dX5_whatIs_150 : decode cX5_whatIs 150 = .ok (.iaload, 1) := by decide +kernel
theorem dX5_whatIs_151 : decode cX5_whatIs 151 = .ok (.invokevirtual 233, 3) := by decide +kernel
theorem dX5_whatIs_154 : decode cX5_whatIs 154 = .ok (.ifCond .eq 12, 3) := by decide +kernel
theorem dX5_whatIs_157 : decode cX5_whatIs 157 = .ok (.iload 6, 2) := by decide +kernel
theorem dX5_whatIs_159 : decode cX5_whatIs 159 = .ok (.iconst 1, 1) := by decide +kernel
theorem dX5_whatIs_160 : decode cX5_whatIs 160 = .ok (.iload 8, 2) := by decide +kernel
theorem dX5_whatIs_162 : decode cX5_whatIs 162 = .ok (.ishl, 1) := by decide +kernel
theorem dX5_whatIs_163 : decode cX5_whatIs 163 = .ok (.ior, 1) := by decide +kernel
theorem dX5_whatIs_164 : decode cX5_whatIs 164 = .ok (.istore 6, 2) := by decide +kernel
theorem dX5_whatIs_166 : decode cX5_whatIs 166 = .ok (.iinc 8 1, 3) := by decide +kernel
theorem dX5_whatIs_169 : decode cX5_whatIs 169 = .ok (.goto (-87), 3) := by decide +kernel
theorem dX5_whatIs_172 : decode cX5_whatIs 172 = .ok (.iload 6, 2) := by decide +kernel
theorem dX5_whatIs_174 : decode cX5_whatIs 174 = .ok (.ireturn, 1) := by decide +kernel
set_option maxRecDepth 20000 in
theorem ggX5_tastes_X5_isShelf : GoodIn wsX5_tastes wsX5_isShelf := goodIn_r _ [8] (by decide +kernel) (by decide +kernel)
set_option maxRecDepth 20000 in
theorem gX5_tastes_X5_isShelf : GoodIn wsX5_tastes (va_wsS RX5 50 yX5_isShelf wsX5_isShelf) := goodIn_app (goodIn_of _ (by decide +kernel)) ggX5_tastes_X5_isShelf
set_option maxRecDepth 20000 in
theorem ggX5_tastes_X4_isPerson : GoodIn wsX5_tastes wsX4_isPerson := goodIn_r _ [13, 14, 54, 55, 56, 57, 58, 59, 60, 61, 62, 63, 64, 65, 66] (by decide +kernel) (by decide +kernel)
set_option maxRecDepth 20000 in
theorem gX5_tastes_X4_isPerson : GoodIn wsX5_tastes (wsV RX5 99 RX4 yX4_isPerson wsX4_isPerson) := goodIn_app (goodIn_of _ (by decide +kernel)) ggX5_tastes_X4_isPerson
set_option maxRecDepth 20000 in
theorem ggX5_tastes_X1_refusal : GoodIn wsX5_tastes wsX1_refusal := goodIn_r _ [19, 20, 48, 49, 50, 51, 52, 53] (by decide +kernel) (by decide +kernel)
set_option maxRecDepth 20000 in
theorem gX5_tastes_X1_refusal : GoodIn wsX5_tastes (wsV RX5 54 RX1 yX1_refusal wsX1_refusal) := goodIn_app (goodIn_of _ (by decide +kernel)) ggX5_tastes_X1_refusal
set_option maxRecDepth 20000 in
theorem ggX5_tastes_X5_isTasteAsTold : GoodIn wsX5_tastes wsX5_isTasteAsTold := goodIn_r _ [24, 3, 1, 4, 25, 26, 27, 28, 29, 30, 31, 18, 32, 33, 34, 35, 36, 37, 7, 38, 48, 49, 50, 51, 52, 53, 39, 40, 41, 42, 43, 44, 45, 46, 47, 54, 55, 56, 57, 58, 59, 60, 61, 62, 63, 64, 65, 66] (by decide +kernel) (by decide +kernel)
set_option maxRecDepth 20000 in
theorem gX5_tastes_X5_isTasteAsTold : GoodIn wsX5_tastes (wsV RX5 237 RX5 yX5_isTasteAsTold wsX5_isTasteAsTold) := goodIn_app (goodIn_of _ (by decide +kernel)) ggX5_tastes_X5_isTasteAsTold
theorem dX5_tastes_0 : decode cX5_tastes 0 = .ok (.iload_n 1, 1) := by decide +kernel
theorem dX5_tastes_1 : decode cX5_tastes 1 = .ok (.invokestatic 50, 3) := by decide +kernel
theorem dX5_tastes_4 : decode cX5_tastes 4 = .ok (.ifCond .eq 14, 3) := by decide +kernel
theorem dX5_tastes_7 : decode cX5_tastes 7 = .ok (.aload_n 0, 1) := by decide +kernel
theorem dX5_tastes_8 : decode cX5_tastes 8 = .ok (.getfield 10, 3) := by decide +kernel
theorem dX5_tastes_11 : decode cX5_tastes 11 = .ok (.iload_n 2, 1) := by decide +kernel
theorem dX5_tastes_12 : decode cX5_tastes 12 = .ok (.invokevirtual 99, 3) := by decide +kernel
theorem dX5_tastes_15 : decode cX5_tastes 15 = .ok (.ifCond .ne 5, 3) := by decide +kernel
theorem dX5_tastes_18 : decode cX5_tastes 18 = .ok (.iconst (-1), 1) := by decide +kernel
theorem dX5_tastes_19 : decode cX5_tastes 19 = .ok (.ireturn, 1) := by decide +kernel
theorem dX5_tastes_20 : decode cX5_tastes 20 = .ok (.aload_n 0, 1) := by decide +kernel
theorem dX5_tastes_21 : decode cX5_tastes 21 = .ok (.getfield 24, 3) := by decide +kernel
theorem dX5_tastes_24 : decode cX5_tastes 24 = .ok (.iload_n 1, 1) := by decide +kernel
theorem dX5_tastes_25 : decode cX5_tastes 25 = .ok (.aaload, 1) := by decide +kernel
theorem dX5_tastes_26 : decode cX5_tastes 26 = .ok (.iconst 2, 1) := by decide +kernel
theorem dX5_tastes_27 : decode cX5_tastes 27 = .ok (.invokevirtual 54, 3) := by decide +kernel
theorem dX5_tastes_30 : decode cX5_tastes 30 = .ok (.istore_n 3, 1) := by decide +kernel
theorem dX5_tastes_31 : decode cX5_tastes 31 = .ok (.iload_n 3, 1) := by decide +kernel
theorem dX5_tastes_32 : decode cX5_tastes 32 = .ok (.ifCond .eq 5, 3) := by decide +kernel
theorem dX5_tastes_35 : decode cX5_tastes 35 = .ok (.iload_n 3, 1) := by decide +kernel
theorem dX5_tastes_36 : decode cX5_tastes 36 = .ok (.ireturn, 1) := by decide +kernel
theorem dX5_tastes_37 : decode cX5_tastes 37 = .ok (.aload_n 0, 1) := by decide +kernel
theorem dX5_tastes_38 : decode cX5_tastes 38 = .ok (.getfield 24, 3) := by decide +kernel
theorem dX5_tastes_41 : decode cX5_tastes 41 = .ok (.iload_n 1, 1) := by decide +kernel
theorem dX5_tastes_42 : decode cX5_tastes 42 = .ok (.aaload, 1) := by decide +kernel
theorem dX5_tastes_43 : decode cX5_tastes 43 = .ok (.getfield 70, 3) := by decide +kernel
theorem dX5_tastes_46 : decode cX5_tastes 46 = .ok (.aload_n 0, 1) := by decide +kernel
theorem dX5_tastes_47 : decode cX5_tastes 47 = .ok (.getfield 10, 3) := by decide +kernel
theorem dX5_tastes_50 : decode cX5_tastes 50 = .ok (.getfield 230, 3) := by decide +kernel
theorem dX5_tastes_53 : decode cX5_tastes 53 = .ok (.if_icmp .le 6, 3) := by decide +kernel
theorem dX5_tastes_56 : decode cX5_tastes 56 = .ok (.bipush (-13), 2) := by decide +kernel
theorem dX5_tastes_58 : decode cX5_tastes 58 = .ok (.ireturn, 1) := by decide +kernel
theorem dX5_tastes_59 : decode cX5_tastes 59 = .ok (.iconst 0, 1) := by decide +kernel
theorem dX5_tastes_60 : decode cX5_tastes 60 = .ok (.istore 4, 2) := by decide +kernel
theorem dX5_tastes_62 : decode cX5_tastes 62 = .ok (.iconst 0, 1) := by decide +kernel
theorem dX5_tastes_63 : decode cX5_tastes 63 = .ok (.istore 5, 2) := by decide +kernel
theorem dX5_tastes_65 : decode cX5_tastes 65 = .ok (.iload 5, 2) := by decide +kernel
theorem dX5_tastes_67 : decode cX5_tastes 67 = .ok (.bipush 10, 2) := by decide +kernel
theorem dX5_tastes_69 : decode cX5_tastes 69 = .ok (.if_icmp .ge 33, 3) := by decide +kernel
theorem dX5_tastes_72 : decode cX5_tastes 72 = .ok (.aload_n 0, 1) := by decide +kernel
theorem dX5_tastes_73 : decode cX5_tastes 73 = .ok (.aload_n 0, 1) := by decide +kernel
theorem dX5_tastes_74 : decode cX5_tastes 74 = .ok (.getfield 24, 3) := by decide +kernel
theorem dX5_tastes_77 : decode cX5_tastes 77 = .ok (.iload_n 1, 1) := by decide +kernel
theorem dX5_tastes_78 : decode cX5_tastes 78 = .ok (.aaload, 1) := by decide +kernel
theorem dX5_tastes_79 : decode cX5_tastes 79 = .ok (.iload 5, 2) := by decide +kernel
theorem dX5_tastes_81 : decode cX5_tastes 81 = .ok (.invokevirtual 237, 3) := by decide +kernel
theorem dX5_tastes_84 : decode cX5_tastes 84 = .ok (.ifCond .eq 12, 3) := by decide +kernel
theorem dX5_tastes_87 : decode cX5_tastes 87 = .ok (.iload 4, 2) := by decide +kernel
theorem dX5_tastes_89 : decode cX5_tastes 89 = .ok (.iconst 1, 1) := by decide +kernel
theorem dX5_tastes_90 : decode cX5_tastes 90 = .ok (.iload 5, 2) := by decide +kernel
theorem dX5_tastes_92 : decode cX5_tastes 92 = .ok (.ishl, 1) := by decide +kernel
theorem dX5_tastes_93 : decode cX5_tastes 93 = .ok (.ior, 1) := by decide +kernel
theorem dX5_tastes_94 : decode cX5_tastes 94 = .ok (.istore 4, 2) := by decide +kernel
theorem dX5_tastes_96 : decode cX5_tastes 96 = .ok (.iinc 5 1, 3) := by decide +kernel
theorem dX5_tastes_99 : decode cX5_tastes 99 = .ok (.goto (-34), 3) := by decide +kernel
theorem dX5_tastes_102 : decode cX5_tastes 102 = .ok (.iload 4, 2) := by decide +kernel
theorem dX5_tastes_104 : decode cX5_tastes 104 = .ok (.ireturn, 1) := by decide +kernel
set_option maxRecDepth 20000 in
theorem ggX5_two_X4_isPerson : GoodIn wsX5_two wsX4_isPerson := goodIn_r _ [6, 7, 49, 50, 51, 52, 53, 54, 55, 56, 57, 58, 59, 60, 61] (by decide +kernel) (by decide +kernel)
set_option maxRecDepth 20000 in
theorem gX5_two_X4_isPerson : GoodIn wsX5_two (wsV RX5 99 RX4 yX4_isPerson wsX4_isPerson) := goodIn_app (goodIn_of _ (by decide +kernel)) ggX5_two_X4_isPerson
set_option maxRecDepth 20000 in
theorem ggX5_two_X4_goodsHad : GoodIn wsX5_two wsX4_goodsHad := goodIn_r _ [11, 12, 13, 49, 50, 51, 52, 53, 54, 55, 56, 57, 58, 59, 60, 61] (by decide +kernel) (by decide +kernel)
set_option maxRecDepth 20000 in
theorem gX5_two_X4_goodsHad : GoodIn wsX5_two (wsV RX5 105 RX4 yX4_goodsHad wsX4_goodsHad) := goodIn_app (goodIn_of _ (by decide +kernel)) ggX5_two_X4_goodsHad
set_option maxRecDepth 20000 in
theorem ggX5_two_X4_choice : GoodIn wsX5_two wsX4_choice := goodIn_r _ [17, 12, 18, 19, 20, 5, 21, 22, 23, 24, 25, 26, 27, 28, 29, 30, 49, 50, 51, 52, 53, 54, 55, 56, 57, 58, 59, 60, 61] (by decide +kernel) (by decide +kernel)
set_option maxRecDepth 20000 in
theorem gX5_two_X4_choice : GoodIn wsX5_two (wsV RX5 175 RX4 yX4_choice wsX4_choice) := goodIn_app (goodIn_of _ (by decide +kernel)) ggX5_two_X4_choice
set_option maxRecDepth 20000 in
theorem ggX5_two_X5_isContent : GoodIn wsX5_two wsX5_isContent := goodIn_r _ [34, 35, 36, 37, 27, 38, 1, 39, 19, 20, 5, 21, 22, 23, 24, 25, 26, 28, 40, 41, 42, 43, 44, 45, 46, 47, 48, 49, 50, 51, 52, 53, 54, 55, 56, 57, 58, 59, 60, 61] (by decide +kernel) (by decide +kernel)
set_option maxRecDepth 20000 in
theorem gX5_two_X5_isContent : GoodIn wsX5_two (wsV RX5 241 RX5 yX5_isContent wsX5_isContent) := goodIn_app (goodIn_of _ (by decide +kernel)) ggX5_two_X5_isContent
theorem dX5_two_0 : decode cX5_two 0 = .ok (.aload_n 0, 1) := by decide +kernel
theorem dX5_two_1 : decode cX5_two 1 = .ok (.getfield 10, 3) := by decide +kernel
theorem dX5_two_4 : decode cX5_two 4 = .ok (.iload_n 1, 1) := by decide +kernel
theorem dX5_two_5 : decode cX5_two 5 = .ok (.invokevirtual 99, 3) := by decide +kernel
theorem dX5_two_8 : decode cX5_two 8 = .ok (.ifCond .eq 19, 3) := by decide +kernel
theorem dX5_two_11 : decode cX5_two 11 = .ok (.aload_n 0, 1) := by decide +kernel
theorem dX5_two_12 : decode cX5_two 12 = .ok (.getfield 10, 3) := by decide +kernel
theorem dX5_two_15 : decode cX5_two 15 = .ok (.iload_n 2, 1) := by decide +kernel
theorem dX5_two_16 : decode cX5_two 16 = .ok (.invokevirtual 99, 3) := by decide +kernel
theorem dX5_two_19 : decode cX5_two 19 = .ok (.ifCond .eq 8, 3) := by decide +kernel
theorem dX5_two_22 : decode cX5_two 22 = .ok (.iload_n 1, 1) := by decide +kernel
theorem dX5_two_23 : decode cX5_two 23 = .ok (.iload_n 2, 1) := by decide +kernel
theorem dX5_two_24 : decode cX5_two 24 = .ok (.if_icmp .ne 5, 3) := by decide +kernel
theorem dX5_two_27 : decode cX5_two 27 = .ok (.iconst (-1), 1) := by decide +kernel
theorem dX5_two_28 : decode cX5_two 28 = .ok (.ireturn, 1) := by decide +kernel
theorem dX5_two_29 : decode cX5_two 29 = .ok (.aload_n 0, 1) := by decide +kernel
theorem dX5_two_30 : decode cX5_two 30 = .ok (.getfield 10, 3) := by decide +kernel
theorem dX5_two_33 : decode cX5_two 33 = .ok (.iload_n 1, 1) := by decide +kernel
theorem dX5_two_34 : decode cX5_two 34 = .ok (.aload_n 0, 1) := by decide +kernel
theorem dX5_two_35 : decode cX5_two 35 = .ok (.getfield 10, 3) := by decide +kernel
theorem dX5_two_38 : decode cX5_two 38 = .ok (.iload_n 1, 1) := by decide +kernel
theorem dX5_two_39 : decode cX5_two 39 = .ok (.invokevirtual 105, 3) := by decide +kernel
theorem dX5_two_42 : decode cX5_two 42 = .ok (.iconst (-1), 1) := by decide +kernel
theorem dX5_two_43 : decode cX5_two 43 = .ok (.invokevirtual 175, 3) := by decide +kernel
theorem dX5_two_46 : decode cX5_two 46 = .ok (.istore_n 3, 1) := by decide +kernel
theorem dX5_two_47 : decode cX5_two 47 = .ok (.aload_n 0, 1) := by decide +kernel
theorem dX5_two_48 : decode cX5_two 48 = .ok (.getfield 10, 3) := by decide +kernel
theorem dX5_two_51 : decode cX5_two 51 = .ok (.iload_n 2, 1) := by decide +kernel
theorem dX5_two_52 : decode cX5_two 52 = .ok (.aload_n 0, 1) := by decide +kernel
theorem dX5_two_53 : decode cX5_two 53 = .ok (.getfield 10, 3) := by decide +kernel
theorem dX5_two_56 : decode cX5_two 56 = .ok (.iload_n 2, 1) := by decide +kernel
theorem dX5_two_57 : decode cX5_two 57 = .ok (.invokevirtual 105, 3) := by decide +kernel
theorem dX5_two_60 : decode cX5_two 60 = .ok (.iconst (-1), 1) := by decide +kernel
theorem dX5_two_61 : decode cX5_two 61 = .ok (.invokevirtual 175, 3) := by decide +kernel
theorem dX5_two_64 : decode cX5_two 64 = .ok (.istore 4, 2) := by decide +kernel
theorem dX5_two_66 : decode cX5_two 66 = .ok (.iload_n 3, 1) := by decide +kernel
theorem dX5_two_67 : decode cX5_two 67 = .ok (.ifCond .lt 8, 3) := by decide +kernel
theorem dX5_two_70 : decode cX5_two 70 = .ok (.iload 4, 2) := by decide +kernel
theorem dX5_two_72 : decode cX5_two 72 = .ok (.ifCond .ge 6, 3) := by decide +kernel
theorem dX5_two_75 : decode cX5_two 75 = .ok (.bipush (-3), 2) := by decide +kernel
theorem dX5_two_77 : decode cX5_two 77 = .ok (.ireturn, 1) := by decide +kernel
theorem dX5_two_78 : decode cX5_two 78 = .ok (.iconst 0, 1) := by decide +kernel
theorem dX5_two_79 : decode cX5_two 79 = .ok (.istore 5, 2) := by decide +kernel
theorem dX5_two_81 : decode cX5_two 81 = .ok (.iload 5, 2) := by decide +kernel
theorem dX5_two_83 : decode cX5_two 83 = .ok (.iconst 1, 1) := by decide +kernel
theorem dX5_two_84 : decode cX5_two 84 = .ok (.if_icmp .gt 63, 3) := by decide +kernel
theorem dX5_two_87 : decode cX5_two 87 = .ok (.iconst 0, 1) := by decide +kernel
theorem dX5_two_88 : decode cX5_two 88 = .ok (.istore 6, 2) := by decide +kernel
theorem dX5_two_90 : decode cX5_two 90 = .ok (.iload 6, 2) := by decide +kernel
theorem dX5_two_92 : decode cX5_two 92 = .ok (.iconst 1, 1) := by decide +kernel
theorem dX5_two_93 : decode cX5_two 93 = .ok (.if_icmp .gt 48, 3) := by decide +kernel
theorem dX5_two_96 : decode cX5_two 96 = .ok (.aload_n 0, 1) := by decide +kernel
theorem dX5_two_97 : decode cX5_two 97 = .ok (.iload_n 1, 1) := by decide +kernel
theorem dX5_two_98 : decode cX5_two 98 = .ok (.iload_n 3, 1) := by decide +kernel
theorem dX5_two_99 : decode cX5_two 99 = .ok (.iload 4, 2) := by decide +kernel
theorem dX5_two_101 : decode cX5_two 101 = .ok (.iload 5, 2) := by decide +kernel
theorem dX5_two_103 : decode cX5_two 103 = .ok (.iload 6, 2) := by decide +kernel
theorem dX5_two_105 : decode cX5_two 105 = .ok (.invokevirtual 241, 3) := by decide +kernel
theorem dX5_two_108 : decode cX5_two 108 = .ok (.ifCond .eq 27, 3) := by decide +kernel
theorem dX5_two_111 : decode cX5_two 111 = .ok (.aload_n 0, 1) := by decide +kernel
theorem dX5_two_112 : decode cX5_two 112 = .ok (.iload_n 2, 1) := by decide +kernel
theorem dX5_two_113 : decode cX5_two 113 = .ok (.iload 4, 2) := by decide +kernel
theorem dX5_two_115 : decode cX5_two 115 = .ok (.iload_n 3, 1) := by decide +kernel
theorem dX5_two_116 : decode cX5_two 116 = .ok (.iload 6, 2) := by decide +kernel
theorem dX5_two_118 : decode cX5_two 118 = .ok (.iload 5, 2) := by decide +kernel
theorem dX5_two_120 : decode cX5_two 120 = .ok (.invokevirtual 241, 3) := by decide +kernel
theorem dX5_two_123 : decode cX5_two 123 = .ok (.ifCond .eq 12, 3) := by decide +kernel
theorem dX5_two_126 : decode cX5_two 126 = .ok (.bipush 10, 2) := by decide +kernel
theorem dX5_two_128 : decode cX5_two 128 = .ok (.iload 5, 2) := by decide +kernel
theorem dX5_two_130 : decode cX5_two 130 = .ok (.imul, 1) := by decide +kernel
theorem dX5_two_131 : decode cX5_two 131 = .ok (.iload 6, 2) := by decide +kernel
theorem dX5_two_133 : decode cX5_two 133 = .ok (.iadd, 1) := by decide +kernel
theorem dX5_two_134 : decode cX5_two 134 = .ok (.ireturn, 1) := by decide +kernel
theorem dX5_two_135 : decode cX5_two 135 = .ok (.iinc 6 1, 3) := by decide +kernel
theorem dX5_two_138 : decode cX5_two 138 = .ok (.goto (-48), 3) := by decide +kernel
theorem dX5_two_141 : decode cX5_two 141 = .ok (.iinc 5 1, 3) := by decide +kernel
theorem dX5_two_144 : decode cX5_two 144 = .ok (.goto (-63), 3) := by decide +kernel
theorem dX5_two_147 : decode cX5_two 147 = .ok (.bipush (-4), 2) := by decide +kernel
theorem dX5_two_149 : decode cX5_two 149 = .ok (.ireturn, 1) := by decide +kernel
set_option maxRecDepth 20000 in
theorem ggX5_market_X4_isPerson : GoodIn wsX5_market wsX4_isPerson := goodIn_r _ [8, 9, 47, 48, 49, 50, 51, 52, 53, 54, 55, 56, 57, 58, 59] (by decide +kernel) (by decide +kernel)
set_option maxRecDepth 20000 in
theorem gX5_market_X4_isPerson : GoodIn wsX5_market (wsV RX5 99 RX4 yX4_isPerson wsX4_isPerson) := goodIn_app (goodIn_of _ (by decide +kernel)) ggX5_market_X4_isPerson
set_option maxRecDepth 20000 in
theorem ggX5_market_X4_isGoods : GoodIn wsX5_market wsX4_isGoods := goodIn_r _ [13, 14, 47, 48, 49, 50, 51, 52, 53, 54, 55, 56, 57, 58, 59] (by decide +kernel) (by decide +kernel)
set_option maxRecDepth 20000 in
theorem gX5_market_X4_isGoods : GoodIn wsX5_market (wsV RX5 84 RX4 yX4_isGoods wsX4_isGoods) := goodIn_app (goodIn_of _ (by decide +kernel)) ggX5_market_X4_isGoods
set_option maxRecDepth 20000 in
theorem ggX5_market_X4_takenFor : GoodIn wsX5_market wsX4_takenFor := goodIn_r _ [18, 19, 20, 21, 22, 14, 23, 24, 25, 26, 47, 48, 49, 50, 51, 52, 53, 54, 55, 56, 57, 58, 59] (by decide +kernel) (by decide +kernel)
set_option maxRecDepth 20000 in
theorem gX5_market_X4_takenFor : GoodIn wsX5_market (wsV RX5 172 RX4 yX4_takenFor wsX4_takenFor) := goodIn_app (goodIn_of _ (by decide +kernel)) ggX5_market_X4_takenFor
set_option maxRecDepth 20000 in
theorem ggX5_market_X4_goodsHad : GoodIn wsX5_market wsX4_goodsHad := goodIn_r _ [30, 14, 31, 47, 48, 49, 50, 51, 52, 53, 54, 55, 56, 57, 58, 59] (by decide +kernel) (by decide +kernel)
set_option maxRecDepth 20000 in
theorem gX5_market_X4_goodsHad : GoodIn wsX5_market (wsV RX5 105 RX4 yX4_goodsHad wsX4_goodsHad) := goodIn_app (goodIn_of _ (by decide +kernel)) ggX5_market_X4_goodsHad
set_option maxRecDepth 20000 in
theorem ggX5_market_X5_partOf : GoodIn wsX5_market wsX5_partOf := goodIn_r _ [34, 35, 36, 25, 37] (by decide +kernel) (by decide +kernel)
set_option maxRecDepth 20000 in
theorem gX5_market_X5_partOf : GoodIn wsX5_market (va_wsS RX5 247 yX5_partOf wsX5_partOf) := goodIn_app (goodIn_of _ (by decide +kernel)) ggX5_market_X5_partOf
theorem dX5_market_0 : decode cX5_market 0 = .ok (.aload_n 0, 1) := by decide +kernel
theorem dX5_market_1 : decode cX5_market 1 = .ok (.getfield 10, 3) := by decide +kernel
theorem dX5_market_4 : decode cX5_market 4 = .ok (.iload_n 1, 1) := by decide +kernel
theorem dX5_market_5 : decode cX5_market 5 = .ok (.invokevirtual 99, 3) := by decide +kernel
theorem dX5_market_8 : decode cX5_market 8 = .ok (.ifCond .eq 36, 3) := by decide +kernel
theorem dX5_market_11 : decode cX5_market 11 = .ok (.aload_n 0, 1) := by decide +kernel
theorem dX5_market_12 : decode cX5_market 12 = .ok (.getfield 10, 3) := by decide +kernel
theorem dX5_market_15 : decode cX5_market 15 = .ok (.iload_n 2, 1) := by decide +kernel
theorem dX5_market_16 : decode cX5_market 16 = .ok (.invokevirtual 84, 3) := by decide +kernel
theorem dX5_market_19 : decode cX5_market 19 = .ok (.ifCond .eq 25, 3) := by decide +kernel
theorem dX5_market_22 : decode cX5_market 22 = .ok (.iload_n 3, 1) := by decide +kernel
theorem dX5_market_23 : decode cX5_market 23 = .ok (.iconst 2, 1) := by decide +kernel
theorem dX5_market_24 : decode cX5_market 24 = .ok (.if_icmp .lt 20, 3) := by decide +kernel
theorem dX5_market_27 : decode cX5_market 27 = .ok (.iload_n 3, 1) := by decide +kernel
theorem dX5_market_28 : decode cX5_market 28 = .ok (.bipush 20, 2) := by decide +kernel
theorem dX5_market_30 : decode cX5_market 30 = .ok (.if_icmp .gt 14, 3) := by decide +kernel
theorem dX5_market_33 : decode cX5_market 33 = .ok (.iload 4, 2) := by decide +kernel
theorem dX5_market_35 : decode cX5_market 35 = .ok (.ifCond .lt 9, 3) := by decide +kernel
theorem dX5_market_38 : decode cX5_market 38 = .ok (.iload 4, 2) := by decide +kernel
theorem dX5_market_40 : decode cX5_market 40 = .ok (.iconst 1, 1) := by decide +kernel
theorem dX5_market_41 : decode cX5_market 41 = .ok (.if_icmp .le 7, 3) := by decide +kernel
theorem dX5_market_44 : decode cX5_market 44 = .ok (.ldc2_w 245, 3) := by decide +kernel
theorem dX5_market_47 : decode cX5_market 47 = .ok (.lreturn, 1) := by decide +kernel
theorem dX5_market_48 : decode cX5_market 48 = .ok (.aload_n 0, 1) := by decide +kernel
theorem dX5_market_49 : decode cX5_market 49 = .ok (.getfield 10, 3) := by decide +kernel
theorem dX5_market_52 : decode cX5_market 52 = .ok (.iload_n 1, 1) := by decide +kernel
theorem dX5_market_53 : decode cX5_market 53 = .ok (.iload_n 2, 1) := by decide +kernel
theorem dX5_market_54 : decode cX5_market 54 = .ok (.invokevirtual 172, 3) := by decide +kernel
theorem dX5_market_57 : decode cX5_market 57 = .ok (.istore 5, 2) := by decide +kernel
theorem dX5_market_59 : decode cX5_market 59 = .ok (.lconst 1, 1) := by decide +kernel
theorem dX5_market_60 : decode cX5_market 60 = .ok (.lstore 6, 2) := by decide +kernel
theorem dX5_market_62 : decode cX5_market 62 = .ok (.lconst 1, 1) := by decide +kernel
theorem dX5_market_63 : decode cX5_market 63 = .ok (.lstore 8, 2) := by decide +kernel
theorem dX5_market_65 : decode cX5_market 65 = .ok (.iconst 0, 1) := by decide +kernel
theorem dX5_market_66 : decode cX5_market 66 = .ok (.istore 10, 2) := by decide +kernel
theorem dX5_market_68 : decode cX5_market 68 = .ok (.iload 10, 2) := by decide +kernel
theorem dX5_market_70 : decode cX5_market 70 = .ok (.aload_n 0, 1) := by decide +kernel
theorem dX5_market_71 : decode cX5_market 71 = .ok (.getfield 10, 3) := by decide +kernel
theorem dX5_market_74 : decode cX5_market 74 = .ok (.getfield 185, 3) := by decide +kernel
theorem dX5_market_77 : decode cX5_market 77 = .ok (.if_icmp .ge 46, 3) := by decide +kernel
theorem dX5_market_80 : decode cX5_market 80 = .ok (.iload 10, 2) := by decide +kernel
theorem dX5_market_82 : decode cX5_market 82 = .ok (.iload_n 1, 1) := by decide +kernel
theorem dX5_market_83 : decode cX5_market 83 = .ok (.if_icmp .eq 34, 3) := by decide +kernel
theorem dX5_market_86 : decode cX5_market 86 = .ok (.aload_n 0, 1) := by decide +kernel
theorem dX5_market_87 : decode cX5_market 87 = .ok (.getfield 10, 3) := by decide +kernel
theorem dX5_market_90 : decode cX5_market 90 = .ok (.iload 10, 2) := by decide +kernel
theorem dX5_market_92 : decode cX5_market 92 = .ok (.invokevirtual 105, 3) := by decide +kernel
theorem dX5_market_95 : decode cX5_market 95 = .ok (.iload 5, 2) := by decide +kernel
theorem dX5_market_97 : decode cX5_market 97 = .ok (.iand, 1) := by decide +kernel
theorem dX5_market_98 : decode cX5_market 98 = .ok (.ifCond .eq 19, 3) := by decide +kernel
theorem dX5_market_101 : decode cX5_market 101 = .ok (.lload 6, 2) := by decide +kernel
theorem dX5_market_103 : decode cX5_market 103 = .ok (.iload_n 3, 1) := by decide +kernel
theorem dX5_market_104 : decode cX5_market 104 = .ok (.i2l, 1) := by decide +kernel
theorem dX5_market_105 : decode cX5_market 105 = .ok (.lmul, 1) := by decide +kernel
theorem dX5_market_106 : decode cX5_market 106 = .ok (.lstore 6, 2) := by decide +kernel
theorem dX5_market_108 : decode cX5_market 108 = .ok (.lload 8, 2) := by decide +kernel
theorem dX5_market_110 : decode cX5_market 110 = .ok (.iload_n 3, 1) := by decide +kernel
theorem dX5_market_111 : decode cX5_market 111 = .ok (.iconst 1, 1) := by decide +kernel
theorem dX5_market_112 : decode cX5_market 112 = .ok (.isub, 1) := by decide +kernel
theorem dX5_market_113 : decode cX5_market 113 = .ok (.i2l, 1) := by decide +kernel
theorem dX5_market_114 : decode cX5_market 114 = .ok (.lmul, 1) := by decide +kernel
theorem dX5_market_115 : decode cX5_market 115 = .ok (.lstore 8, 2) := by decide +kernel
theorem dX5_market_117 : decode cX5_market 117 = .ok (.iinc 10 1, 3) := by decide +kernel
theorem dX5_market_120 : decode cX5_market 120 = .ok (.goto (-52), 3) := by decide +kernel
theorem dX5_market_123 : decode cX5_market 123 = .ok (.lload 6, 2) := by decide +kernel
theorem dX5_market_125 : decode cX5_market 125 = .ok (.lload 8, 2) := by decide +kernel
theorem dX5_market_127 : decode cX5_market 127 = .ok (.lsub, 1) := by decide +kernel
theorem dX5_market_128 : decode cX5_market 128 = .ok (.lload 6, 2) := by decide +kernel
theorem dX5_market_130 : decode cX5_market 130 = .ok (.iload 4, 2) := by decide +kernel
theorem dX5_market_132 : decode cX5_market 132 = .ok (.invokestatic 247, 3) := by decide +kernel
theorem dX5_market_135 : decode cX5_market 135 = .ok (.lreturn, 1) := by decide +kernel
set_option maxRecDepth 20000 in
theorem ggX5_mean_X4_isPerson : GoodIn wsX5_mean wsX4_isPerson := goodIn_r _ [8, 9, 36, 37, 38, 39, 40, 41, 42, 43, 44, 45, 46, 47, 48] (by decide +kernel) (by decide +kernel)
set_option maxRecDepth 20000 in
theorem gX5_mean_X4_isPerson : GoodIn wsX5_mean (wsV RX5 99 RX4 yX4_isPerson wsX4_isPerson) := goodIn_app (goodIn_of _ (by decide +kernel)) ggX5_mean_X4_isPerson
set_option maxRecDepth 20000 in
theorem ggX5_mean_X4_worthTo : GoodIn wsX5_mean wsX4_worthTo := goodIn_r _ [13, 14, 15, 16, 17, 18, 19, 20, 36, 37, 38, 39, 40, 41, 42, 43, 44, 45, 46, 47, 48] (by decide +kernel) (by decide +kernel)
set_option maxRecDepth 20000 in
theorem gX5_mean_X4_worthTo : GoodIn wsX5_mean (wsV RX5 165 RX4 yX4_worthTo wsX4_worthTo) := goodIn_app (goodIn_of _ (by decide +kernel)) ggX5_mean_X4_worthTo
set_option maxRecDepth 20000 in
theorem ggX5_mean_X5_partOf : GoodIn wsX5_mean wsX5_partOf := goodIn_r _ [23, 24, 25, 19, 26] (by decide +kernel) (by decide +kernel)
set_option maxRecDepth 20000 in
theorem gX5_mean_X5_partOf : GoodIn wsX5_mean (va_wsS RX5 247 yX5_partOf wsX5_partOf) := goodIn_app (goodIn_of _ (by decide +kernel)) ggX5_mean_X5_partOf
theorem dX5_mean_0 : decode cX5_mean 0 = .ok (.aload_n 0, 1) := by decide +kernel
theorem dX5_mean_1 : decode cX5_mean 1 = .ok (.getfield 10, 3) := by decide +kernel
theorem dX5_mean_4 : decode cX5_mean 4 = .ok (.iload_n 1, 1) := by decide +kernel
theorem dX5_mean_5 : decode cX5_mean 5 = .ok (.invokevirtual 99, 3) := by decide +kernel
theorem dX5_mean_8 : decode cX5_mean 8 = .ok (.ifCond .eq 12, 3) := by decide +kernel
theorem dX5_mean_11 : decode cX5_mean 11 = .ok (.iload_n 2, 1) := by decide +kernel
theorem dX5_mean_12 : decode cX5_mean 12 = .ok (.ifCond .lt 8, 3) := by decide +kernel
theorem dX5_mean_15 : decode cX5_mean 15 = .ok (.iload_n 2, 1) := by decide +kernel
theorem dX5_mean_16 : decode cX5_mean 16 = .ok (.iconst 1, 1) := by decide +kernel
theorem dX5_mean_17 : decode cX5_mean 17 = .ok (.if_icmp .le 7, 3) := by decide +kernel
theorem dX5_mean_20 : decode cX5_mean 20 = .ok (.ldc2_w 245, 3) := by decide +kernel
theorem dX5_mean_23 : decode cX5_mean 23 = .ok (.lreturn, 1) := by decide +kernel
theorem dX5_mean_24 : decode cX5_mean 24 = .ok (.lconst 0, 1) := by decide +kernel
theorem dX5_mean_25 : decode cX5_mean 25 = .ok (.lstore_n 3, 1) := by decide +kernel
theorem dX5_mean_26 : decode cX5_mean 26 = .ok (.iconst 0, 1) := by decide +kernel
theorem dX5_mean_27 : decode cX5_mean 27 = .ok (.istore 5, 2) := by decide +kernel
theorem dX5_mean_29 : decode cX5_mean 29 = .ok (.iload 5, 2) := by decide +kernel
theorem dX5_mean_31 : decode cX5_mean 31 = .ok (.aload_n 0, 1) := by decide +kernel
theorem dX5_mean_32 : decode cX5_mean 32 = .ok (.getfield 10, 3) := by decide +kernel
theorem dX5_mean_35 : decode cX5_mean 35 = .ok (.getfield 230, 3) := by decide +kernel
theorem dX5_mean_38 : decode cX5_mean 38 = .ok (.if_icmp .ge 23, 3) := by decide +kernel
theorem dX5_mean_41 : decode cX5_mean 41 = .ok (.lload_n 3, 1) := by decide +kernel
theorem dX5_mean_42 : decode cX5_mean 42 = .ok (.aload_n 0, 1) := by decide +kernel
theorem dX5_mean_43 : decode cX5_mean 43 = .ok (.getfield 10, 3) := by decide +kernel
theorem dX5_mean_46 : decode cX5_mean 46 = .ok (.iload_n 1, 1) := by decide +kernel
theorem dX5_mean_47 : decode cX5_mean 47 = .ok (.iload 5, 2) := by decide +kernel
theorem dX5_mean_49 : decode cX5_mean 49 = .ok (.invokevirtual 165, 3) := by decide +kernel
theorem dX5_mean_52 : decode cX5_mean 52 = .ok (.i2l, 1) := by decide +kernel
theorem dX5_mean_53 : decode cX5_mean 53 = .ok (.ladd, 1) := by decide +kernel
theorem dX5_mean_54 : decode cX5_mean 54 = .ok (.lstore_n 3, 1) := by decide +kernel
theorem dX5_mean_55 : decode cX5_mean 55 = .ok (.iinc 5 1, 3) := by decide +kernel
theorem dX5_mean_58 : decode cX5_mean 58 = .ok (.goto (-29), 3) := by decide +kernel
theorem dX5_mean_61 : decode cX5_mean 61 = .ok (.lload_n 3, 1) := by decide +kernel
theorem dX5_mean_62 : decode cX5_mean 62 = .ok (.aload_n 0, 1) := by decide +kernel
theorem dX5_mean_63 : decode cX5_mean 63 = .ok (.getfield 10, 3) := by decide +kernel
theorem dX5_mean_66 : decode cX5_mean 66 = .ok (.getfield 230, 3) := by decide +kernel
theorem dX5_mean_69 : decode cX5_mean 69 = .ok (.ifCond .le 14, 3) := by decide +kernel
theorem dX5_mean_72 : decode cX5_mean 72 = .ok (.aload_n 0, 1) := by decide +kernel
theorem dX5_mean_73 : decode cX5_mean 73 = .ok (.getfield 10, 3) := by decide +kernel
theorem dX5_mean_76 : decode cX5_mean 76 = .ok (.getfield 230, 3) := by decide +kernel
theorem dX5_mean_79 : decode cX5_mean 79 = .ok (.i2l, 1) := by decide +kernel
theorem dX5_mean_80 : decode cX5_mean 80 = .ok (.goto 4, 3) := by decide +kernel
theorem dX5_mean_83 : decode cX5_mean 83 = .ok (.lconst 1, 1) := by decide +kernel
theorem dX5_mean_84 : decode cX5_mean 84 = .ok (.iload_n 2, 1) := by decide +kernel
theorem dX5_mean_85 : decode cX5_mean 85 = .ok (.invokestatic 247, 3) := by decide +kernel
theorem dX5_mean_88 : decode cX5_mean 88 = .ok (.lreturn, 1) := by decide +kernel
set_option maxRecDepth 20000 in
theorem ggX5_forged_X5_isShelf : GoodIn wsX5_forged wsX5_isShelf := goodIn_r _ [8] (by decide +kernel) (by decide +kernel)
set_option maxRecDepth 20000 in
theorem gX5_forged_X5_isShelf : GoodIn wsX5_forged (va_wsS RX5 50 yX5_isShelf wsX5_isShelf) := goodIn_app (goodIn_of _ (by decide +kernel)) ggX5_forged_X5_isShelf
set_option maxRecDepth 20000 in
theorem ggX5_forged_X4_isPerson : GoodIn wsX5_forged wsX4_isPerson := goodIn_r _ [13, 14, 58, 59, 60, 61, 62, 63, 64, 65, 66, 67, 68, 69, 70] (by decide +kernel) (by decide +kernel)
set_option maxRecDepth 20000 in
theorem gX5_forged_X4_isPerson : GoodIn wsX5_forged (wsV RX5 99 RX4 yX4_isPerson wsX4_isPerson) := goodIn_app (goodIn_of _ (by decide +kernel)) ggX5_forged_X4_isPerson
set_option maxRecDepth 20000 in
theorem ggX5_forged_X1_refusal : GoodIn wsX5_forged wsX1_refusal := goodIn_r _ [19, 20, 52, 53, 54, 55, 56, 57] (by decide +kernel) (by decide +kernel)
set_option maxRecDepth 20000 in
theorem gX5_forged_X1_refusal : GoodIn wsX5_forged (wsV RX5 54 RX1 yX1_refusal wsX1_refusal) := goodIn_app (goodIn_of _ (by decide +kernel)) ggX5_forged_X1_refusal
set_option maxRecDepth 20000 in
theorem ggX5_forged_X4_isGoods : GoodIn wsX5_forged wsX4_isGoods := goodIn_r _ [24, 25, 58, 59, 60, 61, 62, 63, 64, 65, 66, 67, 68, 69, 70] (by decide +kernel) (by decide +kernel)
set_option maxRecDepth 20000 in
theorem gX5_forged_X4_isGoods : GoodIn wsX5_forged (wsV RX5 84 RX4 yX4_isGoods wsX4_isGoods) := goodIn_app (goodIn_of _ (by decide +kernel)) ggX5_forged_X4_isGoods
set_option maxRecDepth 20000 in
theorem ggX5_forged_X4_isTaken : GoodIn wsX5_forged wsX4_isTaken := goodIn_r _ [29, 30, 31, 32, 12, 33, 34, 35, 36, 37, 25, 38, 39, 7, 40, 41, 42, 58, 59, 60, 61, 62, 63, 64, 65, 66, 67, 68, 69, 70] (by decide +kernel) (by decide +kernel)
set_option maxRecDepth 20000 in
theorem gX5_forged_X4_isTaken : GoodIn wsX5_forged (wsV RX5 168 RX4 yX4_isTaken wsX4_isTaken) := goodIn_app (goodIn_of _ (by decide +kernel)) ggX5_forged_X4_isTaken
theorem dX5_forged_0 : decode cX5_forged 0 = .ok (.iload_n 1, 1) := by decide +kernel
theorem dX5_forged_1 : decode cX5_forged 1 = .ok (.invokestatic 50, 3) := by decide +kernel
theorem dX5_forged_4 : decode cX5_forged 4 = .ok (.ifCond .eq 14, 3) := by decide +kernel
theorem dX5_forged_7 : decode cX5_forged 7 = .ok (.aload_n 0, 1) := by decide +kernel
theorem dX5_forged_8 : decode cX5_forged 8 = .ok (.getfield 10, 3) := by decide +kernel
theorem dX5_forged_11 : decode cX5_forged 11 = .ok (.iload_n 2, 1) := by decide +kernel
theorem dX5_forged_12 : decode cX5_forged 12 = .ok (.invokevirtual 99, 3) := by decide +kernel
theorem dX5_forged_15 : decode cX5_forged 15 = .ok (.ifCond .ne 5, 3) := by decide +kernel
theorem dX5_forged_18 : decode cX5_forged 18 = .ok (.iconst (-1), 1) := by decide +kernel
theorem dX5_forged_19 : decode cX5_forged 19 = .ok (.ireturn, 1) := by decide +kernel
theorem dX5_forged_20 : decode cX5_forged 20 = .ok (.aload_n 0, 1) := by decide +kernel
theorem dX5_forged_21 : decode cX5_forged 21 = .ok (.getfield 24, 3) := by decide +kernel
theorem dX5_forged_24 : decode cX5_forged 24 = .ok (.iload_n 1, 1) := by decide +kernel
theorem dX5_forged_25 : decode cX5_forged 25 = .ok (.aaload, 1) := by decide +kernel
theorem dX5_forged_26 : decode cX5_forged 26 = .ok (.iconst 2, 1) := by decide +kernel
theorem dX5_forged_27 : decode cX5_forged 27 = .ok (.invokevirtual 54, 3) := by decide +kernel
theorem dX5_forged_30 : decode cX5_forged 30 = .ok (.istore_n 3, 1) := by decide +kernel
theorem dX5_forged_31 : decode cX5_forged 31 = .ok (.iload_n 3, 1) := by decide +kernel
theorem dX5_forged_32 : decode cX5_forged 32 = .ok (.ifCond .eq 5, 3) := by decide +kernel
theorem dX5_forged_35 : decode cX5_forged 35 = .ok (.iload_n 3, 1) := by decide +kernel
theorem dX5_forged_36 : decode cX5_forged 36 = .ok (.ireturn, 1) := by decide +kernel
theorem dX5_forged_37 : decode cX5_forged 37 = .ok (.aload_n 0, 1) := by decide +kernel
theorem dX5_forged_38 : decode cX5_forged 38 = .ok (.getfield 24, 3) := by decide +kernel
theorem dX5_forged_41 : decode cX5_forged 41 = .ok (.iload_n 1, 1) := by decide +kernel
theorem dX5_forged_42 : decode cX5_forged 42 = .ok (.aaload, 1) := by decide +kernel
theorem dX5_forged_43 : decode cX5_forged 43 = .ok (.astore 4, 2) := by decide +kernel
theorem dX5_forged_45 : decode cX5_forged 45 = .ok (.iconst 0, 1) := by decide +kernel
theorem dX5_forged_46 : decode cX5_forged 46 = .ok (.istore 5, 2) := by decide +kernel
theorem dX5_forged_48 : decode cX5_forged 48 = .ok (.iload 5, 2) := by decide +kernel
theorem dX5_forged_50 : decode cX5_forged 50 = .ok (.aload 4, 2) := by decide +kernel
theorem dX5_forged_52 : decode cX5_forged 52 = .ok (.getfield 70, 3) := by decide +kernel
theorem dX5_forged_55 : decode cX5_forged 55 = .ok (.if_icmp .ge 67, 3) := by decide +kernel
theorem dX5_forged_58 : decode cX5_forged 58 = .ok (.aload_n 0, 1) := by decide +kernel
theorem dX5_forged_59 : decode cX5_forged 59 = .ok (.getfield 10, 3) := by decide +kernel
theorem dX5_forged_62 : decode cX5_forged 62 = .ok (.aload 4, 2) := by decide +kernel
theorem dX5_forged_64 : decode cX5_forged 64 = .ok (.getfield 77, 3) := by decide +kernel
theorem dX5_forged_67 : decode cX5_forged 67 = .ok (.iload 5, 2) := by decide +kernel
theorem dX5_forged_69 : decode cX5_forged 69 = .ok (.iaload, 1) := by decide +kernel
theorem dX5_forged_70 : decode cX5_forged 70 = .ok (.invokevirtual 84, 3) := by decide +kernel
theorem dX5_forged_73 : decode cX5_forged 73 = .ok (.ifCond .ne 6, 3) := by decide +kernel
theorem dX5_forged_76 : decode cX5_forged 76 = .ok (.iload 5, 2) := by decide +kernel
theorem dX5_forged_78 : decode cX5_forged 78 = .ok (.ireturn, 1) := by decide +kernel
theorem dX5_forged_79 : decode cX5_forged 79 = .ok (.iload 5, 2) := by decide +kernel
theorem dX5_forged_81 : decode cX5_forged 81 = .ok (.ifCond .le 35, 3) := by decide +kernel
theorem dX5_forged_84 : decode cX5_forged 84 = .ok (.aload_n 0, 1) := by decide +kernel
theorem dX5_forged_85 : decode cX5_forged 85 = .ok (.getfield 10, 3) := by decide +kernel
theorem dX5_forged_88 : decode cX5_forged 88 = .ok (.iload_n 2, 1) := by decide +kernel
theorem dX5_forged_89 : decode cX5_forged 89 = .ok (.aload 4, 2) := by decide +kernel
theorem dX5_forged_91 : decode cX5_forged 91 = .ok (.getfield 77, 3) := by decide +kernel
theorem dX5_forged_94 : decode cX5_forged 94 = .ok (.iload 5, 2) := by decide +kernel
theorem dX5_forged_96 : decode cX5_forged 96 = .ok (.iconst 1, 1) := by decide +kernel
theorem dX5_forged_97 : decode cX5_forged 97 = .ok (.isub, 1) := by decide +kernel
theorem dX5_forged_98 : decode cX5_forged 98 = .ok (.iaload, 1) := by decide +kernel
theorem dX5_forged_99 : decode cX5_forged 99 = .ok (.aload 4, 2) := by decide +kernel
theorem dX5_forged_101 : decode cX5_forged 101 = .ok (.getfield 77, 3) := by decide +kernel
theorem dX5_forged_104 : decode cX5_forged 104 = .ok (.iload 5, 2) := by decide +kernel
theorem dX5_forged_106 : decode cX5_forged 106 = .ok (.iaload, 1) := by decide +kernel
theorem dX5_forged_107 : decode cX5_forged 107 = .ok (.invokevirtual 168, 3) := by decide +kernel
theorem dX5_forged_110 : decode cX5_forged 110 = .ok (.ifCond .ne 6, 3) := by decide +kernel
theorem dX5_forged_113 : decode cX5_forged 113 = .ok (.iload 5, 2) := by decide +kernel
theorem dX5_forged_115 : decode cX5_forged 115 = .ok (.ireturn, 1) := by decide +kernel
theorem dX5_forged_116 : decode cX5_forged 116 = .ok (.iinc 5 1, 3) := by decide +kernel
theorem dX5_forged_119 : decode cX5_forged 119 = .ok (.goto (-71), 3) := by decide +kernel
theorem dX5_forged_122 : decode cX5_forged 122 = .ok (.bipush (-4), 2) := by decide +kernel
theorem dX5_forged_124 : decode cX5_forged 124 = .ok (.ireturn, 1) := by decide +kernel
set_option maxRecDepth 20000 in
theorem ggX5_judge_X5_isShelf : GoodIn wsX5_judge wsX5_isShelf := goodIn_r _ [10] (by decide +kernel) (by decide +kernel)
set_option maxRecDepth 20000 in
theorem gX5_judge_X5_isShelf : GoodIn wsX5_judge (va_wsS RX5 50 yX5_isShelf wsX5_isShelf) := goodIn_app (goodIn_of _ (by decide +kernel)) ggX5_judge_X5_isShelf
set_option maxRecDepth 20000 in
theorem ggX5_judge_X1_refusal : GoodIn wsX5_judge wsX1_refusal := goodIn_r _ [15, 16, 94, 95, 96, 97, 98, 99] (by decide +kernel) (by decide +kernel)
set_option maxRecDepth 20000 in
theorem gX5_judge_X1_refusal : GoodIn wsX5_judge (wsV RX5 54 RX1 yX1_refusal wsX1_refusal) := goodIn_app (goodIn_of _ (by decide +kernel)) ggX5_judge_X1_refusal
set_option maxRecDepth 20000 in
theorem ggX5_judge_X4_become : GoodIn wsX5_judge wsX4_become := goodIn_r _ [21, 22, 23, 24, 25, 26, 27, 28, 29, 30, 31, 32, 33, 34, 35, 36, 37, 38, 100, 101, 102, 103, 104, 105, 106, 107, 108, 109, 110, 111, 112] (by decide +kernel) (by decide +kernel)
set_option maxRecDepth 20000 in
theorem gX5_judge_X4_become : GoodIn wsX5_judge (wsV RX5 66 RX4 yX4_become wsX4_become) := goodIn_app (goodIn_of _ (by decide +kernel)) ggX5_judge_X4_become
set_option maxRecDepth 20000 in
theorem ggX5_judge_X1_isSkipped : GoodIn wsX5_judge wsX1_isSkipped := goodIn_r _ [42, 43, 44, 45, 94, 95, 96, 97, 98, 99] (by decide +kernel) (by decide +kernel)
set_option maxRecDepth 20000 in
theorem gX5_judge_X1_isSkipped : GoodIn wsX5_judge (wsV RX5 251 RX1 yX1_isSkipped wsX1_isSkipped) := goodIn_app (goodIn_of _ (by decide +kernel)) ggX5_judge_X1_isSkipped
set_option maxRecDepth 20000 in
theorem ggX5_judge_J6_bitCount_0f7a4 : GoodIn wsX5_judge wsJ6_bitCount_0f7a4 := goodIn_r _ [49, 50, 51, 52] (by decide +kernel) (by decide +kernel)
set_option maxRecDepth 20000 in
theorem gX5_judge_J6_bitCount_0f7a4 : GoodIn wsX5_judge (va_wsS RX5 154 yJ6_bitCount_0f7a4 wsJ6_bitCount_0f7a4) := goodIn_app (goodIn_of _ (by decide +kernel)) ggX5_judge_J6_bitCount_0f7a4
set_option maxRecDepth 20000 in
theorem ggX5_judge_X4_passWeek : GoodIn wsX5_judge wsX4_passWeek := goodIn_r _ [56, 38, 35, 33, 57, 58, 59, 20, 60, 36, 32, 34, 61, 9, 62, 63, 64, 65, 66, 29, 28, 67, 68, 69, 70, 30, 22, 27, 37, 71, 72, 73, 74, 75, 76, 77, 78, 79, 80, 81, 82, 83, 84, 100, 101, 102, 103, 104, 105, 106, 107, 108, 109, 110, 111, 112] (by decide +kernel) (by decide +kernel)
set_option maxRecDepth 20000 in
theorem gX5_judge_X4_passWeek : GoodIn wsX5_judge (wsV RX5 182 RX4 yX4_passWeek wsX4_passWeek) := goodIn_app (goodIn_of _ (by decide +kernel)) ggX5_judge_X4_passWeek
theorem dX5_judge_0 : decode cX5_judge 0 = .ok (.iload_n 1, 1) := by decide +kernel
theorem dX5_judge_1 : decode cX5_judge 1 = .ok (.invokestatic 50, 3) := by decide +kernel
theorem dX5_judge_4 : decode cX5_judge 4 = .ok (.ifCond .ne 5, 3) := by decide +kernel
theorem dX5_judge_7 : decode cX5_judge 7 = .ok (.iconst (-1), 1) := by decide +kernel
theorem dX5_judge_8 : decode cX5_judge 8 = .ok (.ireturn, 1) := by decide +kernel
theorem dX5_judge_9 : decode cX5_judge 9 = .ok (.aload_n 0, 1) := by decide +kernel
theorem dX5_judge_10 : decode cX5_judge 10 = .ok (.getfield 24, 3) := by decide +kernel
theorem dX5_judge_13 : decode cX5_judge 13 = .ok (.iload_n 1, 1) := by decide +kernel
theorem dX5_judge_14 : decode cX5_judge 14 = .ok (.aaload, 1) := by decide +kernel
theorem dX5_judge_15 : decode cX5_judge 15 = .ok (.iconst 2, 1) := by decide +kernel
theorem dX5_judge_16 : decode cX5_judge 16 = .ok (.invokevirtual 54, 3) := by decide +kernel
theorem dX5_judge_19 : decode cX5_judge 19 = .ok (.istore_n 2, 1) := by decide +kernel
theorem dX5_judge_20 : decode cX5_judge 20 = .ok (.iload_n 2, 1) := by decide +kernel
theorem dX5_judge_21 : decode cX5_judge 21 = .ok (.ifCond .eq 5, 3) := by decide +kernel
theorem dX5_judge_24 : decode cX5_judge 24 = .ok (.iload_n 2, 1) := by decide +kernel
theorem dX5_judge_25 : decode cX5_judge 25 = .ok (.ireturn, 1) := by decide +kernel
theorem dX5_judge_26 : decode cX5_judge 26 = .ok (.aload_n 0, 1) := by decide +kernel
theorem dX5_judge_27 : decode cX5_judge 27 = .ok (.getfield 24, 3) := by decide +kernel
theorem dX5_judge_30 : decode cX5_judge 30 = .ok (.iload_n 1, 1) := by decide +kernel
theorem dX5_judge_31 : decode cX5_judge 31 = .ok (.aaload, 1) := by decide +kernel
theorem dX5_judge_32 : decode cX5_judge 32 = .ok (.astore_n 3, 1) := by decide +kernel
theorem dX5_judge_33 : decode cX5_judge 33 = .ok (.aload_n 0, 1) := by decide +kernel
theorem dX5_judge_34 : decode cX5_judge 34 = .ok (.getfield 16, 3) := by decide +kernel
theorem dX5_judge_37 : decode cX5_judge 37 = .ok (.aload_n 0, 1) := by decide +kernel
theorem dX5_judge_38 : decode cX5_judge 38 = .ok (.getfield 10, 3) := by decide +kernel
theorem dX5_judge_41 : decode cX5_judge 41 = .ok (.invokevirtual 66, 3) := by decide +kernel
theorem dX5_judge_44 : decode cX5_judge 44 = .ok (.iconst 0, 1) := by decide +kernel
theorem dX5_judge_45 : decode cX5_judge 45 = .ok (.istore 4, 2) := by decide +kernel
theorem dX5_judge_47 : decode cX5_judge 47 = .ok (.iload 4, 2) := by decide +kernel
theorem dX5_judge_49 : decode cX5_judge 49 = .ok (.aload_n 3, 1) := by decide +kernel
theorem dX5_judge_50 : decode cX5_judge 50 = .ok (.getfield 70, 3) := by decide +kernel
theorem dX5_judge_53 : decode cX5_judge 53 = .ok (.if_icmp .ge 48, 3) := by decide +kernel
theorem dX5_judge_56 : decode cX5_judge 56 = .ok (.aload_n 3, 1) := by decide +kernel
theorem dX5_judge_57 : decode cX5_judge 57 = .ok (.iload 4, 2) := by decide +kernel
theorem dX5_judge_59 : decode cX5_judge 59 = .ok (.invokevirtual 251, 3) := by decide +kernel
theorem dX5_judge_62 : decode cX5_judge 62 = .ok (.ifCond .ne 26, 3) := by decide +kernel
theorem dX5_judge_65 : decode cX5_judge 65 = .ok (.aload_n 3, 1) := by decide +kernel
theorem dX5_judge_66 : decode cX5_judge 66 = .ok (.getfield 77, 3) := by decide +kernel
theorem dX5_judge_69 : decode cX5_judge 69 = .ok (.iload 4, 2) := by decide +kernel
theorem dX5_judge_71 : decode cX5_judge 71 = .ok (.iaload, 1) := by decide +kernel
theorem dX5_judge_72 : decode cX5_judge 72 = .ok (.aload_n 0, 1) := by decide +kernel
theorem dX5_judge_73 : decode cX5_judge 73 = .ok (.getfield 16, 3) := by decide +kernel
theorem dX5_judge_76 : decode cX5_judge 76 = .ok (.getfield 123, 3) := by decide +kernel
theorem dX5_judge_79 : decode cX5_judge 79 = .ok (.invokestatic 154, 3) := by decide +kernel
theorem dX5_judge_82 : decode cX5_judge 82 = .ok (.if_icmp .eq 6, 3) := by decide +kernel
theorem dX5_judge_85 : decode cX5_judge 85 = .ok (.iload 4, 2) := by decide +kernel
theorem dX5_judge_87 : decode cX5_judge 87 = .ok (.ireturn, 1) := by decide +kernel
theorem dX5_judge_88 : decode cX5_judge 88 = .ok (.aload_n 0, 1) := by decide +kernel
theorem dX5_judge_89 : decode cX5_judge 89 = .ok (.getfield 16, 3) := by decide +kernel
theorem dX5_judge_92 : decode cX5_judge 92 = .ok (.invokevirtual 182, 3) := by decide +kernel
theorem dX5_judge_95 : decode cX5_judge 95 = .ok (.iinc 4 1, 3) := by decide +kernel
theorem dX5_judge_98 : decode cX5_judge 98 = .ok (.goto (-51), 3) := by decide +kernel
theorem dX5_judge_101 : decode cX5_judge 101 = .ok (.bipush (-4), 2) := by decide +kernel
theorem dX5_judge_103 : decode cX5_judge 103 = .ok (.ireturn, 1) := by decide +kernel
set_option maxRecDepth 20000 in
theorem ggX5_towns_X5_drawTown : GoodIn wsX5_towns wsX5_drawTown := goodIn_r _ [9, 4, 1, 10, 11, 2, 12, 13, 14, 15, 16, 17, 18, 19, 20, 21, 22, 23, 24, 25, 26, 27, 28, 29, 30, 31, 32, 33, 34, 35, 36, 37, 8, 38, 3, 39, 40, 41, 64, 65, 66, 67, 68, 69, 70, 71, 72, 73, 74, 75, 76, 77, 78, 79, 80, 81, 82, 83, 84, 85] (by decide +kernel) (by decide +kernel)
set_option maxRecDepth 20000 in
theorem gX5_towns_X5_drawTown : GoodIn wsX5_towns (wsV RX5 257 RX5 yX5_drawTown wsX5_drawTown) := goodIn_app (goodIn_of _ (by decide +kernel)) ggX5_towns_X5_drawTown
set_option maxRecDepth 20000 in
theorem ggX5_towns_X4_allQuarrels : GoodIn wsX5_towns wsX4_allQuarrels := goodIn_r _ [45, 25, 46, 47, 48, 16, 49, 27, 50, 51, 52, 53, 18, 23, 26, 34, 54, 8, 55, 73, 74, 75, 76, 77, 78, 79, 80, 81, 82, 83, 84, 85] (by decide +kernel) (by decide +kernel)
set_option maxRecDepth 20000 in
theorem gX5_towns_X4_allQuarrels : GoodIn wsX5_towns (wsV RX5 260 RX4 yX4_allQuarrels wsX4_allQuarrels) := goodIn_app (goodIn_of _ (by decide +kernel)) ggX5_towns_X4_allQuarrels
set_option maxRecDepth 20000 in
theorem ggX5_towns_X4_allWealth : GoodIn wsX5_towns wsX4_allWealth := goodIn_r _ [59, 27, 60, 61, 62, 16, 63, 25, 24, 50, 51, 52, 53, 18, 23, 26, 34, 54, 8, 55, 73, 74, 75, 76, 77, 78, 79, 80, 81, 82, 83, 84, 85] (by decide +kernel) (by decide +kernel)
set_option maxRecDepth 20000 in
theorem gX5_towns_X4_allWealth : GoodIn wsX5_towns (wsV RX5 264 RX4 yX4_allWealth wsX4_allWealth) := goodIn_app (goodIn_of _ (by decide +kernel)) ggX5_towns_X4_allWealth
theorem dX5_towns_0 : decode cX5_towns 0 = .ok (.iload_n 1, 1) := by decide +kernel
theorem dX5_towns_1 : decode cX5_towns 1 = .ok (.iconst 1, 1) := by decide +kernel
theorem dX5_towns_2 : decode cX5_towns 2 = .ok (.if_icmp .lt 18, 3) := by decide +kernel
theorem dX5_towns_5 : decode cX5_towns 5 = .ok (.iload_n 1, 1) := by decide +kernel
theorem dX5_towns_6 : decode cX5_towns 6 = .ok (.bipush 20, 2) := by decide +kernel
theorem dX5_towns_8 : decode cX5_towns 8 = .ok (.if_icmp .gt 12, 3) := by decide +kernel
theorem dX5_towns_11 : decode cX5_towns 11 = .ok (.iload_n 3, 1) := by decide +kernel
theorem dX5_towns_12 : decode cX5_towns 12 = .ok (.ifCond .lt 8, 3) := by decide +kernel
theorem dX5_towns_15 : decode cX5_towns 15 = .ok (.iload_n 3, 1) := by decide +kernel
theorem dX5_towns_16 : decode cX5_towns 16 = .ok (.iconst 1, 1) := by decide +kernel
theorem dX5_towns_17 : decode cX5_towns 17 = .ok (.if_icmp .le 5, 3) := by decide +kernel
theorem dX5_towns_20 : decode cX5_towns 20 = .ok (.iconst (-1), 1) := by decide +kernel
theorem dX5_towns_21 : decode cX5_towns 21 = .ok (.ireturn, 1) := by decide +kernel
theorem dX5_towns_22 : decode cX5_towns 22 = .ok (.aload_n 0, 1) := by decide +kernel
theorem dX5_towns_23 : decode cX5_towns 23 = .ok (.getfield 10, 3) := by decide +kernel
theorem dX5_towns_26 : decode cX5_towns 26 = .ok (.getfield 185, 3) := by decide +kernel
theorem dX5_towns_29 : decode cX5_towns 29 = .ok (.ifCond .ne 6, 3) := by decide +kernel
theorem dX5_towns_32 : decode cX5_towns 32 = .ok (.bipush (-3), 2) := by decide +kernel
theorem dX5_towns_34 : decode cX5_towns 34 = .ok (.ireturn, 1) := by decide +kernel
theorem dX5_towns_35 : decode cX5_towns 35 = .ok (.aload_n 0, 1) := by decide +kernel
theorem dX5_towns_36 : decode cX5_towns 36 = .ok (.iload_n 2, 1) := by decide +kernel
theorem dX5_towns_37 : decode cX5_towns 37 = .ok (.putfield 254, 3) := by decide +kernel
theorem dX5_towns_40 : decode cX5_towns 40 = .ok (.iconst 0, 1) := by decide +kernel
theorem dX5_towns_41 : decode cX5_towns 41 = .ok (.istore 4, 2) := by decide +kernel
theorem dX5_towns_43 : decode cX5_towns 43 = .ok (.iconst 0, 1) := by decide +kernel
theorem dX5_towns_44 : decode cX5_towns 44 = .ok (.istore 5, 2) := by decide +kernel
theorem dX5_towns_46 : decode cX5_towns 46 = .ok (.iload 5, 2) := by decide +kernel
theorem dX5_towns_48 : decode cX5_towns 48 = .ok (.iload_n 1, 1) := by decide +kernel
theorem dX5_towns_49 : decode cX5_towns 49 = .ok (.if_icmp .ge 39, 3) := by decide +kernel
theorem dX5_towns_52 : decode cX5_towns 52 = .ok (.aload_n 0, 1) := by decide +kernel
theorem dX5_towns_53 : decode cX5_towns 53 = .ok (.invokevirtual 257, 3) := by decide +kernel
theorem dX5_towns_56 : decode cX5_towns 56 = .ok (.iload 4, 2) := by decide +kernel
theorem dX5_towns_58 : decode cX5_towns 58 = .ok (.iload_n 3, 1) := by decide +kernel
theorem dX5_towns_59 : decode cX5_towns 59 = .ok (.ifCond .ne 13, 3) := by decide +kernel
theorem dX5_towns_62 : decode cX5_towns 62 = .ok (.aload_n 0, 1) := by decide +kernel
theorem dX5_towns_63 : decode cX5_towns 63 = .ok (.getfield 16, 3) := by decide +kernel
theorem dX5_towns_66 : decode cX5_towns 66 = .ok (.invokevirtual 260, 3) := by decide +kernel
theorem dX5_towns_69 : decode cX5_towns 69 = .ok (.goto 10, 3) := by decide +kernel
theorem dX5_towns_72 : decode cX5_towns 72 = .ok (.aload_n 0, 1) := by decide +kernel
theorem dX5_towns_73 : decode cX5_towns 73 = .ok (.getfield 16, 3) := by decide +kernel
theorem dX5_towns_76 : decode cX5_towns 76 = .ok (.invokevirtual 264, 3) := by decide +kernel
theorem dX5_towns_79 : decode cX5_towns 79 = .ok (.iadd, 1) := by decide +kernel
theorem dX5_towns_80 : decode cX5_towns 80 = .ok (.istore 4, 2) := by decide +kernel
theorem dX5_towns_82 : decode cX5_towns 82 = .ok (.iinc 5 1, 3) := by decide +kernel
theorem dX5_towns_85 : decode cX5_towns 85 = .ok (.goto (-39), 3) := by decide +kernel
theorem dX5_towns_88 : decode cX5_towns 88 = .ok (.iload 4, 2) := by decide +kernel
theorem dX5_towns_90 : decode cX5_towns 90 = .ok (.ireturn, 1) := by decide +kernel
set_option maxRecDepth 20000 in
theorem ggX5_image_X4_become : GoodIn wsX5_image wsX4_become := goodIn_r _ [9, 10, 11, 12, 13, 14, 15, 16, 17, 18, 19, 20, 21, 22, 23, 24, 25, 26, 36, 37, 38, 39, 40, 41, 42, 43, 44, 45, 46, 47, 48] (by decide +kernel) (by decide +kernel)
set_option maxRecDepth 20000 in
theorem gX5_image_X4_become : GoodIn wsX5_image (wsV RX5 66 RX4 yX4_become wsX4_become) := goodIn_app (goodIn_of _ (by decide +kernel)) ggX5_image_X4_become
theorem dX5_image_0 : decode cX5_image 0 = .ok (.aload_n 0, 1) := by decide +kernel
theorem dX5_image_1 : decode cX5_image 1 = .ok (.getfield 19, 3) := by decide +kernel
theorem dX5_image_4 : decode cX5_image 4 = .ok (.aload_n 0, 1) := by decide +kernel
theorem dX5_image_5 : decode cX5_image 5 = .ok (.getfield 10, 3) := by decide +kernel
theorem dX5_image_8 : decode cX5_image 8 = .ok (.invokevirtual 66, 3) := by decide +kernel
theorem dX5_image_11 : decode cX5_image 11 = .ok (.aload_n 0, 1) := by decide +kernel
theorem dX5_image_12 : decode cX5_image 12 = .ok (.iconst 1, 1) := by decide +kernel
theorem dX5_image_13 : decode cX5_image 13 = .ok (.putfield 267, 3) := by decide +kernel
theorem dX5_image_16 : decode cX5_image 16 = .ok (.aload_n 0, 1) := by decide +kernel
theorem dX5_image_17 : decode cX5_image 17 = .ok (.getfield 10, 3) := by decide +kernel
theorem dX5_image_20 : decode cX5_image 20 = .ok (.getfield 271, 3) := by decide +kernel
theorem dX5_image_23 : decode cX5_image 23 = .ok (.ireturn, 1) := by decide +kernel
set_option maxRecDepth 20000 in
theorem ggX5_restore_X4_become : GoodIn wsX5_restore wsX4_become := goodIn_r _ [9, 10, 11, 12, 13, 14, 15, 16, 17, 18, 19, 20, 21, 22, 23, 24, 25, 26, 36, 37, 38, 39, 40, 41, 42, 43, 44, 45, 46, 47, 48] (by decide +kernel) (by decide +kernel)
set_option maxRecDepth 20000 in
theorem gX5_restore_X4_become : GoodIn wsX5_restore (wsV RX5 66 RX4 yX4_become wsX4_become) := goodIn_app (goodIn_of _ (by decide +kernel)) ggX5_restore_X4_become
theorem dX5_restore_0 : decode cX5_restore 0 = .ok (.aload_n 0, 1) := by decide +kernel
theorem dX5_restore_1 : decode cX5_restore 1 = .ok (.getfield 267, 3) := by decide +kernel
theorem dX5_restore_4 : decode cX5_restore 4 = .ok (.ifCond .ne 6, 3) := by decide +kernel
theorem dX5_restore_7 : decode cX5_restore 7 = .ok (.bipush (-3), 2) := by decide +kernel
theorem dX5_restore_9 : decode cX5_restore 9 = .ok (.ireturn, 1) := by decide +kernel
theorem dX5_restore_10 : decode cX5_restore 10 = .ok (.aload_n 0, 1) := by decide +kernel
theorem dX5_restore_11 : decode cX5_restore 11 = .ok (.getfield 10, 3) := by decide +kernel
theorem dX5_restore_14 : decode cX5_restore 14 = .ok (.aload_n 0, 1) := by decide +kernel
theorem dX5_restore_15 : decode cX5_restore 15 = .ok (.getfield 19, 3) := by decide +kernel
theorem dX5_restore_18 : decode cX5_restore 18 = .ok (.invokevirtual 66, 3) := by decide +kernel
theorem dX5_restore_21 : decode cX5_restore 21 = .ok (.aload_n 0, 1) := by decide +kernel
theorem dX5_restore_22 : decode cX5_restore 22 = .ok (.getfield 10, 3) := by decide +kernel
theorem dX5_restore_25 : decode cX5_restore 25 = .ok (.getfield 271, 3) := by decide +kernel
theorem dX5_restore_28 : decode cX5_restore 28 = .ok (.ireturn, 1) := by decide +kernel
set_option maxRecDepth 20000 in
theorem ggX5_count_X4_classes : GoodIn wsX5_count wsX4_classes := goodIn_r _ [11, 12, 13, 14, 15, 16, 17, 18, 19, 51, 52, 53, 54, 55, 56, 57, 58, 59, 60, 61, 62, 63] (by decide +kernel) (by decide +kernel)
set_option maxRecDepth 20000 in
theorem gX5_count_X4_classes : GoodIn wsX5_count (wsV RX5 277 RX4 yX4_classes wsX4_classes) := goodIn_app (goodIn_of _ (by decide +kernel)) ggX5_count_X4_classes
set_option maxRecDepth 20000 in
theorem ggX5_count_X4_allWealth : GoodIn wsX5_count wsX4_allWealth := goodIn_r _ [23, 24, 25, 26, 27, 10, 28, 29, 30, 31, 32, 33, 34, 35, 36, 37, 38, 39, 40, 41, 51, 52, 53, 54, 55, 56, 57, 58, 59, 60, 61, 62, 63] (by decide +kernel) (by decide +kernel)
set_option maxRecDepth 20000 in
theorem gX5_count_X4_allWealth : GoodIn wsX5_count (wsV RX5 264 RX4 yX4_allWealth wsX4_allWealth) := goodIn_app (goodIn_of _ (by decide +kernel)) ggX5_count_X4_allWealth
theorem dX5_count_0 : decode cX5_count 0 = .ok (.iload_n 1, 1) := by decide +kernel
theorem dX5_count_1 : decode cX5_count 1 = .ok (.tableswitch 99 0 6 #[43, 51, 59, 67, 75, 83, 91], 43) := by decide +kernel
theorem dX5_count_44 : decode cX5_count 44 = .ok (.aload_n 0, 1) := by decide +kernel
theorem dX5_count_45 : decode cX5_count 45 = .ok (.getfield 10, 3) := by decide +kernel
theorem dX5_count_48 : decode cX5_count 48 = .ok (.getfield 230, 3) := by decide +kernel
theorem dX5_count_51 : decode cX5_count 51 = .ok (.ireturn, 1) := by decide +kernel
theorem dX5_count_52 : decode cX5_count 52 = .ok (.aload_n 0, 1) := by decide +kernel
theorem dX5_count_53 : decode cX5_count 53 = .ok (.getfield 10, 3) := by decide +kernel
theorem dX5_count_56 : decode cX5_count 56 = .ok (.getfield 185, 3) := by decide +kernel
theorem dX5_count_59 : decode cX5_count 59 = .ok (.ireturn, 1) := by decide +kernel
theorem dX5_count_60 : decode cX5_count 60 = .ok (.aload_n 0, 1) := by decide +kernel
theorem dX5_count_61 : decode cX5_count 61 = .ok (.getfield 10, 3) := by decide +kernel
theorem dX5_count_64 : decode cX5_count 64 = .ok (.getfield 274, 3) := by decide +kernel
theorem dX5_count_67 : decode cX5_count 67 = .ok (.ireturn, 1) := by decide +kernel
theorem dX5_count_68 : decode cX5_count 68 = .ok (.aload_n 0, 1) := by decide +kernel
theorem dX5_count_69 : decode cX5_count 69 = .ok (.getfield 10, 3) := by decide +kernel
theorem dX5_count_72 : decode cX5_count 72 = .ok (.getfield 123, 3) := by decide +kernel
theorem dX5_count_75 : decode cX5_count 75 = .ok (.ireturn, 1) := by decide +kernel
theorem dX5_count_76 : decode cX5_count 76 = .ok (.aload_n 0, 1) := by decide +kernel
theorem dX5_count_77 : decode cX5_count 77 = .ok (.getfield 10, 3) := by decide +kernel
theorem dX5_count_80 : decode cX5_count 80 = .ok (.getfield 271, 3) := by decide +kernel
theorem dX5_count_83 : decode cX5_count 83 = .ok (.ireturn, 1) := by decide +kernel
theorem dX5_count_84 : decode cX5_count 84 = .ok (.aload_n 0, 1) := by decide +kernel
theorem dX5_count_85 : decode cX5_count 85 = .ok (.getfield 10, 3) := by decide +kernel
theorem dX5_count_88 : decode cX5_count 88 = .ok (.invokevirtual 277, 3) := by decide +kernel
theorem dX5_count_91 : decode cX5_count 91 = .ok (.ireturn, 1) := by decide +kernel
theorem dX5_count_92 : decode cX5_count 92 = .ok (.aload_n 0, 1) := by decide +kernel
theorem dX5_count_93 : decode cX5_count 93 = .ok (.getfield 10, 3) := by decide +kernel
theorem dX5_count_96 : decode cX5_count 96 = .ok (.invokevirtual 264, 3) := by decide +kernel
theorem dX5_count_99 : decode cX5_count 99 = .ok (.ireturn, 1) := by decide +kernel
theorem dX5_count_100 : decode cX5_count 100 = .ok (.iconst (-1), 1) := by decide +kernel
theorem dX5_count_101 : decode cX5_count 101 = .ok (.ireturn, 1) := by decide +kernel
set_option maxRecDepth 20000 in
theorem ggX5_keep_X5_isShelf : GoodIn wsX5_keep wsX5_isShelf := goodIn_r _ [6] (by decide +kernel) (by decide +kernel)
set_option maxRecDepth 20000 in
theorem gX5_keep_X5_isShelf : GoodIn wsX5_keep (va_wsS RX5 50 yX5_isShelf wsX5_isShelf) := goodIn_app (goodIn_of _ (by decide +kernel)) ggX5_keep_X5_isShelf
set_option maxRecDepth 20000 in
theorem ggX5_keep_X5_isKind : GoodIn wsX5_keep wsX5_isKind := goodIn_r _ [9] (by decide +kernel) (by decide +kernel)
set_option maxRecDepth 20000 in
theorem gX5_keep_X5_isKind : GoodIn wsX5_keep (va_wsS RX5 283 yX5_isKind wsX5_isKind) := goodIn_app (goodIn_of _ (by decide +kernel)) ggX5_keep_X5_isKind
set_option maxRecDepth 20000 in
theorem ggX5_keep_X5_isFigure : GoodIn wsX5_keep wsX5_isFigure := goodIn_r _ [12] (by decide +kernel) (by decide +kernel)
set_option maxRecDepth 20000 in
theorem gX5_keep_X5_isFigure : GoodIn wsX5_keep (va_wsS RX5 286 yX5_isFigure wsX5_isFigure) := goodIn_app (goodIn_of _ (by decide +kernel)) ggX5_keep_X5_isFigure
set_option maxRecDepth 20000 in
theorem ggX5_keep_X1_holdThing : GoodIn wsX5_keep wsX1_holdThing := goodIn_r _ [17, 18, 19, 20, 30, 31, 32, 33, 34, 35] (by decide +kernel) (by decide +kernel)
set_option maxRecDepth 20000 in
theorem gX5_keep_X1_holdThing : GoodIn wsX5_keep (wsV RX5 289 RX1 yX1_holdThing wsX1_holdThing) := goodIn_app (goodIn_of _ (by decide +kernel)) ggX5_keep_X1_holdThing
theorem dX5_keep_0 : decode cX5_keep 0 = .ok (.iload_n 1, 1) := by decide +kernel
theorem dX5_keep_1 : decode cX5_keep 1 = .ok (.invokestatic 50, 3) := by decide +kernel
theorem dX5_keep_4 : decode cX5_keep 4 = .ok (.ifCond .eq 12, 3) := by decide +kernel
theorem dX5_keep_7 : decode cX5_keep 7 = .ok (.iload_n 2, 1) := by decide +kernel
theorem dX5_keep_8 : decode cX5_keep 8 = .ok (.ifCond .lt 8, 3) := by decide +kernel
theorem dX5_keep_11 : decode cX5_keep 11 = .ok (.iload_n 2, 1) := by decide +kernel
theorem dX5_keep_12 : decode cX5_keep 12 = .ok (.iconst 1, 1) := by decide +kernel
theorem dX5_keep_13 : decode cX5_keep 13 = .ok (.if_icmp .le 5, 3) := by decide +kernel
theorem dX5_keep_16 : decode cX5_keep 16 = .ok (.iconst (-1), 1) := by decide +kernel
theorem dX5_keep_17 : decode cX5_keep 17 = .ok (.ireturn, 1) := by decide +kernel
theorem dX5_keep_18 : decode cX5_keep 18 = .ok (.iload_n 2, 1) := by decide +kernel
theorem dX5_keep_19 : decode cX5_keep 19 = .ok (.ifCond .ne 15, 3) := by decide +kernel
theorem dX5_keep_22 : decode cX5_keep 22 = .ok (.aload_n 0, 1) := by decide +kernel
theorem dX5_keep_23 : decode cX5_keep 23 = .ok (.getfield 24, 3) := by decide +kernel
theorem dX5_keep_26 : decode cX5_keep 26 = .ok (.iload_n 1, 1) := by decide +kernel
theorem dX5_keep_27 : decode cX5_keep 27 = .ok (.aaload, 1) := by decide +kernel
theorem dX5_keep_28 : decode cX5_keep 28 = .ok (.iconst 0, 1) := by decide +kernel
theorem dX5_keep_29 : decode cX5_keep 29 = .ok (.putfield 280, 3) := by decide +kernel
theorem dX5_keep_32 : decode cX5_keep 32 = .ok (.iconst 0, 1) := by decide +kernel
theorem dX5_keep_33 : decode cX5_keep 33 = .ok (.ireturn, 1) := by decide +kernel
theorem dX5_keep_34 : decode cX5_keep 34 = .ok (.iload_n 3, 1) := by decide +kernel
theorem dX5_keep_35 : decode cX5_keep 35 = .ok (.invokestatic 283, 3) := by decide +kernel
theorem dX5_keep_38 : decode cX5_keep 38 = .ok (.ifCond .eq 11, 3) := by decide +kernel
theorem dX5_keep_41 : decode cX5_keep 41 = .ok (.iload 4, 2) := by decide +kernel
theorem dX5_keep_43 : decode cX5_keep 43 = .ok (.invokestatic 286, 3) := by decide +kernel
theorem dX5_keep_46 : decode cX5_keep 46 = .ok (.ifCond .ne 5, 3) := by decide +kernel
theorem dX5_keep_49 : decode cX5_keep 49 = .ok (.iconst (-1), 1) := by decide +kernel
theorem dX5_keep_50 : decode cX5_keep 50 = .ok (.ireturn, 1) := by decide +kernel
theorem dX5_keep_51 : decode cX5_keep 51 = .ok (.aload_n 0, 1) := by decide +kernel
theorem dX5_keep_52 : decode cX5_keep 52 = .ok (.getfield 24, 3) := by decide +kernel
theorem dX5_keep_55 : decode cX5_keep 55 = .ok (.iload_n 1, 1) := by decide +kernel
theorem dX5_keep_56 : decode cX5_keep 56 = .ok (.aaload, 1) := by decide +kernel
theorem dX5_keep_57 : decode cX5_keep 57 = .ok (.iload_n 3, 1) := by decide +kernel
theorem dX5_keep_58 : decode cX5_keep 58 = .ok (.iload 4, 2) := by decide +kernel
theorem dX5_keep_60 : decode cX5_keep 60 = .ok (.invokevirtual 289, 3) := by decide +kernel
theorem dX5_keep_63 : decode cX5_keep 63 = .ok (.iconst 0, 1) := by decide +kernel
theorem dX5_keep_64 : decode cX5_keep 64 = .ok (.ireturn, 1) := by decide +kernel
set_option maxRecDepth 20000 in
theorem ggX5_row_X5_isShelf : GoodIn wsX5_row wsX5_isShelf := goodIn_r _ [5] (by decide +kernel) (by decide +kernel)
set_option maxRecDepth 20000 in
theorem gX5_row_X5_isShelf : GoodIn wsX5_row (va_wsS RX5 50 yX5_isShelf wsX5_isShelf) := goodIn_app (goodIn_of _ (by decide +kernel)) ggX5_row_X5_isShelf
set_option maxRecDepth 20000 in
theorem ggX5_row_X1_holdRow : GoodIn wsX5_row wsX1_holdRow := goodIn_r _ [10, 11, 12, 13, 14, 24, 25, 26, 27, 28, 29] (by decide +kernel) (by decide +kernel)
set_option maxRecDepth 20000 in
theorem gX5_row_X1_holdRow : GoodIn wsX5_row (wsV RX5 292 RX1 yX1_holdRow wsX1_holdRow) := goodIn_app (goodIn_of _ (by decide +kernel)) ggX5_row_X1_holdRow
theorem dX5_row_0 : decode cX5_row 0 = .ok (.iload_n 1, 1) := by decide +kernel
theorem dX5_row_1 : decode cX5_row 1 = .ok (.invokestatic 50, 3) := by decide +kernel
theorem dX5_row_4 : decode cX5_row 4 = .ok (.ifCond .eq 18, 3) := by decide +kernel
theorem dX5_row_7 : decode cX5_row 7 = .ok (.iload_n 2, 1) := by decide +kernel
theorem dX5_row_8 : decode cX5_row 8 = .ok (.ifCond .lt 14, 3) := by decide +kernel
theorem dX5_row_11 : decode cX5_row 11 = .ok (.iload_n 2, 1) := by decide +kernel
theorem dX5_row_12 : decode cX5_row 12 = .ok (.iconst 2, 1) := by decide +kernel
theorem dX5_row_13 : decode cX5_row 13 = .ok (.if_icmp .gt 9, 3) := by decide +kernel
theorem dX5_row_16 : decode cX5_row 16 = .ok (.iload_n 3, 1) := by decide +kernel
theorem dX5_row_17 : decode cX5_row 17 = .ok (.bipush 100, 2) := by decide +kernel
theorem dX5_row_19 : decode cX5_row 19 = .ok (.if_icmp .le 5, 3) := by decide +kernel
theorem dX5_row_22 : decode cX5_row 22 = .ok (.iconst (-1), 1) := by decide +kernel
theorem dX5_row_23 : decode cX5_row 23 = .ok (.ireturn, 1) := by decide +kernel
theorem dX5_row_24 : decode cX5_row 24 = .ok (.iload_n 3, 1) := by decide +kernel
theorem dX5_row_25 : decode cX5_row 25 = .ok (.ifCond .ge 6, 3) := by decide +kernel
theorem dX5_row_28 : decode cX5_row 28 = .ok (.bipush (-14), 2) := by decide +kernel
theorem dX5_row_30 : decode cX5_row 30 = .ok (.ireturn, 1) := by decide +kernel
theorem dX5_row_31 : decode cX5_row 31 = .ok (.aload_n 0, 1) := by decide +kernel
theorem dX5_row_32 : decode cX5_row 32 = .ok (.getfield 24, 3) := by decide +kernel
theorem dX5_row_35 : decode cX5_row 35 = .ok (.iload_n 1, 1) := by decide +kernel
theorem dX5_row_36 : decode cX5_row 36 = .ok (.aaload, 1) := by decide +kernel
theorem dX5_row_37 : decode cX5_row 37 = .ok (.iload_n 2, 1) := by decide +kernel
theorem dX5_row_38 : decode cX5_row 38 = .ok (.iload_n 3, 1) := by decide +kernel
theorem dX5_row_39 : decode cX5_row 39 = .ok (.invokevirtual 292, 3) := by decide +kernel
theorem dX5_row_42 : decode cX5_row 42 = .ok (.iconst 0, 1) := by decide +kernel
theorem dX5_row_43 : decode cX5_row 43 = .ok (.ireturn, 1) := by decide +kernel
set_option maxRecDepth 20000 in
theorem ggX5_put_X5_isShelf : GoodIn wsX5_put wsX5_isShelf := goodIn_r _ [5] (by decide +kernel) (by decide +kernel)
set_option maxRecDepth 20000 in
theorem gX5_put_X5_isShelf : GoodIn wsX5_put (va_wsS RX5 50 yX5_isShelf wsX5_isShelf) := goodIn_app (goodIn_of _ (by decide +kernel)) ggX5_put_X5_isShelf
set_option maxRecDepth 20000 in
theorem ggX5_put_X1_refusal : GoodIn wsX5_put wsX1_refusal := goodIn_r _ [10, 11, 32, 33, 34, 35, 36, 37] (by decide +kernel) (by decide +kernel)
set_option maxRecDepth 20000 in
theorem gX5_put_X1_refusal : GoodIn wsX5_put (wsV RX5 54 RX1 yX1_refusal wsX1_refusal) := goodIn_app (goodIn_of _ (by decide +kernel)) ggX5_put_X1_refusal
set_option maxRecDepth 20000 in
theorem ggX5_put_X1_isPlace : GoodIn wsX5_put wsX1_isPlace := goodIn_r _ [15, 16, 32, 33, 34, 35, 36, 37] (by decide +kernel) (by decide +kernel)
set_option maxRecDepth 20000 in
theorem gX5_put_X1_isPlace : GoodIn wsX5_put (wsV RX5 295 RX1 yX1_isPlace wsX1_isPlace) := goodIn_app (goodIn_of _ (by decide +kernel)) ggX5_put_X1_isPlace
set_option maxRecDepth 20000 in
theorem ggX5_put_X1_fill : GoodIn wsX5_put wsX1_fill := goodIn_r _ [20, 21, 22, 32, 33, 34, 35, 36, 37] (by decide +kernel) (by decide +kernel)
set_option maxRecDepth 20000 in
theorem gX5_put_X1_fill : GoodIn wsX5_put (wsV RX5 298 RX1 yX1_fill wsX1_fill) := goodIn_app (goodIn_of _ (by decide +kernel)) ggX5_put_X1_fill
theorem dX5_put_0 : decode cX5_put 0 = .ok (.iload_n 1, 1) := by decide +kernel
theorem dX5_put_1 : decode cX5_put 1 = .ok (.invokestatic 50, 3) := by decide +kernel
theorem dX5_put_4 : decode cX5_put 4 = .ok (.ifCond .ne 5, 3) := by decide +kernel
theorem dX5_put_7 : decode cX5_put 7 = .ok (.iconst (-1), 1) := by decide +kernel
theorem dX5_put_8 : decode cX5_put 8 = .ok (.ireturn, 1) := by decide +kernel
theorem dX5_put_9 : decode cX5_put 9 = .ok (.aload_n 0, 1) := by decide +kernel
theorem dX5_put_10 : decode cX5_put 10 = .ok (.getfield 24, 3) := by decide +kernel
theorem dX5_put_13 : decode cX5_put 13 = .ok (.iload_n 1, 1) := by decide +kernel
theorem dX5_put_14 : decode cX5_put 14 = .ok (.aaload, 1) := by decide +kernel
theorem dX5_put_15 : decode cX5_put 15 = .ok (.iconst 2, 1) := by decide +kernel
theorem dX5_put_16 : decode cX5_put 16 = .ok (.invokevirtual 54, 3) := by decide +kernel
theorem dX5_put_19 : decode cX5_put 19 = .ok (.istore 4, 2) := by decide +kernel
theorem dX5_put_21 : decode cX5_put 21 = .ok (.iload 4, 2) := by decide +kernel
theorem dX5_put_23 : decode cX5_put 23 = .ok (.ifCond .eq 6, 3) := by decide +kernel
theorem dX5_put_26 : decode cX5_put 26 = .ok (.iload 4, 2) := by decide +kernel
theorem dX5_put_28 : decode cX5_put 28 = .ok (.ireturn, 1) := by decide +kernel
theorem dX5_put_29 : decode cX5_put 29 = .ok (.aload_n 0, 1) := by decide +kernel
theorem dX5_put_30 : decode cX5_put 30 = .ok (.getfield 24, 3) := by decide +kernel
theorem dX5_put_33 : decode cX5_put 33 = .ok (.iload_n 1, 1) := by decide +kernel
theorem dX5_put_34 : decode cX5_put 34 = .ok (.aaload, 1) := by decide +kernel
theorem dX5_put_35 : decode cX5_put 35 = .ok (.iload_n 2, 1) := by decide +kernel
theorem dX5_put_36 : decode cX5_put 36 = .ok (.invokevirtual 295, 3) := by decide +kernel
theorem dX5_put_39 : decode cX5_put 39 = .ok (.ifCond .ne 6, 3) := by decide +kernel
theorem dX5_put_42 : decode cX5_put 42 = .ok (.bipush (-13), 2) := by decide +kernel
theorem dX5_put_44 : decode cX5_put 44 = .ok (.ireturn, 1) := by decide +kernel
theorem dX5_put_45 : decode cX5_put 45 = .ok (.aload_n 0, 1) := by decide +kernel
theorem dX5_put_46 : decode cX5_put 46 = .ok (.getfield 24, 3) := by decide +kernel
theorem dX5_put_49 : decode cX5_put 49 = .ok (.iload_n 1, 1) := by decide +kernel
theorem dX5_put_50 : decode cX5_put 50 = .ok (.aaload, 1) := by decide +kernel
theorem dX5_put_51 : decode cX5_put 51 = .ok (.iload_n 2, 1) := by decide +kernel
theorem dX5_put_52 : decode cX5_put 52 = .ok (.iload_n 3, 1) := by decide +kernel
theorem dX5_put_53 : decode cX5_put 53 = .ok (.invokevirtual 298, 3) := by decide +kernel
theorem dX5_put_56 : decode cX5_put 56 = .ok (.iconst 0, 1) := by decide +kernel
theorem dX5_put_57 : decode cX5_put 57 = .ok (.ireturn, 1) := by decide +kernel
set_option maxRecDepth 20000 in
theorem ggX5_element_X5_isShelf : GoodIn wsX5_element wsX5_isShelf := goodIn_r _ [10] (by decide +kernel) (by decide +kernel)
set_option maxRecDepth 20000 in
theorem gX5_element_X5_isShelf : GoodIn wsX5_element (va_wsS RX5 50 yX5_isShelf wsX5_isShelf) := goodIn_app (goodIn_of _ (by decide +kernel)) ggX5_element_X5_isShelf
set_option maxRecDepth 20000 in
theorem ggX5_element_X1_refusal : GoodIn wsX5_element wsX1_refusal := goodIn_r _ [15, 16, 31, 32, 33, 34, 35, 36] (by decide +kernel) (by decide +kernel)
set_option maxRecDepth 20000 in
theorem gX5_element_X1_refusal : GoodIn wsX5_element (wsV RX5 54 RX1 yX1_refusal wsX1_refusal) := goodIn_app (goodIn_of _ (by decide +kernel)) ggX5_element_X1_refusal
set_option maxRecDepth 20000 in
theorem ggX5_element_X1_isPlace : GoodIn wsX5_element wsX1_isPlace := goodIn_r _ [20, 21, 31, 32, 33, 34, 35, 36] (by decide +kernel) (by decide +kernel)
set_option maxRecDepth 20000 in
theorem gX5_element_X1_isPlace : GoodIn wsX5_element (wsV RX5 295 RX1 yX1_isPlace wsX1_isPlace) := goodIn_app (goodIn_of _ (by decide +kernel)) ggX5_element_X1_isPlace
theorem dX5_element_0 : decode cX5_element 0 = .ok (.iload_n 1, 1) := by decide +kernel
theorem dX5_element_1 : decode cX5_element 1 = .ok (.invokestatic 50, 3) := by decide +kernel
theorem dX5_element_4 : decode cX5_element 4 = .ok (.ifCond .ne 14, 3) := by decide +kernel
theorem dX5_element_7 : decode cX5_element 7 = .ok (.new 301, 3) := by decide +kernel
theorem dX5_element_10 : decode cX5_element 10 = .ok (.dup, 1) := by decide +kernel
theorem dX5_element_11 : decode cX5_element 11 = .ok (.ldc_w 303, 3) := by decide +kernel
theorem dX5_element_14 : decode cX5_element 14 = .ok (.invokespecial 305, 3) := by decide +kernel
theorem dX5_element_17 : decode cX5_element 17 = .ok (.athrow, 1) := by decide +kernel
theorem dX5_element_18 : decode cX5_element 18 = .ok (.aload_n 0, 1) := by decide +kernel
theorem dX5_element_19 : decode cX5_element 19 = .ok (.getfield 24, 3) := by decide +kernel
theorem dX5_element_22 : decode cX5_element 22 = .ok (.iload_n 1, 1) := by decide +kernel
theorem dX5_element_23 : decode cX5_element 23 = .ok (.aaload, 1) := by decide +kernel
theorem dX5_element_24 : decode cX5_element 24 = .ok (.iconst 2, 1) := by decide +kernel
theorem dX5_element_25 : decode cX5_element 25 = .ok (.invokevirtual 54, 3) := by decide +kernel
theorem dX5_element_28 : decode cX5_element 28 = .ok (.ifCond .eq 14, 3) := by decide +kernel
theorem dX5_element_31 : decode cX5_element 31 = .ok (.new 308, 3) := by decide +kernel
theorem dX5_element_34 : decode cX5_element 34 = .ok (.dup, 1) := by decide +kernel
theorem dX5_element_35 : decode cX5_element 35 = .ok (.ldc_w 310, 3) := by decide +kernel
theorem dX5_element_38 : decode cX5_element 38 = .ok (.invokespecial 312, 3) := by decide +kernel
theorem dX5_element_41 : decode cX5_element 41 = .ok (.athrow, 1) := by decide +kernel
theorem dX5_element_42 : decode cX5_element 42 = .ok (.aload_n 0, 1) := by decide +kernel
theorem dX5_element_43 : decode cX5_element 43 = .ok (.getfield 24, 3) := by decide +kernel
theorem dX5_element_46 : decode cX5_element 46 = .ok (.iload_n 1, 1) := by decide +kernel
theorem dX5_element_47 : decode cX5_element 47 = .ok (.aaload, 1) := by decide +kernel
theorem dX5_element_48 : decode cX5_element 48 = .ok (.iload_n 2, 1) := by decide +kernel
theorem dX5_element_49 : decode cX5_element 49 = .ok (.invokevirtual 295, 3) := by decide +kernel
theorem dX5_element_52 : decode cX5_element 52 = .ok (.ifCond .ne 14, 3) := by decide +kernel
theorem dX5_element_55 : decode cX5_element 55 = .ok (.new 308, 3) := by decide +kernel
theorem dX5_element_58 : decode cX5_element 58 = .ok (.dup, 1) := by decide +kernel
theorem dX5_element_59 : decode cX5_element 59 = .ok (.ldc_w 313, 3) := by decide +kernel
theorem dX5_element_62 : decode cX5_element 62 = .ok (.invokespecial 312, 3) := by decide +kernel
theorem dX5_element_65 : decode cX5_element 65 = .ok (.athrow, 1) := by decide +kernel
theorem dX5_element_66 : decode cX5_element 66 = .ok (.aload_n 0, 1) := by decide +kernel
theorem dX5_element_67 : decode cX5_element 67 = .ok (.getfield 24, 3) := by decide +kernel
theorem dX5_element_70 : decode cX5_element 70 = .ok (.iload_n 1, 1) := by decide +kernel
theorem dX5_element_71 : decode cX5_element 71 = .ok (.aaload, 1) := by decide +kernel
theorem dX5_element_72 : decode cX5_element 72 = .ok (.getfield 77, 3) := by decide +kernel
theorem dX5_element_75 : decode cX5_element 75 = .ok (.iload_n 2, 1) := by decide +kernel
theorem dX5_element_76 : decode cX5_element 76 = .ok (.iaload, 1) := by decide +kernel
theorem dX5_element_77 : decode cX5_element 77 = .ok (.i2l, 1) := by decide +kernel
theorem dX5_element_78 : decode cX5_element 78 = .ok (.lreturn, 1) := by decide +kernel
set_option maxRecDepth 20000 in
theorem ggX5_copy_X5_isShelf : GoodIn wsX5_copy wsX5_isShelf := goodIn_r _ [12] (by decide +kernel) (by decide +kernel)
set_option maxRecDepth 20000 in
theorem gX5_copy_X5_isShelf : GoodIn wsX5_copy (va_wsS RX5 50 yX5_isShelf wsX5_isShelf) := goodIn_app (goodIn_of _ (by decide +kernel)) ggX5_copy_X5_isShelf
set_option maxRecDepth 20000 in
theorem ggX5_copy_X1_isStretch : GoodIn wsX5_copy wsX1_isStretch := goodIn_r _ [17, 18, 28, 29, 30, 31, 32, 33] (by decide +kernel) (by decide +kernel)
set_option maxRecDepth 20000 in
theorem gX5_copy_X1_isStretch : GoodIn wsX5_copy (wsV RX5 315 RX1 yX1_isStretch wsX1_isStretch) := goodIn_app (goodIn_of _ (by decide +kernel)) ggX5_copy_X1_isStretch
theorem dX5_copy_0 : decode cX5_copy 0 = .ok (.iload_n 1, 1) := by decide +kernel
theorem dX5_copy_1 : decode cX5_copy 1 = .ok (.invokestatic 50, 3) := by decide +kernel
theorem dX5_copy_4 : decode cX5_copy 4 = .ok (.ifCond .eq 10, 3) := by decide +kernel
theorem dX5_copy_7 : decode cX5_copy 7 = .ok (.iload_n 3, 1) := by decide +kernel
theorem dX5_copy_8 : decode cX5_copy 8 = .ok (.invokestatic 50, 3) := by decide +kernel
theorem dX5_copy_11 : decode cX5_copy 11 = .ok (.ifCond .ne 5, 3) := by decide +kernel
theorem dX5_copy_14 : decode cX5_copy 14 = .ok (.iconst (-1), 1) := by decide +kernel
theorem dX5_copy_15 : decode cX5_copy 15 = .ok (.ireturn, 1) := by decide +kernel
theorem dX5_copy_16 : decode cX5_copy 16 = .ok (.aload_n 0, 1) := by decide +kernel
theorem dX5_copy_17 : decode cX5_copy 17 = .ok (.getfield 24, 3) := by decide +kernel
theorem dX5_copy_20 : decode cX5_copy 20 = .ok (.iload_n 1, 1) := by decide +kernel
theorem dX5_copy_21 : decode cX5_copy 21 = .ok (.aaload, 1) := by decide +kernel
theorem dX5_copy_22 : decode cX5_copy 22 = .ok (.astore 6, 2) := by decide +kernel
theorem dX5_copy_24 : decode cX5_copy 24 = .ok (.aload_n 0, 1) := by decide +kernel
theorem dX5_copy_25 : decode cX5_copy 25 = .ok (.getfield 24, 3) := by decide +kernel
theorem dX5_copy_28 : decode cX5_copy 28 = .ok (.iload_n 3, 1) := by decide +kernel
theorem dX5_copy_29 : decode cX5_copy 29 = .ok (.aaload, 1) := by decide +kernel
theorem dX5_copy_30 : decode cX5_copy 30 = .ok (.astore 7, 2) := by decide +kernel
theorem dX5_copy_32 : decode cX5_copy 32 = .ok (.aload 6, 2) := by decide +kernel
theorem dX5_copy_34 : decode cX5_copy 34 = .ok (.getfield 280, 3) := by decide +kernel
theorem dX5_copy_37 : decode cX5_copy 37 = .ok (.ifCond .eq 11, 3) := by decide +kernel
theorem dX5_copy_40 : decode cX5_copy 40 = .ok (.aload 7, 2) := by decide +kernel
theorem dX5_copy_42 : decode cX5_copy 42 = .ok (.getfield 280, 3) := by decide +kernel
theorem dX5_copy_45 : decode cX5_copy 45 = .ok (.ifCond .ne 6, 3) := by decide +kernel
theorem dX5_copy_48 : decode cX5_copy 48 = .ok (.bipush (-11), 2) := by decide +kernel
theorem dX5_copy_50 : decode cX5_copy 50 = .ok (.ireturn, 1) := by decide +kernel
theorem dX5_copy_51 : decode cX5_copy 51 = .ok (.aload 6, 2) := by decide +kernel
theorem dX5_copy_53 : decode cX5_copy 53 = .ok (.getfield 280, 3) := by decide +kernel
theorem dX5_copy_56 : decode cX5_copy 56 = .ok (.iconst 2, 1) := by decide +kernel
theorem dX5_copy_57 : decode cX5_copy 57 = .ok (.if_icmp .ne 25, 3) := by decide +kernel
theorem dX5_copy_60 : decode cX5_copy 60 = .ok (.aload 7, 2) := by decide +kernel
theorem dX5_copy_62 : decode cX5_copy 62 = .ok (.getfield 280, 3) := by decide +kernel
theorem dX5_copy_65 : decode cX5_copy 65 = .ok (.iconst 2, 1) := by decide +kernel
theorem dX5_copy_66 : decode cX5_copy 66 = .ok (.if_icmp .ne 16, 3) := by decide +kernel
theorem dX5_copy_69 : decode cX5_copy 69 = .ok (.aload 6, 2) := by decide +kernel
theorem dX5_copy_71 : decode cX5_copy 71 = .ok (.getfield 58, 3) := by decide +kernel
theorem dX5_copy_74 : decode cX5_copy 74 = .ok (.aload 7, 2) := by decide +kernel
theorem dX5_copy_76 : decode cX5_copy 76 = .ok (.getfield 58, 3) := by decide +kernel
theorem dX5_copy_79 : decode cX5_copy 79 = .ok (.if_icmp .eq 6, 3) := by decide +kernel
theorem dX5_copy_82 : decode cX5_copy 82 = .ok (.bipush (-12), 2) := by decide +kernel
theorem dX5_copy_84 : decode cX5_copy 84 = .ok (.ireturn, 1) := by decide +kernel
theorem dX5_copy_85 : decode cX5_copy 85 = .ok (.aload 6, 2) := by decide +kernel
theorem dX5_copy_87 : decode cX5_copy 87 = .ok (.iload_n 2, 1) := by decide +kernel
theorem dX5_copy_88 : decode cX5_copy 88 = .ok (.iload 5, 2) := by decide +kernel
theorem dX5_copy_90 : decode cX5_copy 90 = .ok (.invokevirtual 315, 3) := by decide +kernel
theorem dX5_copy_93 : decode cX5_copy 93 = .ok (.ifCond .eq 15, 3) := by decide +kernel
theorem dX5_copy_96 : decode cX5_copy 96 = .ok (.aload 7, 2) := by decide +kernel
theorem dX5_copy_98 : decode cX5_copy 98 = .ok (.iload 4, 2) := by decide +kernel
theorem dX5_copy_100 : decode cX5_copy 100 = .ok (.iload 5, 2) := by decide +kernel
theorem dX5_copy_102 : decode cX5_copy 102 = .ok (.invokevirtual 315, 3) := by decide +kernel
theorem dX5_copy_105 : decode cX5_copy 105 = .ok (.ifCond .ne 6, 3) := by decide +kernel
theorem dX5_copy_108 : decode cX5_copy 108 = .ok (.bipush (-13), 2) := by decide +kernel
theorem dX5_copy_110 : decode cX5_copy 110 = .ok (.ireturn, 1) := by decide +kernel
theorem dX5_copy_111 : decode cX5_copy 111 = .ok (.aload 6, 2) := by decide +kernel
theorem dX5_copy_113 : decode cX5_copy 113 = .ok (.getfield 77, 3) := by decide +kernel
theorem dX5_copy_116 : decode cX5_copy 116 = .ok (.iload_n 2, 1) := by decide +kernel
theorem dX5_copy_117 : decode cX5_copy 117 = .ok (.aload 7, 2) := by decide +kernel
theorem dX5_copy_119 : decode cX5_copy 119 = .ok (.getfield 77, 3) := by decide +kernel
theorem dX5_copy_122 : decode cX5_copy 122 = .ok (.iload 4, 2) := by decide +kernel
theorem dX5_copy_124 : decode cX5_copy 124 = .ok (.iload 5, 2) := by decide +kernel
theorem dX5_copy_126 : decode cX5_copy 126 = .ok (.invokestatic 318, 3) := by decide +kernel
theorem dX5_copy_129 : decode cX5_copy 129 = .ok (.iload 5, 2) := by decide +kernel
theorem dX5_copy_131 : decode cX5_copy 131 = .ok (.ireturn, 1) := by decide +kernel
set_option maxRecDepth 20000 in
theorem ggX5_cost_X5_isShelf : GoodIn wsX5_cost wsX5_isShelf := goodIn_r _ [7] (by decide +kernel) (by decide +kernel)
set_option maxRecDepth 20000 in
theorem gX5_cost_X5_isShelf : GoodIn wsX5_cost (va_wsS RX5 50 yX5_isShelf wsX5_isShelf) := goodIn_app (goodIn_of _ (by decide +kernel)) ggX5_cost_X5_isShelf
set_option maxRecDepth 20000 in
theorem ggX5_cost_X1_refusal : GoodIn wsX5_cost wsX1_refusal := goodIn_r _ [12, 13, 26, 27, 28, 29, 30, 31] (by decide +kernel) (by decide +kernel)
set_option maxRecDepth 20000 in
theorem gX5_cost_X1_refusal : GoodIn wsX5_cost (wsV RX5 54 RX1 yX1_refusal wsX1_refusal) := goodIn_app (goodIn_of _ (by decide +kernel)) ggX5_cost_X1_refusal
set_option maxRecDepth 20000 in
theorem ggX5_cost_X5_costOf : GoodIn wsX5_cost wsX5_costOf := goodIn_r _ [16] (by decide +kernel) (by decide +kernel)
set_option maxRecDepth 20000 in
theorem gX5_cost_X5_costOf : GoodIn wsX5_cost (va_wsS RX5 324 yX5_costOf wsX5_costOf) := goodIn_app (goodIn_of _ (by decide +kernel)) ggX5_cost_X5_costOf
theorem dX5_cost_0 : decode cX5_cost 0 = .ok (.iload_n 1, 1) := by decide +kernel
theorem dX5_cost_1 : decode cX5_cost 1 = .ok (.invokestatic 50, 3) := by decide +kernel
theorem dX5_cost_4 : decode cX5_cost 4 = .ok (.ifCond .ne 5, 3) := by decide +kernel
theorem dX5_cost_7 : decode cX5_cost 7 = .ok (.iconst (-1), 1) := by decide +kernel
theorem dX5_cost_8 : decode cX5_cost 8 = .ok (.ireturn, 1) := by decide +kernel
theorem dX5_cost_9 : decode cX5_cost 9 = .ok (.aload_n 0, 1) := by decide +kernel
theorem dX5_cost_10 : decode cX5_cost 10 = .ok (.getfield 24, 3) := by decide +kernel
theorem dX5_cost_13 : decode cX5_cost 13 = .ok (.iload_n 1, 1) := by decide +kernel
theorem dX5_cost_14 : decode cX5_cost 14 = .ok (.aaload, 1) := by decide +kernel
theorem dX5_cost_15 : decode cX5_cost 15 = .ok (.iconst 1, 1) := by decide +kernel
theorem dX5_cost_16 : decode cX5_cost 16 = .ok (.invokevirtual 54, 3) := by decide +kernel
theorem dX5_cost_19 : decode cX5_cost 19 = .ok (.istore_n 2, 1) := by decide +kernel
theorem dX5_cost_20 : decode cX5_cost 20 = .ok (.iload_n 2, 1) := by decide +kernel
theorem dX5_cost_21 : decode cX5_cost 21 = .ok (.ifCond .eq 5, 3) := by decide +kernel
theorem dX5_cost_24 : decode cX5_cost 24 = .ok (.iload_n 2, 1) := by decide +kernel
theorem dX5_cost_25 : decode cX5_cost 25 = .ok (.ireturn, 1) := by decide +kernel
theorem dX5_cost_26 : decode cX5_cost 26 = .ok (.aload_n 0, 1) := by decide +kernel
theorem dX5_cost_27 : decode cX5_cost 27 = .ok (.getfield 24, 3) := by decide +kernel
theorem dX5_cost_30 : decode cX5_cost 30 = .ok (.iload_n 1, 1) := by decide +kernel
theorem dX5_cost_31 : decode cX5_cost 31 = .ok (.aaload, 1) := by decide +kernel
theorem dX5_cost_32 : decode cX5_cost 32 = .ok (.getfield 133, 3) := by decide +kernel
theorem dX5_cost_35 : decode cX5_cost 35 = .ok (.aload_n 0, 1) := by decide +kernel
theorem dX5_cost_36 : decode cX5_cost 36 = .ok (.getfield 24, 3) := by decide +kernel
theorem dX5_cost_39 : decode cX5_cost 39 = .ok (.iload_n 1, 1) := by decide +kernel
theorem dX5_cost_40 : decode cX5_cost 40 = .ok (.aaload, 1) := by decide +kernel
theorem dX5_cost_41 : decode cX5_cost 41 = .ok (.getfield 136, 3) := by decide +kernel
theorem dX5_cost_44 : decode cX5_cost 44 = .ok (.invokestatic 324, 3) := by decide +kernel
theorem dX5_cost_47 : decode cX5_cost 47 = .ok (.ireturn, 1) := by decide +kernel
set_option maxRecDepth 20000 in
theorem ggX5_toss_X5_isShelf : GoodIn wsX5_toss wsX5_isShelf := goodIn_r _ [10] (by decide +kernel) (by decide +kernel)
set_option maxRecDepth 20000 in
theorem gX5_toss_X5_isShelf : GoodIn wsX5_toss (va_wsS RX5 50 yX5_isShelf wsX5_isShelf) := goodIn_app (goodIn_of _ (by decide +kernel)) ggX5_toss_X5_isShelf
set_option maxRecDepth 20000 in
theorem ggX5_toss_X1_refusal : GoodIn wsX5_toss wsX1_refusal := goodIn_r _ [15, 16, 35, 36, 37, 38, 39, 40] (by decide +kernel) (by decide +kernel)
set_option maxRecDepth 20000 in
theorem gX5_toss_X1_refusal : GoodIn wsX5_toss (wsV RX5 54 RX1 yX1_refusal wsX1_refusal) := goodIn_app (goodIn_of _ (by decide +kernel)) ggX5_toss_X1_refusal
set_option maxRecDepth 20000 in
theorem ggX5_toss_X5_fail : GoodIn wsX5_toss wsX5_fail := goodIn_ca (goodIn_ca (goodIn_ca (goodIn_r _ [19, 1, 20, 2, 21, 3, 22] (by decide +kernel) (by decide +kernel)) (goodIn_sub (fun _ h => List.mem_cons_of_mem _ (List.mem_append_left _ (List.mem_append_left _ (List.mem_append_right _ h)))) (by decide +kernel))) (goodIn_sub (fun _ h => List.mem_cons_of_mem _ (List.mem_append_left _ (List.mem_append_right _ h))) (by decide +kernel))) (goodIn_sub (fun _ h => List.mem_cons_of_mem _ (List.mem_append_right _ h)) (by decide +kernel))
set_option maxRecDepth 20000 in
theorem gX5_toss_X5_fail : GoodIn wsX5_toss (va_wsS RX5 327 yX5_fail wsX5_fail) := goodIn_app (goodIn_of _ (by decide +kernel)) ggX5_toss_X5_fail
set_option maxRecDepth 20000 in
theorem ggX5_toss_X5_costOf : GoodIn wsX5_toss wsX5_costOf := goodIn_r _ [25] (by decide +kernel) (by decide +kernel)
set_option maxRecDepth 20000 in
theorem gX5_toss_X5_costOf : GoodIn wsX5_toss (va_wsS RX5 324 yX5_costOf wsX5_costOf) := goodIn_app (goodIn_of _ (by decide +kernel)) ggX5_toss_X5_costOf
theorem dX5_toss_0 : decode cX5_toss 0 = .ok (.iload_n 1, 1) := by decide +kernel
theorem dX5_toss_1 : decode cX5_toss 1 = .ok (.invokestatic 50, 3) := by decide +kernel
theorem dX5_toss_4 : decode cX5_toss 4 = .ok (.ifCond .ne 5, 3) := by decide +kernel
theorem dX5_toss_7 : decode cX5_toss 7 = .ok (.iconst (-1), 1) := by decide +kernel
theorem dX5_toss_8 : decode cX5_toss 8 = .ok (.ireturn, 1) := by decide +kernel
theorem dX5_toss_9 : decode cX5_toss 9 = .ok (.aload_n 0, 1) := by decide +kernel
theorem dX5_toss_10 : decode cX5_toss 10 = .ok (.getfield 24, 3) := by decide +kernel
theorem dX5_toss_13 : decode cX5_toss 13 = .ok (.iload_n 1, 1) := by decide +kernel
theorem dX5_toss_14 : decode cX5_toss 14 = .ok (.aaload, 1) := by decide +kernel
theorem dX5_toss_15 : decode cX5_toss 15 = .ok (.iconst 1, 1) := by decide +kernel
theorem dX5_toss_16 : decode cX5_toss 16 = .ok (.invokevirtual 54, 3) := by decide +kernel
theorem dX5_toss_19 : decode cX5_toss 19 = .ok (.istore_n 2, 1) := by decide +kernel
theorem dX5_toss_20 : decode cX5_toss 20 = .ok (.iload_n 2, 1) := by decide +kernel
theorem dX5_toss_21 : decode cX5_toss 21 = .ok (.ifCond .eq 5, 3) := by decide +kernel
theorem dX5_toss_24 : decode cX5_toss 24 = .ok (.iload_n 2, 1) := by decide +kernel
theorem dX5_toss_25 : decode cX5_toss 25 = .ok (.ireturn, 1) := by decide +kernel
theorem dX5_toss_26 : decode cX5_toss 26 = .ok (.aload_n 0, 1) := by decide +kernel
theorem dX5_toss_27 : decode cX5_toss 27 = .ok (.getfield 24, 3) := by decide +kernel
theorem dX5_toss_30 : decode cX5_toss 30 = .ok (.iload_n 1, 1) := by decide +kernel
theorem dX5_toss_31 : decode cX5_toss 31 = .ok (.aaload, 1) := by decide +kernel
theorem dX5_toss_32 : decode cX5_toss 32 = .ok (.getfield 133, 3) := by decide +kernel
theorem dX5_toss_35 : decode cX5_toss 35 = .ok (.istore_n 3, 1) := by decide +kernel
theorem dX5_toss_36 : decode cX5_toss 36 = .ok (.aload_n 0, 1) := by decide +kernel
theorem dX5_toss_37 : decode cX5_toss 37 = .ok (.getfield 24, 3) := by decide +kernel
theorem dX5_toss_40 : decode cX5_toss 40 = .ok (.iload_n 1, 1) := by decide +kernel
theorem dX5_toss_41 : decode cX5_toss 41 = .ok (.aaload, 1) := by decide +kernel
theorem dX5_toss_42 : decode cX5_toss 42 = .ok (.getfield 136, 3) := by decide +kernel
theorem dX5_toss_45 : decode cX5_toss 45 = .ok (.istore 4, 2) := by decide +kernel
theorem dX5_toss_47 : decode cX5_toss 47 = .ok (.iload_n 3, 1) := by decide +kernel
theorem dX5_toss_48 : decode cX5_toss 48 = .ok (.iload 4, 2) := by decide +kernel
theorem dX5_toss_50 : decode cX5_toss 50 = .ok (.invokestatic 327, 3) := by decide +kernel
theorem dX5_toss_53 : decode cX5_toss 53 = .ok (.goto 29, 3) := by decide +kernel
theorem dX5_toss_56 : decode cX5_toss 56 = .ok (.astore 5, 2) := by decide +kernel
theorem dX5_toss_58 : decode cX5_toss 58 = .ok (.sipush 200, 3) := by decide +kernel
theorem dX5_toss_61 : decode cX5_toss 61 = .ok (.iload_n 3, 1) := by decide +kernel
theorem dX5_toss_62 : decode cX5_toss 62 = .ok (.iload 4, 2) := by decide +kernel
theorem dX5_toss_64 : decode cX5_toss 64 = .ok (.invokestatic 324, 3) := by decide +kernel
theorem dX5_toss_67 : decode cX5_toss 67 = .ok (.iadd, 1) := by decide +kernel
theorem dX5_toss_68 : decode cX5_toss 68 = .ok (.ireturn, 1) := by decide +kernel
theorem dX5_toss_69 : decode cX5_toss 69 = .ok (.astore 5, 2) := by decide +kernel
theorem dX5_toss_71 : decode cX5_toss 71 = .ok (.bipush 100, 2) := by decide +kernel
theorem dX5_toss_73 : decode cX5_toss 73 = .ok (.iload 4, 2) := by decide +kernel
theorem dX5_toss_75 : decode cX5_toss 75 = .ok (.iadd, 1) := by decide +kernel
theorem dX5_toss_76 : decode cX5_toss 76 = .ok (.ireturn, 1) := by decide +kernel
theorem dX5_toss_77 : decode cX5_toss 77 = .ok (.astore 5, 2) := by decide +kernel
theorem dX5_toss_79 : decode cX5_toss 79 = .ok (.iload 4, 2) := by decide +kernel
theorem dX5_toss_81 : decode cX5_toss 81 = .ok (.ireturn, 1) := by decide +kernel
theorem dX5_toss_82 : decode cX5_toss 82 = .ok (.bipush (-15), 2) := by decide +kernel
theorem dX5_toss_84 : decode cX5_toss 84 = .ok (.ireturn, 1) := by decide +kernel
theorem dX5_worthOf_0 : decode cX5_worthOf 0 = .ok (.iload_n 1, 1) := by decide +kernel
theorem dX5_worthOf_1 : decode cX5_worthOf 1 = .ok (.iconst 2, 1) := by decide +kernel
theorem dX5_worthOf_2 : decode cX5_worthOf 2 = .ok (.iadd, 1) := by decide +kernel
theorem dX5_worthOf_3 : decode cX5_worthOf 3 = .ok (.istore 4, 2) := by decide +kernel
theorem dX5_worthOf_5 : decode cX5_worthOf 5 = .ok (.iload 4, 2) := by decide +kernel
theorem dX5_worthOf_7 : decode cX5_worthOf 7 = .ok (.iload_n 2, 1) := by decide +kernel
theorem dX5_worthOf_8 : decode cX5_worthOf 8 = .ok (.iconst 2, 1) := by decide +kernel
theorem dX5_worthOf_9 : decode cX5_worthOf 9 = .ok (.idiv, 1) := by decide +kernel
theorem dX5_worthOf_10 : decode cX5_worthOf 10 = .ok (.iadd, 1) := by decide +kernel
theorem dX5_worthOf_11 : decode cX5_worthOf 11 = .ok (.iload_n 3, 1) := by decide +kernel
theorem dX5_worthOf_12 : decode cX5_worthOf 12 = .ok (.iconst 3, 1) := by decide +kernel
theorem dX5_worthOf_13 : decode cX5_worthOf 13 = .ok (.irem, 1) := by decide +kernel
theorem dX5_worthOf_14 : decode cX5_worthOf 14 = .ok (.isub, 1) := by decide +kernel
theorem dX5_worthOf_15 : decode cX5_worthOf 15 = .ok (.istore 5, 2) := by decide +kernel
theorem dX5_worthOf_17 : decode cX5_worthOf 17 = .ok (.iload 5, 2) := by decide +kernel
theorem dX5_worthOf_19 : decode cX5_worthOf 19 = .ok (.iconst 2, 1) := by decide +kernel
theorem dX5_worthOf_20 : decode cX5_worthOf 20 = .ok (.idiv, 1) := by decide +kernel
theorem dX5_worthOf_21 : decode cX5_worthOf 21 = .ok (.istore 6, 2) := by decide +kernel
theorem dX5_worthOf_23 : decode cX5_worthOf 23 = .ok (.iload_n 2, 1) := by decide +kernel
theorem dX5_worthOf_24 : decode cX5_worthOf 24 = .ok (.istore 7, 2) := by decide +kernel
theorem dX5_worthOf_26 : decode cX5_worthOf 26 = .ok (.iconst 2, 1) := by decide +kernel
theorem dX5_worthOf_27 : decode cX5_worthOf 27 = .ok (.iload 7, 2) := by decide +kernel
theorem dX5_worthOf_29 : decode cX5_worthOf 29 = .ok (.imul, 1) := by decide +kernel
theorem dX5_worthOf_30 : decode cX5_worthOf 30 = .ok (.iload_n 3, 1) := by decide +kernel
theorem dX5_worthOf_31 : decode cX5_worthOf 31 = .ok (.iconst 2, 1) := by decide +kernel
theorem dX5_worthOf_32 : decode cX5_worthOf 32 = .ok (.irem, 1) := by decide +kernel
theorem dX5_worthOf_33 : decode cX5_worthOf 33 = .ok (.isub, 1) := by decide +kernel
theorem dX5_worthOf_34 : decode cX5_worthOf 34 = .ok (.istore 8, 2) := by decide +kernel
theorem dX5_worthOf_36 : decode cX5_worthOf 36 = .ok (.iload_n 0, 1) := by decide +kernel
theorem dX5_worthOf_37 : decode cX5_worthOf 37 = .ok (.tableswitch 81 1 7 #[43, 48, 51, 54, 66, 71, 74], 43) := by decide +kernel
theorem dX5_worthOf_80 : decode cX5_worthOf 80 = .ok (.bipush 6, 2) := by decide +kernel
theorem dX5_worthOf_82 : decode cX5_worthOf 82 = .ok (.iload_n 1, 1) := by decide +kernel
theorem dX5_worthOf_83 : decode cX5_worthOf 83 = .ok (.iadd, 1) := by decide +kernel
theorem dX5_worthOf_84 : decode cX5_worthOf 84 = .ok (.ireturn, 1) := by decide +kernel
theorem dX5_worthOf_85 : decode cX5_worthOf 85 = .ok (.iload 5, 2) := by decide +kernel
theorem dX5_worthOf_87 : decode cX5_worthOf 87 = .ok (.ireturn, 1) := by decide +kernel
theorem dX5_worthOf_88 : decode cX5_worthOf 88 = .ok (.iload 7, 2) := by decide +kernel
theorem dX5_worthOf_90 : decode cX5_worthOf 90 = .ok (.ireturn, 1) := by decide +kernel
theorem dX5_worthOf_91 : decode cX5_worthOf 91 = .ok (.iload 8, 2) := by decide +kernel
theorem dX5_worthOf_93 : decode cX5_worthOf 93 = .ok (.ifCond .ge 7, 3) := by decide +kernel
theorem dX5_worthOf_96 : decode cX5_worthOf 96 = .ok (.iconst 0, 1) := by decide +kernel
theorem dX5_worthOf_97 : decode cX5_worthOf 97 = .ok (.goto 5, 3) := by decide +kernel
theorem dX5_worthOf_100 : decode cX5_worthOf 100 = .ok (.iload 8, 2) := by decide +kernel
theorem dX5_worthOf_102 : decode cX5_worthOf 102 = .ok (.ireturn, 1) := by decide +kernel
theorem dX5_worthOf_103 : decode cX5_worthOf 103 = .ok (.bipush 9, 2) := by decide +kernel
theorem dX5_worthOf_105 : decode cX5_worthOf 105 = .ok (.iload_n 2, 1) := by decide +kernel
theorem dX5_worthOf_106 : decode cX5_worthOf 106 = .ok (.isub, 1) := by decide +kernel
theorem dX5_worthOf_107 : decode cX5_worthOf 107 = .ok (.ireturn, 1) := by decide +kernel
theorem dX5_worthOf_108 : decode cX5_worthOf 108 = .ok (.iload 6, 2) := by decide +kernel
theorem dX5_worthOf_110 : decode cX5_worthOf 110 = .ok (.ireturn, 1) := by decide +kernel
theorem dX5_worthOf_111 : decode cX5_worthOf 111 = .ok (.iload 6, 2) := by decide +kernel
theorem dX5_worthOf_113 : decode cX5_worthOf 113 = .ok (.iload_n 1, 1) := by decide +kernel
theorem dX5_worthOf_114 : decode cX5_worthOf 114 = .ok (.iadd, 1) := by decide +kernel
theorem dX5_worthOf_115 : decode cX5_worthOf 115 = .ok (.iconst 3, 1) := by decide +kernel
theorem dX5_worthOf_116 : decode cX5_worthOf 116 = .ok (.iadd, 1) := by decide +kernel
theorem dX5_worthOf_117 : decode cX5_worthOf 117 = .ok (.ireturn, 1) := by decide +kernel
theorem dX5_worthOf_118 : decode cX5_worthOf 118 = .ok (.iload 4, 2) := by decide +kernel
theorem dX5_worthOf_120 : decode cX5_worthOf 120 = .ok (.ireturn, 1) := by decide +kernel
theorem dX5_costOf_0 : decode cX5_costOf 0 = .ok (.iconst 2, 1) := by decide +kernel
theorem dX5_costOf_1 : decode cX5_costOf 1 = .ok (.istore_n 2, 1) := by decide +kernel
theorem dX5_costOf_2 : decode cX5_costOf 2 = .ok (.iload_n 2, 1) := by decide +kernel
theorem dX5_costOf_3 : decode cX5_costOf 3 = .ok (.iconst 4, 1) := by decide +kernel
theorem dX5_costOf_4 : decode cX5_costOf 4 = .ok (.iadd, 1) := by decide +kernel
theorem dX5_costOf_5 : decode cX5_costOf 5 = .ok (.istore_n 3, 1) := by decide +kernel
theorem dX5_costOf_6 : decode cX5_costOf 6 = .ok (.iload_n 3, 1) := by decide +kernel
theorem dX5_costOf_7 : decode cX5_costOf 7 = .ok (.iconst 2, 1) := by decide +kernel
theorem dX5_costOf_8 : decode cX5_costOf 8 = .ok (.idiv, 1) := by decide +kernel
theorem dX5_costOf_9 : decode cX5_costOf 9 = .ok (.istore 4, 2) := by decide +kernel
theorem dX5_costOf_11 : decode cX5_costOf 11 = .ok (.iconst 1, 1) := by decide +kernel
theorem dX5_costOf_12 : decode cX5_costOf 12 = .ok (.istore 5, 2) := by decide +kernel
theorem dX5_costOf_14 : decode cX5_costOf 14 = .ok (.iload_n 0, 1) := by decide +kernel
theorem dX5_costOf_15 : decode cX5_costOf 15 = .ok (.tableswitch 65 1 7 #[41, 45, 47, 50, 55, 57, 60], 41) := by decide +kernel
theorem dX5_costOf_56 : decode cX5_costOf 56 = .ok (.iload_n 2, 1) := by decide +kernel
theorem dX5_costOf_57 : decode cX5_costOf 57 = .ok (.iload_n 1, 1) := by decide +kernel
theorem dX5_costOf_58 : decode cX5_costOf 58 = .ok (.iadd, 1) := by decide +kernel
theorem dX5_costOf_59 : decode cX5_costOf 59 = .ok (.ireturn, 1) := by decide +kernel
theorem dX5_costOf_60 : decode cX5_costOf 60 = .ok (.iload_n 3, 1) := by decide +kernel
theorem dX5_costOf_61 : decode cX5_costOf 61 = .ok (.ireturn, 1) := by decide +kernel
theorem dX5_costOf_62 : decode cX5_costOf 62 = .ok (.iload 5, 2) := by decide +kernel
theorem dX5_costOf_64 : decode cX5_costOf 64 = .ok (.ireturn, 1) := by decide +kernel
theorem dX5_costOf_65 : decode cX5_costOf 65 = .ok (.iload 5, 2) := by decide +kernel
theorem dX5_costOf_67 : decode cX5_costOf 67 = .ok (.iconst 5, 1) := by decide +kernel
theorem dX5_costOf_68 : decode cX5_costOf 68 = .ok (.iadd, 1) := by decide +kernel
theorem dX5_costOf_69 : decode cX5_costOf 69 = .ok (.ireturn, 1) := by decide +kernel
theorem dX5_costOf_70 : decode cX5_costOf 70 = .ok (.iconst 0, 1) := by decide +kernel
theorem dX5_costOf_71 : decode cX5_costOf 71 = .ok (.ireturn, 1) := by decide +kernel
theorem dX5_costOf_72 : decode cX5_costOf 72 = .ok (.iload 4, 2) := by decide +kernel
theorem dX5_costOf_74 : decode cX5_costOf 74 = .ok (.ireturn, 1) := by decide +kernel
theorem dX5_costOf_75 : decode cX5_costOf 75 = .ok (.iload 4, 2) := by decide +kernel
theorem dX5_costOf_77 : decode cX5_costOf 77 = .ok (.iload_n 1, 1) := by decide +kernel
theorem dX5_costOf_78 : decode cX5_costOf 78 = .ok (.iadd, 1) := by decide +kernel
theorem dX5_costOf_79 : decode cX5_costOf 79 = .ok (.ireturn, 1) := by decide +kernel
theorem dX5_costOf_80 : decode cX5_costOf 80 = .ok (.iload_n 2, 1) := by decide +kernel
theorem dX5_costOf_81 : decode cX5_costOf 81 = .ok (.ireturn, 1) := by decide +kernel
theorem dX5_fail_0 : decode cX5_fail 0 = .ok (.iload_n 1, 1) := by decide +kernel
theorem dX5_fail_1 : decode cX5_fail 1 = .ok (.ifCond .eq 13, 3) := by decide +kernel
theorem dX5_fail_4 : decode cX5_fail 4 = .ok (.iload_n 0, 1) := by decide +kernel
theorem dX5_fail_5 : decode cX5_fail 5 = .ok (.iconst 3, 1) := by decide +kernel
theorem dX5_fail_6 : decode cX5_fail 6 = .ok (.if_icmp .eq 8, 3) := by decide +kernel
theorem dX5_fail_9 : decode cX5_fail 9 = .ok (.iload_n 0, 1) := by decide +kernel
theorem dX5_fail_10 : decode cX5_fail 10 = .ok (.iconst 4, 1) := by decide +kernel
theorem dX5_fail_11 : decode cX5_fail 11 = .ok (.if_icmp .ne 4, 3) := by decide +kernel
theorem dX5_fail_14 : decode cX5_fail 14 = .ok (.return_, 1) := by decide +kernel
theorem dX5_fail_15 : decode cX5_fail 15 = .ok (.iload_n 0, 1) := by decide +kernel
theorem dX5_fail_16 : decode cX5_fail 16 = .ok (.bipush 7, 2) := by decide +kernel
theorem dX5_fail_18 : decode cX5_fail 18 = .ok (.if_icmp .ne 14, 3) := by decide +kernel
theorem dX5_fail_21 : decode cX5_fail 21 = .ok (.new 330, 3) := by decide +kernel
theorem dX5_fail_24 : decode cX5_fail 24 = .ok (.dup, 1) := by decide +kernel
theorem dX5_fail_25 : decode cX5_fail 25 = .ok (.ldc_w 332, 3) := by decide +kernel
theorem dX5_fail_28 : decode cX5_fail 28 = .ok (.invokespecial 334, 3) := by decide +kernel
theorem dX5_fail_31 : decode cX5_fail 31 = .ok (.athrow, 1) := by decide +kernel
theorem dX5_fail_32 : decode cX5_fail 32 = .ok (.iload_n 0, 1) := by decide +kernel
theorem dX5_fail_33 : decode cX5_fail 33 = .ok (.iconst 2, 1) := by decide +kernel
theorem dX5_fail_34 : decode cX5_fail 34 = .ok (.if_icmp .eq 9, 3) := by decide +kernel
theorem dX5_fail_37 : decode cX5_fail 37 = .ok (.iload_n 0, 1) := by decide +kernel
theorem dX5_fail_38 : decode cX5_fail 38 = .ok (.bipush 6, 2) := by decide +kernel
theorem dX5_fail_40 : decode cX5_fail 40 = .ok (.if_icmp .ne 14, 3) := by decide +kernel
theorem dX5_fail_43 : decode cX5_fail 43 = .ok (.new 308, 3) := by decide +kernel
theorem dX5_fail_46 : decode cX5_fail 46 = .ok (.dup, 1) := by decide +kernel
theorem dX5_fail_47 : decode cX5_fail 47 = .ok (.ldc_w 335, 3) := by decide +kernel
theorem dX5_fail_50 : decode cX5_fail 50 = .ok (.invokespecial 312, 3) := by decide +kernel
theorem dX5_fail_53 : decode cX5_fail 53 = .ok (.athrow, 1) := by decide +kernel
theorem dX5_fail_54 : decode cX5_fail 54 = .ok (.new 301, 3) := by decide +kernel
theorem dX5_fail_57 : decode cX5_fail 57 = .ok (.dup, 1) := by decide +kernel
theorem dX5_fail_58 : decode cX5_fail 58 = .ok (.ldc_w 337, 3) := by decide +kernel
theorem dX5_fail_61 : decode cX5_fail 61 = .ok (.invokespecial 305, 3) := by decide +kernel
theorem dX5_fail_64 : decode cX5_fail 64 = .ok (.athrow, 1) := by decide +kernel
theorem dX5_isKind_0 : decode cX5_isKind 0 = .ok (.iload_n 0, 1) := by decide +kernel
theorem dX5_isKind_1 : decode cX5_isKind 1 = .ok (.ifCond .lt 13, 3) := by decide +kernel
theorem dX5_isKind_4 : decode cX5_isKind 4 = .ok (.iload_n 0, 1) := by decide +kernel
theorem dX5_isKind_5 : decode cX5_isKind 5 = .ok (.bipush 7, 2) := by decide +kernel
theorem dX5_isKind_7 : decode cX5_isKind 7 = .ok (.if_icmp .gt 7, 3) := by decide +kernel
theorem dX5_isKind_10 : decode cX5_isKind 10 = .ok (.iconst 1, 1) := by decide +kernel
theorem dX5_isKind_11 : decode cX5_isKind 11 = .ok (.goto 4, 3) := by decide +kernel
theorem dX5_isKind_14 : decode cX5_isKind 14 = .ok (.iconst 0, 1) := by decide +kernel
theorem dX5_isKind_15 : decode cX5_isKind 15 = .ok (.ireturn, 1) := by decide +kernel
theorem dX5_isFigure_0 : decode cX5_isFigure 0 = .ok (.iload_n 0, 1) := by decide +kernel
theorem dX5_isFigure_1 : decode cX5_isFigure 1 = .ok (.ifCond .lt 13, 3) := by decide +kernel
theorem dX5_isFigure_4 : decode cX5_isFigure 4 = .ok (.iload_n 0, 1) := by decide +kernel
theorem dX5_isFigure_5 : decode cX5_isFigure 5 = .ok (.bipush 10, 2) := by decide +kernel
theorem dX5_isFigure_7 : decode cX5_isFigure 7 = .ok (.if_icmp .ge 7, 3) := by decide +kernel
theorem dX5_isFigure_10 : decode cX5_isFigure 10 = .ok (.iconst 1, 1) := by decide +kernel
theorem dX5_isFigure_11 : decode cX5_isFigure 11 = .ok (.goto 4, 3) := by decide +kernel
theorem dX5_isFigure_14 : decode cX5_isFigure 14 = .ok (.iconst 0, 1) := by decide +kernel
theorem dX5_isFigure_15 : decode cX5_isFigure 15 = .ok (.ireturn, 1) := by decide +kernel
theorem dX5_has_0 : decode cX5_has 0 = .ok (.iload_n 0, 1) := by decide +kernel
theorem dX5_has_1 : decode cX5_has 1 = .ok (.iload_n 1, 1) := by decide +kernel
theorem dX5_has_2 : decode cX5_has 2 = .ok (.ishr, 1) := by decide +kernel
theorem dX5_has_3 : decode cX5_has 3 = .ok (.iconst 1, 1) := by decide +kernel
theorem dX5_has_4 : decode cX5_has 4 = .ok (.iand, 1) := by decide +kernel
theorem dX5_has_5 : decode cX5_has 5 = .ok (.iconst 1, 1) := by decide +kernel
theorem dX5_has_6 : decode cX5_has 6 = .ok (.if_icmp .ne 7, 3) := by decide +kernel
theorem dX5_has_9 : decode cX5_has 9 = .ok (.iconst 1, 1) := by decide +kernel
theorem dX5_has_10 : decode cX5_has 10 = .ok (.goto 4, 3) := by decide +kernel
theorem dX5_has_13 : decode cX5_has 13 = .ok (.iconst 0, 1) := by decide +kernel
theorem dX5_has_14 : decode cX5_has 14 = .ok (.ireturn, 1) := by decide +kernel
theorem dX5_isShelf_0 : decode cX5_isShelf 0 = .ok (.iload_n 0, 1) := by decide +kernel
theorem dX5_isShelf_1 : decode cX5_isShelf 1 = .ok (.ifCond .lt 13, 3) := by decide +kernel
theorem dX5_isShelf_4 : decode cX5_isShelf 4 = .ok (.iload_n 0, 1) := by decide +kernel
theorem dX5_isShelf_5 : decode cX5_isShelf 5 = .ok (.bipush 8, 2) := by decide +kernel
theorem dX5_isShelf_7 : decode cX5_isShelf 7 = .ok (.if_icmp .ge 7, 3) := by decide +kernel
theorem dX5_isShelf_10 : decode cX5_isShelf 10 = .ok (.iconst 1, 1) := by decide +kernel
theorem dX5_isShelf_11 : decode cX5_isShelf 11 = .ok (.goto 4, 3) := by decide +kernel
theorem dX5_isShelf_14 : decode cX5_isShelf 14 = .ok (.iconst 0, 1) := by decide +kernel
theorem dX5_isShelf_15 : decode cX5_isShelf 15 = .ok (.ireturn, 1) := by decide +kernel
set_option maxRecDepth 20000 in
theorem ggX5_tellsSames_X5_isKind : GoodIn wsX5_tellsSames wsX5_isKind := goodIn_r _ [6] (by decide +kernel) (by decide +kernel)
set_option maxRecDepth 20000 in
theorem gX5_tellsSames_X5_isKind : GoodIn wsX5_tellsSames (va_wsS RX5 283 yX5_isKind wsX5_isKind) := goodIn_app (goodIn_of _ (by decide +kernel)) ggX5_tellsSames_X5_isKind
theorem dX5_tellsSames_0 : decode cX5_tellsSames 0 = .ok (.aload_n 0, 1) := by decide +kernel
theorem dX5_tellsSames_1 : decode cX5_tellsSames 1 = .ok (.getfield 70, 3) := by decide +kernel
theorem dX5_tellsSames_4 : decode cX5_tellsSames 4 = .ok (.iconst 3, 1) := by decide +kernel
theorem dX5_tellsSames_5 : decode cX5_tellsSames 5 = .ok (.irem, 1) := by decide +kernel
theorem dX5_tellsSames_6 : decode cX5_tellsSames 6 = .ok (.ifCond .eq 5, 3) := by decide +kernel
theorem dX5_tellsSames_9 : decode cX5_tellsSames 9 = .ok (.iconst 0, 1) := by decide +kernel
theorem dX5_tellsSames_10 : decode cX5_tellsSames 10 = .ok (.ireturn, 1) := by decide +kernel
theorem dX5_tellsSames_11 : decode cX5_tellsSames 11 = .ok (.iconst 0, 1) := by decide +kernel
theorem dX5_tellsSames_12 : decode cX5_tellsSames 12 = .ok (.istore_n 1, 1) := by decide +kernel
theorem dX5_tellsSames_13 : decode cX5_tellsSames 13 = .ok (.iload_n 1, 1) := by decide +kernel
theorem dX5_tellsSames_14 : decode cX5_tellsSames 14 = .ok (.iconst 2, 1) := by decide +kernel
theorem dX5_tellsSames_15 : decode cX5_tellsSames 15 = .ok (.iadd, 1) := by decide +kernel
theorem dX5_tellsSames_16 : decode cX5_tellsSames 16 = .ok (.aload_n 0, 1) := by decide +kernel
theorem dX5_tellsSames_17 : decode cX5_tellsSames 17 = .ok (.getfield 70, 3) := by decide +kernel
theorem dX5_tellsSames_20 : decode cX5_tellsSames 20 = .ok (.if_icmp .ge 55, 3) := by decide +kernel
theorem dX5_tellsSames_23 : decode cX5_tellsSames 23 = .ok (.aload_n 0, 1) := by decide +kernel
theorem dX5_tellsSames_24 : decode cX5_tellsSames 24 = .ok (.getfield 77, 3) := by decide +kernel
theorem dX5_tellsSames_27 : decode cX5_tellsSames 27 = .ok (.iload_n 1, 1) := by decide +kernel
theorem dX5_tellsSames_28 : decode cX5_tellsSames 28 = .ok (.iconst 2, 1) := by decide +kernel
theorem dX5_tellsSames_29 : decode cX5_tellsSames 29 = .ok (.iadd, 1) := by decide +kernel
theorem dX5_tellsSames_30 : decode cX5_tellsSames 30 = .ok (.iaload, 1) := by decide +kernel
theorem dX5_tellsSames_31 : decode cX5_tellsSames 31 = .ok (.istore_n 2, 1) := by decide +kernel
theorem dX5_tellsSames_32 : decode cX5_tellsSames 32 = .ok (.aload_n 0, 1) := by decide +kernel
theorem dX5_tellsSames_33 : decode cX5_tellsSames 33 = .ok (.getfield 77, 3) := by decide +kernel
theorem dX5_tellsSames_36 : decode cX5_tellsSames 36 = .ok (.iload_n 1, 1) := by decide +kernel
theorem dX5_tellsSames_37 : decode cX5_tellsSames 37 = .ok (.iaload, 1) := by decide +kernel
theorem dX5_tellsSames_38 : decode cX5_tellsSames 38 = .ok (.invokestatic 283, 3) := by decide +kernel
theorem dX5_tellsSames_41 : decode cX5_tellsSames 41 = .ok (.ifCond .eq 26, 3) := by decide +kernel
theorem dX5_tellsSames_44 : decode cX5_tellsSames 44 = .ok (.aload_n 0, 1) := by decide +kernel
theorem dX5_tellsSames_45 : decode cX5_tellsSames 45 = .ok (.getfield 77, 3) := by decide +kernel
theorem dX5_tellsSames_48 : decode cX5_tellsSames 48 = .ok (.iload_n 1, 1) := by decide +kernel
theorem dX5_tellsSames_49 : decode cX5_tellsSames 49 = .ok (.iconst 1, 1) := by decide +kernel
theorem dX5_tellsSames_50 : decode cX5_tellsSames 50 = .ok (.iadd, 1) := by decide +kernel
theorem dX5_tellsSames_51 : decode cX5_tellsSames 51 = .ok (.iaload, 1) := by decide +kernel
theorem dX5_tellsSames_52 : decode cX5_tellsSames 52 = .ok (.invokestatic 283, 3) := by decide +kernel
theorem dX5_tellsSames_55 : decode cX5_tellsSames 55 = .ok (.ifCond .eq 12, 3) := by decide +kernel
theorem dX5_tellsSames_58 : decode cX5_tellsSames 58 = .ok (.iload_n 2, 1) := by decide +kernel
theorem dX5_tellsSames_59 : decode cX5_tellsSames 59 = .ok (.ifCond .lt 8, 3) := by decide +kernel
theorem dX5_tellsSames_62 : decode cX5_tellsSames 62 = .ok (.iload_n 2, 1) := by decide +kernel
theorem dX5_tellsSames_63 : decode cX5_tellsSames 63 = .ok (.iconst 1, 1) := by decide +kernel
theorem dX5_tellsSames_64 : decode cX5_tellsSames 64 = .ok (.if_icmp .le 5, 3) := by decide +kernel
theorem dX5_tellsSames_67 : decode cX5_tellsSames 67 = .ok (.iconst 0, 1) := by decide +kernel
theorem dX5_tellsSames_68 : decode cX5_tellsSames 68 = .ok (.ireturn, 1) := by decide +kernel
theorem dX5_tellsSames_69 : decode cX5_tellsSames 69 = .ok (.iinc 1 3, 3) := by decide +kernel
theorem dX5_tellsSames_72 : decode cX5_tellsSames 72 = .ok (.goto (-59), 3) := by decide +kernel
theorem dX5_tellsSames_75 : decode cX5_tellsSames 75 = .ok (.iconst 1, 1) := by decide +kernel
theorem dX5_tellsSames_76 : decode cX5_tellsSames 76 = .ok (.ireturn, 1) := by decide +kernel
set_option maxRecDepth 20000 in
theorem ggX5_tellsGoods_X4_isGoods : GoodIn wsX5_tellsGoods wsX4_isGoods := goodIn_r _ [8, 9, 25, 26, 27, 28, 29, 30, 31, 32, 33, 34, 35, 36, 37] (by decide +kernel) (by decide +kernel)
set_option maxRecDepth 20000 in
theorem gX5_tellsGoods_X4_isGoods : GoodIn wsX5_tellsGoods (wsV RX5 84 RX4 yX4_isGoods wsX4_isGoods) := goodIn_app (goodIn_of _ (by decide +kernel)) ggX5_tellsGoods_X4_isGoods
theorem dX5_tellsGoods_0 : decode cX5_tellsGoods 0 = .ok (.iconst 0, 1) := by decide +kernel
theorem dX5_tellsGoods_1 : decode cX5_tellsGoods 1 = .ok (.istore_n 2, 1) := by decide +kernel
theorem dX5_tellsGoods_2 : decode cX5_tellsGoods 2 = .ok (.iload_n 2, 1) := by decide +kernel
theorem dX5_tellsGoods_3 : decode cX5_tellsGoods 3 = .ok (.aload_n 1, 1) := by decide +kernel
theorem dX5_tellsGoods_4 : decode cX5_tellsGoods 4 = .ok (.getfield 70, 3) := by decide +kernel
theorem dX5_tellsGoods_7 : decode cX5_tellsGoods 7 = .ok (.if_icmp .ge 27, 3) := by decide +kernel
theorem dX5_tellsGoods_10 : decode cX5_tellsGoods 10 = .ok (.aload_n 0, 1) := by decide +kernel
theorem dX5_tellsGoods_11 : decode cX5_tellsGoods 11 = .ok (.getfield 10, 3) := by decide +kernel
theorem dX5_tellsGoods_14 : decode cX5_tellsGoods 14 = .ok (.aload_n 1, 1) := by decide +kernel
theorem dX5_tellsGoods_15 : decode cX5_tellsGoods 15 = .ok (.getfield 77, 3) := by decide +kernel
theorem dX5_tellsGoods_18 : decode cX5_tellsGoods 18 = .ok (.iload_n 2, 1) := by decide +kernel
theorem dX5_tellsGoods_19 : decode cX5_tellsGoods 19 = .ok (.iaload, 1) := by decide +kernel
theorem dX5_tellsGoods_20 : decode cX5_tellsGoods 20 = .ok (.invokevirtual 84, 3) := by decide +kernel
theorem dX5_tellsGoods_23 : decode cX5_tellsGoods 23 = .ok (.ifCond .ne 5, 3) := by decide +kernel
theorem dX5_tellsGoods_26 : decode cX5_tellsGoods 26 = .ok (.iconst 0, 1) := by decide +kernel
theorem dX5_tellsGoods_27 : decode cX5_tellsGoods 27 = .ok (.ireturn, 1) := by decide +kernel
theorem dX5_tellsGoods_28 : decode cX5_tellsGoods 28 = .ok (.iinc 2 1, 3) := by decide +kernel
theorem dX5_tellsGoods_31 : decode cX5_tellsGoods 31 = .ok (.goto (-29), 3) := by decide +kernel
theorem dX5_tellsGoods_34 : decode cX5_tellsGoods 34 = .ok (.iconst 1, 1) := by decide +kernel
theorem dX5_tellsGoods_35 : decode cX5_tellsGoods 35 = .ok (.ireturn, 1) := by decide +kernel
set_option maxRecDepth 20000 in
theorem ggX5_badPlace_X5_digitsBehind : GoodIn wsX5_badPlace wsX5_digitsBehind := goodIn_r _ [6] (by decide +kernel) (by decide +kernel)
set_option maxRecDepth 20000 in
theorem gX5_badPlace_X5_digitsBehind : GoodIn wsX5_badPlace (va_wsS RX5 81 yX5_digitsBehind wsX5_digitsBehind) := goodIn_app (goodIn_of _ (by decide +kernel)) ggX5_badPlace_X5_digitsBehind
set_option maxRecDepth 20000 in
theorem ggX5_badPlace_X5_isDigit : GoodIn wsX5_badPlace wsX5_isDigit := goodIn_r _ [9] (by decide +kernel) (by decide +kernel)
set_option maxRecDepth 20000 in
theorem gX5_badPlace_X5_isDigit : GoodIn wsX5_badPlace (va_wsS RX5 339 yX5_isDigit wsX5_isDigit) := goodIn_app (goodIn_of _ (by decide +kernel)) ggX5_badPlace_X5_isDigit
theorem dX5_badPlace_0 : decode cX5_badPlace 0 = .ok (.aload_n 0, 1) := by decide +kernel
theorem dX5_badPlace_1 : decode cX5_badPlace 1 = .ok (.getfield 70, 3) := by decide +kernel
theorem dX5_badPlace_4 : decode cX5_badPlace 4 = .ok (.ifCond .ne 5, 3) := by decide +kernel
theorem dX5_badPlace_7 : decode cX5_badPlace 7 = .ok (.iconst 0, 1) := by decide +kernel
theorem dX5_badPlace_8 : decode cX5_badPlace 8 = .ok (.ireturn, 1) := by decide +kernel
theorem dX5_badPlace_9 : decode cX5_badPlace 9 = .ok (.iconst 0, 1) := by decide +kernel
theorem dX5_badPlace_10 : decode cX5_badPlace 10 = .ok (.istore_n 1, 1) := by decide +kernel
theorem dX5_badPlace_11 : decode cX5_badPlace 11 = .ok (.iload_n 1, 1) := by decide +kernel
theorem dX5_badPlace_12 : decode cX5_badPlace 12 = .ok (.aload_n 0, 1) := by decide +kernel
theorem dX5_badPlace_13 : decode cX5_badPlace 13 = .ok (.getfield 70, 3) := by decide +kernel
theorem dX5_badPlace_16 : decode cX5_badPlace 16 = .ok (.if_icmp .ge 109, 3) := by decide +kernel
theorem dX5_badPlace_19 : decode cX5_badPlace 19 = .ok (.aload_n 0, 1) := by decide +kernel
theorem dX5_badPlace_20 : decode cX5_badPlace 20 = .ok (.getfield 77, 3) := by decide +kernel
theorem dX5_badPlace_23 : decode cX5_badPlace 23 = .ok (.iload_n 1, 1) := by decide +kernel
theorem dX5_badPlace_24 : decode cX5_badPlace 24 = .ok (.iaload, 1) := by decide +kernel
theorem dX5_badPlace_25 : decode cX5_badPlace 25 = .ok (.invokestatic 81, 3) := by decide +kernel
theorem dX5_badPlace_28 : decode cX5_badPlace 28 = .ok (.istore_n 2, 1) := by decide +kernel
theorem dX5_badPlace_29 : decode cX5_badPlace 29 = .ok (.iload_n 2, 1) := by decide +kernel
theorem dX5_badPlace_30 : decode cX5_badPlace 30 = .ok (.ifCond .ne 5, 3) := by decide +kernel
theorem dX5_badPlace_33 : decode cX5_badPlace 33 = .ok (.iload_n 1, 1) := by decide +kernel
theorem dX5_badPlace_34 : decode cX5_badPlace 34 = .ok (.ireturn, 1) := by decide +kernel
theorem dX5_badPlace_35 : decode cX5_badPlace 35 = .ok (.iload_n 1, 1) := by decide +kernel
theorem dX5_badPlace_36 : decode cX5_badPlace 36 = .ok (.iload_n 2, 1) := by decide +kernel
theorem dX5_badPlace_37 : decode cX5_badPlace 37 = .ok (.iadd, 1) := by decide +kernel
theorem dX5_badPlace_38 : decode cX5_badPlace 38 = .ok (.iconst 1, 1) := by decide +kernel
theorem dX5_badPlace_39 : decode cX5_badPlace 39 = .ok (.iadd, 1) := by decide +kernel
theorem dX5_badPlace_40 : decode cX5_badPlace 40 = .ok (.istore_n 3, 1) := by decide +kernel
theorem dX5_badPlace_41 : decode cX5_badPlace 41 = .ok (.iload_n 1, 1) := by decide +kernel
theorem dX5_badPlace_42 : decode cX5_badPlace 42 = .ok (.iconst 1, 1) := by decide +kernel
theorem dX5_badPlace_43 : decode cX5_badPlace 43 = .ok (.iadd, 1) := by decide +kernel
theorem dX5_badPlace_44 : decode cX5_badPlace 44 = .ok (.istore 4, 2) := by decide +kernel
theorem dX5_badPlace_46 : decode cX5_badPlace 46 = .ok (.iload 4, 2) := by decide +kernel
theorem dX5_badPlace_48 : decode cX5_badPlace 48 = .ok (.iload_n 3, 1) := by decide +kernel
theorem dX5_badPlace_49 : decode cX5_badPlace 49 = .ok (.if_icmp .gt 69, 3) := by decide +kernel
theorem dX5_badPlace_52 : decode cX5_badPlace 52 = .ok (.iload 4, 2) := by decide +kernel
theorem dX5_badPlace_54 : decode cX5_badPlace 54 = .ok (.aload_n 0, 1) := by decide +kernel
theorem dX5_badPlace_55 : decode cX5_badPlace 55 = .ok (.getfield 70, 3) := by decide +kernel
theorem dX5_badPlace_58 : decode cX5_badPlace 58 = .ok (.if_icmp .lt 8, 3) := by decide +kernel
theorem dX5_badPlace_61 : decode cX5_badPlace 61 = .ok (.aload_n 0, 1) := by decide +kernel
theorem dX5_badPlace_62 : decode cX5_badPlace 62 = .ok (.getfield 70, 3) := by decide +kernel
theorem dX5_badPlace_65 : decode cX5_badPlace 65 = .ok (.ireturn, 1) := by decide +kernel
theorem dX5_badPlace_66 : decode cX5_badPlace 66 = .ok (.iload 4, 2) := by decide +kernel
theorem dX5_badPlace_68 : decode cX5_badPlace 68 = .ok (.iload_n 3, 1) := by decide +kernel
theorem dX5_badPlace_69 : decode cX5_badPlace 69 = .ok (.if_icmp .ge 16, 3) := by decide +kernel
theorem dX5_badPlace_72 : decode cX5_badPlace 72 = .ok (.aload_n 0, 1) := by decide +kernel
theorem dX5_badPlace_73 : decode cX5_badPlace 73 = .ok (.getfield 77, 3) := by decide +kernel
theorem dX5_badPlace_76 : decode cX5_badPlace 76 = .ok (.iload 4, 2) := by decide +kernel
theorem dX5_badPlace_78 : decode cX5_badPlace 78 = .ok (.iaload, 1) := by decide +kernel
theorem dX5_badPlace_79 : decode cX5_badPlace 79 = .ok (.invokestatic 339, 3) := by decide +kernel
theorem dX5_badPlace_82 : decode cX5_badPlace 82 = .ok (.goto 20, 3) := by decide +kernel
theorem dX5_badPlace_85 : decode cX5_badPlace 85 = .ok (.aload_n 0, 1) := by decide +kernel
theorem dX5_badPlace_86 : decode cX5_badPlace 86 = .ok (.getfield 77, 3) := by decide +kernel
theorem dX5_badPlace_89 : decode cX5_badPlace 89 = .ok (.iload 4, 2) := by decide +kernel
theorem dX5_badPlace_91 : decode cX5_badPlace 91 = .ok (.iaload, 1) := by decide +kernel
theorem dX5_badPlace_92 : decode cX5_badPlace 92 = .ok (.bipush 59, 2) := by decide +kernel
theorem dX5_badPlace_94 : decode cX5_badPlace 94 = .ok (.if_icmp .ne 7, 3) := by decide +kernel
theorem dX5_badPlace_97 : decode cX5_badPlace 97 = .ok (.iconst 1, 1) := by decide +kernel
theorem dX5_badPlace_98 : decode cX5_badPlace 98 = .ok (.goto 4, 3) := by decide +kernel
theorem dX5_badPlace_101 : decode cX5_badPlace 101 = .ok (.iconst 0, 1) := by decide +kernel
theorem dX5_badPlace_102 : decode cX5_badPlace 102 = .ok (.istore 5, 2) := by decide +kernel
theorem dX5_badPlace_104 : decode cX5_badPlace 104 = .ok (.iload 5, 2) := by decide +kernel
theorem dX5_badPlace_106 : decode cX5_badPlace 106 = .ok (.ifCond .ne 6, 3) := by decide +kernel
theorem dX5_badPlace_109 : decode cX5_badPlace 109 = .ok (.iload 4, 2) := by decide +kernel
theorem dX5_badPlace_111 : decode cX5_badPlace 111 = .ok (.ireturn, 1) := by decide +kernel
theorem dX5_badPlace_112 : decode cX5_badPlace 112 = .ok (.iinc 4 1, 3) := by decide +kernel
theorem dX5_badPlace_115 : decode cX5_badPlace 115 = .ok (.goto (-69), 3) := by decide +kernel
theorem dX5_badPlace_118 : decode cX5_badPlace 118 = .ok (.iload_n 3, 1) := by decide +kernel
theorem dX5_badPlace_119 : decode cX5_badPlace 119 = .ok (.iconst 1, 1) := by decide +kernel
theorem dX5_badPlace_120 : decode cX5_badPlace 120 = .ok (.iadd, 1) := by decide +kernel
theorem dX5_badPlace_121 : decode cX5_badPlace 121 = .ok (.istore_n 1, 1) := by decide +kernel
theorem dX5_badPlace_122 : decode cX5_badPlace 122 = .ok (.goto (-111), 3) := by decide +kernel
theorem dX5_badPlace_125 : decode cX5_badPlace 125 = .ok (.iconst (-1), 1) := by decide +kernel
theorem dX5_badPlace_126 : decode cX5_badPlace 126 = .ok (.ireturn, 1) := by decide +kernel
theorem dX5_digitsBehind_0 : decode cX5_digitsBehind 0 = .ok (.iload_n 0, 1) := by decide +kernel
theorem dX5_digitsBehind_1 : decode cX5_digitsBehind 1 = .ok (.lookupswitch 57 #[(103, 55), (108, 53), (112, 51), (115, 53), (119, 53)], 51) := by decide +kernel
theorem dX5_digitsBehind_52 : decode cX5_digitsBehind 52 = .ok (.iconst 1, 1) := by decide +kernel
theorem dX5_digitsBehind_53 : decode cX5_digitsBehind 53 = .ok (.ireturn, 1) := by decide +kernel
theorem dX5_digitsBehind_54 : decode cX5_digitsBehind 54 = .ok (.iconst 2, 1) := by decide +kernel
theorem dX5_digitsBehind_55 : decode cX5_digitsBehind 55 = .ok (.ireturn, 1) := by decide +kernel
theorem dX5_digitsBehind_56 : decode cX5_digitsBehind 56 = .ok (.iconst 3, 1) := by decide +kernel
theorem dX5_digitsBehind_57 : decode cX5_digitsBehind 57 = .ok (.ireturn, 1) := by decide +kernel
theorem dX5_digitsBehind_58 : decode cX5_digitsBehind 58 = .ok (.iconst 0, 1) := by decide +kernel
theorem dX5_digitsBehind_59 : decode cX5_digitsBehind 59 = .ok (.ireturn, 1) := by decide +kernel
theorem dX5_isDigit_0 : decode cX5_isDigit 0 = .ok (.iload_n 0, 1) := by decide +kernel
theorem dX5_isDigit_1 : decode cX5_isDigit 1 = .ok (.bipush 48, 2) := by decide +kernel
theorem dX5_isDigit_3 : decode cX5_isDigit 3 = .ok (.if_icmp .lt 13, 3) := by decide +kernel
theorem dX5_isDigit_6 : decode cX5_isDigit 6 = .ok (.iload_n 0, 1) := by decide +kernel
theorem dX5_isDigit_7 : decode cX5_isDigit 7 = .ok (.bipush 57, 2) := by decide +kernel
theorem dX5_isDigit_9 : decode cX5_isDigit 9 = .ok (.if_icmp .gt 7, 3) := by decide +kernel
theorem dX5_isDigit_12 : decode cX5_isDigit 12 = .ok (.iconst 1, 1) := by decide +kernel
theorem dX5_isDigit_13 : decode cX5_isDigit 13 = .ok (.goto 4, 3) := by decide +kernel
theorem dX5_isDigit_16 : decode cX5_isDigit 16 = .ok (.iconst 0, 1) := by decide +kernel
theorem dX5_isDigit_17 : decode cX5_isDigit 17 = .ok (.ireturn, 1) := by decide +kernel
set_option maxRecDepth 20000 in
theorem ggX5_perform_X1_digit : GoodIn wsX5_perform wsX1_digit := goodIn_r _ [7, 8, 9, 10, 11, 6, 12, 13, 100, 101, 102, 103, 104, 105] (by decide +kernel) (by decide +kernel)
set_option maxRecDepth 20000 in
theorem gX5_perform_X1_digit : GoodIn wsX5_perform (wsV RX5 342 RX1 yX1_digit wsX1_digit) := goodIn_app (goodIn_of _ (by decide +kernel)) ggX5_perform_X1_digit
set_option maxRecDepth 20000 in
theorem ggX5_perform_X4_addPerson : GoodIn wsX5_perform wsX4_addPerson := goodIn_r _ [18, 19, 20, 115, 116, 117, 118, 119, 120, 121, 122, 123, 124, 125, 126, 127] (by decide +kernel) (by decide +kernel)
set_option maxRecDepth 20000 in
theorem gX5_perform_X4_addPerson : GoodIn wsX5_perform (wsV RX5 130 RX4 yX4_addPerson wsX4_addPerson) := goodIn_app (goodIn_of _ (by decide +kernel)) ggX5_perform_X4_addPerson
set_option maxRecDepth 20000 in
theorem ggX5_perform_X4_addGoods : GoodIn wsX5_perform wsX4_addGoods := goodIn_r _ [24, 25, 26, 27, 28, 29, 30, 31, 32, 33, 34, 35, 36, 17, 37, 19, 115, 116, 117, 118, 119, 120, 121, 122, 123, 124, 125, 126, 127] (by decide +kernel) (by decide +kernel)
set_option maxRecDepth 20000 in
theorem gX5_perform_X4_addGoods : GoodIn wsX5_perform (wsV RX5 139 RX4 yX4_addGoods wsX4_addGoods) := goodIn_app (goodIn_of _ (by decide +kernel)) ggX5_perform_X4_addGoods
set_option maxRecDepth 20000 in
theorem ggX5_perform_X4_addLoan : GoodIn wsX5_perform wsX4_addLoan := goodIn_r _ [41, 28, 42, 43, 44, 45, 46, 47, 48, 49, 17, 50, 25, 34, 35, 36, 37, 19, 115, 116, 117, 118, 119, 120, 121, 122, 123, 124, 125, 126, 127] (by decide +kernel) (by decide +kernel)
set_option maxRecDepth 20000 in
theorem gX5_perform_X4_addLoan : GoodIn wsX5_perform (wsV RX5 143 RX4 yX4_addLoan wsX4_addLoan) := goodIn_app (goodIn_of _ (by decide +kernel)) ggX5_perform_X4_addLoan
set_option maxRecDepth 20000 in
theorem ggX5_perform_X4_liken : GoodIn wsX5_perform wsX4_liken := goodIn_r _ [54, 55, 29, 30, 31, 115, 116, 117, 118, 119, 120, 121, 122, 123, 124, 125, 126, 127] (by decide +kernel) (by decide +kernel)
set_option maxRecDepth 20000 in
theorem gX5_perform_X4_liken : GoodIn wsX5_perform (wsV RX5 159 RX4 yX4_liken wsX4_liken) := goodIn_app (goodIn_of _ (by decide +kernel)) ggX5_perform_X4_liken
set_option maxRecDepth 20000 in
theorem ggX5_perform_X4_passWeeks : GoodIn wsX5_perform wsX4_passWeeks := goodIn_r _ [59, 60, 46, 61, 62, 63, 17, 64, 42, 44, 65, 66, 67, 68, 43, 45, 69, 30, 70, 71, 72, 73, 74, 25, 28, 75, 76, 77, 78, 20, 26, 27, 55, 79, 80, 81, 82, 83, 84, 85, 86, 87, 88, 89, 90, 91, 92, 93, 94, 95, 96, 97, 98, 99, 115, 116, 117, 118, 119, 120, 121, 122, 123, 124, 125, 126, 127] (by decide +kernel) (by decide +kernel)
set_option maxRecDepth 20000 in
theorem gX5_perform_X4_passWeeks : GoodIn wsX5_perform (wsV RX5 162 RX4 yX4_passWeeks wsX4_passWeeks) := goodIn_app (goodIn_of _ (by decide +kernel)) ggX5_perform_X4_passWeeks
theorem dX5_perform_0 : decode cX5_perform 0 = .ok (.aload_n 1, 1) := by decide +kernel
theorem dX5_perform_1 : decode cX5_perform 1 = .ok (.iload_n 2, 1) := by decide +kernel
theorem dX5_perform_2 : decode cX5_perform 2 = .ok (.iconst 1, 1) := by decide +kernel
theorem dX5_perform_3 : decode cX5_perform 3 = .ok (.iadd, 1) := by decide +kernel
theorem dX5_perform_4 : decode cX5_perform 4 = .ok (.invokevirtual 342, 3) := by decide +kernel
theorem dX5_perform_7 : decode cX5_perform 7 = .ok (.istore_n 3, 1) := by decide +kernel
theorem dX5_perform_8 : decode cX5_perform 8 = .ok (.aload_n 1, 1) := by decide +kernel
theorem dX5_perform_9 : decode cX5_perform 9 = .ok (.iload_n 2, 1) := by decide +kernel
theorem dX5_perform_10 : decode cX5_perform 10 = .ok (.iconst 2, 1) := by decide +kernel
theorem dX5_perform_11 : decode cX5_perform 11 = .ok (.iadd, 1) := by decide +kernel
theorem dX5_perform_12 : decode cX5_perform 12 = .ok (.invokevirtual 342, 3) := by decide +kernel
theorem dX5_perform_15 : decode cX5_perform 15 = .ok (.istore 4, 2) := by decide +kernel
theorem dX5_perform_17 : decode cX5_perform 17 = .ok (.aload_n 1, 1) := by decide +kernel
theorem dX5_perform_18 : decode cX5_perform 18 = .ok (.getfield 77, 3) := by decide +kernel
theorem dX5_perform_21 : decode cX5_perform 21 = .ok (.iload_n 2, 1) := by decide +kernel
theorem dX5_perform_22 : decode cX5_perform 22 = .ok (.iaload, 1) := by decide +kernel
theorem dX5_perform_23 : decode cX5_perform 23 = .ok (.lookupswitch 90 #[(103, 50), (108, 68), (112, 41), (115, 79)], 41) := by decide +kernel
theorem dX5_perform_64 : decode cX5_perform 64 = .ok (.aload_n 0, 1) := by decide +kernel
theorem dX5_perform_65 : decode cX5_perform 65 = .ok (.getfield 16, 3) := by decide +kernel
theorem dX5_perform_68 : decode cX5_perform 68 = .ok (.iload_n 3, 1) := by decide +kernel
theorem dX5_perform_69 : decode cX5_perform 69 = .ok (.invokevirtual 130, 3) := by decide +kernel
theorem dX5_perform_72 : decode cX5_perform 72 = .ok (.ireturn, 1) := by decide +kernel
theorem dX5_perform_73 : decode cX5_perform 73 = .ok (.aload_n 0, 1) := by decide +kernel
theorem dX5_perform_74 : decode cX5_perform 74 = .ok (.getfield 16, 3) := by decide +kernel
theorem dX5_perform_77 : decode cX5_perform 77 = .ok (.iload_n 3, 1) := by decide +kernel
theorem dX5_perform_78 : decode cX5_perform 78 = .ok (.iload 4, 2) := by decide +kernel
theorem dX5_perform_80 : decode cX5_perform 80 = .ok (.aload_n 1, 1) := by decide +kernel
theorem dX5_perform_81 : decode cX5_perform 81 = .ok (.iload_n 2, 1) := by decide +kernel
theorem dX5_perform_82 : decode cX5_perform 82 = .ok (.iconst 3, 1) := by decide +kernel
theorem dX5_perform_83 : decode cX5_perform 83 = .ok (.iadd, 1) := by decide +kernel
theorem dX5_perform_84 : decode cX5_perform 84 = .ok (.invokevirtual 342, 3) := by decide +kernel
theorem dX5_perform_87 : decode cX5_perform 87 = .ok (.invokevirtual 139, 3) := by decide +kernel
theorem dX5_perform_90 : decode cX5_perform 90 = .ok (.ireturn, 1) := by decide +kernel
theorem dX5_perform_91 : decode cX5_perform 91 = .ok (.aload_n 0, 1) := by decide +kernel
theorem dX5_perform_92 : decode cX5_perform 92 = .ok (.getfield 16, 3) := by decide +kernel
theorem dX5_perform_95 : decode cX5_perform 95 = .ok (.iload_n 3, 1) := by decide +kernel
theorem dX5_perform_96 : decode cX5_perform 96 = .ok (.iload 4, 2) := by decide +kernel
theorem dX5_perform_98 : decode cX5_perform 98 = .ok (.invokevirtual 143, 3) := by decide +kernel
theorem dX5_perform_101 : decode cX5_perform 101 = .ok (.ireturn, 1) := by decide +kernel
theorem dX5_perform_102 : decode cX5_perform 102 = .ok (.aload_n 0, 1) := by decide +kernel
theorem dX5_perform_103 : decode cX5_perform 103 = .ok (.getfield 16, 3) := by decide +kernel
theorem dX5_perform_106 : decode cX5_perform 106 = .ok (.iload_n 3, 1) := by decide +kernel
theorem dX5_perform_107 : decode cX5_perform 107 = .ok (.iload 4, 2) := by decide +kernel
theorem dX5_perform_109 : decode cX5_perform 109 = .ok (.invokevirtual 159, 3) := by decide +kernel
theorem dX5_perform_112 : decode cX5_perform 112 = .ok (.ireturn, 1) := by decide +kernel
theorem dX5_perform_113 : decode cX5_perform 113 = .ok (.aload_n 0, 1) := by decide +kernel
theorem dX5_perform_114 : decode cX5_perform 114 = .ok (.getfield 16, 3) := by decide +kernel
theorem dX5_perform_117 : decode cX5_perform 117 = .ok (.bipush 10, 2) := by decide +kernel
theorem dX5_perform_119 : decode cX5_perform 119 = .ok (.iload_n 3, 1) := by decide +kernel
theorem dX5_perform_120 : decode cX5_perform 120 = .ok (.imul, 1) := by decide +kernel
theorem dX5_perform_121 : decode cX5_perform 121 = .ok (.iload 4, 2) := by decide +kernel
theorem dX5_perform_123 : decode cX5_perform 123 = .ok (.iadd, 1) := by decide +kernel
theorem dX5_perform_124 : decode cX5_perform 124 = .ok (.invokevirtual 162, 3) := by decide +kernel
theorem dX5_perform_127 : decode cX5_perform 127 = .ok (.ireturn, 1) := by decide +kernel
set_option maxRecDepth 20000 in
theorem ggX5_imagineWeeks_X4_become : GoodIn wsX5_imagineWeeks wsX4_become := goodIn_r _ [7, 8, 9, 10, 11, 12, 13, 14, 15, 16, 17, 18, 19, 20, 21, 22, 23, 24, 67, 68, 69, 70, 71, 72, 73, 74, 75, 76, 77, 78, 79] (by decide +kernel) (by decide +kernel)
set_option maxRecDepth 20000 in
theorem gX5_imagineWeeks_X4_become : GoodIn wsX5_imagineWeeks (wsV RX5 66 RX4 yX4_become wsX4_become) := goodIn_app (goodIn_of _ (by decide +kernel)) ggX5_imagineWeeks_X4_become
set_option maxRecDepth 20000 in
theorem ggX5_imagineWeeks_X4_passWeek : GoodIn wsX5_imagineWeeks wsX4_passWeek := goodIn_r _ [28, 24, 21, 19, 29, 30, 31, 6, 32, 22, 18, 20, 33, 34, 35, 36, 37, 38, 39, 15, 14, 40, 41, 42, 43, 16, 8, 13, 23, 44, 45, 46, 47, 48, 49, 50, 51, 52, 53, 54, 55, 56, 57, 67, 68, 69, 70, 71, 72, 73, 74, 75, 76, 77, 78, 79] (by decide +kernel) (by decide +kernel)
set_option maxRecDepth 20000 in
theorem gX5_imagineWeeks_X4_passWeek : GoodIn wsX5_imagineWeeks (wsV RX5 182 RX4 yX4_passWeek wsX4_passWeek) := goodIn_app (goodIn_of _ (by decide +kernel)) ggX5_imagineWeeks_X4_passWeek
theorem dX5_imagineWeeks_0 : decode cX5_imagineWeeks 0 = .ok (.aload_n 0, 1) := by decide +kernel
theorem dX5_imagineWeeks_1 : decode cX5_imagineWeeks 1 = .ok (.getfield 16, 3) := by decide +kernel
theorem dX5_imagineWeeks_4 : decode cX5_imagineWeeks 4 = .ok (.aload_n 0, 1) := by decide +kernel
theorem dX5_imagineWeeks_5 : decode cX5_imagineWeeks 5 = .ok (.getfield 10, 3) := by decide +kernel
theorem dX5_imagineWeeks_8 : decode cX5_imagineWeeks 8 = .ok (.invokevirtual 66, 3) := by decide +kernel
theorem dX5_imagineWeeks_11 : decode cX5_imagineWeeks 11 = .ok (.iconst 0, 1) := by decide +kernel
theorem dX5_imagineWeeks_12 : decode cX5_imagineWeeks 12 = .ok (.istore_n 2, 1) := by decide +kernel
theorem dX5_imagineWeeks_13 : decode cX5_imagineWeeks 13 = .ok (.iload_n 2, 1) := by decide +kernel
theorem dX5_imagineWeeks_14 : decode cX5_imagineWeeks 14 = .ok (.iload_n 1, 1) := by decide +kernel
theorem dX5_imagineWeeks_15 : decode cX5_imagineWeeks 15 = .ok (.if_icmp .ge 16, 3) := by decide +kernel
theorem dX5_imagineWeeks_18 : decode cX5_imagineWeeks 18 = .ok (.aload_n 0, 1) := by decide +kernel
theorem dX5_imagineWeeks_19 : decode cX5_imagineWeeks 19 = .ok (.getfield 16, 3) := by decide +kernel
theorem dX5_imagineWeeks_22 : decode cX5_imagineWeeks 22 = .ok (.invokevirtual 182, 3) := by decide +kernel
theorem dX5_imagineWeeks_25 : decode cX5_imagineWeeks 25 = .ok (.iinc 2 1, 3) := by decide +kernel
theorem dX5_imagineWeeks_28 : decode cX5_imagineWeeks 28 = .ok (.goto (-15), 3) := by decide +kernel
theorem dX5_imagineWeeks_31 : decode cX5_imagineWeeks 31 = .ok (.return_, 1) := by decide +kernel
set_option maxRecDepth 20000 in
theorem ggX5_drawTown_X4_become : GoodIn wsX5_drawTown wsX4_become := goodIn_r _ [11, 12, 13, 14, 15, 16, 17, 18, 19, 20, 21, 22, 23, 24, 25, 26, 27, 28, 47, 48, 49, 50, 51, 52, 53, 54, 55, 56, 57, 58, 59] (by decide +kernel) (by decide +kernel)
set_option maxRecDepth 20000 in
theorem gX5_drawTown_X4_become : GoodIn wsX5_drawTown (wsV RX5 66 RX4 yX4_become wsX4_become) := goodIn_app (goodIn_of _ (by decide +kernel)) ggX5_drawTown_X4_become
set_option maxRecDepth 20000 in
theorem ggX5_drawTown_X5_draw : GoodIn wsX5_drawTown wsX5_draw := goodIn_r _ [33, 34, 35, 36, 37, 38, 39, 40, 41, 42, 43, 44, 45, 46] (by decide +kernel) (by decide +kernel)
set_option maxRecDepth 20000 in
theorem gX5_drawTown_X5_draw : GoodIn wsX5_drawTown (wsV RX5 345 RX5 yX5_draw wsX5_draw) := goodIn_app (goodIn_of _ (by decide +kernel)) ggX5_drawTown_X5_draw
theorem dX5_drawTown_0 : decode cX5_drawTown 0 = .ok (.aload_n 0, 1) := by decide +kernel
theorem dX5_drawTown_1 : decode cX5_drawTown 1 = .ok (.getfield 16, 3) := by decide +kernel
theorem dX5_drawTown_4 : decode cX5_drawTown 4 = .ok (.aload_n 0, 1) := by decide +kernel
theorem dX5_drawTown_5 : decode cX5_drawTown 5 = .ok (.getfield 10, 3) := by decide +kernel
theorem dX5_drawTown_8 : decode cX5_drawTown 8 = .ok (.invokevirtual 66, 3) := by decide +kernel
theorem dX5_drawTown_11 : decode cX5_drawTown 11 = .ok (.iconst 0, 1) := by decide +kernel
theorem dX5_drawTown_12 : decode cX5_drawTown 12 = .ok (.istore_n 1, 1) := by decide +kernel
theorem dX5_drawTown_13 : decode cX5_drawTown 13 = .ok (.iload_n 1, 1) := by decide +kernel
theorem dX5_drawTown_14 : decode cX5_drawTown 14 = .ok (.aload_n 0, 1) := by decide +kernel
theorem dX5_drawTown_15 : decode cX5_drawTown 15 = .ok (.getfield 16, 3) := by decide +kernel
theorem dX5_drawTown_18 : decode cX5_drawTown 18 = .ok (.getfield 230, 3) := by decide +kernel
theorem dX5_drawTown_21 : decode cX5_drawTown 21 = .ok (.if_icmp .ge 29, 3) := by decide +kernel
theorem dX5_drawTown_24 : decode cX5_drawTown 24 = .ok (.aload_n 0, 1) := by decide +kernel
theorem dX5_drawTown_25 : decode cX5_drawTown 25 = .ok (.getfield 16, 3) := by decide +kernel
theorem dX5_drawTown_28 : decode cX5_drawTown 28 = .ok (.getfield 93, 3) := by decide +kernel
theorem dX5_drawTown_31 : decode cX5_drawTown 31 = .ok (.iload_n 1, 1) := by decide +kernel
theorem dX5_drawTown_32 : decode cX5_drawTown 32 = .ok (.aload_n 0, 1) := by decide +kernel
theorem dX5_drawTown_33 : decode cX5_drawTown 33 = .ok (.aload_n 0, 1) := by decide +kernel
theorem dX5_drawTown_34 : decode cX5_drawTown 34 = .ok (.getfield 16, 3) := by decide +kernel
theorem dX5_drawTown_37 : decode cX5_drawTown 37 = .ok (.getfield 185, 3) := by decide +kernel
theorem dX5_drawTown_40 : decode cX5_drawTown 40 = .ok (.invokevirtual 345, 3) := by decide +kernel
theorem dX5_drawTown_43 : decode cX5_drawTown 43 = .ok (.iastore, 1) := by decide +kernel
theorem dX5_drawTown_44 : decode cX5_drawTown 44 = .ok (.iinc 1 1, 3) := by decide +kernel
theorem dX5_drawTown_47 : decode cX5_drawTown 47 = .ok (.goto (-34), 3) := by decide +kernel
theorem dX5_drawTown_50 : decode cX5_drawTown 50 = .ok (.iconst 0, 1) := by decide +kernel
theorem dX5_drawTown_51 : decode cX5_drawTown 51 = .ok (.istore_n 1, 1) := by decide +kernel
theorem dX5_drawTown_52 : decode cX5_drawTown 52 = .ok (.iload_n 1, 1) := by decide +kernel
theorem dX5_drawTown_53 : decode cX5_drawTown 53 = .ok (.aload_n 0, 1) := by decide +kernel
theorem dX5_drawTown_54 : decode cX5_drawTown 54 = .ok (.getfield 16, 3) := by decide +kernel
theorem dX5_drawTown_57 : decode cX5_drawTown 57 = .ok (.getfield 185, 3) := by decide +kernel
theorem dX5_drawTown_60 : decode cX5_drawTown 60 = .ok (.if_icmp .ge 24, 3) := by decide +kernel
theorem dX5_drawTown_63 : decode cX5_drawTown 63 = .ok (.aload_n 0, 1) := by decide +kernel
theorem dX5_drawTown_64 : decode cX5_drawTown 64 = .ok (.getfield 16, 3) := by decide +kernel
theorem dX5_drawTown_67 : decode cX5_drawTown 67 = .ok (.getfield 102, 3) := by decide +kernel
theorem dX5_drawTown_70 : decode cX5_drawTown 70 = .ok (.iload_n 1, 1) := by decide +kernel
theorem dX5_drawTown_71 : decode cX5_drawTown 71 = .ok (.aload_n 0, 1) := by decide +kernel
theorem dX5_drawTown_72 : decode cX5_drawTown 72 = .ok (.bipush 10, 2) := by decide +kernel
theorem dX5_drawTown_74 : decode cX5_drawTown 74 = .ok (.invokevirtual 345, 3) := by decide +kernel
theorem dX5_drawTown_77 : decode cX5_drawTown 77 = .ok (.iastore, 1) := by decide +kernel
theorem dX5_drawTown_78 : decode cX5_drawTown 78 = .ok (.iinc 1 1, 3) := by decide +kernel
theorem dX5_drawTown_81 : decode cX5_drawTown 81 = .ok (.goto (-29), 3) := by decide +kernel
theorem dX5_drawTown_84 : decode cX5_drawTown 84 = .ok (.return_, 1) := by decide +kernel
theorem dX5_draw_0 : decode cX5_draw 0 = .ok (.aload_n 0, 1) := by decide +kernel
theorem dX5_draw_1 : decode cX5_draw 1 = .ok (.aload_n 0, 1) := by decide +kernel
theorem dX5_draw_2 : decode cX5_draw 2 = .ok (.getfield 254, 3) := by decide +kernel
theorem dX5_draw_5 : decode cX5_draw 5 = .ok (.ldc_w 348, 3) := by decide +kernel
theorem dX5_draw_8 : decode cX5_draw 8 = .ok (.imul, 1) := by decide +kernel
theorem dX5_draw_9 : decode cX5_draw 9 = .ok (.sipush 12345, 3) := by decide +kernel
theorem dX5_draw_12 : decode cX5_draw 12 = .ok (.iadd, 1) := by decide +kernel
theorem dX5_draw_13 : decode cX5_draw 13 = .ok (.putfield 254, 3) := by decide +kernel
theorem dX5_draw_16 : decode cX5_draw 16 = .ok (.iload_n 1, 1) := by decide +kernel
theorem dX5_draw_17 : decode cX5_draw 17 = .ok (.ifCond .le 20, 3) := by decide +kernel
theorem dX5_draw_20 : decode cX5_draw 20 = .ok (.aload_n 0, 1) := by decide +kernel
theorem dX5_draw_21 : decode cX5_draw 21 = .ok (.getfield 254, 3) := by decide +kernel
theorem dX5_draw_24 : decode cX5_draw 24 = .ok (.ldc_w 349, 3) := by decide +kernel
theorem dX5_draw_27 : decode cX5_draw 27 = .ok (.iand, 1) := by decide +kernel
theorem dX5_draw_28 : decode cX5_draw 28 = .ok (.ldc_w 350, 3) := by decide +kernel
theorem dX5_draw_31 : decode cX5_draw 31 = .ok (.idiv, 1) := by decide +kernel
theorem dX5_draw_32 : decode cX5_draw 32 = .ok (.iload_n 1, 1) := by decide +kernel
theorem dX5_draw_33 : decode cX5_draw 33 = .ok (.irem, 1) := by decide +kernel
theorem dX5_draw_34 : decode cX5_draw 34 = .ok (.goto 4, 3) := by decide +kernel
theorem dX5_draw_37 : decode cX5_draw 37 = .ok (.iconst 0, 1) := by decide +kernel
theorem dX5_draw_38 : decode cX5_draw 38 = .ok (.ireturn, 1) := by decide +kernel
theorem dX5_bitsOf_0 : decode cX5_bitsOf 0 = .ok (.iconst 0, 1) := by decide +kernel
theorem dX5_bitsOf_1 : decode cX5_bitsOf 1 = .ok (.istore_n 1, 1) := by decide +kernel
theorem dX5_bitsOf_2 : decode cX5_bitsOf 2 = .ok (.iconst 0, 1) := by decide +kernel
theorem dX5_bitsOf_3 : decode cX5_bitsOf 3 = .ok (.istore_n 2, 1) := by decide +kernel
theorem dX5_bitsOf_4 : decode cX5_bitsOf 4 = .ok (.iload_n 2, 1) := by decide +kernel
theorem dX5_bitsOf_5 : decode cX5_bitsOf 5 = .ok (.aload_n 0, 1) := by decide +kernel
theorem dX5_bitsOf_6 : decode cX5_bitsOf 6 = .ok (.getfield 70, 3) := by decide +kernel
theorem dX5_bitsOf_9 : decode cX5_bitsOf 9 = .ok (.if_icmp .ge 20, 3) := by decide +kernel
theorem dX5_bitsOf_12 : decode cX5_bitsOf 12 = .ok (.iload_n 1, 1) := by decide +kernel
theorem dX5_bitsOf_13 : decode cX5_bitsOf 13 = .ok (.iconst 1, 1) := by decide +kernel
theorem dX5_bitsOf_14 : decode cX5_bitsOf 14 = .ok (.aload_n 0, 1) := by decide +kernel
theorem dX5_bitsOf_15 : decode cX5_bitsOf 15 = .ok (.getfield 77, 3) := by decide +kernel
theorem dX5_bitsOf_18 : decode cX5_bitsOf 18 = .ok (.iload_n 2, 1) := by decide +kernel
theorem dX5_bitsOf_19 : decode cX5_bitsOf 19 = .ok (.iaload, 1) := by decide +kernel
theorem dX5_bitsOf_20 : decode cX5_bitsOf 20 = .ok (.ishl, 1) := by decide +kernel
theorem dX5_bitsOf_21 : decode cX5_bitsOf 21 = .ok (.ior, 1) := by decide +kernel
theorem dX5_bitsOf_22 : decode cX5_bitsOf 22 = .ok (.istore_n 1, 1) := by decide +kernel
theorem dX5_bitsOf_23 : decode cX5_bitsOf 23 = .ok (.iinc 2 1, 3) := by decide +kernel
theorem dX5_bitsOf_26 : decode cX5_bitsOf 26 = .ok (.goto (-22), 3) := by decide +kernel
theorem dX5_bitsOf_29 : decode cX5_bitsOf 29 = .ok (.iload_n 1, 1) := by decide +kernel
theorem dX5_bitsOf_30 : decode cX5_bitsOf 30 = .ok (.ireturn, 1) := by decide +kernel
set_option maxRecDepth 20000 in
theorem ggX5_isWorthAsTold_X1_isSkipped : GoodIn wsX5_isWorthAsTold wsX1_isSkipped := goodIn_r _ [9, 10, 11, 12, 17, 18, 19, 20, 21, 22] (by decide +kernel) (by decide +kernel)
set_option maxRecDepth 20000 in
theorem gX5_isWorthAsTold_X1_isSkipped : GoodIn wsX5_isWorthAsTold (wsV RX5 251 RX1 yX1_isSkipped wsX1_isSkipped) := goodIn_app (goodIn_of _ (by decide +kernel)) ggX5_isWorthAsTold_X1_isSkipped
set_option maxRecDepth 20000 in
theorem ggX5_isWorthAsTold_X5_worthOf : GoodIn wsX5_isWorthAsTold wsX5_worthOf := goodIn_r _ [16] (by decide +kernel) (by decide +kernel)
set_option maxRecDepth 20000 in
theorem gX5_isWorthAsTold_X5_worthOf : GoodIn wsX5_isWorthAsTold (va_wsS RX5 351 yX5_worthOf wsX5_worthOf) := goodIn_app (goodIn_of _ (by decide +kernel)) ggX5_isWorthAsTold_X5_worthOf
theorem dX5_isWorthAsTold_0 : decode cX5_isWorthAsTold 0 = .ok (.iconst 0, 1) := by decide +kernel
theorem dX5_isWorthAsTold_1 : decode cX5_isWorthAsTold 1 = .ok (.istore 5, 2) := by decide +kernel
theorem dX5_isWorthAsTold_3 : decode cX5_isWorthAsTold 3 = .ok (.iload 5, 2) := by decide +kernel
theorem dX5_isWorthAsTold_5 : decode cX5_isWorthAsTold 5 = .ok (.aload_n 1, 1) := by decide +kernel
theorem dX5_isWorthAsTold_6 : decode cX5_isWorthAsTold 6 = .ok (.getfield 70, 3) := by decide +kernel
theorem dX5_isWorthAsTold_9 : decode cX5_isWorthAsTold 9 = .ok (.if_icmp .ge 47, 3) := by decide +kernel
theorem dX5_isWorthAsTold_12 : decode cX5_isWorthAsTold 12 = .ok (.aload_n 1, 1) := by decide +kernel
theorem dX5_isWorthAsTold_13 : decode cX5_isWorthAsTold 13 = .ok (.iload 5, 2) := by decide +kernel
theorem dX5_isWorthAsTold_15 : decode cX5_isWorthAsTold 15 = .ok (.invokevirtual 251, 3) := by decide +kernel
theorem dX5_isWorthAsTold_18 : decode cX5_isWorthAsTold 18 = .ok (.ifCond .ne 32, 3) := by decide +kernel
theorem dX5_isWorthAsTold_21 : decode cX5_isWorthAsTold 21 = .ok (.aload_n 1, 1) := by decide +kernel
theorem dX5_isWorthAsTold_22 : decode cX5_isWorthAsTold 22 = .ok (.getfield 77, 3) := by decide +kernel
theorem dX5_isWorthAsTold_25 : decode cX5_isWorthAsTold 25 = .ok (.iload 5, 2) := by decide +kernel
theorem dX5_isWorthAsTold_27 : decode cX5_isWorthAsTold 27 = .ok (.iaload, 1) := by decide +kernel
theorem dX5_isWorthAsTold_28 : decode cX5_isWorthAsTold 28 = .ok (.iload_n 2, 1) := by decide +kernel
theorem dX5_isWorthAsTold_29 : decode cX5_isWorthAsTold 29 = .ok (.iload_n 3, 1) := by decide +kernel
theorem dX5_isWorthAsTold_30 : decode cX5_isWorthAsTold 30 = .ok (.iload 4, 2) := by decide +kernel
theorem dX5_isWorthAsTold_32 : decode cX5_isWorthAsTold 32 = .ok (.aload_n 0, 1) := by decide +kernel
theorem dX5_isWorthAsTold_33 : decode cX5_isWorthAsTold 33 = .ok (.getfield 10, 3) := by decide +kernel
theorem dX5_isWorthAsTold_36 : decode cX5_isWorthAsTold 36 = .ok (.getfield 271, 3) := by decide +kernel
theorem dX5_isWorthAsTold_39 : decode cX5_isWorthAsTold 39 = .ok (.iload 5, 2) := by decide +kernel
theorem dX5_isWorthAsTold_41 : decode cX5_isWorthAsTold 41 = .ok (.iadd, 1) := by decide +kernel
theorem dX5_isWorthAsTold_42 : decode cX5_isWorthAsTold 42 = .ok (.invokestatic 351, 3) := by decide +kernel
theorem dX5_isWorthAsTold_45 : decode cX5_isWorthAsTold 45 = .ok (.if_icmp .eq 5, 3) := by decide +kernel
theorem dX5_isWorthAsTold_48 : decode cX5_isWorthAsTold 48 = .ok (.iconst 0, 1) := by decide +kernel
theorem dX5_isWorthAsTold_49 : decode cX5_isWorthAsTold 49 = .ok (.ireturn, 1) := by decide +kernel
theorem dX5_isWorthAsTold_50 : decode cX5_isWorthAsTold 50 = .ok (.iinc 5 1, 3) := by decide +kernel
theorem dX5_isWorthAsTold_53 : decode cX5_isWorthAsTold 53 = .ok (.goto (-50), 3) := by decide +kernel
theorem dX5_isWorthAsTold_56 : decode cX5_isWorthAsTold 56 = .ok (.iconst 1, 1) := by decide +kernel
theorem dX5_isWorthAsTold_57 : decode cX5_isWorthAsTold 57 = .ok (.ireturn, 1) := by decide +kernel
set_option maxRecDepth 20000 in
theorem ggX5_isTasteAsTold_X1_isSkipped : GoodIn wsX5_isTasteAsTold wsX1_isSkipped := goodIn_r _ [12, 13, 14, 15, 20, 21, 22, 23, 24, 25] (by decide +kernel) (by decide +kernel)
set_option maxRecDepth 20000 in
theorem gX5_isTasteAsTold_X1_isSkipped : GoodIn wsX5_isTasteAsTold (wsV RX5 251 RX1 yX1_isSkipped wsX1_isSkipped) := goodIn_app (goodIn_of _ (by decide +kernel)) ggX5_isTasteAsTold_X1_isSkipped
set_option maxRecDepth 20000 in
theorem ggX5_isTasteAsTold_X5_worthOf : GoodIn wsX5_isTasteAsTold wsX5_worthOf := goodIn_r _ [19] (by decide +kernel) (by decide +kernel)
set_option maxRecDepth 20000 in
theorem gX5_isTasteAsTold_X5_worthOf : GoodIn wsX5_isTasteAsTold (va_wsS RX5 351 yX5_worthOf wsX5_worthOf) := goodIn_app (goodIn_of _ (by decide +kernel)) ggX5_isTasteAsTold_X5_worthOf
theorem dX5_isTasteAsTold_0 : decode cX5_isTasteAsTold 0 = .ok (.iconst 0, 1) := by decide +kernel
theorem dX5_isTasteAsTold_1 : decode cX5_isTasteAsTold 1 = .ok (.istore_n 3, 1) := by decide +kernel
theorem dX5_isTasteAsTold_2 : decode cX5_isTasteAsTold 2 = .ok (.iload_n 3, 1) := by decide +kernel
theorem dX5_isTasteAsTold_3 : decode cX5_isTasteAsTold 3 = .ok (.aload_n 1, 1) := by decide +kernel
theorem dX5_isTasteAsTold_4 : decode cX5_isTasteAsTold 4 = .ok (.getfield 70, 3) := by decide +kernel
theorem dX5_isTasteAsTold_7 : decode cX5_isTasteAsTold 7 = .ok (.if_icmp .ge 68, 3) := by decide +kernel
theorem dX5_isTasteAsTold_10 : decode cX5_isTasteAsTold 10 = .ok (.iload_n 3, 1) := by decide +kernel
theorem dX5_isTasteAsTold_11 : decode cX5_isTasteAsTold 11 = .ok (.aload_n 0, 1) := by decide +kernel
theorem dX5_isTasteAsTold_12 : decode cX5_isTasteAsTold 12 = .ok (.getfield 10, 3) := by decide +kernel
theorem dX5_isTasteAsTold_15 : decode cX5_isTasteAsTold 15 = .ok (.getfield 230, 3) := by decide +kernel
theorem dX5_isTasteAsTold_18 : decode cX5_isTasteAsTold 18 = .ok (.if_icmp .ge 57, 3) := by decide +kernel
theorem dX5_isTasteAsTold_21 : decode cX5_isTasteAsTold 21 = .ok (.aload_n 1, 1) := by decide +kernel
theorem dX5_isTasteAsTold_22 : decode cX5_isTasteAsTold 22 = .ok (.iload_n 3, 1) := by decide +kernel
theorem dX5_isTasteAsTold_23 : decode cX5_isTasteAsTold 23 = .ok (.invokevirtual 251, 3) := by decide +kernel
theorem dX5_isTasteAsTold_26 : decode cX5_isTasteAsTold 26 = .ok (.ifCond .ne 43, 3) := by decide +kernel
theorem dX5_isTasteAsTold_29 : decode cX5_isTasteAsTold 29 = .ok (.aload_n 1, 1) := by decide +kernel
theorem dX5_isTasteAsTold_30 : decode cX5_isTasteAsTold 30 = .ok (.getfield 77, 3) := by decide +kernel
theorem dX5_isTasteAsTold_33 : decode cX5_isTasteAsTold 33 = .ok (.iload_n 3, 1) := by decide +kernel
theorem dX5_isTasteAsTold_34 : decode cX5_isTasteAsTold 34 = .ok (.iaload, 1) := by decide +kernel
theorem dX5_isTasteAsTold_35 : decode cX5_isTasteAsTold 35 = .ok (.aload_n 0, 1) := by decide +kernel
theorem dX5_isTasteAsTold_36 : decode cX5_isTasteAsTold 36 = .ok (.getfield 10, 3) := by decide +kernel
theorem dX5_isTasteAsTold_39 : decode cX5_isTasteAsTold 39 = .ok (.getfield 87, 3) := by decide +kernel
theorem dX5_isTasteAsTold_42 : decode cX5_isTasteAsTold 42 = .ok (.iload_n 3, 1) := by decide +kernel
theorem dX5_isTasteAsTold_43 : decode cX5_isTasteAsTold 43 = .ok (.iaload, 1) := by decide +kernel
theorem dX5_isTasteAsTold_44 : decode cX5_isTasteAsTold 44 = .ok (.aload_n 0, 1) := by decide +kernel
theorem dX5_isTasteAsTold_45 : decode cX5_isTasteAsTold 45 = .ok (.getfield 10, 3) := by decide +kernel
theorem dX5_isTasteAsTold_48 : decode cX5_isTasteAsTold 48 = .ok (.getfield 90, 3) := by decide +kernel
theorem dX5_isTasteAsTold_51 : decode cX5_isTasteAsTold 51 = .ok (.iload_n 3, 1) := by decide +kernel
theorem dX5_isTasteAsTold_52 : decode cX5_isTasteAsTold 52 = .ok (.iaload, 1) := by decide +kernel
theorem dX5_isTasteAsTold_53 : decode cX5_isTasteAsTold 53 = .ok (.iload_n 2, 1) := by decide +kernel
theorem dX5_isTasteAsTold_54 : decode cX5_isTasteAsTold 54 = .ok (.aload_n 0, 1) := by decide +kernel
theorem dX5_isTasteAsTold_55 : decode cX5_isTasteAsTold 55 = .ok (.getfield 10, 3) := by decide +kernel
theorem dX5_isTasteAsTold_58 : decode cX5_isTasteAsTold 58 = .ok (.getfield 271, 3) := by decide +kernel
theorem dX5_isTasteAsTold_61 : decode cX5_isTasteAsTold 61 = .ok (.invokestatic 351, 3) := by decide +kernel
theorem dX5_isTasteAsTold_64 : decode cX5_isTasteAsTold 64 = .ok (.if_icmp .eq 5, 3) := by decide +kernel
theorem dX5_isTasteAsTold_67 : decode cX5_isTasteAsTold 67 = .ok (.iconst 0, 1) := by decide +kernel
theorem dX5_isTasteAsTold_68 : decode cX5_isTasteAsTold 68 = .ok (.ireturn, 1) := by decide +kernel
theorem dX5_isTasteAsTold_69 : decode cX5_isTasteAsTold 69 = .ok (.iinc 3 1, 3) := by decide +kernel
theorem dX5_isTasteAsTold_72 : decode cX5_isTasteAsTold 72 = .ok (.goto (-70), 3) := by decide +kernel
theorem dX5_isTasteAsTold_75 : decode cX5_isTasteAsTold 75 = .ok (.iconst 1, 1) := by decide +kernel
theorem dX5_isTasteAsTold_76 : decode cX5_isTasteAsTold 76 = .ok (.ireturn, 1) := by decide +kernel
set_option maxRecDepth 20000 in
theorem ggX5_isContent_X5_gain : GoodIn wsX5_isContent wsX5_gain := goodIn_r _ [5, 6, 7, 8, 9, 10, 11, 12, 13, 14, 15, 16, 4, 17, 18, 19, 20, 21, 22, 23, 24, 25, 26, 27, 28, 29, 30, 31, 32, 33, 34, 35, 36, 37, 38, 39] (by decide +kernel) (by decide +kernel)
set_option maxRecDepth 20000 in
theorem gX5_isContent_X5_gain : GoodIn wsX5_isContent (wsV RX5 355 RX5 yX5_gain wsX5_gain) := goodIn_app (goodIn_of _ (by decide +kernel)) ggX5_isContent_X5_gain
theorem dX5_isContent_0 : decode cX5_isContent 0 = .ok (.aload_n 0, 1) := by decide +kernel
theorem dX5_isContent_1 : decode cX5_isContent 1 = .ok (.iload_n 1, 1) := by decide +kernel
theorem dX5_isContent_2 : decode cX5_isContent 2 = .ok (.iload_n 2, 1) := by decide +kernel
theorem dX5_isContent_3 : decode cX5_isContent 3 = .ok (.iload_n 3, 1) := by decide +kernel
theorem dX5_isContent_4 : decode cX5_isContent 4 = .ok (.iload 4, 2) := by decide +kernel
theorem dX5_isContent_6 : decode cX5_isContent 6 = .ok (.iload 5, 2) := by decide +kernel
theorem dX5_isContent_8 : decode cX5_isContent 8 = .ok (.invokevirtual 355, 3) := by decide +kernel
theorem dX5_isContent_11 : decode cX5_isContent 11 = .ok (.istore 6, 2) := by decide +kernel
theorem dX5_isContent_13 : decode cX5_isContent 13 = .ok (.iload 6, 2) := by decide +kernel
theorem dX5_isContent_15 : decode cX5_isContent 15 = .ok (.aload_n 0, 1) := by decide +kernel
theorem dX5_isContent_16 : decode cX5_isContent 16 = .ok (.iload_n 1, 1) := by decide +kernel
theorem dX5_isContent_17 : decode cX5_isContent 17 = .ok (.iload_n 2, 1) := by decide +kernel
theorem dX5_isContent_18 : decode cX5_isContent 18 = .ok (.iload_n 3, 1) := by decide +kernel
theorem dX5_isContent_19 : decode cX5_isContent 19 = .ok (.iconst 1, 1) := by decide +kernel
theorem dX5_isContent_20 : decode cX5_isContent 20 = .ok (.iload 4, 2) := by decide +kernel
theorem dX5_isContent_22 : decode cX5_isContent 22 = .ok (.isub, 1) := by decide +kernel
theorem dX5_isContent_23 : decode cX5_isContent 23 = .ok (.iload 5, 2) := by decide +kernel
theorem dX5_isContent_25 : decode cX5_isContent 25 = .ok (.invokevirtual 355, 3) := by decide +kernel
theorem dX5_isContent_28 : decode cX5_isContent 28 = .ok (.if_icmp .lt 7, 3) := by decide +kernel
theorem dX5_isContent_31 : decode cX5_isContent 31 = .ok (.iconst 1, 1) := by decide +kernel
theorem dX5_isContent_32 : decode cX5_isContent 32 = .ok (.goto 4, 3) := by decide +kernel
theorem dX5_isContent_35 : decode cX5_isContent 35 = .ok (.iconst 0, 1) := by decide +kernel
theorem dX5_isContent_36 : decode cX5_isContent 36 = .ok (.ireturn, 1) := by decide +kernel
set_option maxRecDepth 20000 in
theorem ggX5_gain_X4_worthTo : GoodIn wsX5_gain wsX4_worthTo := goodIn_r _ [6, 7, 8, 9, 10, 11, 12, 13, 23, 24, 25, 26, 27, 28, 29, 30, 31, 32, 33, 34, 35] (by decide +kernel) (by decide +kernel)
set_option maxRecDepth 20000 in
theorem gX5_gain_X4_worthTo : GoodIn wsX5_gain (wsV RX5 165 RX4 yX4_worthTo wsX4_worthTo) := goodIn_app (goodIn_of _ (by decide +kernel)) ggX5_gain_X4_worthTo
theorem dX5_gain_0 : decode cX5_gain 0 = .ok (.iconst 0, 1) := by decide +kernel
theorem dX5_gain_1 : decode cX5_gain 1 = .ok (.istore 6, 2) := by decide +kernel
theorem dX5_gain_3 : decode cX5_gain 3 = .ok (.iload 4, 2) := by decide +kernel
theorem dX5_gain_5 : decode cX5_gain 5 = .ok (.iconst 1, 1) := by decide +kernel
theorem dX5_gain_6 : decode cX5_gain 6 = .ok (.if_icmp .ne 21, 3) := by decide +kernel
theorem dX5_gain_9 : decode cX5_gain 9 = .ok (.iload 6, 2) := by decide +kernel
theorem dX5_gain_11 : decode cX5_gain 11 = .ok (.iconst 3, 1) := by decide +kernel
theorem dX5_gain_12 : decode cX5_gain 12 = .ok (.aload_n 0, 1) := by decide +kernel
theorem dX5_gain_13 : decode cX5_gain 13 = .ok (.getfield 10, 3) := by decide +kernel
theorem dX5_gain_16 : decode cX5_gain 16 = .ok (.iload_n 1, 1) := by decide +kernel
theorem dX5_gain_17 : decode cX5_gain 17 = .ok (.iload_n 2, 1) := by decide +kernel
theorem dX5_gain_18 : decode cX5_gain 18 = .ok (.invokevirtual 165, 3) := by decide +kernel
theorem dX5_gain_21 : decode cX5_gain 21 = .ok (.iconst 2, 1) := by decide +kernel
theorem dX5_gain_22 : decode cX5_gain 22 = .ok (.idiv, 1) := by decide +kernel
theorem dX5_gain_23 : decode cX5_gain 23 = .ok (.isub, 1) := by decide +kernel
theorem dX5_gain_24 : decode cX5_gain 24 = .ok (.iadd, 1) := by decide +kernel
theorem dX5_gain_25 : decode cX5_gain 25 = .ok (.istore 6, 2) := by decide +kernel
theorem dX5_gain_27 : decode cX5_gain 27 = .ok (.iload 5, 2) := by decide +kernel
theorem dX5_gain_29 : decode cX5_gain 29 = .ok (.iconst 1, 1) := by decide +kernel
theorem dX5_gain_30 : decode cX5_gain 30 = .ok (.if_icmp .ne 34, 3) := by decide +kernel
theorem dX5_gain_33 : decode cX5_gain 33 = .ok (.aload_n 0, 1) := by decide +kernel
theorem dX5_gain_34 : decode cX5_gain 34 = .ok (.getfield 10, 3) := by decide +kernel
theorem dX5_gain_37 : decode cX5_gain 37 = .ok (.iload_n 1, 1) := by decide +kernel
theorem dX5_gain_38 : decode cX5_gain 38 = .ok (.iload_n 3, 1) := by decide +kernel
theorem dX5_gain_39 : decode cX5_gain 39 = .ok (.invokevirtual 165, 3) := by decide +kernel
theorem dX5_gain_42 : decode cX5_gain 42 = .ok (.istore 7, 2) := by decide +kernel
theorem dX5_gain_44 : decode cX5_gain 44 = .ok (.iload 6, 2) := by decide +kernel
theorem dX5_gain_46 : decode cX5_gain 46 = .ok (.iload 4, 2) := by decide +kernel
theorem dX5_gain_48 : decode cX5_gain 48 = .ok (.iconst 1, 1) := by decide +kernel
theorem dX5_gain_49 : decode cX5_gain 49 = .ok (.if_icmp .ne 10, 3) := by decide +kernel
theorem dX5_gain_52 : decode cX5_gain 52 = .ok (.iload 7, 2) := by decide +kernel
theorem dX5_gain_54 : decode cX5_gain 54 = .ok (.iconst 2, 1) := by decide +kernel
theorem dX5_gain_55 : decode cX5_gain 55 = .ok (.idiv, 1) := by decide +kernel
theorem dX5_gain_56 : decode cX5_gain 56 = .ok (.goto 5, 3) := by decide +kernel
theorem dX5_gain_59 : decode cX5_gain 59 = .ok (.iload 7, 2) := by decide +kernel
theorem dX5_gain_61 : decode cX5_gain 61 = .ok (.iadd, 1) := by decide +kernel
theorem dX5_gain_62 : decode cX5_gain 62 = .ok (.istore 6, 2) := by decide +kernel
theorem dX5_gain_64 : decode cX5_gain 64 = .ok (.iload 6, 2) := by decide +kernel
theorem dX5_gain_66 : decode cX5_gain 66 = .ok (.ireturn, 1) := by decide +kernel
set_option maxRecDepth 20000 in
theorem ggX5_partOf_X5_greatestDivisor : GoodIn wsX5_partOf wsX5_greatestDivisor := goodIn_r _ [4] (by decide +kernel) (by decide +kernel)
set_option maxRecDepth 20000 in
theorem gX5_partOf_X5_greatestDivisor : GoodIn wsX5_partOf (va_wsS RX5 359 yX5_greatestDivisor wsX5_greatestDivisor) := goodIn_app (goodIn_of _ (by decide +kernel)) ggX5_partOf_X5_greatestDivisor
theorem dX5_partOf_0 : decode cX5_partOf 0 = .ok (.lload_n 0, 1) := by decide +kernel
theorem dX5_partOf_1 : decode cX5_partOf 1 = .ok (.lload_n 2, 1) := by decide +kernel
theorem dX5_partOf_2 : decode cX5_partOf 2 = .ok (.invokestatic 359, 3) := by decide +kernel
theorem dX5_partOf_5 : decode cX5_partOf 5 = .ok (.lstore 5, 2) := by decide +kernel
theorem dX5_partOf_7 : decode cX5_partOf 7 = .ok (.lload 5, 2) := by decide +kernel
theorem dX5_partOf_9 : decode cX5_partOf 9 = .ok (.lconst 0, 1) := by decide +kernel
theorem dX5_partOf_10 : decode cX5_partOf 10 = .ok (.lcmp, 1) := by decide +kernel
theorem dX5_partOf_11 : decode cX5_partOf 11 = .ok (.ifCond .gt 5, 3) := by decide +kernel
theorem dX5_partOf_14 : decode cX5_partOf 14 = .ok (.lconst 0, 1) := by decide +kernel
theorem dX5_partOf_15 : decode cX5_partOf 15 = .ok (.lreturn, 1) := by decide +kernel
theorem dX5_partOf_16 : decode cX5_partOf 16 = .ok (.iload 4, 2) := by decide +kernel
theorem dX5_partOf_18 : decode cX5_partOf 18 = .ok (.ifCond .ne 7, 3) := by decide +kernel
theorem dX5_partOf_21 : decode cX5_partOf 21 = .ok (.lload_n 0, 1) := by decide +kernel
theorem dX5_partOf_22 : decode cX5_partOf 22 = .ok (.goto 4, 3) := by decide +kernel
theorem dX5_partOf_25 : decode cX5_partOf 25 = .ok (.lload_n 2, 1) := by decide +kernel
theorem dX5_partOf_26 : decode cX5_partOf 26 = .ok (.lload 5, 2) := by decide +kernel
theorem dX5_partOf_28 : decode cX5_partOf 28 = .ok (.ldiv, 1) := by decide +kernel
theorem dX5_partOf_29 : decode cX5_partOf 29 = .ok (.lreturn, 1) := by decide +kernel
theorem dX5_greatestDivisor_0 : decode cX5_greatestDivisor 0 = .ok (.lload_n 0, 1) := by decide +kernel
theorem dX5_greatestDivisor_1 : decode cX5_greatestDivisor 1 = .ok (.lstore 4, 2) := by decide +kernel
theorem dX5_greatestDivisor_3 : decode cX5_greatestDivisor 3 = .ok (.lload_n 2, 1) := by decide +kernel
theorem dX5_greatestDivisor_4 : decode cX5_greatestDivisor 4 = .ok (.lstore 6, 2) := by decide +kernel
theorem dX5_greatestDivisor_6 : decode cX5_greatestDivisor 6 = .ok (.iconst 0, 1) := by decide +kernel
theorem dX5_greatestDivisor_7 : decode cX5_greatestDivisor 7 = .ok (.istore 8, 2) := by decide +kernel
theorem dX5_greatestDivisor_9 : decode cX5_greatestDivisor 9 = .ok (.iload 8, 2) := by decide +kernel
theorem dX5_greatestDivisor_11 : decode cX5_greatestDivisor 11 = .ok (.sipush 200, 3) := by decide +kernel
theorem dX5_greatestDivisor_14 : decode cX5_greatestDivisor 14 = .ok (.if_icmp .ge 31, 3) := by decide +kernel
theorem dX5_greatestDivisor_17 : decode cX5_greatestDivisor 17 = .ok (.lload 6, 2) := by decide +kernel
theorem dX5_greatestDivisor_19 : decode cX5_greatestDivisor 19 = .ok (.lconst 0, 1) := by decide +kernel
theorem dX5_greatestDivisor_20 : decode cX5_greatestDivisor 20 = .ok (.lcmp, 1) := by decide +kernel
theorem dX5_greatestDivisor_21 : decode cX5_greatestDivisor 21 = .ok (.ifCond .eq 24, 3) := by decide +kernel
theorem dX5_greatestDivisor_24 : decode cX5_greatestDivisor 24 = .ok (.lload 4, 2) := by decide +kernel
theorem dX5_greatestDivisor_26 : decode cX5_greatestDivisor 26 = .ok (.lload 6, 2) := by decide +kernel
theorem dX5_greatestDivisor_28 : decode cX5_greatestDivisor 28 = .ok (.lrem, 1) := by decide +kernel
theorem dX5_greatestDivisor_29 : decode cX5_greatestDivisor 29 = .ok (.lstore 9, 2) := by decide +kernel
theorem dX5_greatestDivisor_31 : decode cX5_greatestDivisor 31 = .ok (.lload 6, 2) := by decide +kernel
theorem dX5_greatestDivisor_33 : decode cX5_greatestDivisor 33 = .ok (.lstore 4, 2) := by decide +kernel
theorem dX5_greatestDivisor_35 : decode cX5_greatestDivisor 35 = .ok (.lload 9, 2) := by decide +kernel
theorem dX5_greatestDivisor_37 : decode cX5_greatestDivisor 37 = .ok (.lstore 6, 2) := by decide +kernel
theorem dX5_greatestDivisor_39 : decode cX5_greatestDivisor 39 = .ok (.iinc 8 1, 3) := by decide +kernel
theorem dX5_greatestDivisor_42 : decode cX5_greatestDivisor 42 = .ok (.goto (-33), 3) := by decide +kernel
theorem dX5_greatestDivisor_45 : decode cX5_greatestDivisor 45 = .ok (.lload 4, 2) := by decide +kernel
theorem dX5_greatestDivisor_47 : decode cX5_greatestDivisor 47 = .ok (.lreturn, 1) := by decide +kernel
set_option maxRecDepth 20000 in
theorem ggX5_mostPaid_X5_mostPaid : GoodIn wsX5_mostPaid wsX5_mostPaid := goodIn_r _ [0, 1, 2, 3, 4, 5, 6, 7, 8, 9, 10, 11, 12, 13, 14, 15, 16] (by decide +kernel) (by decide +kernel)
set_option maxRecDepth 20000 in
theorem gX5_mostPaid_X5_mostPaid : GoodIn wsX5_mostPaid (va_wsS RX5 206 yX5_mostPaid wsX5_mostPaid) := goodIn_app (goodIn_of _ (by decide +kernel)) ggX5_mostPaid_X5_mostPaid
set_option maxRecDepth 20000 in
theorem ggX5_mostPaid_X5_has : GoodIn wsX5_mostPaid wsX5_has := goodIn_r _ [13] (by decide +kernel) (by decide +kernel)
set_option maxRecDepth 20000 in
theorem gX5_mostPaid_X5_has : GoodIn wsX5_mostPaid (va_wsS RX5 126 yX5_has wsX5_has) := goodIn_app (goodIn_of _ (by decide +kernel)) ggX5_mostPaid_X5_has
theorem dX5_mostPaid_0 : decode cX5_mostPaid 0 = .ok (.iload_n 1, 1) := by decide +kernel
theorem dX5_mostPaid_1 : decode cX5_mostPaid 1 = .ok (.aload_n 0, 1) := by decide +kernel
theorem dX5_mostPaid_2 : decode cX5_mostPaid 2 = .ok (.getfield 363, 3) := by decide +kernel
theorem dX5_mostPaid_5 : decode cX5_mostPaid 5 = .ok (.if_icmp .lt 5, 3) := by decide +kernel
theorem dX5_mostPaid_8 : decode cX5_mostPaid 8 = .ok (.iconst 0, 1) := by decide +kernel
theorem dX5_mostPaid_9 : decode cX5_mostPaid 9 = .ok (.ireturn, 1) := by decide +kernel
theorem dX5_mostPaid_10 : decode cX5_mostPaid 10 = .ok (.aload_n 0, 1) := by decide +kernel
theorem dX5_mostPaid_11 : decode cX5_mostPaid 11 = .ok (.getfield 364, 3) := by decide +kernel
theorem dX5_mostPaid_14 : decode cX5_mostPaid 14 = .ok (.iload_n 1, 1) := by decide +kernel
theorem dX5_mostPaid_15 : decode cX5_mostPaid 15 = .ok (.aaload, 1) := by decide +kernel
theorem dX5_mostPaid_16 : decode cX5_mostPaid 16 = .ok (.iload_n 2, 1) := by decide +kernel
theorem dX5_mostPaid_17 : decode cX5_mostPaid 17 = .ok (.iaload, 1) := by decide +kernel
theorem dX5_mostPaid_18 : decode cX5_mostPaid 18 = .ok (.ifCond .lt 12, 3) := by decide +kernel
theorem dX5_mostPaid_21 : decode cX5_mostPaid 21 = .ok (.aload_n 0, 1) := by decide +kernel
theorem dX5_mostPaid_22 : decode cX5_mostPaid 22 = .ok (.getfield 364, 3) := by decide +kernel
theorem dX5_mostPaid_25 : decode cX5_mostPaid 25 = .ok (.iload_n 1, 1) := by decide +kernel
theorem dX5_mostPaid_26 : decode cX5_mostPaid 26 = .ok (.aaload, 1) := by decide +kernel
theorem dX5_mostPaid_27 : decode cX5_mostPaid 27 = .ok (.iload_n 2, 1) := by decide +kernel
theorem dX5_mostPaid_28 : decode cX5_mostPaid 28 = .ok (.iaload, 1) := by decide +kernel
theorem dX5_mostPaid_29 : decode cX5_mostPaid 29 = .ok (.ireturn, 1) := by decide +kernel
theorem dX5_mostPaid_30 : decode cX5_mostPaid 30 = .ok (.aload_n 0, 1) := by decide +kernel
theorem dX5_mostPaid_31 : decode cX5_mostPaid 31 = .ok (.iload_n 1, 1) := by decide +kernel
theorem dX5_mostPaid_32 : decode cX5_mostPaid 32 = .ok (.iconst 1, 1) := by decide +kernel
theorem dX5_mostPaid_33 : decode cX5_mostPaid 33 = .ok (.iadd, 1) := by decide +kernel
theorem dX5_mostPaid_34 : decode cX5_mostPaid 34 = .ok (.iload_n 2, 1) := by decide +kernel
theorem dX5_mostPaid_35 : decode cX5_mostPaid 35 = .ok (.invokestatic 206, 3) := by decide +kernel
theorem dX5_mostPaid_38 : decode cX5_mostPaid 38 = .ok (.istore_n 3, 1) := by decide +kernel
theorem dX5_mostPaid_39 : decode cX5_mostPaid 39 = .ok (.aload_n 0, 1) := by decide +kernel
theorem dX5_mostPaid_40 : decode cX5_mostPaid 40 = .ok (.getfield 368, 3) := by decide +kernel
theorem dX5_mostPaid_43 : decode cX5_mostPaid 43 = .ok (.iload_n 1, 1) := by decide +kernel
theorem dX5_mostPaid_44 : decode cX5_mostPaid 44 = .ok (.iaload, 1) := by decide +kernel
theorem dX5_mostPaid_45 : decode cX5_mostPaid 45 = .ok (.iload_n 2, 1) := by decide +kernel
theorem dX5_mostPaid_46 : decode cX5_mostPaid 46 = .ok (.iconst (-1), 1) := by decide +kernel
theorem dX5_mostPaid_47 : decode cX5_mostPaid 47 = .ok (.ixor, 1) := by decide +kernel
theorem dX5_mostPaid_48 : decode cX5_mostPaid 48 = .ok (.iand, 1) := by decide +kernel
theorem dX5_mostPaid_49 : decode cX5_mostPaid 49 = .ok (.istore 4, 2) := by decide +kernel
theorem dX5_mostPaid_51 : decode cX5_mostPaid 51 = .ok (.iconst 0, 1) := by decide +kernel
theorem dX5_mostPaid_52 : decode cX5_mostPaid 52 = .ok (.istore 5, 2) := by decide +kernel
theorem dX5_mostPaid_54 : decode cX5_mostPaid 54 = .ok (.iload 5, 2) := by decide +kernel
theorem dX5_mostPaid_56 : decode cX5_mostPaid 56 = .ok (.bipush 8, 2) := by decide +kernel
theorem dX5_mostPaid_58 : decode cX5_mostPaid 58 = .ok (.if_icmp .ge 39, 3) := by decide +kernel
theorem dX5_mostPaid_61 : decode cX5_mostPaid 61 = .ok (.iload 4, 2) := by decide +kernel
theorem dX5_mostPaid_63 : decode cX5_mostPaid 63 = .ok (.iload 5, 2) := by decide +kernel
theorem dX5_mostPaid_65 : decode cX5_mostPaid 65 = .ok (.invokestatic 126, 3) := by decide +kernel
theorem dX5_mostPaid_68 : decode cX5_mostPaid 68 = .ok (.ifCond .eq 23, 3) := by decide +kernel
theorem dX5_mostPaid_71 : decode cX5_mostPaid 71 = .ok (.iload_n 3, 1) := by decide +kernel
theorem dX5_mostPaid_72 : decode cX5_mostPaid 72 = .ok (.iconst 1, 1) := by decide +kernel
theorem dX5_mostPaid_73 : decode cX5_mostPaid 73 = .ok (.aload_n 0, 1) := by decide +kernel
theorem dX5_mostPaid_74 : decode cX5_mostPaid 74 = .ok (.iload_n 1, 1) := by decide +kernel
theorem dX5_mostPaid_75 : decode cX5_mostPaid 75 = .ok (.iconst 1, 1) := by decide +kernel
theorem dX5_mostPaid_76 : decode cX5_mostPaid 76 = .ok (.iadd, 1) := by decide +kernel
theorem dX5_mostPaid_77 : decode cX5_mostPaid 77 = .ok (.iload_n 2, 1) := by decide +kernel
theorem dX5_mostPaid_78 : decode cX5_mostPaid 78 = .ok (.iconst 1, 1) := by decide +kernel
theorem dX5_mostPaid_79 : decode cX5_mostPaid 79 = .ok (.iload 5, 2) := by decide +kernel
theorem dX5_mostPaid_81 : decode cX5_mostPaid 81 = .ok (.ishl, 1) := by decide +kernel
theorem dX5_mostPaid_82 : decode cX5_mostPaid 82 = .ok (.ior, 1) := by decide +kernel
theorem dX5_mostPaid_83 : decode cX5_mostPaid 83 = .ok (.invokestatic 206, 3) := by decide +kernel
theorem dX5_mostPaid_86 : decode cX5_mostPaid 86 = .ok (.iadd, 1) := by decide +kernel
theorem dX5_mostPaid_87 : decode cX5_mostPaid 87 = .ok (.invokestatic 371, 3) := by decide +kernel
theorem dX5_mostPaid_90 : decode cX5_mostPaid 90 = .ok (.istore_n 3, 1) := by decide +kernel
theorem dX5_mostPaid_91 : decode cX5_mostPaid 91 = .ok (.iinc 5 1, 3) := by decide +kernel
theorem dX5_mostPaid_94 : decode cX5_mostPaid 94 = .ok (.goto (-40), 3) := by decide +kernel
theorem dX5_mostPaid_97 : decode cX5_mostPaid 97 = .ok (.aload_n 0, 1) := by decide +kernel
theorem dX5_mostPaid_98 : decode cX5_mostPaid 98 = .ok (.getfield 364, 3) := by decide +kernel
theorem dX5_mostPaid_101 : decode cX5_mostPaid 101 = .ok (.iload_n 1, 1) := by decide +kernel
theorem dX5_mostPaid_102 : decode cX5_mostPaid 102 = .ok (.aaload, 1) := by decide +kernel
theorem dX5_mostPaid_103 : decode cX5_mostPaid 103 = .ok (.iload_n 2, 1) := by decide +kernel
theorem dX5_mostPaid_104 : decode cX5_mostPaid 104 = .ok (.iload_n 3, 1) := by decide +kernel
theorem dX5_mostPaid_105 : decode cX5_mostPaid 105 = .ok (.iastore, 1) := by decide +kernel
theorem dX5_mostPaid_106 : decode cX5_mostPaid 106 = .ok (.iload_n 3, 1) := by decide +kernel
theorem dX5_mostPaid_107 : decode cX5_mostPaid 107 = .ok (.ireturn, 1) := by decide +kernel
set_option maxRecDepth 20000 in
theorem ggX5_classify_X5_classify : GoodIn wsX5_classify wsX5_classify := goodIn_r _ [0, 1, 2, 3, 4, 5, 6, 7, 8, 9, 10, 11, 12, 13, 14, 15, 16, 17] (by decide +kernel) (by decide +kernel)
set_option maxRecDepth 20000 in
theorem gX5_classify_X5_classify : GoodIn wsX5_classify (va_wsS RX5 379 yX5_classify wsX5_classify) := goodIn_app (goodIn_of _ (by decide +kernel)) ggX5_classify_X5_classify
set_option maxRecDepth 20000 in
theorem ggX5_classify_X2_isBarred : GoodIn wsX5_classify wsX2_isBarred := goodIn_r _ [10, 11, 12, 13, 5, 14, 15, 16, 17] (by decide +kernel) (by decide +kernel)
set_option maxRecDepth 20000 in
theorem gX5_classify_X2_isBarred : GoodIn wsX5_classify (wsV RX5 383 RX2 yX2_isBarred wsX2_isBarred) := goodIn_app (goodIn_of _ (by decide +kernel)) ggX5_classify_X2_isBarred
theorem dX5_classify_0 : decode cX5_classify 0 = .ok (.iload_n 1, 1) := by decide +kernel
theorem dX5_classify_1 : decode cX5_classify 1 = .ok (.bipush 8, 2) := by decide +kernel
theorem dX5_classify_3 : decode cX5_classify 3 = .ok (.if_icmp .lt 5, 3) := by decide +kernel
theorem dX5_classify_6 : decode cX5_classify 6 = .ok (.iconst 1, 1) := by decide +kernel
theorem dX5_classify_7 : decode cX5_classify 7 = .ok (.ireturn, 1) := by decide +kernel
theorem dX5_classify_8 : decode cX5_classify 8 = .ok (.aload_n 0, 1) := by decide +kernel
theorem dX5_classify_9 : decode cX5_classify 9 = .ok (.getfield 376, 3) := by decide +kernel
theorem dX5_classify_12 : decode cX5_classify 12 = .ok (.iload_n 1, 1) := by decide +kernel
theorem dX5_classify_13 : decode cX5_classify 13 = .ok (.iaload, 1) := by decide +kernel
theorem dX5_classify_14 : decode cX5_classify 14 = .ok (.iload_n 1, 1) := by decide +kernel
theorem dX5_classify_15 : decode cX5_classify 15 = .ok (.if_icmp .ge 30, 3) := by decide +kernel
theorem dX5_classify_18 : decode cX5_classify 18 = .ok (.aload_n 0, 1) := by decide +kernel
theorem dX5_classify_19 : decode cX5_classify 19 = .ok (.getfield 223, 3) := by decide +kernel
theorem dX5_classify_22 : decode cX5_classify 22 = .ok (.iload_n 1, 1) := by decide +kernel
theorem dX5_classify_23 : decode cX5_classify 23 = .ok (.aload_n 0, 1) := by decide +kernel
theorem dX5_classify_24 : decode cX5_classify 24 = .ok (.getfield 223, 3) := by decide +kernel
theorem dX5_classify_27 : decode cX5_classify 27 = .ok (.aload_n 0, 1) := by decide +kernel
theorem dX5_classify_28 : decode cX5_classify 28 = .ok (.getfield 376, 3) := by decide +kernel
theorem dX5_classify_31 : decode cX5_classify 31 = .ok (.iload_n 1, 1) := by decide +kernel
theorem dX5_classify_32 : decode cX5_classify 32 = .ok (.iaload, 1) := by decide +kernel
theorem dX5_classify_33 : decode cX5_classify 33 = .ok (.iaload, 1) := by decide +kernel
theorem dX5_classify_34 : decode cX5_classify 34 = .ok (.iastore, 1) := by decide +kernel
theorem dX5_classify_35 : decode cX5_classify 35 = .ok (.aload_n 0, 1) := by decide +kernel
theorem dX5_classify_36 : decode cX5_classify 36 = .ok (.iload_n 1, 1) := by decide +kernel
theorem dX5_classify_37 : decode cX5_classify 37 = .ok (.iconst 1, 1) := by decide +kernel
theorem dX5_classify_38 : decode cX5_classify 38 = .ok (.iadd, 1) := by decide +kernel
theorem dX5_classify_39 : decode cX5_classify 39 = .ok (.iload_n 2, 1) := by decide +kernel
theorem dX5_classify_40 : decode cX5_classify 40 = .ok (.iload_n 3, 1) := by decide +kernel
theorem dX5_classify_41 : decode cX5_classify 41 = .ok (.invokestatic 379, 3) := by decide +kernel
theorem dX5_classify_44 : decode cX5_classify 44 = .ok (.ireturn, 1) := by decide +kernel
theorem dX5_classify_45 : decode cX5_classify 45 = .ok (.iconst 0, 1) := by decide +kernel
theorem dX5_classify_46 : decode cX5_classify 46 = .ok (.istore 4, 2) := by decide +kernel
theorem dX5_classify_48 : decode cX5_classify 48 = .ok (.iload 4, 2) := by decide +kernel
theorem dX5_classify_50 : decode cX5_classify 50 = .ok (.iload_n 2, 1) := by decide +kernel
theorem dX5_classify_51 : decode cX5_classify 51 = .ok (.if_icmp .gt 59, 3) := by decide +kernel
theorem dX5_classify_54 : decode cX5_classify 54 = .ok (.iload 4, 2) := by decide +kernel
theorem dX5_classify_56 : decode cX5_classify 56 = .ok (.iload_n 3, 1) := by decide +kernel
theorem dX5_classify_57 : decode cX5_classify 57 = .ok (.if_icmp .ge 53, 3) := by decide +kernel
theorem dX5_classify_60 : decode cX5_classify 60 = .ok (.aload_n 0, 1) := by decide +kernel
theorem dX5_classify_61 : decode cX5_classify 61 = .ok (.iload_n 1, 1) := by decide +kernel
theorem dX5_classify_62 : decode cX5_classify 62 = .ok (.iload 4, 2) := by decide +kernel
theorem dX5_classify_64 : decode cX5_classify 64 = .ok (.invokevirtual 383, 3) := by decide +kernel
theorem dX5_classify_67 : decode cX5_classify 67 = .ok (.ifCond .ne 37, 3) := by decide +kernel
theorem dX5_classify_70 : decode cX5_classify 70 = .ok (.aload_n 0, 1) := by decide +kernel
theorem dX5_classify_71 : decode cX5_classify 71 = .ok (.getfield 223, 3) := by decide +kernel
theorem dX5_classify_74 : decode cX5_classify 74 = .ok (.iload_n 1, 1) := by decide +kernel
theorem dX5_classify_75 : decode cX5_classify 75 = .ok (.iload 4, 2) := by decide +kernel
theorem dX5_classify_77 : decode cX5_classify 77 = .ok (.iastore, 1) := by decide +kernel
theorem dX5_classify_78 : decode cX5_classify 78 = .ok (.aload_n 0, 1) := by decide +kernel
theorem dX5_classify_79 : decode cX5_classify 79 = .ok (.iload_n 1, 1) := by decide +kernel
theorem dX5_classify_80 : decode cX5_classify 80 = .ok (.iconst 1, 1) := by decide +kernel
theorem dX5_classify_81 : decode cX5_classify 81 = .ok (.iadd, 1) := by decide +kernel
theorem dX5_classify_82 : decode cX5_classify 82 = .ok (.iload 4, 2) := by decide +kernel
theorem dX5_classify_84 : decode cX5_classify 84 = .ok (.iload_n 2, 1) := by decide +kernel
theorem dX5_classify_85 : decode cX5_classify 85 = .ok (.if_icmp .ne 9, 3) := by decide +kernel
theorem dX5_classify_88 : decode cX5_classify 88 = .ok (.iload_n 2, 1) := by decide +kernel
theorem dX5_classify_89 : decode cX5_classify 89 = .ok (.iconst 1, 1) := by decide +kernel
theorem dX5_classify_90 : decode cX5_classify 90 = .ok (.iadd, 1) := by decide +kernel
theorem dX5_classify_91 : decode cX5_classify 91 = .ok (.goto 4, 3) := by decide +kernel
theorem dX5_classify_94 : decode cX5_classify 94 = .ok (.iload_n 2, 1) := by decide +kernel
theorem dX5_classify_95 : decode cX5_classify 95 = .ok (.iload_n 3, 1) := by decide +kernel
theorem dX5_classify_96 : decode cX5_classify 96 = .ok (.invokestatic 379, 3) := by decide +kernel
theorem dX5_classify_99 : decode cX5_classify 99 = .ok (.ifCond .eq 5, 3) := by decide +kernel
theorem dX5_classify_102 : decode cX5_classify 102 = .ok (.iconst 1, 1) := by decide +kernel
theorem dX5_classify_103 : decode cX5_classify 103 = .ok (.ireturn, 1) := by decide +kernel
theorem dX5_classify_104 : decode cX5_classify 104 = .ok (.iinc 4 1, 3) := by decide +kernel
theorem dX5_classify_107 : decode cX5_classify 107 = .ok (.goto (-59), 3) := by decide +kernel
theorem dX5_classify_110 : decode cX5_classify 110 = .ok (.iconst 0, 1) := by decide +kernel
theorem dX5_classify_111 : decode cX5_classify 111 = .ok (.ireturn, 1) := by decide +kernel
