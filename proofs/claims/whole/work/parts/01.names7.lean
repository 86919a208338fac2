theorem dX10_laysParts_48 : decode cX10_laysParts 48 = .ok (.aload_n 0, 1) := by decide +kernel
theorem dX10_laysParts_49 : decode cX10_laysParts 49 = .ok (.getfield 34, 3) := by decide +kernel
theorem dX10_laysParts_52 : decode cX10_laysParts 52 = .ok (.iload_n 2, 1) := by decide +kernel
theorem dX10_laysParts_53 : decode cX10_laysParts 53 = .ok (.iload_n 2, 1) := by decide +kernel
theorem dX10_laysParts_54 : decode cX10_laysParts 54 = .ok (.aload_n 0, 1) := by decide +kernel
theorem dX10_laysParts_55 : decode cX10_laysParts 55 = .ok (.getfield 22, 3) := by decide +kernel
theorem dX10_laysParts_58 : decode cX10_laysParts 58 = .ok (.iload_n 2, 1) := by decide +kernel
theorem dX10_laysParts_59 : decode cX10_laysParts 59 = .ok (.iaload, 1) := by decide +kernel
theorem dX10_laysParts_60 : decode cX10_laysParts 60 = .ok (.bipush 48, 2) := by decide +kernel
theorem dX10_laysParts_62 : decode cX10_laysParts 62 = .ok (.isub, 1) := by decide +kernel
theorem dX10_laysParts_63 : decode cX10_laysParts 63 = .ok (.invokestatic 171, 3) := by decide +kernel
theorem dX10_laysParts_66 : decode cX10_laysParts 66 = .ok (.iconst 1, 1) := by decide +kernel
theorem dX10_laysParts_67 : decode cX10_laysParts 67 = .ok (.iastore, 1) := by decide +kernel
theorem dX10_laysParts_68 : decode cX10_laysParts 68 = .ok (.iload_n 2, 1) := by decide +kernel
theorem dX10_laysParts_69 : decode cX10_laysParts 69 = .ok (.istore_n 3, 1) := by decide +kernel
theorem dX10_laysParts_70 : decode cX10_laysParts 70 = .ok (.iload_n 3, 1) := by decide +kernel
theorem dX10_laysParts_71 : decode cX10_laysParts 71 = .ok (.iload_n 2, 1) := by decide +kernel
theorem dX10_laysParts_72 : decode cX10_laysParts 72 = .ok (.iload_n 1, 1) := by decide +kernel
theorem dX10_laysParts_73 : decode cX10_laysParts 73 = .ok (.iadd, 1) := by decide +kernel
theorem dX10_laysParts_74 : decode cX10_laysParts 74 = .ok (.if_icmp .ge 18, 3) := by decide +kernel
theorem dX10_laysParts_77 : decode cX10_laysParts 77 = .ok (.aload_n 0, 1) := by decide +kernel
theorem dX10_laysParts_78 : decode cX10_laysParts 78 = .ok (.iload_n 2, 1) := by decide +kernel
theorem dX10_laysParts_79 : decode cX10_laysParts 79 = .ok (.iload_n 3, 1) := by decide +kernel
theorem dX10_laysParts_80 : decode cX10_laysParts 80 = .ok (.iload_n 2, 1) := by decide +kernel
theorem dX10_laysParts_81 : decode cX10_laysParts 81 = .ok (.iload_n 1, 1) := by decide +kernel
theorem dX10_laysParts_82 : decode cX10_laysParts 82 = .ok (.iadd, 1) := by decide +kernel
theorem dX10_laysParts_83 : decode cX10_laysParts 83 = .ok (.invokevirtual 175, 3) := by decide +kernel
theorem dX10_laysParts_86 : decode cX10_laysParts 86 = .ok (.iinc 3 1, 3) := by decide +kernel
theorem dX10_laysParts_89 : decode cX10_laysParts 89 = .ok (.goto (-19), 3) := by decide +kernel
theorem dX10_laysParts_92 : decode cX10_laysParts 92 = .ok (.iinc 2 1, 3) := by decide +kernel
theorem dX10_laysParts_95 : decode cX10_laysParts 95 = .ok (.goto (-61), 3) := by decide +kernel
theorem dX10_laysParts_98 : decode cX10_laysParts 98 = .ok (.iinc 1 1, 3) := by decide +kernel
theorem dX10_laysParts_101 : decode cX10_laysParts 101 = .ok (.goto (-77), 3) := by decide +kernel
theorem dX10_laysParts_104 : decode cX10_laysParts 104 = .ok (.return_, 1) := by decide +kernel
set_option maxRecDepth 20000 in
theorem ggX10_adds_X10_plain : GoodIn wsX10_adds wsX10_plain := goodIn_r _ [7, 1, 8, 9, 6, 10, 14, 15, 16, 17, 18, 19, 20, 21, 22, 23, 24, 25, 26, 27] (by decide +kernel) (by decide +kernel)
set_option maxRecDepth 20000 in
theorem gX10_adds_X10_plain : GoodIn wsX10_adds (wsV RX10 53 RX10 yX10_plain wsX10_plain) := goodIn_app (goodIn_of _ (by decide +kernel)) ggX10_adds_X10_plain
set_option maxRecDepth 20000 in
theorem ggX10_adds_X10_part : GoodIn wsX10_adds wsX10_part := goodIn_r _ [13] (by decide +kernel) (by decide +kernel)
set_option maxRecDepth 20000 in
theorem gX10_adds_X10_part : GoodIn wsX10_adds (va_wsS RX10 171 yX10_part wsX10_part) := goodIn_app (goodIn_of _ (by decide +kernel)) ggX10_adds_X10_part
theorem dX10_adds_0 : decode cX10_adds 0 = .ok (.iconst 0, 1) := by decide +kernel
theorem dX10_adds_1 : decode cX10_adds 1 = .ok (.istore 4, 2) := by decide +kernel
theorem dX10_adds_3 : decode cX10_adds 3 = .ok (.iload 4, 2) := by decide +kernel
theorem dX10_adds_5 : decode cX10_adds 5 = .ok (.aload_n 0, 1) := by decide +kernel
theorem dX10_adds_6 : decode cX10_adds 6 = .ok (.getfield 7, 3) := by decide +kernel
theorem dX10_adds_9 : decode cX10_adds 9 = .ok (.iconst 0, 1) := by decide +kernel
theorem dX10_adds_10 : decode cX10_adds 10 = .ok (.iaload, 1) := by decide +kernel
theorem dX10_adds_11 : decode cX10_adds 11 = .ok (.if_icmp .ge 77, 3) := by decide +kernel
theorem dX10_adds_14 : decode cX10_adds 14 = .ok (.iconst 0, 1) := by decide +kernel
theorem dX10_adds_15 : decode cX10_adds 15 = .ok (.istore 5, 2) := by decide +kernel
theorem dX10_adds_17 : decode cX10_adds 17 = .ok (.iload 5, 2) := by decide +kernel
theorem dX10_adds_19 : decode cX10_adds 19 = .ok (.aload_n 0, 1) := by decide +kernel
theorem dX10_adds_20 : decode cX10_adds 20 = .ok (.getfield 7, 3) := by decide +kernel
theorem dX10_adds_23 : decode cX10_adds 23 = .ok (.iconst 0, 1) := by decide +kernel
theorem dX10_adds_24 : decode cX10_adds 24 = .ok (.iaload, 1) := by decide +kernel
theorem dX10_adds_25 : decode cX10_adds 25 = .ok (.if_icmp .ge 57, 3) := by decide +kernel
theorem dX10_adds_28 : decode cX10_adds 28 = .ok (.aload_n 0, 1) := by decide +kernel
theorem dX10_adds_29 : decode cX10_adds 29 = .ok (.getfield 34, 3) := by decide +kernel
theorem dX10_adds_32 : decode cX10_adds 32 = .ok (.iload_n 1, 1) := by decide +kernel
theorem dX10_adds_33 : decode cX10_adds 33 = .ok (.iload_n 3, 1) := by decide +kernel
theorem dX10_adds_34 : decode cX10_adds 34 = .ok (.aload_n 0, 1) := by decide +kernel
theorem dX10_adds_35 : decode cX10_adds 35 = .ok (.iload 4, 2) := by decide +kernel
theorem dX10_adds_37 : decode cX10_adds 37 = .ok (.iload 5, 2) := by decide +kernel
theorem dX10_adds_39 : decode cX10_adds 39 = .ok (.invokevirtual 53, 3) := by decide +kernel
theorem dX10_adds_42 : decode cX10_adds 42 = .ok (.invokestatic 171, 3) := by decide +kernel
theorem dX10_adds_45 : decode cX10_adds 45 = .ok (.dup2, 1) := by decide +kernel
theorem dX10_adds_46 : decode cX10_adds 46 = .ok (.iaload, 1) := by decide +kernel
theorem dX10_adds_47 : decode cX10_adds 47 = .ok (.aload_n 0, 1) := by decide +kernel
theorem dX10_adds_48 : decode cX10_adds 48 = .ok (.getfield 34, 3) := by decide +kernel
theorem dX10_adds_51 : decode cX10_adds 51 = .ok (.iload_n 1, 1) := by decide +kernel
theorem dX10_adds_52 : decode cX10_adds 52 = .ok (.iload_n 2, 1) := by decide +kernel
theorem dX10_adds_53 : decode cX10_adds 53 = .ok (.iload 4, 2) := by decide +kernel
theorem dX10_adds_55 : decode cX10_adds 55 = .ok (.invokestatic 171, 3) := by decide +kernel
theorem dX10_adds_58 : decode cX10_adds 58 = .ok (.iaload, 1) := by decide +kernel
theorem dX10_adds_59 : decode cX10_adds 59 = .ok (.aload_n 0, 1) := by decide +kernel
theorem dX10_adds_60 : decode cX10_adds 60 = .ok (.getfield 34, 3) := by decide +kernel
theorem dX10_adds_63 : decode cX10_adds 63 = .ok (.iload_n 2, 1) := by decide +kernel
theorem dX10_adds_64 : decode cX10_adds 64 = .ok (.iconst 1, 1) := by decide +kernel
theorem dX10_adds_65 : decode cX10_adds 65 = .ok (.iadd, 1) := by decide +kernel
theorem dX10_adds_66 : decode cX10_adds 66 = .ok (.iload_n 3, 1) := by decide +kernel
theorem dX10_adds_67 : decode cX10_adds 67 = .ok (.iload 5, 2) := by decide +kernel
theorem dX10_adds_69 : decode cX10_adds 69 = .ok (.invokestatic 171, 3) := by decide +kernel
theorem dX10_adds_72 : decode cX10_adds 72 = .ok (.iaload, 1) := by decide +kernel
theorem dX10_adds_73 : decode cX10_adds 73 = .ok (.imul, 1) := by decide +kernel
theorem dX10_adds_74 : decode cX10_adds 74 = .ok (.iadd, 1) := by decide +kernel
theorem dX10_adds_75 : decode cX10_adds 75 = .ok (.iastore, 1) := by decide +kernel
theorem dX10_adds_76 : decode cX10_adds 76 = .ok (.iinc 5 1, 3) := by decide +kernel
theorem dX10_adds_79 : decode cX10_adds 79 = .ok (.goto (-62), 3) := by decide +kernel
theorem dX10_adds_82 : decode cX10_adds 82 = .ok (.iinc 4 1, 3) := by decide +kernel
theorem dX10_adds_85 : decode cX10_adds 85 = .ok (.goto (-82), 3) := by decide +kernel
theorem dX10_adds_88 : decode cX10_adds 88 = .ok (.return_, 1) := by decide +kernel
set_option maxRecDepth 20000 in
theorem ggX10_waysTo_X10_part : GoodIn wsX10_waysTo wsX10_part := goodIn_r _ [6] (by decide +kernel) (by decide +kernel)
set_option maxRecDepth 20000 in
theorem gX10_waysTo_X10_part : GoodIn wsX10_waysTo (va_wsS RX10 171 yX10_part wsX10_part) := goodIn_app (goodIn_of _ (by decide +kernel)) ggX10_waysTo_X10_part
theorem dX10_waysTo_0 : decode cX10_waysTo 0 = .ok (.aload_n 0, 1) := by decide +kernel
theorem dX10_waysTo_1 : decode cX10_waysTo 1 = .ok (.getfield 34, 3) := by decide +kernel
theorem dX10_waysTo_4 : decode cX10_waysTo 4 = .ok (.iconst 0, 1) := by decide +kernel
theorem dX10_waysTo_5 : decode cX10_waysTo 5 = .ok (.aload_n 0, 1) := by decide +kernel
theorem dX10_waysTo_6 : decode cX10_waysTo 6 = .ok (.getfield 111, 3) := by decide +kernel
theorem dX10_waysTo_9 : decode cX10_waysTo 9 = .ok (.iconst 1, 1) := by decide +kernel
theorem dX10_waysTo_10 : decode cX10_waysTo 10 = .ok (.isub, 1) := by decide +kernel
theorem dX10_waysTo_11 : decode cX10_waysTo 11 = .ok (.iload_n 1, 1) := by decide +kernel
theorem dX10_waysTo_12 : decode cX10_waysTo 12 = .ok (.invokestatic 171, 3) := by decide +kernel
theorem dX10_waysTo_15 : decode cX10_waysTo 15 = .ok (.iaload, 1) := by decide +kernel
theorem dX10_waysTo_16 : decode cX10_waysTo 16 = .ok (.ireturn, 1) := by decide +kernel
set_option maxRecDepth 20000 in
theorem ggX10_ways_X10_isToken : GoodIn wsX10_ways wsX10_isToken := goodIn_r _ [5, 6, 7, 8, 4, 9, 43, 44, 45, 46, 47, 48, 49, 50, 51, 52, 53, 54, 55, 56] (by decide +kernel) (by decide +kernel)
set_option maxRecDepth 20000 in
theorem gX10_ways_X10_isToken : GoodIn wsX10_ways (wsV RX10 94 RX10 yX10_isToken wsX10_isToken) := goodIn_app (goodIn_of _ (by decide +kernel)) ggX10_ways_X10_isToken
set_option maxRecDepth 20000 in
theorem ggX10_ways_X10_in : GoodIn wsX10_ways wsX10_in := goodIn_r _ [9] (by decide +kernel) (by decide +kernel)
set_option maxRecDepth 20000 in
theorem gX10_ways_X10_in : GoodIn wsX10_ways (va_wsS RX10 41 yX10_in wsX10_in) := goodIn_app (goodIn_of _ (by decide +kernel)) ggX10_ways_X10_in
set_option maxRecDepth 20000 in
theorem ggX10_ways_X10_rowFault : GoodIn wsX10_ways wsX10_rowFault := goodIn_r _ [13, 14, 15, 16, 17, 4, 18, 19, 1, 2, 3, 5, 6, 7, 8, 9, 43, 44, 45, 46, 47, 48, 49, 50, 51, 52, 53, 54, 55, 56] (by decide +kernel) (by decide +kernel)
set_option maxRecDepth 20000 in
theorem gX10_ways_X10_rowFault : GoodIn wsX10_ways (wsV RX10 135 RX10 yX10_rowFault wsX10_rowFault) := goodIn_app (goodIn_of _ (by decide +kernel)) ggX10_ways_X10_rowFault
set_option maxRecDepth 20000 in
theorem ggX10_ways_X10_laysParts : GoodIn wsX10_ways wsX10_laysParts := goodIn_r _ [23, 24, 14, 19, 25, 26, 4, 27, 28, 29, 30, 31, 6, 32, 33, 34, 35, 36, 37, 38, 43, 44, 45, 46, 47, 48, 49, 50, 51, 52, 53, 54, 55, 56] (by decide +kernel) (by decide +kernel)
set_option maxRecDepth 20000 in
theorem gX10_ways_X10_laysParts : GoodIn wsX10_ways (wsV RX10 179 RX10 yX10_laysParts wsX10_laysParts) := goodIn_app (goodIn_of _ (by decide +kernel)) ggX10_ways_X10_laysParts
set_option maxRecDepth 20000 in
theorem ggX10_ways_X10_waysTo : GoodIn wsX10_ways wsX10_waysTo := goodIn_r _ [42, 24, 14, 25, 26, 4, 27, 43, 44, 45, 46, 47, 48, 49, 50, 51, 52, 53, 54, 55, 56] (by decide +kernel) (by decide +kernel)
set_option maxRecDepth 20000 in
theorem gX10_ways_X10_waysTo : GoodIn wsX10_ways (wsV RX10 182 RX10 yX10_waysTo wsX10_waysTo) := goodIn_app (goodIn_of _ (by decide +kernel)) ggX10_ways_X10_waysTo
theorem dX10_ways_0 : decode cX10_ways 0 = .ok (.aload_n 0, 1) := by decide +kernel
theorem dX10_ways_1 : decode cX10_ways 1 = .ok (.iload_n 1, 1) := by decide +kernel
theorem dX10_ways_2 : decode cX10_ways 2 = .ok (.invokevirtual 94, 3) := by decide +kernel
theorem dX10_ways_5 : decode cX10_ways 5 = .ok (.ifCond .eq 12, 3) := by decide +kernel
theorem dX10_ways_8 : decode cX10_ways 8 = .ok (.iload_n 2, 1) := by decide +kernel
theorem dX10_ways_9 : decode cX10_ways 9 = .ok (.iconst 0, 1) := by decide +kernel
theorem dX10_ways_10 : decode cX10_ways 10 = .ok (.iconst 1, 1) := by decide +kernel
theorem dX10_ways_11 : decode cX10_ways 11 = .ok (.invokestatic 41, 3) := by decide +kernel
theorem dX10_ways_14 : decode cX10_ways 14 = .ok (.ifCond .ne 5, 3) := by decide +kernel
theorem dX10_ways_17 : decode cX10_ways 17 = .ok (.iconst (-1), 1) := by decide +kernel
theorem dX10_ways_18 : decode cX10_ways 18 = .ok (.ireturn, 1) := by decide +kernel
theorem dX10_ways_19 : decode cX10_ways 19 = .ok (.aload_n 0, 1) := by decide +kernel
theorem dX10_ways_20 : decode cX10_ways 20 = .ok (.invokevirtual 135, 3) := by decide +kernel
theorem dX10_ways_23 : decode cX10_ways 23 = .ok (.iconst (-1), 1) := by decide +kernel
theorem dX10_ways_24 : decode cX10_ways 24 = .ok (.if_icmp .eq 6, 3) := by decide +kernel
theorem dX10_ways_27 : decode cX10_ways 27 = .ok (.bipush (-2), 2) := by decide +kernel
theorem dX10_ways_29 : decode cX10_ways 29 = .ok (.ireturn, 1) := by decide +kernel
theorem dX10_ways_30 : decode cX10_ways 30 = .ok (.aload_n 0, 1) := by decide +kernel
theorem dX10_ways_31 : decode cX10_ways 31 = .ok (.invokevirtual 179, 3) := by decide +kernel
theorem dX10_ways_34 : decode cX10_ways 34 = .ok (.aload_n 0, 1) := by decide +kernel
theorem dX10_ways_35 : decode cX10_ways 35 = .ok (.iload_n 1, 1) := by decide +kernel
theorem dX10_ways_36 : decode cX10_ways 36 = .ok (.invokevirtual 182, 3) := by decide +kernel
theorem dX10_ways_39 : decode cX10_ways 39 = .ok (.ireturn, 1) := by decide +kernel
set_option maxRecDepth 20000 in
theorem ggX10_sumOneWay_X10_plain : GoodIn wsX10_sumOneWay wsX10_plain := goodIn_r _ [7, 8, 9, 10, 6, 11, 12, 13, 14, 15, 16, 17, 18, 19, 20, 21, 22, 23, 24, 25] (by decide +kernel) (by decide +kernel)
set_option maxRecDepth 20000 in
theorem gX10_sumOneWay_X10_plain : GoodIn wsX10_sumOneWay (wsV RX10 53 RX10 yX10_plain wsX10_plain) := goodIn_app (goodIn_of _ (by decide +kernel)) ggX10_sumOneWay_X10_plain
theorem dX10_sumOneWay_0 : decode cX10_sumOneWay 0 = .ok (.iload_n 1, 1) := by decide +kernel
theorem dX10_sumOneWay_1 : decode cX10_sumOneWay 1 = .ok (.ifCond .eq 15, 3) := by decide +kernel
theorem dX10_sumOneWay_4 : decode cX10_sumOneWay 4 = .ok (.aload_n 0, 1) := by decide +kernel
theorem dX10_sumOneWay_5 : decode cX10_sumOneWay 5 = .ok (.getfield 22, 3) := by decide +kernel
theorem dX10_sumOneWay_8 : decode cX10_sumOneWay 8 = .ok (.iconst 0, 1) := by decide +kernel
theorem dX10_sumOneWay_9 : decode cX10_sumOneWay 9 = .ok (.iaload, 1) := by decide +kernel
theorem dX10_sumOneWay_10 : decode cX10_sumOneWay 10 = .ok (.bipush 48, 2) := by decide +kernel
theorem dX10_sumOneWay_12 : decode cX10_sumOneWay 12 = .ok (.isub, 1) := by decide +kernel
theorem dX10_sumOneWay_13 : decode cX10_sumOneWay 13 = .ok (.goto 17, 3) := by decide +kernel
theorem dX10_sumOneWay_16 : decode cX10_sumOneWay 16 = .ok (.aload_n 0, 1) := by decide +kernel
theorem dX10_sumOneWay_17 : decode cX10_sumOneWay 17 = .ok (.getfield 22, 3) := by decide +kernel
theorem dX10_sumOneWay_20 : decode cX10_sumOneWay 20 = .ok (.aload_n 0, 1) := by decide +kernel
theorem dX10_sumOneWay_21 : decode cX10_sumOneWay 21 = .ok (.getfield 111, 3) := by decide +kernel
theorem dX10_sumOneWay_24 : decode cX10_sumOneWay 24 = .ok (.iconst 1, 1) := by decide +kernel
theorem dX10_sumOneWay_25 : decode cX10_sumOneWay 25 = .ok (.isub, 1) := by decide +kernel
theorem dX10_sumOneWay_26 : decode cX10_sumOneWay 26 = .ok (.iaload, 1) := by decide +kernel
theorem dX10_sumOneWay_27 : decode cX10_sumOneWay 27 = .ok (.bipush 48, 2) := by decide +kernel
theorem dX10_sumOneWay_29 : decode cX10_sumOneWay 29 = .ok (.isub, 1) := by decide +kernel
theorem dX10_sumOneWay_30 : decode cX10_sumOneWay 30 = .ok (.istore_n 2, 1) := by decide +kernel
theorem dX10_sumOneWay_31 : decode cX10_sumOneWay 31 = .ok (.iconst 1, 1) := by decide +kernel
theorem dX10_sumOneWay_32 : decode cX10_sumOneWay 32 = .ok (.istore_n 3, 1) := by decide +kernel
theorem dX10_sumOneWay_33 : decode cX10_sumOneWay 33 = .ok (.iload_n 3, 1) := by decide +kernel
theorem dX10_sumOneWay_34 : decode cX10_sumOneWay 34 = .ok (.aload_n 0, 1) := by decide +kernel
theorem dX10_sumOneWay_35 : decode cX10_sumOneWay 35 = .ok (.getfield 111, 3) := by decide +kernel
theorem dX10_sumOneWay_38 : decode cX10_sumOneWay 38 = .ok (.if_icmp .ge 52, 3) := by decide +kernel
theorem dX10_sumOneWay_41 : decode cX10_sumOneWay 41 = .ok (.iload_n 1, 1) := by decide +kernel
theorem dX10_sumOneWay_42 : decode cX10_sumOneWay 42 = .ok (.ifCond .eq 20, 3) := by decide +kernel
theorem dX10_sumOneWay_45 : decode cX10_sumOneWay 45 = .ok (.aload_n 0, 1) := by decide +kernel
theorem dX10_sumOneWay_46 : decode cX10_sumOneWay 46 = .ok (.iload_n 2, 1) := by decide +kernel
theorem dX10_sumOneWay_47 : decode cX10_sumOneWay 47 = .ok (.aload_n 0, 1) := by decide +kernel
theorem dX10_sumOneWay_48 : decode cX10_sumOneWay 48 = .ok (.getfield 22, 3) := by decide +kernel
theorem dX10_sumOneWay_51 : decode cX10_sumOneWay 51 = .ok (.iload_n 3, 1) := by decide +kernel
theorem dX10_sumOneWay_52 : decode cX10_sumOneWay 52 = .ok (.iaload, 1) := by decide +kernel
theorem dX10_sumOneWay_53 : decode cX10_sumOneWay 53 = .ok (.bipush 48, 2) := by decide +kernel
theorem dX10_sumOneWay_55 : decode cX10_sumOneWay 55 = .ok (.isub, 1) := by decide +kernel
theorem dX10_sumOneWay_56 : decode cX10_sumOneWay 56 = .ok (.invokevirtual 53, 3) := by decide +kernel
theorem dX10_sumOneWay_59 : decode cX10_sumOneWay 59 = .ok (.goto 24, 3) := by decide +kernel
theorem dX10_sumOneWay_62 : decode cX10_sumOneWay 62 = .ok (.aload_n 0, 1) := by decide +kernel
theorem dX10_sumOneWay_63 : decode cX10_sumOneWay 63 = .ok (.aload_n 0, 1) := by decide +kernel
theorem dX10_sumOneWay_64 : decode cX10_sumOneWay 64 = .ok (.getfield 22, 3) := by decide +kernel
theorem dX10_sumOneWay_67 : decode cX10_sumOneWay 67 = .ok (.aload_n 0, 1) := by decide +kernel
theorem dX10_sumOneWay_68 : decode cX10_sumOneWay 68 = .ok (.getfield 111, 3) := by decide +kernel
theorem dX10_sumOneWay_71 : decode cX10_sumOneWay 71 = .ok (.iconst 1, 1) := by decide +kernel
theorem dX10_sumOneWay_72 : decode cX10_sumOneWay 72 = .ok (.isub, 1) := by decide +kernel
theorem dX10_sumOneWay_73 : decode cX10_sumOneWay 73 = .ok (.iload_n 3, 1) := by decide +kernel
theorem dX10_sumOneWay_74 : decode cX10_sumOneWay 74 = .ok (.isub, 1) := by decide +kernel
theorem dX10_sumOneWay_75 : decode cX10_sumOneWay 75 = .ok (.iaload, 1) := by decide +kernel
theorem dX10_sumOneWay_76 : decode cX10_sumOneWay 76 = .ok (.bipush 48, 2) := by decide +kernel
theorem dX10_sumOneWay_78 : decode cX10_sumOneWay 78 = .ok (.isub, 1) := by decide +kernel
theorem dX10_sumOneWay_79 : decode cX10_sumOneWay 79 = .ok (.iload_n 2, 1) := by decide +kernel
theorem dX10_sumOneWay_80 : decode cX10_sumOneWay 80 = .ok (.invokevirtual 53, 3) := by decide +kernel
theorem dX10_sumOneWay_83 : decode cX10_sumOneWay 83 = .ok (.istore_n 2, 1) := by decide +kernel
theorem dX10_sumOneWay_84 : decode cX10_sumOneWay 84 = .ok (.iinc 3 1, 3) := by decide +kernel
theorem dX10_sumOneWay_87 : decode cX10_sumOneWay 87 = .ok (.goto (-54), 3) := by decide +kernel
theorem dX10_sumOneWay_90 : decode cX10_sumOneWay 90 = .ok (.iload_n 2, 1) := by decide +kernel
theorem dX10_sumOneWay_91 : decode cX10_sumOneWay 91 = .ok (.ireturn, 1) := by decide +kernel
set_option maxRecDepth 20000 in
theorem ggX10_sums_X10_in : GoodIn wsX10_sums wsX10_in := goodIn_r _ [5] (by decide +kernel) (by decide +kernel)
set_option maxRecDepth 20000 in
theorem gX10_sums_X10_in : GoodIn wsX10_sums (va_wsS RX10 41 yX10_in wsX10_in) := goodIn_app (goodIn_of _ (by decide +kernel)) ggX10_sums_X10_in
set_option maxRecDepth 20000 in
theorem ggX10_sums_X10_rowFault : GoodIn wsX10_sums wsX10_rowFault := goodIn_r _ [9, 10, 11, 12, 13, 4, 14, 15, 16, 17, 18, 19, 1, 2, 3, 5, 47, 48, 49, 50, 51, 52, 53, 54, 55, 56, 57, 58, 59, 60] (by decide +kernel) (by decide +kernel)
set_option maxRecDepth 20000 in
theorem gX10_sums_X10_rowFault : GoodIn wsX10_sums (wsV RX10 135 RX10 yX10_rowFault wsX10_rowFault) := goodIn_app (goodIn_of _ (by decide +kernel)) ggX10_sums_X10_rowFault
set_option maxRecDepth 20000 in
theorem ggX10_sums_X10_laysParts : GoodIn wsX10_sums wsX10_laysParts := goodIn_r _ [23, 24, 10, 15, 25, 26, 4, 27, 28, 29, 30, 31, 1, 32, 33, 34, 35, 36, 37, 38, 47, 48, 49, 50, 51, 52, 53, 54, 55, 56, 57, 58, 59, 60] (by decide +kernel) (by decide +kernel)
set_option maxRecDepth 20000 in
theorem gX10_sums_X10_laysParts : GoodIn wsX10_sums (wsV RX10 179 RX10 yX10_laysParts wsX10_laysParts) := goodIn_app (goodIn_of _ (by decide +kernel)) ggX10_sums_X10_laysParts
set_option maxRecDepth 20000 in
theorem ggX10_sums_X10_waysTo : GoodIn wsX10_sums wsX10_waysTo := goodIn_r _ [42, 24, 10, 25, 26, 4, 27, 47, 48, 49, 50, 51, 52, 53, 54, 55, 56, 57, 58, 59, 60] (by decide +kernel) (by decide +kernel)
set_option maxRecDepth 20000 in
theorem gX10_sums_X10_waysTo : GoodIn wsX10_sums (wsV RX10 182 RX10 yX10_waysTo wsX10_waysTo) := goodIn_app (goodIn_of _ (by decide +kernel)) ggX10_sums_X10_waysTo
set_option maxRecDepth 20000 in
theorem ggX10_sums_X10_sumOneWay : GoodIn wsX10_sums wsX10_sumOneWay := goodIn_r _ [46, 15, 10, 32, 33, 34, 4, 35, 1, 36, 37, 38, 47, 48, 49, 50, 51, 52, 53, 54, 55, 56, 57, 58, 59, 60] (by decide +kernel) (by decide +kernel)
set_option maxRecDepth 20000 in
theorem gX10_sums_X10_sumOneWay : GoodIn wsX10_sums (wsV RX10 185 RX10 yX10_sumOneWay wsX10_sumOneWay) := goodIn_app (goodIn_of _ (by decide +kernel)) ggX10_sums_X10_sumOneWay
theorem dX10_sums_0 : decode cX10_sums 0 = .ok (.iload_n 1, 1) := by decide +kernel
theorem dX10_sums_1 : decode cX10_sums 1 = .ok (.iconst 0, 1) := by decide +kernel
theorem dX10_sums_2 : decode cX10_sums 2 = .ok (.iconst 3, 1) := by decide +kernel
theorem dX10_sums_3 : decode cX10_sums 3 = .ok (.invokestatic 41, 3) := by decide +kernel
theorem dX10_sums_6 : decode cX10_sums 6 = .ok (.ifCond .ne 5, 3) := by decide +kernel
theorem dX10_sums_9 : decode cX10_sums 9 = .ok (.iconst (-1), 1) := by decide +kernel
theorem dX10_sums_10 : decode cX10_sums 10 = .ok (.ireturn, 1) := by decide +kernel
theorem dX10_sums_11 : decode cX10_sums 11 = .ok (.aload_n 0, 1) := by decide +kernel
theorem dX10_sums_12 : decode cX10_sums 12 = .ok (.invokevirtual 135, 3) := by decide +kernel
theorem dX10_sums_15 : decode cX10_sums 15 = .ok (.iconst (-1), 1) := by decide +kernel
theorem dX10_sums_16 : decode cX10_sums 16 = .ok (.if_icmp .eq 6, 3) := by decide +kernel
theorem dX10_sums_19 : decode cX10_sums 19 = .ok (.bipush (-2), 2) := by decide +kernel
theorem dX10_sums_21 : decode cX10_sums 21 = .ok (.ireturn, 1) := by decide +kernel
theorem dX10_sums_22 : decode cX10_sums 22 = .ok (.aload_n 0, 1) := by decide +kernel
theorem dX10_sums_23 : decode cX10_sums 23 = .ok (.invokevirtual 179, 3) := by decide +kernel
theorem dX10_sums_26 : decode cX10_sums 26 = .ok (.iconst 0, 1) := by decide +kernel
theorem dX10_sums_27 : decode cX10_sums 27 = .ok (.istore_n 2, 1) := by decide +kernel
theorem dX10_sums_28 : decode cX10_sums 28 = .ok (.iconst 0, 1) := by decide +kernel
theorem dX10_sums_29 : decode cX10_sums 29 = .ok (.istore_n 3, 1) := by decide +kernel
theorem dX10_sums_30 : decode cX10_sums 30 = .ok (.iconst 0, 1) := by decide +kernel
theorem dX10_sums_31 : decode cX10_sums 31 = .ok (.istore 4, 2) := by decide +kernel
theorem dX10_sums_33 : decode cX10_sums 33 = .ok (.iload 4, 2) := by decide +kernel
theorem dX10_sums_35 : decode cX10_sums 35 = .ok (.aload_n 0, 1) := by decide +kernel
theorem dX10_sums_36 : decode cX10_sums 36 = .ok (.getfield 7, 3) := by decide +kernel
theorem dX10_sums_39 : decode cX10_sums 39 = .ok (.iconst 0, 1) := by decide +kernel
theorem dX10_sums_40 : decode cX10_sums 40 = .ok (.iaload, 1) := by decide +kernel
theorem dX10_sums_41 : decode cX10_sums 41 = .ok (.if_icmp .ge 50, 3) := by decide +kernel
theorem dX10_sums_44 : decode cX10_sums 44 = .ok (.iload_n 2, 1) := by decide +kernel
theorem dX10_sums_45 : decode cX10_sums 45 = .ok (.aload_n 0, 1) := by decide +kernel
theorem dX10_sums_46 : decode cX10_sums 46 = .ok (.iload 4, 2) := by decide +kernel
theorem dX10_sums_48 : decode cX10_sums 48 = .ok (.invokevirtual 182, 3) := by decide +kernel
theorem dX10_sums_51 : decode cX10_sums 51 = .ok (.ifCond .le 10, 3) := by decide +kernel
theorem dX10_sums_54 : decode cX10_sums 54 = .ok (.iconst 1, 1) := by decide +kernel
theorem dX10_sums_55 : decode cX10_sums 55 = .ok (.iload 4, 2) := by decide +kernel
theorem dX10_sums_57 : decode cX10_sums 57 = .ok (.ishl, 1) := by decide +kernel
theorem dX10_sums_58 : decode cX10_sums 58 = .ok (.goto 4, 3) := by decide +kernel
theorem dX10_sums_61 : decode cX10_sums 61 = .ok (.iconst 0, 1) := by decide +kernel
theorem dX10_sums_62 : decode cX10_sums 62 = .ok (.ior, 1) := by decide +kernel
theorem dX10_sums_63 : decode cX10_sums 63 = .ok (.istore_n 2, 1) := by decide +kernel
theorem dX10_sums_64 : decode cX10_sums 64 = .ok (.aload_n 0, 1) := by decide +kernel
theorem dX10_sums_65 : decode cX10_sums 65 = .ok (.iload 4, 2) := by decide +kernel
theorem dX10_sums_67 : decode cX10_sums 67 = .ok (.invokevirtual 182, 3) := by decide +kernel
theorem dX10_sums_70 : decode cX10_sums 70 = .ok (.aload_n 0, 1) := by decide +kernel
theorem dX10_sums_71 : decode cX10_sums 71 = .ok (.iload_n 3, 1) := by decide +kernel
theorem dX10_sums_72 : decode cX10_sums 72 = .ok (.invokevirtual 182, 3) := by decide +kernel
theorem dX10_sums_75 : decode cX10_sums 75 = .ok (.if_icmp .le 8, 3) := by decide +kernel
theorem dX10_sums_78 : decode cX10_sums 78 = .ok (.iload 4, 2) := by decide +kernel
theorem dX10_sums_80 : decode cX10_sums 80 = .ok (.goto 4, 3) := by decide +kernel
theorem dX10_sums_83 : decode cX10_sums 83 = .ok (.iload_n 3, 1) := by decide +kernel
theorem dX10_sums_84 : decode cX10_sums 84 = .ok (.istore_n 3, 1) := by decide +kernel
theorem dX10_sums_85 : decode cX10_sums 85 = .ok (.iinc 4 1, 3) := by decide +kernel
theorem dX10_sums_88 : decode cX10_sums 88 = .ok (.goto (-55), 3) := by decide +kernel
theorem dX10_sums_91 : decode cX10_sums 91 = .ok (.iload_n 1, 1) := by decide +kernel
theorem dX10_sums_92 : decode cX10_sums 92 = .ok (.ifCond .ne 7, 3) := by decide +kernel
theorem dX10_sums_95 : decode cX10_sums 95 = .ok (.iload_n 2, 1) := by decide +kernel
theorem dX10_sums_96 : decode cX10_sums 96 = .ok (.goto 26, 3) := by decide +kernel
theorem dX10_sums_99 : decode cX10_sums 99 = .ok (.iload_n 1, 1) := by decide +kernel
theorem dX10_sums_100 : decode cX10_sums 100 = .ok (.iconst 3, 1) := by decide +kernel
theorem dX10_sums_101 : decode cX10_sums 101 = .ok (.if_icmp .ne 7, 3) := by decide +kernel
theorem dX10_sums_104 : decode cX10_sums 104 = .ok (.iload_n 3, 1) := by decide +kernel
theorem dX10_sums_105 : decode cX10_sums 105 = .ok (.goto 17, 3) := by decide +kernel
theorem dX10_sums_108 : decode cX10_sums 108 = .ok (.aload_n 0, 1) := by decide +kernel
theorem dX10_sums_109 : decode cX10_sums 109 = .ok (.iload_n 1, 1) := by decide +kernel
theorem dX10_sums_110 : decode cX10_sums 110 = .ok (.iconst 1, 1) := by decide +kernel
theorem dX10_sums_111 : decode cX10_sums 111 = .ok (.if_icmp .ne 7, 3) := by decide +kernel
theorem dX10_sums_114 : decode cX10_sums 114 = .ok (.iconst 1, 1) := by decide +kernel
theorem dX10_sums_115 : decode cX10_sums 115 = .ok (.goto 4, 3) := by decide +kernel
theorem dX10_sums_118 : decode cX10_sums 118 = .ok (.iconst 0, 1) := by decide +kernel
theorem dX10_sums_119 : decode cX10_sums 119 = .ok (.invokevirtual 185, 3) := by decide +kernel
theorem dX10_sums_122 : decode cX10_sums 122 = .ok (.ireturn, 1) := by decide +kernel
set_option maxRecDepth 20000 in
theorem ggX10_cut_X10_isToken : GoodIn wsX10_cut wsX10_isToken := goodIn_r _ [8, 2, 9, 10, 7, 11, 39, 40, 41, 42, 43, 44, 45, 46, 47, 48, 49, 50, 51, 52] (by decide +kernel) (by decide +kernel)
set_option maxRecDepth 20000 in
theorem gX10_cut_X10_isToken : GoodIn wsX10_cut (wsV RX10 94 RX10 yX10_isToken wsX10_isToken) := goodIn_app (goodIn_of _ (by decide +kernel)) ggX10_cut_X10_isToken
set_option maxRecDepth 20000 in
theorem ggX10_cut_X10_rowFault : GoodIn wsX10_cut wsX10_rowFault := goodIn_r _ [15, 1, 16, 17, 18, 7, 19, 20, 4, 5, 6, 8, 2, 9, 10, 11, 39, 40, 41, 42, 43, 44, 45, 46, 47, 48, 49, 50, 51, 52] (by decide +kernel) (by decide +kernel)
set_option maxRecDepth 20000 in
theorem gX10_cut_X10_rowFault : GoodIn wsX10_cut (wsV RX10 135 RX10 yX10_rowFault wsX10_rowFault) := goodIn_app (goodIn_of _ (by decide +kernel)) ggX10_cut_X10_rowFault
set_option maxRecDepth 20000 in
theorem ggX10_cut_X10_laysParts : GoodIn wsX10_cut wsX10_laysParts := goodIn_r _ [24, 3, 1, 20, 25, 26, 7, 27, 28, 29, 30, 31, 2, 32, 33, 34, 35, 36, 37, 38, 39, 40, 41, 42, 43, 44, 45, 46, 47, 48, 49, 50, 51, 52] (by decide +kernel) (by decide +kernel)
set_option maxRecDepth 20000 in
theorem gX10_cut_X10_laysParts : GoodIn wsX10_cut (wsV RX10 179 RX10 yX10_laysParts wsX10_laysParts) := goodIn_app (goodIn_of _ (by decide +kernel)) ggX10_cut_X10_laysParts
set_option maxRecDepth 20000 in
theorem ggX10_cut_X10_plain : GoodIn wsX10_cut wsX10_plain := goodIn_r _ [35, 2, 36, 37, 7, 38, 39, 40, 41, 42, 43, 44, 45, 46, 47, 48, 49, 50, 51, 52] (by decide +kernel) (by decide +kernel)
set_option maxRecDepth 20000 in
theorem gX10_cut_X10_plain : GoodIn wsX10_cut (wsV RX10 53 RX10 yX10_plain wsX10_plain) := goodIn_app (goodIn_of _ (by decide +kernel)) ggX10_cut_X10_plain
set_option maxRecDepth 20000 in
theorem ggX10_cut_X10_part : GoodIn wsX10_cut wsX10_part := goodIn_r _ [27] (by decide +kernel) (by decide +kernel)
set_option maxRecDepth 20000 in
theorem gX10_cut_X10_part : GoodIn wsX10_cut (va_wsS RX10 171 yX10_part wsX10_part) := goodIn_app (goodIn_of _ (by decide +kernel)) ggX10_cut_X10_part
theorem dX10_cut_0 : decode cX10_cut 0 = .ok (.aload_n 0, 1) := by decide +kernel
theorem dX10_cut_1 : decode cX10_cut 1 = .ok (.iload_n 1, 1) := by decide +kernel
theorem dX10_cut_2 : decode cX10_cut 2 = .ok (.invokevirtual 94, 3) := by decide +kernel
theorem dX10_cut_5 : decode cX10_cut 5 = .ok (.ifCond .ne 5, 3) := by decide +kernel
theorem dX10_cut_8 : decode cX10_cut 8 = .ok (.iconst (-1), 1) := by decide +kernel
theorem dX10_cut_9 : decode cX10_cut 9 = .ok (.ireturn, 1) := by decide +kernel
theorem dX10_cut_10 : decode cX10_cut 10 = .ok (.aload_n 0, 1) := by decide +kernel
theorem dX10_cut_11 : decode cX10_cut 11 = .ok (.invokevirtual 135, 3) := by decide +kernel
theorem dX10_cut_14 : decode cX10_cut 14 = .ok (.iconst (-1), 1) := by decide +kernel
theorem dX10_cut_15 : decode cX10_cut 15 = .ok (.if_icmp .eq 6, 3) := by decide +kernel
theorem dX10_cut_18 : decode cX10_cut 18 = .ok (.bipush (-2), 2) := by decide +kernel
theorem dX10_cut_20 : decode cX10_cut 20 = .ok (.ireturn, 1) := by decide +kernel
theorem dX10_cut_21 : decode cX10_cut 21 = .ok (.aload_n 0, 1) := by decide +kernel
theorem dX10_cut_22 : decode cX10_cut 22 = .ok (.invokevirtual 179, 3) := by decide +kernel
theorem dX10_cut_25 : decode cX10_cut 25 = .ok (.iconst 0, 1) := by decide +kernel
theorem dX10_cut_26 : decode cX10_cut 26 = .ok (.istore_n 2, 1) := by decide +kernel
theorem dX10_cut_27 : decode cX10_cut 27 = .ok (.iload_n 2, 1) := by decide +kernel
theorem dX10_cut_28 : decode cX10_cut 28 = .ok (.iconst 1, 1) := by decide +kernel
theorem dX10_cut_29 : decode cX10_cut 29 = .ok (.iadd, 1) := by decide +kernel
theorem dX10_cut_30 : decode cX10_cut 30 = .ok (.aload_n 0, 1) := by decide +kernel
theorem dX10_cut_31 : decode cX10_cut 31 = .ok (.getfield 111, 3) := by decide +kernel
theorem dX10_cut_34 : decode cX10_cut 34 = .ok (.if_icmp .ge 98, 3) := by decide +kernel
theorem dX10_cut_37 : decode cX10_cut 37 = .ok (.iconst 0, 1) := by decide +kernel
theorem dX10_cut_38 : decode cX10_cut 38 = .ok (.istore_n 3, 1) := by decide +kernel
theorem dX10_cut_39 : decode cX10_cut 39 = .ok (.iload_n 3, 1) := by decide +kernel
theorem dX10_cut_40 : decode cX10_cut 40 = .ok (.aload_n 0, 1) := by decide +kernel
theorem dX10_cut_41 : decode cX10_cut 41 = .ok (.getfield 7, 3) := by decide +kernel
theorem dX10_cut_44 : decode cX10_cut 44 = .ok (.iconst 0, 1) := by decide +kernel
theorem dX10_cut_45 : decode cX10_cut 45 = .ok (.iaload, 1) := by decide +kernel
theorem dX10_cut_46 : decode cX10_cut 46 = .ok (.if_icmp .ge 80, 3) := by decide +kernel
theorem dX10_cut_49 : decode cX10_cut 49 = .ok (.iconst 0, 1) := by decide +kernel
theorem dX10_cut_50 : decode cX10_cut 50 = .ok (.istore 4, 2) := by decide +kernel
theorem dX10_cut_52 : decode cX10_cut 52 = .ok (.iload 4, 2) := by decide +kernel
theorem dX10_cut_54 : decode cX10_cut 54 = .ok (.aload_n 0, 1) := by decide +kernel
theorem dX10_cut_55 : decode cX10_cut 55 = .ok (.getfield 7, 3) := by decide +kernel
theorem dX10_cut_58 : decode cX10_cut 58 = .ok (.iconst 0, 1) := by decide +kernel
theorem dX10_cut_59 : decode cX10_cut 59 = .ok (.iaload, 1) := by decide +kernel
theorem dX10_cut_60 : decode cX10_cut 60 = .ok (.if_icmp .ge 60, 3) := by decide +kernel
theorem dX10_cut_63 : decode cX10_cut 63 = .ok (.aload_n 0, 1) := by decide +kernel
theorem dX10_cut_64 : decode cX10_cut 64 = .ok (.iload_n 3, 1) := by decide +kernel
theorem dX10_cut_65 : decode cX10_cut 65 = .ok (.iload 4, 2) := by decide +kernel
theorem dX10_cut_67 : decode cX10_cut 67 = .ok (.invokevirtual 53, 3) := by decide +kernel
theorem dX10_cut_70 : decode cX10_cut 70 = .ok (.iload_n 1, 1) := by decide +kernel
theorem dX10_cut_71 : decode cX10_cut 71 = .ok (.if_icmp .ne 43, 3) := by decide +kernel
theorem dX10_cut_74 : decode cX10_cut 74 = .ok (.aload_n 0, 1) := by decide +kernel
theorem dX10_cut_75 : decode cX10_cut 75 = .ok (.getfield 34, 3) := by decide +kernel
theorem dX10_cut_78 : decode cX10_cut 78 = .ok (.iconst 0, 1) := by decide +kernel
theorem dX10_cut_79 : decode cX10_cut 79 = .ok (.iload_n 2, 1) := by decide +kernel
theorem dX10_cut_80 : decode cX10_cut 80 = .ok (.iload_n 3, 1) := by decide +kernel
theorem dX10_cut_81 : decode cX10_cut 81 = .ok (.invokestatic 171, 3) := by decide +kernel
theorem dX10_cut_84 : decode cX10_cut 84 = .ok (.iaload, 1) := by decide +kernel
theorem dX10_cut_85 : decode cX10_cut 85 = .ok (.ifCond .le 29, 3) := by decide +kernel
theorem dX10_cut_88 : decode cX10_cut 88 = .ok (.aload_n 0, 1) := by decide +kernel
theorem dX10_cut_89 : decode cX10_cut 89 = .ok (.getfield 34, 3) := by decide +kernel
theorem dX10_cut_92 : decode cX10_cut 92 = .ok (.iload_n 2, 1) := by decide +kernel
theorem dX10_cut_93 : decode cX10_cut 93 = .ok (.iconst 1, 1) := by decide +kernel
theorem dX10_cut_94 : decode cX10_cut 94 = .ok (.iadd, 1) := by decide +kernel
theorem dX10_cut_95 : decode cX10_cut 95 = .ok (.aload_n 0, 1) := by decide +kernel
theorem dX10_cut_96 : decode cX10_cut 96 = .ok (.getfield 111, 3) := by decide +kernel
theorem dX10_cut_99 : decode cX10_cut 99 = .ok (.iconst 1, 1) := by decide +kernel
theorem dX10_cut_100 : decode cX10_cut 100 = .ok (.isub, 1) := by decide +kernel
theorem dX10_cut_101 : decode cX10_cut 101 = .ok (.iload 4, 2) := by decide +kernel
theorem dX10_cut_103 : decode cX10_cut 103 = .ok (.invokestatic 171, 3) := by decide +kernel
theorem dX10_cut_106 : decode cX10_cut 106 = .ok (.iaload, 1) := by decide +kernel
theorem dX10_cut_107 : decode cX10_cut 107 = .ok (.ifCond .le 7, 3) := by decide +kernel
theorem dX10_cut_110 : decode cX10_cut 110 = .ok (.iload_n 2, 1) := by decide +kernel
theorem dX10_cut_111 : decode cX10_cut 111 = .ok (.iconst 1, 1) := by decide +kernel
theorem dX10_cut_112 : decode cX10_cut 112 = .ok (.iadd, 1) := by decide +kernel
theorem dX10_cut_113 : decode cX10_cut 113 = .ok (.ireturn, 1) := by decide +kernel
theorem dX10_cut_114 : decode cX10_cut 114 = .ok (.iinc 4 1, 3) := by decide +kernel
theorem dX10_cut_117 : decode cX10_cut 117 = .ok (.goto (-65), 3) := by decide +kernel
theorem dX10_cut_120 : decode cX10_cut 120 = .ok (.iinc 3 1, 3) := by decide +kernel
theorem dX10_cut_123 : decode cX10_cut 123 = .ok (.goto (-84), 3) := by decide +kernel
theorem dX10_cut_126 : decode cX10_cut 126 = .ok (.iinc 2 1, 3) := by decide +kernel
theorem dX10_cut_129 : decode cX10_cut 129 = .ok (.goto (-102), 3) := by decide +kernel
theorem dX10_cut_132 : decode cX10_cut 132 = .ok (.bipush (-4), 2) := by decide +kernel
theorem dX10_cut_134 : decode cX10_cut 134 = .ok (.ireturn, 1) := by decide +kernel
set_option maxRecDepth 20000 in
theorem ggX10_ifSwapped_X10_bar : GoodIn wsX10_ifSwapped wsX10_bar := goodIn_r _ [5, 6, 7, 8, 4, 9, 10, 11, 12, 13, 14, 15, 16, 17, 18, 19, 20, 21, 22, 23, 24, 25, 26, 27, 28, 65, 66, 67, 68, 69, 70, 71, 72, 73, 74, 75, 76, 77, 78] (by decide +kernel) (by decide +kernel)
set_option maxRecDepth 20000 in
theorem gX10_ifSwapped_X10_bar : GoodIn wsX10_ifSwapped (wsV RX10 103 RX10 yX10_bar wsX10_bar) := goodIn_app (goodIn_of _ (by decide +kernel)) ggX10_ifSwapped_X10_bar
set_option maxRecDepth 20000 in
theorem ggX10_ifSwapped_X10_in : GoodIn wsX10_ifSwapped wsX10_in := goodIn_r _ [17] (by decide +kernel) (by decide +kernel)
set_option maxRecDepth 20000 in
theorem gX10_ifSwapped_X10_in : GoodIn wsX10_ifSwapped (va_wsS RX10 41 yX10_in wsX10_in) := goodIn_app (goodIn_of _ (by decide +kernel)) ggX10_ifSwapped_X10_in
set_option maxRecDepth 20000 in
theorem ggX10_ifSwapped_X10_swaps : GoodIn wsX10_ifSwapped wsX10_swaps := goodIn_r _ [32, 26, 27, 4, 28, 33, 34, 35, 36, 14, 65, 66, 67, 68, 69, 70, 71, 72, 73, 74, 75, 76, 77, 78] (by decide +kernel) (by decide +kernel)
set_option maxRecDepth 20000 in
theorem gX10_ifSwapped_X10_swaps : GoodIn wsX10_ifSwapped (wsV RX10 107 RX10 yX10_swaps wsX10_swaps) := goodIn_app (goodIn_of _ (by decide +kernel)) ggX10_ifSwapped_X10_swaps
set_option maxRecDepth 20000 in
theorem ggX10_ifSwapped_X10_commute : GoodIn wsX10_ifSwapped wsX10_commute := goodIn_r _ [40, 14, 41, 42, 43, 4, 44, 22, 23, 24, 25, 26, 27, 28, 65, 66, 67, 68, 69, 70, 71, 72, 73, 74, 75, 76, 77, 78] (by decide +kernel) (by decide +kernel)
set_option maxRecDepth 20000 in
theorem gX10_ifSwapped_X10_commute : GoodIn wsX10_ifSwapped (wsV RX10 152 RX10 yX10_commute wsX10_commute) := goodIn_app (goodIn_of _ (by decide +kernel)) ggX10_ifSwapped_X10_commute
set_option maxRecDepth 20000 in
theorem ggX10_ifSwapped_X10_triples : GoodIn wsX10_ifSwapped wsX10_triples := goodIn_r _ [48, 14, 49, 50, 51, 4, 52, 53, 54, 55, 56, 22, 23, 24, 25, 26, 27, 28, 65, 66, 67, 68, 69, 70, 71, 72, 73, 74, 75, 76, 77, 78] (by decide +kernel) (by decide +kernel)
set_option maxRecDepth 20000 in
theorem gX10_ifSwapped_X10_triples : GoodIn wsX10_ifSwapped (wsV RX10 90 RX10 yX10_triples wsX10_triples) := goodIn_app (goodIn_of _ (by decide +kernel)) ggX10_ifSwapped_X10_triples
set_option maxRecDepth 20000 in
theorem ggX10_ifSwapped_X10_rings : GoodIn wsX10_ifSwapped wsX10_rings := goodIn_r _ [60, 14, 61, 62, 63, 4, 64, 22, 23, 24, 25, 26, 27, 28, 65, 66, 67, 68, 69, 70, 71, 72, 73, 74, 75, 76, 77, 78] (by decide +kernel) (by decide +kernel)
set_option maxRecDepth 20000 in
theorem gX10_ifSwapped_X10_rings : GoodIn wsX10_ifSwapped (wsV RX10 162 RX10 yX10_rings wsX10_rings) := goodIn_app (goodIn_of _ (by decide +kernel)) ggX10_ifSwapped_X10_rings
theorem dX10_ifSwapped_0 : decode cX10_ifSwapped 0 = .ok (.aload_n 0, 1) := by decide +kernel
theorem dX10_ifSwapped_1 : decode cX10_ifSwapped 1 = .ok (.iload_n 1, 1) := by decide +kernel
theorem dX10_ifSwapped_2 : decode cX10_ifSwapped 2 = .ok (.iload_n 2, 1) := by decide +kernel
theorem dX10_ifSwapped_3 : decode cX10_ifSwapped 3 = .ok (.iload_n 3, 1) := by decide +kernel
theorem dX10_ifSwapped_4 : decode cX10_ifSwapped 4 = .ok (.iload 4, 2) := by decide +kernel
theorem dX10_ifSwapped_6 : decode cX10_ifSwapped 6 = .ok (.invokevirtual 103, 3) := by decide +kernel
theorem dX10_ifSwapped_9 : decode cX10_ifSwapped 9 = .ok (.istore 6, 2) := by decide +kernel
theorem dX10_ifSwapped_11 : decode cX10_ifSwapped 11 = .ok (.iload 6, 2) := by decide +kernel
theorem dX10_ifSwapped_13 : decode cX10_ifSwapped 13 = .ok (.iconst (-1), 1) := by decide +kernel
theorem dX10_ifSwapped_14 : decode cX10_ifSwapped 14 = .ok (.if_icmp .eq 13, 3) := by decide +kernel
theorem dX10_ifSwapped_17 : decode cX10_ifSwapped 17 = .ok (.iload 5, 2) := by decide +kernel
theorem dX10_ifSwapped_19 : decode cX10_ifSwapped 19 = .ok (.iconst 0, 1) := by decide +kernel
theorem dX10_ifSwapped_20 : decode cX10_ifSwapped 20 = .ok (.iconst 2, 1) := by decide +kernel
theorem dX10_ifSwapped_21 : decode cX10_ifSwapped 21 = .ok (.invokestatic 41, 3) := by decide +kernel
theorem dX10_ifSwapped_24 : decode cX10_ifSwapped 24 = .ok (.ifCond .ne 5, 3) := by decide +kernel
theorem dX10_ifSwapped_27 : decode cX10_ifSwapped 27 = .ok (.iconst (-1), 1) := by decide +kernel
theorem dX10_ifSwapped_28 : decode cX10_ifSwapped 28 = .ok (.ireturn, 1) := by decide +kernel
theorem dX10_ifSwapped_29 : decode cX10_ifSwapped 29 = .ok (.iload 6, 2) := by decide +kernel
theorem dX10_ifSwapped_31 : decode cX10_ifSwapped 31 = .ok (.ifCond .eq 6, 3) := by decide +kernel
theorem dX10_ifSwapped_34 : decode cX10_ifSwapped 34 = .ok (.iload 6, 2) := by decide +kernel
theorem dX10_ifSwapped_36 : decode cX10_ifSwapped 36 = .ok (.ireturn, 1) := by decide +kernel
theorem dX10_ifSwapped_37 : decode cX10_ifSwapped 37 = .ok (.aload_n 0, 1) := by decide +kernel
theorem dX10_ifSwapped_38 : decode cX10_ifSwapped 38 = .ok (.iload_n 1, 1) := by decide +kernel
theorem dX10_ifSwapped_39 : decode cX10_ifSwapped 39 = .ok (.iload_n 2, 1) := by decide +kernel
theorem dX10_ifSwapped_40 : decode cX10_ifSwapped 40 = .ok (.iload_n 3, 1) := by decide +kernel
theorem dX10_ifSwapped_41 : decode cX10_ifSwapped 41 = .ok (.iload 4, 2) := by decide +kernel
theorem dX10_ifSwapped_43 : decode cX10_ifSwapped 43 = .ok (.invokevirtual 107, 3) := by decide +kernel
theorem dX10_ifSwapped_46 : decode cX10_ifSwapped 46 = .ok (.iload 5, 2) := by decide +kernel
theorem dX10_ifSwapped_48 : decode cX10_ifSwapped 48 = .ok (.ifCond .ne 10, 3) := by decide +kernel
theorem dX10_ifSwapped_51 : decode cX10_ifSwapped 51 = .ok (.aload_n 0, 1) := by decide +kernel
theorem dX10_ifSwapped_52 : decode cX10_ifSwapped 52 = .ok (.invokevirtual 152, 3) := by decide +kernel
theorem dX10_ifSwapped_55 : decode cX10_ifSwapped 55 = .ok (.goto 20, 3) := by decide +kernel
theorem dX10_ifSwapped_58 : decode cX10_ifSwapped 58 = .ok (.iload 5, 2) := by decide +kernel
theorem dX10_ifSwapped_60 : decode cX10_ifSwapped 60 = .ok (.iconst 1, 1) := by decide +kernel
theorem dX10_ifSwapped_61 : decode cX10_ifSwapped 61 = .ok (.if_icmp .ne 10, 3) := by decide +kernel
theorem dX10_ifSwapped_64 : decode cX10_ifSwapped 64 = .ok (.aload_n 0, 1) := by decide +kernel
theorem dX10_ifSwapped_65 : decode cX10_ifSwapped 65 = .ok (.invokevirtual 90, 3) := by decide +kernel
theorem dX10_ifSwapped_68 : decode cX10_ifSwapped 68 = .ok (.goto 7, 3) := by decide +kernel
theorem dX10_ifSwapped_71 : decode cX10_ifSwapped 71 = .ok (.aload_n 0, 1) := by decide +kernel
theorem dX10_ifSwapped_72 : decode cX10_ifSwapped 72 = .ok (.invokevirtual 162, 3) := by decide +kernel
theorem dX10_ifSwapped_75 : decode cX10_ifSwapped 75 = .ok (.istore 7, 2) := by decide +kernel
theorem dX10_ifSwapped_77 : decode cX10_ifSwapped 77 = .ok (.aload_n 0, 1) := by decide +kernel
theorem dX10_ifSwapped_78 : decode cX10_ifSwapped 78 = .ok (.iload_n 1, 1) := by decide +kernel
theorem dX10_ifSwapped_79 : decode cX10_ifSwapped 79 = .ok (.iload_n 2, 1) := by decide +kernel
theorem dX10_ifSwapped_80 : decode cX10_ifSwapped 80 = .ok (.iload_n 3, 1) := by decide +kernel
theorem dX10_ifSwapped_81 : decode cX10_ifSwapped 81 = .ok (.iload 4, 2) := by decide +kernel
theorem dX10_ifSwapped_83 : decode cX10_ifSwapped 83 = .ok (.invokevirtual 107, 3) := by decide +kernel
theorem dX10_ifSwapped_86 : decode cX10_ifSwapped 86 = .ok (.iload 7, 2) := by decide +kernel
theorem dX10_ifSwapped_88 : decode cX10_ifSwapped 88 = .ok (.ireturn, 1) := by decide +kernel
set_option maxRecDepth 20000 in
theorem ggX10_triplesThen_X10_swaps : GoodIn wsX10_triplesThen wsX10_swaps := goodIn_r _ [5, 6, 7, 4, 8, 9, 10, 11, 12, 13, 30, 31, 32, 33, 34, 35, 36, 37, 38, 39, 40, 41, 42, 43] (by decide +kernel) (by decide +kernel)
set_option maxRecDepth 20000 in
theorem gX10_triplesThen_X10_swaps : GoodIn wsX10_triplesThen (wsV RX10 107 RX10 yX10_swaps wsX10_swaps) := goodIn_app (goodIn_of _ (by decide +kernel)) ggX10_triplesThen_X10_swaps
set_option maxRecDepth 20000 in
theorem ggX10_triplesThen_X10_triples : GoodIn wsX10_triplesThen wsX10_triples := goodIn_r _ [17, 13, 18, 19, 20, 4, 21, 22, 23, 24, 25, 26, 27, 28, 29, 6, 7, 8, 30, 31, 32, 33, 34, 35, 36, 37, 38, 39, 40, 41, 42, 43] (by decide +kernel) (by decide +kernel)
set_option maxRecDepth 20000 in
theorem gX10_triplesThen_X10_triples : GoodIn wsX10_triplesThen (wsV RX10 90 RX10 yX10_triples wsX10_triples) := goodIn_app (goodIn_of _ (by decide +kernel)) ggX10_triplesThen_X10_triples
theorem dX10_triplesThen_0 : decode cX10_triplesThen 0 = .ok (.aload_n 0, 1) := by decide +kernel
theorem dX10_triplesThen_1 : decode cX10_triplesThen 1 = .ok (.iload_n 1, 1) := by decide +kernel
theorem dX10_triplesThen_2 : decode cX10_triplesThen 2 = .ok (.iload_n 2, 1) := by decide +kernel
theorem dX10_triplesThen_3 : decode cX10_triplesThen 3 = .ok (.iload_n 3, 1) := by decide +kernel
theorem dX10_triplesThen_4 : decode cX10_triplesThen 4 = .ok (.iload 4, 2) := by decide +kernel
theorem dX10_triplesThen_6 : decode cX10_triplesThen 6 = .ok (.invokevirtual 107, 3) := by decide +kernel
theorem dX10_triplesThen_9 : decode cX10_triplesThen 9 = .ok (.aload_n 0, 1) := by decide +kernel
theorem dX10_triplesThen_10 : decode cX10_triplesThen 10 = .ok (.invokevirtual 90, 3) := by decide +kernel
theorem dX10_triplesThen_13 : decode cX10_triplesThen 13 = .ok (.istore 5, 2) := by decide +kernel
theorem dX10_triplesThen_15 : decode cX10_triplesThen 15 = .ok (.aload_n 0, 1) := by decide +kernel
theorem dX10_triplesThen_16 : decode cX10_triplesThen 16 = .ok (.iload_n 1, 1) := by decide +kernel
theorem dX10_triplesThen_17 : decode cX10_triplesThen 17 = .ok (.iload_n 2, 1) := by decide +kernel
theorem dX10_triplesThen_18 : decode cX10_triplesThen 18 = .ok (.iload_n 3, 1) := by decide +kernel
theorem dX10_triplesThen_19 : decode cX10_triplesThen 19 = .ok (.iload 4, 2) := by decide +kernel
theorem dX10_triplesThen_21 : decode cX10_triplesThen 21 = .ok (.invokevirtual 107, 3) := by decide +kernel
theorem dX10_triplesThen_24 : decode cX10_triplesThen 24 = .ok (.iload 5, 2) := by decide +kernel
theorem dX10_triplesThen_26 : decode cX10_triplesThen 26 = .ok (.ireturn, 1) := by decide +kernel
set_option maxRecDepth 20000 in
theorem ggX10_best_X10_in : GoodIn wsX10_best wsX10_in := goodIn_r _ [5] (by decide +kernel) (by decide +kernel)
set_option maxRecDepth 20000 in
theorem gX10_best_X10_in : GoodIn wsX10_best (va_wsS RX10 41 yX10_in wsX10_in) := goodIn_app (goodIn_of _ (by decide +kernel)) ggX10_best_X10_in
set_option maxRecDepth 20000 in
theorem ggX10_best_X10_isSquare : GoodIn wsX10_best wsX10_isSquare := goodIn_r _ [9, 10, 11, 12, 4, 13, 1, 14, 15, 16, 41, 42, 43, 44, 45, 46, 47, 48, 49, 50, 51, 52, 53, 54] (by decide +kernel) (by decide +kernel)
set_option maxRecDepth 20000 in
theorem gX10_best_X10_isSquare : GoodIn wsX10_best (wsV RX10 76 RX10 yX10_isSquare wsX10_isSquare) := goodIn_app (goodIn_of _ (by decide +kernel)) ggX10_best_X10_isSquare
set_option maxRecDepth 20000 in
theorem ggX10_best_X10_triplesThen : GoodIn wsX10_best wsX10_triplesThen := goodIn_r _ [20, 21, 22, 23, 4, 24, 14, 15, 16, 25, 26, 27, 28, 1, 29, 30, 31, 32, 33, 34, 35, 36, 37, 38, 39, 40, 10, 11, 12, 13, 41, 42, 43, 44, 45, 46, 47, 48, 49, 50, 51, 52, 53, 54] (by decide +kernel) (by decide +kernel)
set_option maxRecDepth 20000 in
theorem gX10_best_X10_triplesThen : GoodIn wsX10_best (wsV RX10 188 RX10 yX10_triplesThen wsX10_triplesThen) := goodIn_app (goodIn_of _ (by decide +kernel)) ggX10_best_X10_triplesThen
theorem dX10_best_0 : decode cX10_best 0 = .ok (.iload_n 1, 1) := by decide +kernel
theorem dX10_best_1 : decode cX10_best 1 = .ok (.iconst 0, 1) := by decide +kernel
theorem dX10_best_2 : decode cX10_best 2 = .ok (.iconst 4, 1) := by decide +kernel
theorem dX10_best_3 : decode cX10_best 3 = .ok (.invokestatic 41, 3) := by decide +kernel
theorem dX10_best_6 : decode cX10_best 6 = .ok (.ifCond .ne 5, 3) := by decide +kernel
theorem dX10_best_9 : decode cX10_best 9 = .ok (.iconst (-1), 1) := by decide +kernel
theorem dX10_best_10 : decode cX10_best 10 = .ok (.ireturn, 1) := by decide +kernel
theorem dX10_best_11 : decode cX10_best 11 = .ok (.aload_n 0, 1) := by decide +kernel
theorem dX10_best_12 : decode cX10_best 12 = .ok (.getfield 7, 3) := by decide +kernel
theorem dX10_best_15 : decode cX10_best 15 = .ok (.iconst 0, 1) := by decide +kernel
theorem dX10_best_16 : decode cX10_best 16 = .ok (.iaload, 1) := by decide +kernel
theorem dX10_best_17 : decode cX10_best 17 = .ok (.istore_n 2, 1) := by decide +kernel
theorem dX10_best_18 : decode cX10_best 18 = .ok (.iconst (-1), 1) := by decide +kernel
theorem dX10_best_19 : decode cX10_best 19 = .ok (.istore_n 3, 1) := by decide +kernel
theorem dX10_best_20 : decode cX10_best 20 = .ok (.iconst 0, 1) := by decide +kernel
theorem dX10_best_21 : decode cX10_best 21 = .ok (.istore 4, 2) := by decide +kernel
theorem dX10_best_23 : decode cX10_best 23 = .ok (.iconst 0, 1) := by decide +kernel
theorem dX10_best_24 : decode cX10_best 24 = .ok (.istore 5, 2) := by decide +kernel
theorem dX10_best_26 : decode cX10_best 26 = .ok (.iload 5, 2) := by decide +kernel
theorem dX10_best_28 : decode cX10_best 28 = .ok (.iload_n 2, 1) := by decide +kernel
theorem dX10_best_29 : decode cX10_best 29 = .ok (.iload_n 2, 1) := by decide +kernel
theorem dX10_best_30 : decode cX10_best 30 = .ok (.imul, 1) := by decide +kernel
theorem dX10_best_31 : decode cX10_best 31 = .ok (.iload_n 2, 1) := by decide +kernel
theorem dX10_best_32 : decode cX10_best 32 = .ok (.imul, 1) := by decide +kernel
theorem dX10_best_33 : decode cX10_best 33 = .ok (.iload_n 2, 1) := by decide +kernel
theorem dX10_best_34 : decode cX10_best 34 = .ok (.imul, 1) := by decide +kernel
theorem dX10_best_35 : decode cX10_best 35 = .ok (.if_icmp .ge 121, 3) := by decide +kernel
theorem dX10_best_38 : decode cX10_best 38 = .ok (.iload 5, 2) := by decide +kernel
theorem dX10_best_40 : decode cX10_best 40 = .ok (.iload_n 2, 1) := by decide +kernel
theorem dX10_best_41 : decode cX10_best 41 = .ok (.iload_n 2, 1) := by decide +kernel
theorem dX10_best_42 : decode cX10_best 42 = .ok (.imul, 1) := by decide +kernel
theorem dX10_best_43 : decode cX10_best 43 = .ok (.iload_n 2, 1) := by decide +kernel
theorem dX10_best_44 : decode cX10_best 44 = .ok (.imul, 1) := by decide +kernel
theorem dX10_best_45 : decode cX10_best 45 = .ok (.idiv, 1) := by decide +kernel
theorem dX10_best_46 : decode cX10_best 46 = .ok (.istore 6, 2) := by decide +kernel
theorem dX10_best_48 : decode cX10_best 48 = .ok (.iload 5, 2) := by decide +kernel
theorem dX10_best_50 : decode cX10_best 50 = .ok (.iload_n 2, 1) := by decide +kernel
theorem dX10_best_51 : decode cX10_best 51 = .ok (.iload_n 2, 1) := by decide +kernel
theorem dX10_best_52 : decode cX10_best 52 = .ok (.imul, 1) := by decide +kernel
theorem dX10_best_53 : decode cX10_best 53 = .ok (.idiv, 1) := by decide +kernel
theorem dX10_best_54 : decode cX10_best 54 = .ok (.iload_n 2, 1) := by decide +kernel
theorem dX10_best_55 : decode cX10_best 55 = .ok (.irem, 1) := by decide +kernel
theorem dX10_best_56 : decode cX10_best 56 = .ok (.istore 7, 2) := by decide +kernel
theorem dX10_best_58 : decode cX10_best 58 = .ok (.iload 5, 2) := by decide +kernel
theorem dX10_best_60 : decode cX10_best 60 = .ok (.iload_n 2, 1) := by decide +kernel
theorem dX10_best_61 : decode cX10_best 61 = .ok (.idiv, 1) := by decide +kernel
theorem dX10_best_62 : decode cX10_best 62 = .ok (.iload_n 2, 1) := by decide +kernel
theorem dX10_best_63 : decode cX10_best 63 = .ok (.irem, 1) := by decide +kernel
theorem dX10_best_64 : decode cX10_best 64 = .ok (.istore 8, 2) := by decide +kernel
theorem dX10_best_66 : decode cX10_best 66 = .ok (.iload 5, 2) := by decide +kernel
theorem dX10_best_68 : decode cX10_best 68 = .ok (.iload_n 2, 1) := by decide +kernel
theorem dX10_best_69 : decode cX10_best 69 = .ok (.irem, 1) := by decide +kernel
theorem dX10_best_70 : decode cX10_best 70 = .ok (.istore 9, 2) := by decide +kernel
theorem dX10_best_72 : decode cX10_best 72 = .ok (.iload 6, 2) := by decide +kernel
theorem dX10_best_74 : decode cX10_best 74 = .ok (.iload 7, 2) := by decide +kernel
theorem dX10_best_76 : decode cX10_best 76 = .ok (.if_icmp .ge 74, 3) := by decide +kernel
theorem dX10_best_79 : decode cX10_best 79 = .ok (.iload 8, 2) := by decide +kernel
theorem dX10_best_81 : decode cX10_best 81 = .ok (.iload 9, 2) := by decide +kernel
theorem dX10_best_83 : decode cX10_best 83 = .ok (.if_icmp .ge 67, 3) := by decide +kernel
theorem dX10_best_86 : decode cX10_best 86 = .ok (.aload_n 0, 1) := by decide +kernel
theorem dX10_best_87 : decode cX10_best 87 = .ok (.iload 6, 2) := by decide +kernel
theorem dX10_best_89 : decode cX10_best 89 = .ok (.iload 7, 2) := by decide +kernel
theorem dX10_best_91 : decode cX10_best 91 = .ok (.iload 8, 2) := by decide +kernel
theorem dX10_best_93 : decode cX10_best 93 = .ok (.iload 9, 2) := by decide +kernel
theorem dX10_best_95 : decode cX10_best 95 = .ok (.invokevirtual 76, 3) := by decide +kernel
theorem dX10_best_98 : decode cX10_best 98 = .ok (.ifCond .eq 52, 3) := by decide +kernel
theorem dX10_best_101 : decode cX10_best 101 = .ok (.aload_n 0, 1) := by decide +kernel
theorem dX10_best_102 : decode cX10_best 102 = .ok (.iload 6, 2) := by decide +kernel
theorem dX10_best_104 : decode cX10_best 104 = .ok (.iload 7, 2) := by decide +kernel
theorem dX10_best_106 : decode cX10_best 106 = .ok (.iload 8, 2) := by decide +kernel
theorem dX10_best_108 : decode cX10_best 108 = .ok (.iload 9, 2) := by decide +kernel
theorem dX10_best_110 : decode cX10_best 110 = .ok (.invokevirtual 188, 3) := by decide +kernel
theorem dX10_best_113 : decode cX10_best 113 = .ok (.istore 10, 2) := by decide +kernel
theorem dX10_best_115 : decode cX10_best 115 = .ok (.iload_n 3, 1) := by decide +kernel
theorem dX10_best_116 : decode cX10_best 116 = .ok (.iconst (-1), 1) := by decide +kernel
theorem dX10_best_117 : decode cX10_best 117 = .ok (.if_icmp .eq 10, 3) := by decide +kernel
theorem dX10_best_120 : decode cX10_best 120 = .ok (.iload 10, 2) := by decide +kernel
theorem dX10_best_122 : decode cX10_best 122 = .ok (.iload 4, 2) := by decide +kernel
theorem dX10_best_124 : decode cX10_best 124 = .ok (.if_icmp .le 8, 3) := by decide +kernel
theorem dX10_best_127 : decode cX10_best 127 = .ok (.iload 5, 2) := by decide +kernel
theorem dX10_best_129 : decode cX10_best 129 = .ok (.goto 4, 3) := by decide +kernel
theorem dX10_best_132 : decode cX10_best 132 = .ok (.iload_n 3, 1) := by decide +kernel
theorem dX10_best_133 : decode cX10_best 133 = .ok (.istore_n 3, 1) := by decide +kernel
theorem dX10_best_134 : decode cX10_best 134 = .ok (.iload 10, 2) := by decide +kernel
theorem dX10_best_136 : decode cX10_best 136 = .ok (.iload 4, 2) := by decide +kernel
theorem dX10_best_138 : decode cX10_best 138 = .ok (.if_icmp .le 8, 3) := by decide +kernel
theorem dX10_best_141 : decode cX10_best 141 = .ok (.iload 10, 2) := by decide +kernel
theorem dX10_best_143 : decode cX10_best 143 = .ok (.goto 5, 3) := by decide +kernel
theorem dX10_best_146 : decode cX10_best 146 = .ok (.iload 4, 2) := by decide +kernel
theorem dX10_best_148 : decode cX10_best 148 = .ok (.istore 4, 2) := by decide +kernel
theorem dX10_best_150 : decode cX10_best 150 = .ok (.iinc 5 1, 3) := by decide +kernel
theorem dX10_best_153 : decode cX10_best 153 = .ok (.goto (-127), 3) := by decide +kernel
theorem dX10_best_156 : decode cX10_best 156 = .ok (.iload_n 3, 1) := by decide +kernel
theorem dX10_best_157 : decode cX10_best 157 = .ok (.iconst (-1), 1) := by decide +kernel
theorem dX10_best_158 : decode cX10_best 158 = .ok (.if_icmp .ne 6, 3) := by decide +kernel
theorem dX10_best_161 : decode cX10_best 161 = .ok (.bipush (-4), 2) := by decide +kernel
theorem dX10_best_163 : decode cX10_best 163 = .ok (.ireturn, 1) := by decide +kernel
theorem dX10_best_164 : decode cX10_best 164 = .ok (.iload_n 1, 1) := by decide +kernel
theorem dX10_best_165 : decode cX10_best 165 = .ok (.iconst 4, 1) := by decide +kernel
theorem dX10_best_166 : decode cX10_best 166 = .ok (.if_icmp .ne 8, 3) := by decide +kernel
theorem dX10_best_169 : decode cX10_best 169 = .ok (.iload 4, 2) := by decide +kernel
theorem dX10_best_171 : decode cX10_best 171 = .ok (.goto 48, 3) := by decide +kernel
theorem dX10_best_174 : decode cX10_best 174 = .ok (.iload_n 1, 1) := by decide +kernel
theorem dX10_best_175 : decode cX10_best 175 = .ok (.ifCond .ne 13, 3) := by decide +kernel
theorem dX10_best_178 : decode cX10_best 178 = .ok (.iload_n 3, 1) := by decide +kernel
theorem dX10_best_179 : decode cX10_best 179 = .ok (.iload_n 2, 1) := by decide +kernel
theorem dX10_best_180 : decode cX10_best 180 = .ok (.iload_n 2, 1) := by decide +kernel
theorem dX10_best_181 : decode cX10_best 181 = .ok (.imul, 1) := by decide +kernel
theorem dX10_best_182 : decode cX10_best 182 = .ok (.iload_n 2, 1) := by decide +kernel
theorem dX10_best_183 : decode cX10_best 183 = .ok (.imul, 1) := by decide +kernel
theorem dX10_best_184 : decode cX10_best 184 = .ok (.idiv, 1) := by decide +kernel
theorem dX10_best_185 : decode cX10_best 185 = .ok (.goto 34, 3) := by decide +kernel
theorem dX10_best_188 : decode cX10_best 188 = .ok (.iload_n 1, 1) := by decide +kernel
theorem dX10_best_189 : decode cX10_best 189 = .ok (.iconst 1, 1) := by decide +kernel
theorem dX10_best_190 : decode cX10_best 190 = .ok (.if_icmp .ne 13, 3) := by decide +kernel
theorem dX10_best_193 : decode cX10_best 193 = .ok (.iload_n 3, 1) := by decide +kernel
theorem dX10_best_194 : decode cX10_best 194 = .ok (.iload_n 2, 1) := by decide +kernel
theorem dX10_best_195 : decode cX10_best 195 = .ok (.iload_n 2, 1) := by decide +kernel
theorem dX10_best_196 : decode cX10_best 196 = .ok (.imul, 1) := by decide +kernel
theorem dX10_best_197 : decode cX10_best 197 = .ok (.idiv, 1) := by decide +kernel
theorem dX10_best_198 : decode cX10_best 198 = .ok (.iload_n 2, 1) := by decide +kernel
theorem dX10_best_199 : decode cX10_best 199 = .ok (.irem, 1) := by decide +kernel
theorem dX10_best_200 : decode cX10_best 200 = .ok (.goto 19, 3) := by decide +kernel
theorem dX10_best_203 : decode cX10_best 203 = .ok (.iload_n 1, 1) := by decide +kernel
theorem dX10_best_204 : decode cX10_best 204 = .ok (.iconst 2, 1) := by decide +kernel
theorem dX10_best_205 : decode cX10_best 205 = .ok (.if_icmp .ne 11, 3) := by decide +kernel
theorem dX10_best_208 : decode cX10_best 208 = .ok (.iload_n 3, 1) := by decide +kernel
theorem dX10_best_209 : decode cX10_best 209 = .ok (.iload_n 2, 1) := by decide +kernel
theorem dX10_best_210 : decode cX10_best 210 = .ok (.idiv, 1) := by decide +kernel
theorem dX10_best_211 : decode cX10_best 211 = .ok (.iload_n 2, 1) := by decide +kernel
theorem dX10_best_212 : decode cX10_best 212 = .ok (.irem, 1) := by decide +kernel
theorem dX10_best_213 : decode cX10_best 213 = .ok (.goto 6, 3) := by decide +kernel
theorem dX10_best_216 : decode cX10_best 216 = .ok (.iload_n 3, 1) := by decide +kernel
theorem dX10_best_217 : decode cX10_best 217 = .ok (.iload_n 2, 1) := by decide +kernel
theorem dX10_best_218 : decode cX10_best 218 = .ok (.irem, 1) := by decide +kernel
theorem dX10_best_219 : decode cX10_best 219 = .ok (.ireturn, 1) := by decide +kernel
theorem dX10_undo_0 : decode cX10_undo 0 = .ok (.aload_n 0, 1) := by decide +kernel
theorem dX10_undo_1 : decode cX10_undo 1 = .ok (.getfield 49, 3) := by decide +kernel
theorem dX10_undo_4 : decode cX10_undo 4 = .ok (.ifCond .ne 6, 3) := by decide +kernel
theorem dX10_undo_7 : decode cX10_undo 7 = .ok (.bipush (-2), 2) := by decide +kernel
theorem dX10_undo_9 : decode cX10_undo 9 = .ok (.ireturn, 1) := by decide +kernel
theorem dX10_undo_10 : decode cX10_undo 10 = .ok (.aload_n 0, 1) := by decide +kernel
theorem dX10_undo_11 : decode cX10_undo 11 = .ok (.dup, 1) := by decide +kernel
theorem dX10_undo_12 : decode cX10_undo 12 = .ok (.getfield 49, 3) := by decide +kernel
theorem dX10_undo_15 : decode cX10_undo 15 = .ok (.iconst 1, 1) := by decide +kernel
theorem dX10_undo_16 : decode cX10_undo 16 = .ok (.isub, 1) := by decide +kernel
theorem dX10_undo_17 : decode cX10_undo 17 = .ok (.putfield 49, 3) := by decide +kernel
theorem dX10_undo_20 : decode cX10_undo 20 = .ok (.iconst 0, 1) := by decide +kernel
theorem dX10_undo_21 : decode cX10_undo 21 = .ok (.istore_n 1, 1) := by decide +kernel
theorem dX10_undo_22 : decode cX10_undo 22 = .ok (.iload_n 1, 1) := by decide +kernel
theorem dX10_undo_23 : decode cX10_undo 23 = .ok (.bipush 65, 2) := by decide +kernel
theorem dX10_undo_25 : decode cX10_undo 25 = .ok (.if_icmp .ge 29, 3) := by decide +kernel
theorem dX10_undo_28 : decode cX10_undo 28 = .ok (.aload_n 0, 1) := by decide +kernel
theorem dX10_undo_29 : decode cX10_undo 29 = .ok (.getfield 7, 3) := by decide +kernel
theorem dX10_undo_32 : decode cX10_undo 32 = .ok (.iload_n 1, 1) := by decide +kernel
theorem dX10_undo_33 : decode cX10_undo 33 = .ok (.aload_n 0, 1) := by decide +kernel
theorem dX10_undo_34 : decode cX10_undo 34 = .ok (.getfield 16, 3) := by decide +kernel
theorem dX10_undo_37 : decode cX10_undo 37 = .ok (.bipush 65, 2) := by decide +kernel
theorem dX10_undo_39 : decode cX10_undo 39 = .ok (.aload_n 0, 1) := by decide +kernel
theorem dX10_undo_40 : decode cX10_undo 40 = .ok (.getfield 49, 3) := by decide +kernel
theorem dX10_undo_43 : decode cX10_undo 43 = .ok (.imul, 1) := by decide +kernel
theorem dX10_undo_44 : decode cX10_undo 44 = .ok (.iload_n 1, 1) := by decide +kernel
theorem dX10_undo_45 : decode cX10_undo 45 = .ok (.iadd, 1) := by decide +kernel
theorem dX10_undo_46 : decode cX10_undo 46 = .ok (.iaload, 1) := by decide +kernel
theorem dX10_undo_47 : decode cX10_undo 47 = .ok (.iastore, 1) := by decide +kernel
theorem dX10_undo_48 : decode cX10_undo 48 = .ok (.iinc 1 1, 3) := by decide +kernel
theorem dX10_undo_51 : decode cX10_undo 51 = .ok (.goto (-29), 3) := by decide +kernel
theorem dX10_undo_54 : decode cX10_undo 54 = .ok (.aload_n 0, 1) := by decide +kernel
theorem dX10_undo_55 : decode cX10_undo 55 = .ok (.getfield 49, 3) := by decide +kernel
theorem dX10_undo_58 : decode cX10_undo 58 = .ok (.ireturn, 1) := by decide +kernel
theorem dX10_save_0 : decode cX10_save 0 = .ok (.iconst 0, 1) := by decide +kernel
theorem dX10_save_1 : decode cX10_save 1 = .ok (.istore_n 1, 1) := by decide +kernel
theorem dX10_save_2 : decode cX10_save 2 = .ok (.iload_n 1, 1) := by decide +kernel
theorem dX10_save_3 : decode cX10_save 3 = .ok (.bipush 65, 2) := by decide +kernel
theorem dX10_save_5 : decode cX10_save 5 = .ok (.if_icmp .ge 21, 3) := by decide +kernel
theorem dX10_save_8 : decode cX10_save 8 = .ok (.aload_n 0, 1) := by decide +kernel
theorem dX10_save_9 : decode cX10_save 9 = .ok (.getfield 19, 3) := by decide +kernel
theorem dX10_save_12 : decode cX10_save 12 = .ok (.iload_n 1, 1) := by decide +kernel
theorem dX10_save_13 : decode cX10_save 13 = .ok (.aload_n 0, 1) := by decide +kernel
theorem dX10_save_14 : decode cX10_save 14 = .ok (.getfield 7, 3) := by decide +kernel
theorem dX10_save_17 : decode cX10_save 17 = .ok (.iload_n 1, 1) := by decide +kernel
theorem dX10_save_18 : decode cX10_save 18 = .ok (.iaload, 1) := by decide +kernel
theorem dX10_save_19 : decode cX10_save 19 = .ok (.iastore, 1) := by decide +kernel
theorem dX10_save_20 : decode cX10_save 20 = .ok (.iinc 1 1, 3) := by decide +kernel
theorem dX10_save_23 : decode cX10_save 23 = .ok (.goto (-21), 3) := by decide +kernel
theorem dX10_save_26 : decode cX10_save 26 = .ok (.aload_n 0, 1) := by decide +kernel
theorem dX10_save_27 : decode cX10_save 27 = .ok (.iconst 1, 1) := by decide +kernel
theorem dX10_save_28 : decode cX10_save 28 = .ok (.putfield 191, 3) := by decide +kernel
theorem dX10_save_31 : decode cX10_save 31 = .ok (.aload_n 0, 1) := by decide +kernel
theorem dX10_save_32 : decode cX10_save 32 = .ok (.getfield 7, 3) := by decide +kernel
theorem dX10_save_35 : decode cX10_save 35 = .ok (.iconst 0, 1) := by decide +kernel
theorem dX10_save_36 : decode cX10_save 36 = .ok (.iaload, 1) := by decide +kernel
theorem dX10_save_37 : decode cX10_save 37 = .ok (.ireturn, 1) := by decide +kernel
set_option maxRecDepth 20000 in
theorem ggX10_restore_X10_records : GoodIn wsX10_restore wsX10_records := goodIn_r _ [8, 9, 10, 2, 11, 12, 13, 14, 15, 16, 17, 18, 19, 20, 21, 22, 23, 24, 25] (by decide +kernel) (by decide +kernel)
set_option maxRecDepth 20000 in
theorem gX10_restore_X10_records : GoodIn wsX10_restore (wsV RX10 87 RX10 yX10_records wsX10_records) := goodIn_app (goodIn_of _ (by decide +kernel)) ggX10_restore_X10_records
theorem dX10_restore_0 : decode cX10_restore 0 = .ok (.aload_n 0, 1) := by decide +kernel
theorem dX10_restore_1 : decode cX10_restore 1 = .ok (.getfield 191, 3) := by decide +kernel
theorem dX10_restore_4 : decode cX10_restore 4 = .ok (.ifCond .ne 6, 3) := by decide +kernel
theorem dX10_restore_7 : decode cX10_restore 7 = .ok (.bipush (-2), 2) := by decide +kernel
theorem dX10_restore_9 : decode cX10_restore 9 = .ok (.ireturn, 1) := by decide +kernel
theorem dX10_restore_10 : decode cX10_restore 10 = .ok (.aload_n 0, 1) := by decide +kernel
theorem dX10_restore_11 : decode cX10_restore 11 = .ok (.invokevirtual 87, 3) := by decide +kernel
theorem dX10_restore_14 : decode cX10_restore 14 = .ok (.iconst 0, 1) := by decide +kernel
theorem dX10_restore_15 : decode cX10_restore 15 = .ok (.istore_n 1, 1) := by decide +kernel
theorem dX10_restore_16 : decode cX10_restore 16 = .ok (.iload_n 1, 1) := by decide +kernel
theorem dX10_restore_17 : decode cX10_restore 17 = .ok (.bipush 65, 2) := by decide +kernel
theorem dX10_restore_19 : decode cX10_restore 19 = .ok (.if_icmp .ge 21, 3) := by decide +kernel
theorem dX10_restore_22 : decode cX10_restore 22 = .ok (.aload_n 0, 1) := by decide +kernel
theorem dX10_restore_23 : decode cX10_restore 23 = .ok (.getfield 7, 3) := by decide +kernel
theorem dX10_restore_26 : decode cX10_restore 26 = .ok (.iload_n 1, 1) := by decide +kernel
theorem dX10_restore_27 : decode cX10_restore 27 = .ok (.aload_n 0, 1) := by decide +kernel
theorem dX10_restore_28 : decode cX10_restore 28 = .ok (.getfield 19, 3) := by decide +kernel
theorem dX10_restore_31 : decode cX10_restore 31 = .ok (.iload_n 1, 1) := by decide +kernel
theorem dX10_restore_32 : decode cX10_restore 32 = .ok (.iaload, 1) := by decide +kernel
theorem dX10_restore_33 : decode cX10_restore 33 = .ok (.iastore, 1) := by decide +kernel
theorem dX10_restore_34 : decode cX10_restore 34 = .ok (.iinc 1 1, 3) := by decide +kernel
theorem dX10_restore_37 : decode cX10_restore 37 = .ok (.goto (-21), 3) := by decide +kernel
theorem dX10_restore_40 : decode cX10_restore 40 = .ok (.aload_n 0, 1) := by decide +kernel
theorem dX10_restore_41 : decode cX10_restore 41 = .ok (.getfield 7, 3) := by decide +kernel
theorem dX10_restore_44 : decode cX10_restore 44 = .ok (.iconst 0, 1) := by decide +kernel
theorem dX10_restore_45 : decode cX10_restore 45 = .ok (.iaload, 1) := by decide +kernel
theorem dX10_restore_46 : decode cX10_restore 46 = .ok (.ireturn, 1) := by decide +kernel
theorem dJ6_bitCount_0f7a4_0 : decode cJ6_bitCount_0f7a4 0 = .ok (.iload_n 0, 1) := by decide +kernel
theorem dJ6_bitCount_0f7a4_1 : decode cJ6_bitCount_0f7a4 1 = .ok (.iload_n 0, 1) := by decide +kernel
theorem dJ6_bitCount_0f7a4_2 : decode cJ6_bitCount_0f7a4 2 = .ok (.iconst 1, 1) := by decide +kernel
theorem dJ6_bitCount_0f7a4_3 : decode cJ6_bitCount_0f7a4 3 = .ok (.iushr, 1) := by decide +kernel
theorem dJ6_bitCount_0f7a4_4 : decode cJ6_bitCount_0f7a4 4 = .ok (.ldc_w 265, 3) := by decide +kernel
theorem dJ6_bitCount_0f7a4_7 : decode cJ6_bitCount_0f7a4 7 = .ok (.iand, 1) := by decide +kernel
theorem dJ6_bitCount_0f7a4_8 : decode cJ6_bitCount_0f7a4 8 = .ok (.isub, 1) := by decide +kernel
theorem dJ6_bitCount_0f7a4_9 : decode cJ6_bitCount_0f7a4 9 = .ok (.istore_n 0, 1) := by decide +kernel
theorem dJ6_bitCount_0f7a4_10 : decode cJ6_bitCount_0f7a4 10 = .ok (.iload_n 0, 1) := by decide +kernel
theorem dJ6_bitCount_0f7a4_11 : decode cJ6_bitCount_0f7a4 11 = .ok (.ldc_w 266, 3) := by decide +kernel
theorem dJ6_bitCount_0f7a4_14 : decode cJ6_bitCount_0f7a4 14 = .ok (.iand, 1) := by decide +kernel
theorem dJ6_bitCount_0f7a4_15 : decode cJ6_bitCount_0f7a4 15 = .ok (.iload_n 0, 1) := by decide +kernel
theorem dJ6_bitCount_0f7a4_16 : decode cJ6_bitCount_0f7a4 16 = .ok (.iconst 2, 1) := by decide +kernel
theorem dJ6_bitCount_0f7a4_17 : decode cJ6_bitCount_0f7a4 17 = .ok (.iushr, 1) := by decide +kernel
theorem dJ6_bitCount_0f7a4_18 : decode cJ6_bitCount_0f7a4 18 = .ok (.ldc_w 266, 3) := by decide +kernel
theorem dJ6_bitCount_0f7a4_21 : decode cJ6_bitCount_0f7a4 21 = .ok (.iand, 1) := by decide +kernel
theorem dJ6_bitCount_0f7a4_22 : decode cJ6_bitCount_0f7a4 22 = .ok (.iadd, 1) := by decide +kernel
theorem dJ6_bitCount_0f7a4_23 : decode cJ6_bitCount_0f7a4 23 = .ok (.istore_n 0, 1) := by decide +kernel
theorem dJ6_bitCount_0f7a4_24 : decode cJ6_bitCount_0f7a4 24 = .ok (.iload_n 0, 1) := by decide +kernel
theorem dJ6_bitCount_0f7a4_25 : decode cJ6_bitCount_0f7a4 25 = .ok (.iload_n 0, 1) := by decide +kernel
theorem dJ6_bitCount_0f7a4_26 : decode cJ6_bitCount_0f7a4 26 = .ok (.iconst 4, 1) := by decide +kernel
theorem dJ6_bitCount_0f7a4_27 : decode cJ6_bitCount_0f7a4 27 = .ok (.iushr, 1) := by decide +kernel
theorem dJ6_bitCount_0f7a4_28 : decode cJ6_bitCount_0f7a4 28 = .ok (.iadd, 1) := by decide +kernel
theorem dJ6_bitCount_0f7a4_29 : decode cJ6_bitCount_0f7a4 29 = .ok (.ldc_w 267, 3) := by decide +kernel
theorem dJ6_bitCount_0f7a4_32 : decode cJ6_bitCount_0f7a4 32 = .ok (.iand, 1) := by decide +kernel
theorem dJ6_bitCount_0f7a4_33 : decode cJ6_bitCount_0f7a4 33 = .ok (.istore_n 0, 1) := by decide +kernel
theorem dJ6_bitCount_0f7a4_34 : decode cJ6_bitCount_0f7a4 34 = .ok (.iload_n 0, 1) := by decide +kernel
theorem dJ6_bitCount_0f7a4_35 : decode cJ6_bitCount_0f7a4 35 = .ok (.iload_n 0, 1) := by decide +kernel
theorem dJ6_bitCount_0f7a4_36 : decode cJ6_bitCount_0f7a4 36 = .ok (.bipush 8, 2) := by decide +kernel
theorem dJ6_bitCount_0f7a4_38 : decode cJ6_bitCount_0f7a4 38 = .ok (.iushr, 1) := by decide +kernel
theorem dJ6_bitCount_0f7a4_39 : decode cJ6_bitCount_0f7a4 39 = .ok (.iadd, 1) := by decide +kernel
theorem dJ6_bitCount_0f7a4_40 : decode cJ6_bitCount_0f7a4 40 = .ok (.istore_n 0, 1) := by decide +kernel
theorem dJ6_bitCount_0f7a4_41 : decode cJ6_bitCount_0f7a4 41 = .ok (.iload_n 0, 1) := by decide +kernel
theorem dJ6_bitCount_0f7a4_42 : decode cJ6_bitCount_0f7a4 42 = .ok (.iload_n 0, 1) := by decide +kernel
theorem dJ6_bitCount_0f7a4_43 : decode cJ6_bitCount_0f7a4 43 = .ok (.bipush 16, 2) := by decide +kernel
theorem dJ6_bitCount_0f7a4_45 : decode cJ6_bitCount_0f7a4 45 = .ok (.iushr, 1) := by decide +kernel
theorem dJ6_bitCount_0f7a4_46 : decode cJ6_bitCount_0f7a4 46 = .ok (.iadd, 1) := by decide +kernel
theorem dJ6_bitCount_0f7a4_47 : decode cJ6_bitCount_0f7a4 47 = .ok (.istore_n 0, 1) := by decide +kernel
theorem dJ6_bitCount_0f7a4_48 : decode cJ6_bitCount_0f7a4 48 = .ok (.iload_n 0, 1) := by decide +kernel
theorem dJ6_bitCount_0f7a4_49 : decode cJ6_bitCount_0f7a4 49 = .ok (.bipush 63, 2) := by decide +kernel
theorem dJ6_bitCount_0f7a4_51 : decode cJ6_bitCount_0f7a4 51 = .ok (.iand, 1) := by decide +kernel
theorem dJ6_bitCount_0f7a4_52 : decode cJ6_bitCount_0f7a4 52 = .ok (.ireturn, 1) := by decide +kernel
set_option maxRecDepth 20000 in
theorem ggL_law_X9_init : GoodIn wsL_law wsX9_init := goodIn_r _ [8, 9, 10, 11, 12, 13, 14, 15, 16, 17, 18, 19, 20, 21, 22, 23, 24, 25, 26, 27, 28, 29, 30, 31, 32, 33, 34, 35, 36, 37, 38, 39, 40, 41, 42, 43, 44, 45, 46, 47, 48, 49, 50, 51, 52, 53, 54, 55, 56, 57, 58, 59, 60, 61, 62, 63, 64, 65, 66, 67, 68, 69, 70, 71, 72, 73, 74, 75, 76, 77, 78, 79, 80, 81, 82, 83, 84, 85, 86, 87, 88, 89, 2, 90, 846, 847, 823, 824, 825, 826, 827, 828, 829, 830, 831, 848, 849, 850, 851, 852, 853, 854, 855, 856, 857, 858, 859, 860, 861, 862, 863, 864, 865, 866, 867, 868, 869] (by decide +kernel) (by decide +kernel)
set_option maxRecDepth 20000 in
theorem gL_law_X9_init : GoodIn wsL_law (wsX9_init) := ggL_law_X9_init
set_option maxRecDepth 20000 in
theorem ggL_law_X10_init : GoodIn wsL_law wsX10_init := goodIn_r _ [93, 94, 10, 11, 42, 95, 96, 97, 98, 99, 100, 101, 102, 103, 104, 105, 106, 5, 107, 108, 109, 110, 832, 833, 834, 835, 836, 837, 838, 839, 840, 841, 842, 843, 844, 845] (by decide +kernel) (by decide +kernel)
set_option maxRecDepth 20000 in
theorem gL_law_X10_init : GoodIn wsL_law (wsX10_init) := ggL_law_X10_init
set_option maxRecDepth 20000 in
theorem ggL_law_X9_begin : GoodIn wsL_law wsX9_begin := goodIn_r _ [114, 21, 15, 115, 116, 2, 117, 118, 119, 120, 121, 122, 123, 20, 124, 125, 126, 127, 128, 129, 49, 130, 131, 132, 133, 134, 135, 136, 14, 137, 84, 43, 138, 139, 89, 90, 80, 81, 82, 83, 85, 86, 87, 88, 140, 141, 142, 143, 144, 145, 146, 147, 148, 149, 150, 151, 152, 153, 154, 823, 824, 825, 826, 827, 828, 829, 830, 831, 848, 849, 846, 847] (by decide +kernel) (by decide +kernel)
set_option maxRecDepth 20000 in
theorem gL_law_X9_begin : GoodIn wsL_law (wsV RL 13 RX9 yX9_begin wsX9_begin) := goodIn_app (goodIn_of _ (by decide +kernel)) ggL_law_X9_begin
set_option maxRecDepth 20000 in
theorem ggL_law_X10_begin : GoodIn wsL_law wsX10_begin := goodIn_r _ [158, 159, 160, 5, 161, 162, 163, 164, 165, 166, 167, 168, 169, 97, 95, 96, 104, 105, 106, 107, 108, 109, 110, 170, 171, 172, 173, 174, 175, 176, 177, 178, 179, 180, 181, 182, 183, 184, 185, 832, 833, 834, 835, 836, 837, 838, 839, 840, 841, 842, 843, 844, 845] (by decide +kernel) (by decide +kernel)
set_option maxRecDepth 20000 in
theorem gL_law_X10_begin : GoodIn wsL_law (wsV RL 17 RX10 yX10_begin wsX10_begin) := goodIn_app (goodIn_of _ (by decide +kernel)) ggL_law_X10_begin
set_option maxRecDepth 20000 in
theorem ggL_law_X9_rows : GoodIn wsL_law wsX9_rows := goodIn_r _ [189, 17, 15, 190, 191, 192, 2, 193, 194, 195, 196, 14, 197, 84, 198, 135, 136, 137, 43, 138, 139, 89, 90, 199, 200, 201, 202, 203, 204, 205, 206, 207, 152, 153, 154, 85, 86, 87, 88, 208, 209, 210, 211, 21, 212, 213, 214, 215, 121, 122, 123, 20, 124, 125, 126, 127, 128, 129, 49, 130, 131, 132, 133, 134, 823, 824, 825, 826, 827, 828, 829, 830, 831, 846, 847, 848, 849] (by decide +kernel) (by decide +kernel)
set_option maxRecDepth 20000 in
theorem gL_law_X9_rows : GoodIn wsL_law (wsV RL 18 RX9 yX9_rows wsX9_rows) := goodIn_app (goodIn_of _ (by decide +kernel)) ggL_law_X9_rows
set_option maxRecDepth 20000 in
theorem ggL_law_X10_rows : GoodIn wsL_law wsX10_rows := goodIn_r _ [219, 95, 220, 221, 222, 5, 223, 224, 225, 226, 227, 159, 160, 161, 165, 166, 167, 168, 169, 97, 96, 108, 109, 110, 228, 229, 230, 231, 232, 233, 234, 235, 832, 833, 834, 835, 836, 837, 838, 839, 840, 841, 842, 843, 844, 845] (by decide +kernel) (by decide +kernel)
set_option maxRecDepth 20000 in
theorem gL_law_X10_rows : GoodIn wsL_law (wsV RL 21 RX10 yX10_rows wsX10_rows) := goodIn_app (goodIn_of _ (by decide +kernel)) ggL_law_X10_rows
set_option maxRecDepth 20000 in
theorem ggL_law_X9_columns : GoodIn wsL_law wsX9_columns := goodIn_r _ [239, 17, 15, 190, 191, 192, 2, 193, 194, 195, 196, 14, 197, 84, 198, 135, 136, 137, 43, 138, 139, 89, 90, 240, 241, 242, 243, 203, 204, 205, 206, 207, 152, 153, 154, 85, 86, 87, 88, 208, 209, 210, 211, 21, 212, 213, 214, 215, 121, 122, 123, 20, 124, 125, 126, 127, 128, 129, 49, 130, 131, 132, 133, 134, 823, 824, 825, 826, 827, 828, 829, 830, 831, 846, 847, 848, 849] (by decide +kernel) (by decide +kernel)
set_option maxRecDepth 20000 in
theorem gL_law_X9_columns : GoodIn wsL_law (wsV RL 22 RX9 yX9_columns wsX9_columns) := goodIn_app (goodIn_of _ (by decide +kernel)) ggL_law_X9_columns
set_option maxRecDepth 20000 in
theorem ggL_law_X10_columns : GoodIn wsL_law wsX10_columns := goodIn_r _ [247, 95, 220, 221, 222, 5, 223, 224, 225, 226, 227, 159, 160, 161, 165, 166, 167, 168, 169, 97, 96, 108, 109, 110, 228, 229, 230, 231, 232, 233, 234, 235, 832, 833, 834, 835, 836, 837, 838, 839, 840, 841, 842, 843, 844, 845] (by decide +kernel) (by decide +kernel)
set_option maxRecDepth 20000 in
theorem gL_law_X10_columns : GoodIn wsL_law (wsV RL 25 RX10 yX10_columns wsX10_columns) := goodIn_app (goodIn_of _ (by decide +kernel)) ggL_law_X10_columns
set_option maxRecDepth 20000 in
theorem ggL_law_X9_names : GoodIn wsL_law wsX9_names := goodIn_r _ [251, 17, 15, 190, 191, 192, 2, 193, 194, 195, 196, 14, 197, 84, 198, 135, 136, 137, 43, 138, 139, 89, 90, 252, 253, 254, 255, 207, 152, 153, 154, 85, 86, 87, 88, 208, 209, 210, 211, 21, 212, 213, 214, 215, 121, 122, 123, 20, 124, 125, 126, 127, 128, 129, 49, 130, 131, 132, 133, 134, 823, 824, 825, 826, 827, 828, 829, 830, 831, 846, 847, 848, 849] (by decide +kernel) (by decide +kernel)
set_option maxRecDepth 20000 in
theorem gL_law_X9_names : GoodIn wsL_law (wsV RL 26 RX9 yX9_names wsX9_names) := goodIn_app (goodIn_of _ (by decide +kernel)) ggL_law_X9_names
set_option maxRecDepth 20000 in
theorem ggL_law_X10_names : GoodIn wsL_law wsX10_names := goodIn_r _ [259, 95, 220, 221, 222, 5, 223, 224, 225, 226, 227, 159, 160, 161, 165, 166, 167, 168, 169, 97, 96, 108, 109, 110, 232, 233, 234, 235, 832, 833, 834, 835, 836, 837, 838, 839, 840, 841, 842, 843, 844, 845] (by decide +kernel) (by decide +kernel)
set_option maxRecDepth 20000 in
theorem gL_law_X10_names : GoodIn wsL_law (wsV RL 29 RX10 yX10_names wsX10_names) := goodIn_app (goodIn_of _ (by decide +kernel)) ggL_law_X10_names
set_option maxRecDepth 20000 in
theorem ggL_law_X9_swap : GoodIn wsL_law wsX9_swap := goodIn_r _ [263, 15, 21, 190, 191, 192, 2, 193, 194, 195, 196, 14, 197, 84, 264, 265, 266, 267, 207, 152, 153, 154, 43, 140, 141, 142, 143, 144, 145, 146, 147, 148, 149, 150, 151, 121, 122, 123, 20, 124, 125, 126, 127, 128, 129, 49, 130, 131, 132, 133, 134, 135, 136, 137, 138, 139, 89, 90, 268, 269, 270, 271, 203, 204, 205, 206, 85, 86, 87, 88, 823, 824, 825, 826, 827, 828, 829, 830, 831, 846, 847, 848, 849] (by decide +kernel) (by decide +kernel)
set_option maxRecDepth 20000 in
theorem gL_law_X9_swap : GoodIn wsL_law (wsV RL 30 RX9 yX9_swap wsX9_swap) := goodIn_app (goodIn_of _ (by decide +kernel)) ggL_law_X9_swap
set_option maxRecDepth 20000 in
theorem ggL_law_X10_swap : GoodIn wsL_law wsX10_swap := goodIn_r _ [275, 276, 277, 278, 5, 279, 220, 221, 222, 223, 224, 225, 226, 227, 95, 159, 160, 161, 280, 281, 282, 283, 182, 183, 184, 185, 108, 109, 110, 165, 166, 167, 168, 169, 97, 96, 170, 171, 172, 173, 174, 175, 176, 177, 178, 179, 180, 181, 284, 285, 286, 287, 228, 229, 230, 231, 832, 833, 834, 835, 836, 837, 838, 839, 840, 841, 842, 843, 844, 845] (by decide +kernel) (by decide +kernel)
set_option maxRecDepth 20000 in
theorem gL_law_X10_swap : GoodIn wsL_law (wsV RL 34 RX10 yX10_swap wsX10_swap) := goodIn_app (goodIn_of _ (by decide +kernel)) ggL_law_X10_swap
set_option maxRecDepth 20000 in
theorem ggL_law_X9_append : GoodIn wsL_law wsX9_append := goodIn_r _ [291, 25, 115, 116, 2, 117, 292, 293, 294, 24, 295, 296, 56, 297, 298, 299, 300, 823, 824, 825, 826, 827, 828, 829, 830, 831, 850, 851] (by decide +kernel) (by decide +kernel)
set_option maxRecDepth 20000 in
theorem gL_law_X9_append : GoodIn wsL_law (wsV RL 35 RX9 yX9_append wsX9_append) := goodIn_app (goodIn_of _ (by decide +kernel)) ggL_law_X9_append
set_option maxRecDepth 20000 in
theorem ggL_law_X10_append : GoodIn wsL_law wsX10_append := goodIn_r _ [304, 305, 99, 159, 160, 5, 161, 832, 833, 834, 835, 836, 837, 838, 839, 840, 841, 842, 843, 844, 845] (by decide +kernel) (by decide +kernel)
set_option maxRecDepth 20000 in
theorem gL_law_X10_append : GoodIn wsL_law (wsV RL 39 RX10 yX10_append wsX10_append) := goodIn_app (goodIn_of _ (by decide +kernel)) ggL_law_X10_append
set_option maxRecDepth 20000 in
theorem ggL_law_X9_clear : GoodIn wsL_law wsX9_clear := goodIn_r _ [309, 25, 297, 298, 299, 24, 300, 296, 310, 311, 312, 313, 823, 824, 825, 826, 827, 828, 829, 830, 831, 850, 851] (by decide +kernel) (by decide +kernel)
set_option maxRecDepth 20000 in
theorem gL_law_X9_clear : GoodIn wsL_law (wsV RL 40 RX9 yX9_clear wsX9_clear) := goodIn_app (goodIn_of _ (by decide +kernel)) ggL_law_X9_clear
set_option maxRecDepth 20000 in
theorem ggL_law_X10_clear : GoodIn wsL_law wsX10_clear := goodIn_r _ [317, 305, 832, 833, 834, 835, 836, 837, 838, 839, 840, 841, 842, 843, 844, 845] (by decide +kernel) (by decide +kernel)
set_option maxRecDepth 20000 in
theorem gL_law_X10_clear : GoodIn wsL_law (wsV RL 44 RX10 yX10_clear wsX10_clear) := goodIn_app (goodIn_of _ (by decide +kernel)) ggL_law_X10_clear
set_option maxRecDepth 20000 in
theorem ggL_law_X9_fault : GoodIn wsL_law wsX9_fault := goodIn_r _ [321, 17, 25, 15, 29, 33, 322, 145, 146, 14, 147, 84, 323, 324, 325, 326, 327, 328, 329, 24, 330, 296, 56, 331, 332, 333, 334, 335, 336, 195, 196, 197, 337, 338, 339, 340, 207, 152, 153, 154, 43, 85, 86, 87, 88, 89, 2, 90, 341, 298, 299, 300, 342, 343, 344, 28, 345, 346, 347, 348, 61, 349, 350, 351, 352, 353, 354, 355, 356, 357, 358, 359, 360, 63, 64, 65, 66, 62, 138, 139, 361, 362, 363, 364, 365, 366, 367, 368, 32, 369, 370, 71, 371, 372, 373, 823, 824, 825, 826, 827, 828, 829, 830, 831, 846, 847, 850, 851, 852, 853, 854, 855, 856, 857, 858, 859, 860, 861, 862, 863] (by decide +kernel) (by decide +kernel)
set_option maxRecDepth 20000 in
theorem gL_law_X9_fault : GoodIn wsL_law (wsV RL 45 RX9 yX9_fault wsX9_fault) := goodIn_app (goodIn_of _ (by decide +kernel)) ggL_law_X9_fault
set_option maxRecDepth 20000 in
theorem ggL_law_X10_fault : GoodIn wsL_law wsX10_fault := goodIn_r _ [377, 159, 160, 5, 161, 378, 379, 380, 381, 95, 305, 99, 382, 383, 384, 385, 224, 225, 226, 227, 386, 387, 388, 389, 390, 391, 392, 393, 394, 102, 101, 395, 396, 397, 398, 399, 100, 182, 183, 184, 185, 108, 109, 110, 400, 401, 402, 403, 832, 833, 834, 835, 836, 837, 838, 839, 840, 841, 842, 843, 844, 845] (by decide +kernel) (by decide +kernel)
set_option maxRecDepth 20000 in
theorem gL_law_X10_fault : GoodIn wsL_law (wsV RL 48 RX10 yX10_fault wsX10_fault) := goodIn_app (goodIn_of _ (by decide +kernel)) ggL_law_X10_fault
set_option maxRecDepth 20000 in
theorem ggL_law_X9_load : GoodIn wsL_law wsX9_load := goodIn_r _ [407, 17, 25, 15, 322, 145, 146, 14, 147, 84, 323, 324, 325, 326, 327, 328, 329, 24, 330, 296, 56, 331, 332, 333, 334, 335, 336, 195, 196, 197, 337, 338, 339, 340, 207, 152, 153, 154, 43, 85, 86, 87, 88, 89, 2, 90, 341, 298, 299, 300, 310, 311, 312, 313, 208, 209, 210, 211, 21, 212, 213, 214, 215, 121, 122, 123, 20, 124, 125, 126, 127, 128, 129, 49, 130, 131, 132, 133, 134, 135, 136, 137, 138, 139, 198, 823, 824, 825, 826, 827, 828, 829, 830, 831, 846, 847, 850, 851, 848, 849] (by decide +kernel) (by decide +kernel)
set_option maxRecDepth 20000 in
theorem gL_law_X9_load : GoodIn wsL_law (wsV RL 49 RX9 yX9_load wsX9_load) := goodIn_app (goodIn_of _ (by decide +kernel)) ggL_law_X9_load
set_option maxRecDepth 20000 in
theorem ggL_law_X10_load : GoodIn wsL_law wsX10_load := goodIn_r _ [411, 95, 99, 305, 378, 379, 380, 5, 381, 382, 383, 384, 385, 224, 225, 226, 227, 159, 160, 161, 386, 387, 388, 389, 165, 166, 167, 168, 169, 97, 96, 108, 109, 110, 232, 233, 234, 235, 832, 833, 834, 835, 836, 837, 838, 839, 840, 841, 842, 843, 844, 845] (by decide +kernel) (by decide +kernel)
set_option maxRecDepth 20000 in
theorem gL_law_X10_load : GoodIn wsL_law (wsV RL 52 RX10 yX10_load wsX10_load) := goodIn_app (goodIn_of _ (by decide +kernel)) ggL_law_X10_load
set_option maxRecDepth 20000 in
theorem ggL_law_X9_value : GoodIn wsL_law wsX9_value := goodIn_r _ [415, 29, 25, 15, 342, 343, 344, 28, 345, 346, 347, 348, 61, 89, 2, 90, 349, 298, 299, 24, 300, 296, 350, 351, 352, 353, 354, 328, 329, 330, 56, 355, 332, 333, 334, 335, 356, 195, 196, 14, 197, 84, 357, 358, 359, 360, 63, 64, 65, 66, 62, 138, 139, 361, 152, 153, 154, 43, 362, 363, 364, 365, 416, 417, 418, 419, 823, 824, 825, 826, 827, 828, 829, 830, 831, 852, 853, 854, 855, 856, 857, 858, 859, 860, 850, 851, 846, 847] (by decide +kernel) (by decide +kernel)
set_option maxRecDepth 20000 in
theorem gL_law_X9_value : GoodIn wsL_law (wsV RL 53 RX9 yX9_value wsX9_value) := goodIn_app (goodIn_of _ (by decide +kernel)) ggL_law_X9_value
set_option maxRecDepth 20000 in
theorem ggL_law_X10_value : GoodIn wsL_law wsX10_value := goodIn_r _ [423, 395, 390, 391, 392, 5, 393, 394, 102, 305, 99, 101, 382, 383, 384, 385, 224, 225, 226, 227, 95, 159, 160, 161, 396, 397, 398, 399, 100, 182, 183, 184, 185, 108, 109, 110, 832, 833, 834, 835, 836, 837, 838, 839, 840, 841, 842, 843, 844, 845] (by decide +kernel) (by decide +kernel)
set_option maxRecDepth 20000 in
theorem gL_law_X10_value : GoodIn wsL_law (wsV RL 56 RX10 yX10_value wsX10_value) := goodIn_app (goodIn_of _ (by decide +kernel)) ggL_law_X10_value
set_option maxRecDepth 20000 in
theorem ggL_law_X9_step : GoodIn wsL_law wsX9_step := goodIn_r _ [427, 29, 25, 15, 115, 116, 2, 117, 342, 343, 344, 28, 345, 346, 347, 348, 61, 89, 90, 349, 298, 299, 24, 300, 296, 350, 351, 352, 353, 354, 328, 329, 330, 56, 355, 332, 333, 334, 335, 356, 195, 196, 14, 197, 84, 357, 358, 359, 360, 63, 64, 65, 66, 62, 138, 139, 361, 152, 153, 154, 43, 362, 363, 364, 365, 428, 429, 430, 431, 823, 824, 825, 826, 827, 828, 829, 830, 831, 852, 853, 854, 855, 856, 857, 858, 859, 860, 850, 851, 846, 847] (by decide +kernel) (by decide +kernel)
set_option maxRecDepth 20000 in
theorem gL_law_X9_step : GoodIn wsL_law (wsV RL 57 RX9 yX9_step wsX9_step) := goodIn_app (goodIn_of _ (by decide +kernel)) ggL_law_X9_step
set_option maxRecDepth 20000 in
theorem ggL_law_X10_step : GoodIn wsL_law wsX10_step := goodIn_r _ [435, 394, 100, 159, 160, 5, 161, 390, 391, 392, 393, 102, 305, 99, 101, 395, 382, 383, 384, 385, 224, 225, 226, 227, 95, 396, 397, 398, 399, 182, 183, 184, 185, 108, 109, 110, 832, 833, 834, 835, 836, 837, 838, 839, 840, 841, 842, 843, 844, 845] (by decide +kernel) (by decide +kernel)
set_option maxRecDepth 20000 in
theorem gL_law_X10_step : GoodIn wsL_law (wsV RL 60 RX10 yX10_step wsX10_step) := goodIn_app (goodIn_of _ (by decide +kernel)) ggL_law_X10_step
set_option maxRecDepth 20000 in
theorem ggL_law_X9_sum : GoodIn wsL_law wsX9_sum := goodIn_r _ [439, 15, 194, 195, 196, 14, 197, 84, 440, 152, 153, 154, 43, 823, 824, 825, 826, 827, 828, 829, 830, 831, 846, 847] (by decide +kernel) (by decide +kernel)
set_option maxRecDepth 20000 in
theorem gL_law_X9_sum : GoodIn wsL_law (wsV RL 61 RX9 yX9_sum wsX9_sum) := goodIn_app (goodIn_of _ (by decide +kernel)) ggL_law_X9_sum
set_option maxRecDepth 20000 in
theorem ggL_law_X10_sum : GoodIn wsL_law wsX10_sum := goodIn_r _ [444, 224, 225, 226, 5, 227, 95, 159, 160, 161, 182, 183, 184, 185, 108, 109, 110, 832, 833, 834, 835, 836, 837, 838, 839, 840, 841, 842, 843, 844, 845] (by decide +kernel) (by decide +kernel)
set_option maxRecDepth 20000 in
theorem gL_law_X10_sum : GoodIn wsL_law (wsV RL 64 RX10 yX10_sum wsX10_sum) := goodIn_app (goodIn_of _ (by decide +kernel)) ggL_law_X10_sum
set_option maxRecDepth 20000 in
theorem ggL_law_X9_between : GoodIn wsL_law wsX9_between := goodIn_r _ [448, 15, 194, 195, 196, 14, 197, 84, 449, 450, 451, 452, 453, 145, 146, 147, 454, 455, 456, 457, 152, 153, 154, 43, 823, 824, 825, 826, 827, 828, 829, 830, 831, 846, 847] (by decide +kernel) (by decide +kernel)
set_option maxRecDepth 20000 in
theorem gL_law_X9_between : GoodIn wsL_law (wsV RL 65 RX9 yX9_between wsX9_between) := goodIn_app (goodIn_of _ (by decide +kernel)) ggL_law_X9_between
set_option maxRecDepth 20000 in
theorem ggL_law_X10_between : GoodIn wsL_law wsX10_between := goodIn_r _ [461, 95, 224, 225, 226, 5, 227, 159, 160, 161, 182, 183, 184, 185, 108, 109, 110, 832, 833, 834, 835, 836, 837, 838, 839, 840, 841, 842, 843, 844, 845] (by decide +kernel) (by decide +kernel)
set_option maxRecDepth 20000 in
theorem gL_law_X10_between : GoodIn wsL_law (wsV RL 69 RX10 yX10_between wsX10_between) := goodIn_app (goodIn_of _ (by decide +kernel)) ggL_law_X10_between
set_option maxRecDepth 20000 in
theorem ggL_law_X9_returns : GoodIn wsL_law wsX9_returns := goodIn_r _ [465, 15, 194, 195, 196, 14, 197, 84, 466, 467, 451, 468, 454, 455, 456, 457, 152, 153, 154, 43, 823, 824, 825, 826, 827, 828, 829, 830, 831, 846, 847] (by decide +kernel) (by decide +kernel)
set_option maxRecDepth 20000 in
theorem gL_law_X9_returns : GoodIn wsL_law (wsV RL 70 RX9 yX9_returns wsX9_returns) := goodIn_app (goodIn_of _ (by decide +kernel)) ggL_law_X9_returns
set_option maxRecDepth 20000 in
theorem ggL_law_X10_returns : GoodIn wsL_law wsX10_returns := goodIn_r _ [472, 224, 225, 226, 5, 227, 95, 159, 160, 161, 473, 474, 475, 476, 182, 183, 184, 185, 108, 109, 110, 832, 833, 834, 835, 836, 837, 838, 839, 840, 841, 842, 843, 844, 845] (by decide +kernel) (by decide +kernel)
set_option maxRecDepth 20000 in
theorem gL_law_X10_returns : GoodIn wsL_law (wsV RL 73 RX10 yX10_returns wsX10_returns) := goodIn_app (goodIn_of _ (by decide +kernel)) ggL_law_X10_returns
set_option maxRecDepth 20000 in
theorem ggL_law_X9_token : GoodIn wsL_law wsX9_token := goodIn_r _ [480, 15, 194, 195, 196, 14, 197, 84, 481, 482, 142, 483, 144, 145, 146, 147, 151, 152, 153, 154, 43, 484, 149, 150, 485, 486, 487, 488, 489, 490, 491, 492, 493, 494, 495, 496, 2, 497, 498, 499, 500, 501, 502, 503, 504, 505, 440, 506, 507, 451, 508, 453, 509, 510, 511, 457, 512, 513, 514, 515, 516, 517, 518, 467, 468, 454, 455, 456, 823, 824, 825, 826, 827, 828, 829, 830, 831, 846, 847] (by decide +kernel) (by decide +kernel)
set_option maxRecDepth 20000 in
theorem gL_law_X9_token : GoodIn wsL_law (wsV RL 74 RX9 yX9_token wsX9_token) := goodIn_app (goodIn_of _ (by decide +kernel)) ggL_law_X9_token
set_option maxRecDepth 20000 in
theorem ggL_law_X10_token : GoodIn wsL_law wsX10_token := goodIn_r _ [522, 224, 225, 226, 5, 227, 95, 159, 160, 161, 523, 524, 525, 526, 182, 183, 184, 185, 108, 109, 110, 174, 175, 176, 177, 178, 179, 180, 181, 527, 528, 529, 530, 531, 532, 533, 534, 535, 536, 537, 538, 539, 540, 541, 542, 543, 544, 545, 546, 547, 548, 549, 473, 474, 475, 476, 832, 833, 834, 835, 836, 837, 838, 839, 840, 841, 842, 843, 844, 845] (by decide +kernel) (by decide +kernel)
set_option maxRecDepth 20000 in
theorem gL_law_X10_token : GoodIn wsL_law (wsV RL 77 RX10 yX10_token wsX10_token) := goodIn_app (goodIn_of _ (by decide +kernel)) ggL_law_X10_token
set_option maxRecDepth 20000 in
theorem ggL_law_X9_ring : GoodIn wsL_law wsX9_ring := goodIn_r _ [553, 15, 554, 555, 556, 14, 557, 84, 115, 116, 2, 117, 488, 489, 490, 491, 492, 493, 494, 495, 145, 146, 147, 496, 497, 498, 152, 153, 154, 43, 823, 824, 825, 826, 827, 828, 829, 830, 831, 846, 847] (by decide +kernel) (by decide +kernel)
set_option maxRecDepth 20000 in
theorem gL_law_X9_ring : GoodIn wsL_law (wsV RL 78 RX9 yX9_ring wsX9_ring) := goodIn_app (goodIn_of _ (by decide +kernel)) ggL_law_X9_ring
set_option maxRecDepth 20000 in
theorem ggL_law_X10_ring : GoodIn wsL_law wsX10_ring := goodIn_r _ [561, 95, 159, 160, 5, 161, 531, 532, 533, 534, 535, 536, 537, 538, 539, 540, 541, 182, 183, 184, 185, 108, 109, 110, 832, 833, 834, 835, 836, 837, 838, 839, 840, 841, 842, 843, 844, 845] (by decide +kernel) (by decide +kernel)
set_option maxRecDepth 20000 in
theorem gL_law_X10_ring : GoodIn wsL_law (wsV RL 81 RX10 yX10_ring wsX10_ring) := goodIn_app (goodIn_of _ (by decide +kernel)) ggL_law_X10_ring
set_option maxRecDepth 20000 in
theorem ggL_law_X9_ringAt : GoodIn wsL_law wsX9_ringAt := goodIn_r _ [565, 15, 566, 567, 490, 568, 569, 555, 556, 14, 557, 84, 570, 571, 572, 492, 493, 494, 495, 145, 146, 147, 496, 2, 497, 498, 152, 153, 154, 43, 823, 824, 825, 826, 827, 828, 829, 830, 831, 846, 847] (by decide +kernel) (by decide +kernel)
set_option maxRecDepth 20000 in
theorem gL_law_X9_ringAt : GoodIn wsL_law (wsV RL 82 RX9 yX9_ringAt wsX9_ringAt) := goodIn_app (goodIn_of _ (by decide +kernel)) ggL_law_X9_ringAt
set_option maxRecDepth 20000 in
theorem ggL_law_X10_ringAt : GoodIn wsL_law wsX10_ringAt := goodIn_r _ [576, 95, 538, 539, 540, 5, 541, 182, 183, 184, 185, 108, 109, 110, 832, 833, 834, 835, 836, 837, 838, 839, 840, 841, 842, 843, 844, 845] (by decide +kernel) (by decide +kernel)
set_option maxRecDepth 20000 in
theorem gL_law_X10_ringAt : GoodIn wsL_law (wsV RL 85 RX10 yX10_ringAt wsX10_ringAt) := goodIn_app (goodIn_of _ (by decide +kernel)) ggL_law_X10_ringAt
set_option maxRecDepth 20000 in
theorem ggL_law_X9_count : GoodIn wsL_law wsX9_count := goodIn_r _ [580, 15, 37, 25, 21, 322, 145, 146, 14, 147, 84, 581, 582, 142, 583, 144, 584, 482, 483, 151, 152, 153, 154, 43, 140, 141, 143, 148, 149, 150, 585, 586, 587, 588, 486, 487, 589, 590, 591, 592, 593, 490, 594, 569, 555, 556, 557, 570, 571, 572, 492, 493, 494, 495, 496, 2, 497, 498, 595, 596, 597, 598, 500, 501, 502, 503, 504, 505, 599, 489, 491, 499, 600, 601, 602, 36, 603, 604, 605, 606, 607, 608, 265, 266, 267, 207, 297, 298, 299, 24, 300, 296, 609, 610, 611, 20, 612, 125, 823, 824, 825, 826, 827, 828, 829, 830, 831, 846, 847, 850, 851, 848, 849] (by decide +kernel) (by decide +kernel)
set_option maxRecDepth 20000 in
theorem gL_law_X9_count : GoodIn wsL_law (wsV RL 86 RX9 yX9_count wsX9_count) := goodIn_app (goodIn_of _ (by decide +kernel)) ggL_law_X9_count
set_option maxRecDepth 20000 in
theorem ggL_law_X10_count : GoodIn wsL_law wsX10_count := goodIn_r _ [616, 95, 305, 169, 617, 618, 619, 5, 620, 523, 524, 525, 526, 182, 183, 184, 185, 108, 109, 110, 170, 171, 172, 173, 174, 175, 176, 177, 178, 179, 180, 181, 621, 622, 623, 624, 527, 528, 529, 530, 625, 626, 627, 628, 629, 630, 631, 632, 538, 539, 540, 541, 633, 634, 635, 636, 535, 536, 537, 531, 532, 533, 534, 637, 638, 639, 640, 280, 281, 282, 283, 832, 833, 834, 835, 836, 837, 838, 839, 840, 841, 842, 843, 844, 845] (by decide +kernel) (by decide +kernel)
set_option maxRecDepth 20000 in
theorem gL_law_X10_count : GoodIn wsL_law (wsV RL 89 RX10 yX10_count wsX10_count) := goodIn_app (goodIn_of _ (by decide +kernel)) ggL_law_X10_count
set_option maxRecDepth 20000 in
theorem ggL_law_X9_crooked : GoodIn wsL_law wsX9_crooked := goodIn_r _ [644, 15, 322, 145, 146, 14, 147, 84, 140, 141, 142, 143, 144, 148, 149, 150, 151, 152, 153, 154, 43, 823, 824, 825, 826, 827, 828, 829, 830, 831, 846, 847] (by decide +kernel) (by decide +kernel)
set_option maxRecDepth 20000 in
theorem gL_law_X9_crooked : GoodIn wsL_law (wsV RL 90 RX9 yX9_crooked wsX9_crooked) := goodIn_app (goodIn_of _ (by decide +kernel)) ggL_law_X9_crooked
set_option maxRecDepth 20000 in
theorem ggL_law_X10_crooked : GoodIn wsL_law wsX10_crooked := goodIn_r _ [648, 95, 170, 171, 172, 5, 173, 174, 175, 176, 177, 178, 179, 180, 181, 182, 183, 184, 185, 108, 109, 110, 832, 833, 834, 835, 836, 837, 838, 839, 840, 841, 842, 843, 844, 845] (by decide +kernel) (by decide +kernel)
set_option maxRecDepth 20000 in
theorem gL_law_X10_crooked : GoodIn wsL_law (wsV RL 94 RX10 yX10_crooked wsX10_crooked) := goodIn_app (goodIn_of _ (by decide +kernel)) ggL_law_X10_crooked
set_option maxRecDepth 20000 in
theorem ggL_law_X9_ways : GoodIn wsL_law wsX9_ways := goodIn_r _ [652, 15, 33, 25, 194, 195, 196, 14, 197, 84, 115, 116, 2, 117, 366, 367, 368, 32, 369, 370, 71, 371, 298, 299, 24, 300, 296, 372, 332, 333, 334, 335, 328, 329, 330, 56, 373, 89, 90, 653, 654, 655, 656, 657, 658, 659, 660, 72, 138, 139, 661, 662, 663, 664, 665, 666, 667, 668, 669, 670, 671, 672, 673, 674, 675, 676, 145, 146, 147, 677, 152, 153, 154, 43, 678, 679, 680, 681, 682, 683, 684, 685, 823, 824, 825, 826, 827, 828, 829, 830, 831, 846, 847, 861, 862, 863, 850, 851] (by decide +kernel) (by decide +kernel)
set_option maxRecDepth 20000 in
theorem gL_law_X9_ways : GoodIn wsL_law (wsV RL 95 RX9 yX9_ways wsX9_ways) := goodIn_app (goodIn_of _ (by decide +kernel)) ggL_law_X9_ways
set_option maxRecDepth 20000 in
theorem ggL_law_X10_ways : GoodIn wsL_law wsX10_ways := goodIn_r _ [689, 224, 225, 226, 5, 227, 95, 159, 160, 161, 400, 401, 402, 403, 305, 382, 383, 384, 385, 99, 690, 691, 692, 693, 103, 694, 695, 696, 697, 698, 699, 700, 182, 183, 184, 185, 108, 109, 110, 701, 702, 703, 704, 832, 833, 834, 835, 836, 837, 838, 839, 840, 841, 842, 843, 844, 845] (by decide +kernel) (by decide +kernel)
set_option maxRecDepth 20000 in
theorem gL_law_X10_ways : GoodIn wsL_law (wsV RL 98 RX10 yX10_ways wsX10_ways) := goodIn_app (goodIn_of _ (by decide +kernel)) ggL_law_X10_ways
set_option maxRecDepth 20000 in
theorem ggL_law_X9_sums : GoodIn wsL_law wsX9_sums := goodIn_r _ [708, 33, 25, 15, 115, 116, 2, 117, 366, 367, 368, 32, 369, 370, 71, 371, 298, 299, 24, 300, 296, 372, 332, 333, 334, 335, 328, 329, 330, 56, 373, 195, 196, 14, 197, 84, 89, 90, 709, 710, 711, 712, 657, 658, 659, 660, 72, 138, 139, 661, 662, 663, 664, 665, 666, 667, 668, 669, 670, 671, 672, 673, 674, 675, 676, 145, 146, 147, 677, 152, 153, 154, 43, 713, 714, 715, 716, 717, 718, 719, 720, 721, 722, 723, 724, 823, 824, 825, 826, 827, 828, 829, 830, 831, 861, 862, 863, 850, 851, 846, 847] (by decide +kernel) (by decide +kernel)
set_option maxRecDepth 20000 in
theorem gL_law_X9_sums : GoodIn wsL_law (wsV RL 99 RX9 yX9_sums wsX9_sums) := goodIn_app (goodIn_of _ (by decide +kernel)) ggL_law_X9_sums
set_option maxRecDepth 20000 in
theorem ggL_law_X10_sums : GoodIn wsL_law wsX10_sums := goodIn_r _ [728, 95, 159, 160, 5, 161, 400, 401, 402, 403, 305, 382, 383, 384, 385, 99, 224, 225, 226, 227, 690, 691, 692, 693, 103, 694, 695, 696, 697, 698, 699, 700, 182, 183, 184, 185, 108, 109, 110, 701, 702, 703, 704, 729, 730, 731, 732, 832, 833, 834, 835, 836, 837, 838, 839, 840, 841, 842, 843, 844, 845] (by decide +kernel) (by decide +kernel)
set_option maxRecDepth 20000 in
theorem gL_law_X10_sums : GoodIn wsL_law (wsV RL 102 RX10 yX10_sums wsX10_sums) := goodIn_app (goodIn_of _ (by decide +kernel)) ggL_law_X10_sums
set_option maxRecDepth 20000 in
theorem ggL_law_X9_cut : GoodIn wsL_law wsX9_cut := goodIn_r _ [736, 15, 33, 25, 194, 195, 196, 14, 197, 84, 366, 367, 368, 32, 369, 370, 71, 371, 298, 299, 24, 300, 296, 372, 332, 333, 334, 335, 328, 329, 330, 56, 373, 89, 2, 90, 737, 738, 739, 740, 657, 658, 659, 660, 72, 138, 139, 661, 662, 663, 664, 665, 666, 667, 668, 669, 670, 671, 672, 673, 674, 675, 676, 145, 146, 147, 677, 152, 153, 154, 43, 741, 742, 743, 744, 823, 824, 825, 826, 827, 828, 829, 830, 831, 846, 847, 861, 862, 863, 850, 851] (by decide +kernel) (by decide +kernel)
set_option maxRecDepth 20000 in
theorem gL_law_X9_cut : GoodIn wsL_law (wsV RL 103 RX9 yX9_cut wsX9_cut) := goodIn_app (goodIn_of _ (by decide +kernel)) ggL_law_X9_cut
set_option maxRecDepth 20000 in
theorem ggL_law_X10_cut : GoodIn wsL_law wsX10_cut := goodIn_r _ [748, 305, 95, 103, 224, 225, 226, 5, 227, 159, 160, 161, 400, 401, 402, 403, 382, 383, 384, 385, 99, 690, 691, 692, 693, 694, 695, 696, 697, 698, 699, 700, 182, 183, 184, 185, 108, 109, 110, 832, 833, 834, 835, 836, 837, 838, 839, 840, 841, 842, 843, 844, 845] (by decide +kernel) (by decide +kernel)
set_option maxRecDepth 20000 in
theorem gL_law_X10_cut : GoodIn wsL_law (wsV RL 106 RX10 yX10_cut wsX10_cut) := goodIn_app (goodIn_of _ (by decide +kernel)) ggL_law_X10_cut
set_option maxRecDepth 20000 in
theorem ggL_law_X9_ifSwapped : GoodIn wsL_law wsX9_ifSwapped := goodIn_r _ [752, 15, 17, 190, 191, 192, 2, 193, 194, 195, 196, 14, 197, 84, 115, 116, 117, 264, 265, 266, 267, 207, 152, 153, 154, 43, 198, 135, 136, 137, 138, 139, 89, 90, 268, 269, 270, 271, 203, 204, 205, 206, 85, 86, 87, 88, 581, 582, 142, 583, 144, 145, 146, 147, 584, 482, 483, 151, 140, 141, 143, 148, 149, 150, 592, 593, 490, 594, 569, 555, 556, 557, 570, 571, 572, 492, 493, 494, 495, 496, 497, 498, 823, 824, 825, 826, 827, 828, 829, 830, 831, 846, 847] (by decide +kernel) (by decide +kernel)
set_option maxRecDepth 20000 in
theorem gL_law_X9_ifSwapped : GoodIn wsL_law (wsV RL 107 RX9 yX9_ifSwapped wsX9_ifSwapped) := goodIn_app (goodIn_of _ (by decide +kernel)) ggL_law_X9_ifSwapped
set_option maxRecDepth 20000 in
theorem ggL_law_X10_ifSwapped : GoodIn wsL_law wsX10_ifSwapped := goodIn_r _ [756, 276, 277, 278, 5, 279, 220, 221, 222, 223, 224, 225, 226, 227, 95, 159, 160, 161, 280, 281, 282, 283, 182, 183, 184, 185, 108, 109, 110, 284, 285, 286, 287, 228, 229, 230, 231, 617, 618, 619, 620, 523, 524, 525, 526, 170, 171, 172, 173, 174, 175, 176, 177, 178, 179, 180, 181, 629, 630, 631, 632, 538, 539, 540, 541, 832, 833, 834, 835, 836, 837, 838, 839, 840, 841, 842, 843, 844, 845] (by decide +kernel) (by decide +kernel)
set_option maxRecDepth 20000 in
theorem gL_law_X10_ifSwapped : GoodIn wsL_law (wsV RL 111 RX10 yX10_ifSwapped wsX10_ifSwapped) := goodIn_app (goodIn_of _ (by decide +kernel)) ggL_law_X10_ifSwapped
set_option maxRecDepth 20000 in
theorem ggL_law_X9_best : GoodIn wsL_law wsX9_best := goodIn_r _ [760, 37, 15, 115, 116, 2, 117, 761, 762, 763, 36, 764, 765, 78, 604, 145, 146, 14, 147, 84, 766, 135, 136, 137, 43, 138, 139, 89, 90, 767, 768, 769, 770, 608, 265, 266, 267, 207, 152, 153, 154, 771, 772, 773, 774, 775, 776, 777, 778, 779, 269, 270, 271, 203, 204, 205, 206, 85, 86, 87, 88, 780, 141, 142, 143, 144, 148, 149, 150, 151, 781, 782, 783, 784, 823, 824, 825, 826, 827, 828, 829, 830, 831, 864, 865, 866, 867, 868, 869, 846, 847] (by decide +kernel) (by decide +kernel)
set_option maxRecDepth 20000 in
theorem gL_law_X9_best : GoodIn wsL_law (wsV RL 112 RX9 yX9_best wsX9_best) := goodIn_app (goodIn_of _ (by decide +kernel)) ggL_law_X9_best
set_option maxRecDepth 20000 in
theorem ggL_law_X10_best : GoodIn wsL_law wsX10_best := goodIn_r _ [788, 95, 159, 160, 5, 161, 280, 281, 282, 283, 182, 183, 184, 185, 108, 109, 110, 789, 790, 791, 792, 284, 285, 286, 287, 228, 229, 230, 231, 170, 171, 172, 173, 174, 175, 176, 177, 178, 179, 180, 181, 832, 833, 834, 835, 836, 837, 838, 839, 840, 841, 842, 843, 844, 845] (by decide +kernel) (by decide +kernel)
set_option maxRecDepth 20000 in
theorem gL_law_X10_best : GoodIn wsL_law (wsV RL 115 RX10 yX10_best wsX10_best) := goodIn_app (goodIn_of _ (by decide +kernel)) ggL_law_X10_best
set_option maxRecDepth 20000 in
theorem ggL_law_X9_undo : GoodIn wsL_law wsX9_undo := goodIn_r _ [796, 21, 15, 797, 798, 799, 20, 800, 125, 130, 131, 132, 133, 49, 134, 135, 136, 14, 137, 84, 43, 138, 2, 139, 89, 90, 609, 610, 611, 612, 823, 824, 825, 826, 827, 828, 829, 830, 831, 848, 849, 846, 847] (by decide +kernel) (by decide +kernel)
set_option maxRecDepth 20000 in
theorem gL_law_X9_undo : GoodIn wsL_law (wsV RL 116 RX9 yX9_undo wsX9_undo) := goodIn_app (goodIn_of _ (by decide +kernel)) ggL_law_X9_undo
set_option maxRecDepth 20000 in
theorem ggL_law_X10_undo : GoodIn wsL_law wsX10_undo := goodIn_r _ [804, 169, 95, 97, 832, 833, 834, 835, 836, 837, 838, 839, 840, 841, 842, 843, 844, 845] (by decide +kernel) (by decide +kernel)
set_option maxRecDepth 20000 in
theorem gL_law_X10_undo : GoodIn wsL_law (wsV RL 119 RX10 yX10_undo wsX10_undo) := goodIn_app (goodIn_of _ (by decide +kernel)) ggL_law_X10_undo
set_option maxRecDepth 20000 in
theorem ggL_law_X9_save : GoodIn wsL_law wsX9_save := goodIn_r _ [808, 16, 15, 809, 198, 135, 136, 14, 137, 84, 43, 138, 2, 139, 89, 90, 322, 145, 146, 147, 823, 824, 825, 826, 827, 828, 829, 830, 831, 846, 847] (by decide +kernel) (by decide +kernel)
set_option maxRecDepth 20000 in
theorem gL_law_X9_save : GoodIn wsL_law (wsV RL 120 RX9 yX9_save wsX9_save) := goodIn_app (goodIn_of _ (by decide +kernel)) ggL_law_X9_save
set_option maxRecDepth 20000 in
theorem ggL_law_X10_save : GoodIn wsL_law wsX10_save := goodIn_r _ [813, 98, 95, 814, 832, 833, 834, 835, 836, 837, 838, 839, 840, 841, 842, 843, 844, 845] (by decide +kernel) (by decide +kernel)
set_option maxRecDepth 20000 in
theorem gL_law_X10_save : GoodIn wsL_law (wsV RL 123 RX10 yX10_save wsX10_save) := goodIn_app (goodIn_of _ (by decide +kernel)) ggL_law_X10_save
set_option maxRecDepth 20000 in
theorem ggL_law_X9_restore : GoodIn wsL_law wsX9_restore := goodIn_r _ [818, 809, 21, 15, 16, 121, 122, 123, 20, 124, 125, 126, 127, 128, 129, 49, 130, 131, 132, 133, 134, 135, 136, 14, 137, 84, 43, 138, 2, 139, 89, 90, 198, 322, 145, 146, 147, 823, 824, 825, 826, 827, 828, 829, 830, 831, 848, 849, 846, 847] (by decide +kernel) (by decide +kernel)
set_option maxRecDepth 20000 in
theorem gL_law_X9_restore : GoodIn wsL_law (wsV RL 124 RX9 yX9_restore wsX9_restore) := goodIn_app (goodIn_of _ (by decide +kernel)) ggL_law_X9_restore
set_option maxRecDepth 20000 in
theorem ggL_law_X10_restore : GoodIn wsL_law wsX10_restore := goodIn_r _ [822, 814, 95, 98, 165, 166, 167, 5, 168, 169, 97, 96, 832, 833, 834, 835, 836, 837, 838, 839, 840, 841, 842, 843, 844, 845] (by decide +kernel) (by decide +kernel)
set_option maxRecDepth 20000 in
theorem gL_law_X10_restore : GoodIn wsL_law (wsV RL 127 RX10 yX10_restore wsX10_restore) := goodIn_app (goodIn_of _ (by decide +kernel)) ggL_law_X10_restore
theorem dL_law_0 : decode cL_law 0 = .ok (.new 7, 3) := by decide +kernel
theorem dL_law_3 : decode cL_law 3 = .ok (.dup, 1) := by decide +kernel
theorem dL_law_4 : decode cL_law 4 = .ok (.invokespecial 9, 3) := by decide +kernel
theorem dL_law_7 : decode cL_law 7 = .ok (.astore_n 1, 1) := by decide +kernel
theorem dL_law_8 : decode cL_law 8 = .ok (.new 10, 3) := by decide +kernel
theorem dL_law_11 : decode cL_law 11 = .ok (.dup, 1) := by decide +kernel
theorem dL_law_12 : decode cL_law 12 = .ok (.invokespecial 12, 3) := by decide +kernel
theorem dL_law_15 : decode cL_law 15 = .ok (.astore_n 2, 1) := by decide +kernel
theorem dL_law_16 : decode cL_law 16 = .ok (.iconst 0, 1) := by decide +kernel
theorem dL_law_17 : decode cL_law 17 = .ok (.istore_n 3, 1) := by decide +kernel
theorem dL_law_18 : decode cL_law 18 = .ok (.iload_n 3, 1) := by decide +kernel
theorem dL_law_19 : decode cL_law 19 = .ok (.aload_n 0, 1) := by decide +kernel
theorem dL_law_20 : decode cL_law 20 = .ok (.arraylength, 1) := by decide +kernel
theorem dL_law_21 : decode cL_law 21 = .ok (.bipush 6, 2) := by decide +kernel
theorem dL_law_23 : decode cL_law 23 = .ok (.isub, 1) := by decide +kernel
theorem dL_law_24 : decode cL_law 24 = .ok (.if_icmp .gt 939, 3) := by decide +kernel
theorem dL_law_27 : decode cL_law 27 = .ok (.aload_n 0, 1) := by decide +kernel
theorem dL_law_28 : decode cL_law 28 = .ok (.iload_n 3, 1) := by decide +kernel
theorem dL_law_29 : decode cL_law 29 = .ok (.iaload, 1) := by decide +kernel
theorem dL_law_30 : decode cL_law 30 = .ok (.bipush 31, 2) := by decide +kernel
theorem dL_law_32 : decode cL_law 32 = .ok (.iand, 1) := by decide +kernel
theorem dL_law_33 : decode cL_law 33 = .ok (.tableswitch 924 0 26 #[123, 156, 189, 222, 255, 308, 331, 344, 367, 380, 393, 426, 459, 518, 577, 610, 633, 656, 679, 720, 753, 776, 799, 862, 885, 898, 911], 123) := by decide +kernel
theorem dL_law_156 : decode cL_law 156 = .ok (.aload_n 1, 1) := by decide +kernel
theorem dL_law_157 : decode cL_law 157 = .ok (.aload_n 0, 1) := by decide +kernel
theorem dL_law_158 : decode cL_law 158 = .ok (.iload_n 3, 1) := by decide +kernel
theorem dL_law_159 : decode cL_law 159 = .ok (.iconst 1, 1) := by decide +kernel
theorem dL_law_160 : decode cL_law 160 = .ok (.iadd, 1) := by decide +kernel
theorem dL_law_161 : decode cL_law 161 = .ok (.iaload, 1) := by decide +kernel
theorem dL_law_162 : decode cL_law 162 = .ok (.aload_n 0, 1) := by decide +kernel
theorem dL_law_163 : decode cL_law 163 = .ok (.iload_n 3, 1) := by decide +kernel
theorem dL_law_164 : decode cL_law 164 = .ok (.iconst 2, 1) := by decide +kernel
theorem dL_law_165 : decode cL_law 165 = .ok (.iadd, 1) := by decide +kernel
theorem dL_law_166 : decode cL_law 166 = .ok (.iaload, 1) := by decide +kernel
theorem dL_law_167 : decode cL_law 167 = .ok (.invokevirtual 13, 3) := by decide +kernel
theorem dL_law_170 : decode cL_law 170 = .ok (.aload_n 2, 1) := by decide +kernel
theorem dL_law_171 : decode cL_law 171 = .ok (.aload_n 0, 1) := by decide +kernel
theorem dL_law_172 : decode cL_law 172 = .ok (.iload_n 3, 1) := by decide +kernel
theorem dL_law_173 : decode cL_law 173 = .ok (.iconst 1, 1) := by decide +kernel
theorem dL_law_174 : decode cL_law 174 = .ok (.iadd, 1) := by decide +kernel
theorem dL_law_175 : decode cL_law 175 = .ok (.iaload, 1) := by decide +kernel
theorem dL_law_176 : decode cL_law 176 = .ok (.aload_n 0, 1) := by decide +kernel
theorem dL_law_177 : decode cL_law 177 = .ok (.iload_n 3, 1) := by decide +kernel
theorem dL_law_178 : decode cL_law 178 = .ok (.iconst 2, 1) := by decide +kernel
theorem dL_law_179 : decode cL_law 179 = .ok (.iadd, 1) := by decide +kernel
theorem dL_law_180 : decode cL_law 180 = .ok (.iaload, 1) := by decide +kernel
theorem dL_law_181 : decode cL_law 181 = .ok (.invokevirtual 17, 3) := by decide +kernel
theorem dL_law_184 : decode cL_law 184 = .ok (.if_icmp .eq 773, 3) := by decide +kernel
theorem dL_law_187 : decode cL_law 187 = .ok (.iconst 0, 1) := by decide +kernel
theorem dL_law_188 : decode cL_law 188 = .ok (.ireturn, 1) := by decide +kernel
theorem dL_law_189 : decode cL_law 189 = .ok (.aload_n 1, 1) := by decide +kernel
theorem dL_law_190 : decode cL_law 190 = .ok (.aload_n 0, 1) := by decide +kernel
theorem dL_law_191 : decode cL_law 191 = .ok (.iload_n 3, 1) := by decide +kernel
theorem dL_law_192 : decode cL_law 192 = .ok (.iconst 1, 1) := by decide +kernel
theorem dL_law_193 : decode cL_law 193 = .ok (.iadd, 1) := by decide +kernel
theorem dL_law_194 : decode cL_law 194 = .ok (.iaload, 1) := by decide +kernel
theorem dL_law_195 : decode cL_law 195 = .ok (.aload_n 0, 1) := by decide +kernel
theorem dL_law_196 : decode cL_law 196 = .ok (.iload_n 3, 1) := by decide +kernel
theorem dL_law_197 : decode cL_law 197 = .ok (.iconst 2, 1) := by decide +kernel
theorem dL_law_198 : decode cL_law 198 = .ok (.iadd, 1) := by decide +kernel
theorem dL_law_199 : decode cL_law 199 = .ok (.iaload, 1) := by decide +kernel
theorem dL_law_200 : decode cL_law 200 = .ok (.invokevirtual 18, 3) := by decide +kernel
theorem dL_law_203 : decode cL_law 203 = .ok (.aload_n 2, 1) := by decide +kernel
theorem dL_law_204 : decode cL_law 204 = .ok (.aload_n 0, 1) := by decide +kernel
theorem dL_law_205 : decode cL_law 205 = .ok (.iload_n 3, 1) := by decide +kernel
theorem dL_law_206 : decode cL_law 206 = .ok (.iconst 1, 1) := by decide +kernel
theorem dL_law_207 : decode cL_law 207 = .ok (.iadd, 1) := by decide +kernel
theorem dL_law_208 : decode cL_law 208 = .ok (.iaload, 1) := by decide +kernel
theorem dL_law_209 : decode cL_law 209 = .ok (.aload_n 0, 1) := by decide +kernel
theorem dL_law_210 : decode cL_law 210 = .ok (.iload_n 3, 1) := by decide +kernel
theorem dL_law_211 : decode cL_law 211 = .ok (.iconst 2, 1) := by decide +kernel
theorem dL_law_212 : decode cL_law 212 = .ok (.iadd, 1) := by decide +kernel
theorem dL_law_213 : decode cL_law 213 = .ok (.iaload, 1) := by decide +kernel
theorem dL_law_214 : decode cL_law 214 = .ok (.invokevirtual 21, 3) := by decide +kernel
theorem dL_law_217 : decode cL_law 217 = .ok (.if_icmp .eq 740, 3) := by decide +kernel
theorem dL_law_220 : decode cL_law 220 = .ok (.iconst 0, 1) := by decide +kernel
theorem dL_law_221 : decode cL_law 221 = .ok (.ireturn, 1) := by decide +kernel
theorem dL_law_222 : decode cL_law 222 = .ok (.aload_n 1, 1) := by decide +kernel
theorem dL_law_223 : decode cL_law 223 = .ok (.aload_n 0, 1) := by decide +kernel
theorem dL_law_224 : decode cL_law 224 = .ok (.iload_n 3, 1) := by decide +kernel
theorem dL_law_225 : decode cL_law 225 = .ok (.iconst 1, 1) := by decide +kernel
theorem dL_law_226 : decode cL_law 226 = .ok (.iadd, 1) := by decide +kernel
theorem dL_law_227 : decode cL_law 227 = .ok (.iaload, 1) := by decide +kernel
theorem dL_law_228 : decode cL_law 228 = .ok (.aload_n 0, 1) := by decide +kernel
theorem dL_law_229 : decode cL_law 229 = .ok (.iload_n 3, 1) := by decide +kernel
theorem dL_law_230 : decode cL_law 230 = .ok (.iconst 2, 1) := by decide +kernel
theorem dL_law_231 : decode cL_law 231 = .ok (.iadd, 1) := by decide +kernel
theorem dL_law_232 : decode cL_law 232 = .ok (.iaload, 1) := by decide +kernel
theorem dL_law_233 : decode cL_law 233 = .ok (.invokevirtual 22, 3) := by decide +kernel
theorem dL_law_236 : decode cL_law 236 = .ok (.aload_n 2, 1) := by decide +kernel
theorem dL_law_237 : decode cL_law 237 = .ok (.aload_n 0, 1) := by decide +kernel
theorem dL_law_238 : decode cL_law 238 = .ok (.iload_n 3, 1) := by decide +kernel
theorem dL_law_239 : decode cL_law 239 = .ok (.iconst 1, 1) := by decide +kernel
theorem dL_law_240 : decode cL_law 240 = .ok (.iadd, 1) := by decide +kernel
theorem dL_law_241 : decode cL_law 241 = .ok (.iaload, 1) := by decide +kernel
theorem dL_law_242 : decode cL_law 242 = .ok (.aload_n 0, 1) := by decide +kernel
theorem dL_law_243 : decode cL_law 243 = .ok (.iload_n 3, 1) := by decide +kernel
theorem dL_law_244 : decode cL_law 244 = .ok (.iconst 2, 1) := by decide +kernel
theorem dL_law_245 : decode cL_law 245 = .ok (.iadd, 1) := by decide +kernel
theorem dL_law_246 : decode cL_law 246 = .ok (.iaload, 1) := by decide +kernel
theorem dL_law_247 : decode cL_law 247 = .ok (.invokevirtual 25, 3) := by decide +kernel
theorem dL_law_250 : decode cL_law 250 = .ok (.if_icmp .eq 707, 3) := by decide +kernel
theorem dL_law_253 : decode cL_law 253 = .ok (.iconst 0, 1) := by decide +kernel
theorem dL_law_254 : decode cL_law 254 = .ok (.ireturn, 1) := by decide +kernel
theorem dL_law_255 : decode cL_law 255 = .ok (.aload_n 1, 1) := by decide +kernel
theorem dL_law_256 : decode cL_law 256 = .ok (.aload_n 0, 1) := by decide +kernel
theorem dL_law_257 : decode cL_law 257 = .ok (.iload_n 3, 1) := by decide +kernel
theorem dL_law_258 : decode cL_law 258 = .ok (.iconst 1, 1) := by decide +kernel
theorem dL_law_259 : decode cL_law 259 = .ok (.iadd, 1) := by decide +kernel
theorem dL_law_260 : decode cL_law 260 = .ok (.iaload, 1) := by decide +kernel
theorem dL_law_261 : decode cL_law 261 = .ok (.aload_n 0, 1) := by decide +kernel
theorem dL_law_262 : decode cL_law 262 = .ok (.iload_n 3, 1) := by decide +kernel
theorem dL_law_263 : decode cL_law 263 = .ok (.iconst 2, 1) := by decide +kernel
theorem dL_law_264 : decode cL_law 264 = .ok (.iadd, 1) := by decide +kernel
theorem dL_law_265 : decode cL_law 265 = .ok (.iaload, 1) := by decide +kernel
theorem dL_law_266 : decode cL_law 266 = .ok (.invokevirtual 26, 3) := by decide +kernel
theorem dL_law_269 : decode cL_law 269 = .ok (.aload_n 2, 1) := by decide +kernel
theorem dL_law_270 : decode cL_law 270 = .ok (.aload_n 0, 1) := by decide +kernel
theorem dL_law_271 : decode cL_law 271 = .ok (.iload_n 3, 1) := by decide +kernel
theorem dL_law_272 : decode cL_law 272 = .ok (.iconst 1, 1) := by decide +kernel
theorem dL_law_273 : decode cL_law 273 = .ok (.iadd, 1) := by decide +kernel
theorem dL_law_274 : decode cL_law 274 = .ok (.iaload, 1) := by decide +kernel
theorem dL_law_275 : decode cL_law 275 = .ok (.aload_n 0, 1) := by decide +kernel
theorem dL_law_276 : decode cL_law 276 = .ok (.iload_n 3, 1) := by decide +kernel
theorem dL_law_277 : decode cL_law 277 = .ok (.iconst 2, 1) := by decide +kernel
theorem dL_law_278 : decode cL_law 278 = .ok (.iadd, 1) := by decide +kernel
theorem dL_law_279 : decode cL_law 279 = .ok (.iaload, 1) := by decide +kernel
theorem dL_law_280 : decode cL_law 280 = .ok (.invokevirtual 29, 3) := by decide +kernel
theorem dL_law_283 : decode cL_law 283 = .ok (.if_icmp .eq 674, 3) := by decide +kernel
theorem dL_law_286 : decode cL_law 286 = .ok (.iconst 0, 1) := by decide +kernel
theorem dL_law_287 : decode cL_law 287 = .ok (.ireturn, 1) := by decide +kernel
theorem dL_law_288 : decode cL_law 288 = .ok (.aload_n 1, 1) := by decide +kernel
theorem dL_law_289 : decode cL_law 289 = .ok (.aload_n 0, 1) := by decide +kernel
theorem dL_law_290 : decode cL_law 290 = .ok (.iload_n 3, 1) := by decide +kernel
theorem dL_law_291 : decode cL_law 291 = .ok (.iconst 1, 1) := by decide +kernel
theorem dL_law_292 : decode cL_law 292 = .ok (.iadd, 1) := by decide +kernel
theorem dL_law_293 : decode cL_law 293 = .ok (.iaload, 1) := by decide +kernel
theorem dL_law_294 : decode cL_law 294 = .ok (.aload_n 0, 1) := by decide +kernel
theorem dL_law_295 : decode cL_law 295 = .ok (.iload_n 3, 1) := by decide +kernel
theorem dL_law_296 : decode cL_law 296 = .ok (.iconst 2, 1) := by decide +kernel
theorem dL_law_297 : decode cL_law 297 = .ok (.iadd, 1) := by decide +kernel
theorem dL_law_298 : decode cL_law 298 = .ok (.iaload, 1) := by decide +kernel
theorem dL_law_299 : decode cL_law 299 = .ok (.aload_n 0, 1) := by decide +kernel
theorem dL_law_300 : decode cL_law 300 = .ok (.iload_n 3, 1) := by decide +kernel
theorem dL_law_301 : decode cL_law 301 = .ok (.iconst 3, 1) := by decide +kernel
theorem dL_law_302 : decode cL_law 302 = .ok (.iadd, 1) := by decide +kernel
theorem dL_law_303 : decode cL_law 303 = .ok (.iaload, 1) := by decide +kernel
theorem dL_law_304 : decode cL_law 304 = .ok (.aload_n 0, 1) := by decide +kernel
theorem dL_law_305 : decode cL_law 305 = .ok (.iload_n 3, 1) := by decide +kernel
theorem dL_law_306 : decode cL_law 306 = .ok (.iconst 4, 1) := by decide +kernel
theorem dL_law_307 : decode cL_law 307 = .ok (.iadd, 1) := by decide +kernel
theorem dL_law_308 : decode cL_law 308 = .ok (.iaload, 1) := by decide +kernel
theorem dL_law_309 : decode cL_law 309 = .ok (.invokevirtual 30, 3) := by decide +kernel
theorem dL_law_312 : decode cL_law 312 = .ok (.aload_n 2, 1) := by decide +kernel
theorem dL_law_313 : decode cL_law 313 = .ok (.aload_n 0, 1) := by decide +kernel
theorem dL_law_314 : decode cL_law 314 = .ok (.iload_n 3, 1) := by decide +kernel
theorem dL_law_315 : decode cL_law 315 = .ok (.iconst 1, 1) := by decide +kernel
theorem dL_law_316 : decode cL_law 316 = .ok (.iadd, 1) := by decide +kernel
theorem dL_law_317 : decode cL_law 317 = .ok (.iaload, 1) := by decide +kernel
theorem dL_law_318 : decode cL_law 318 = .ok (.aload_n 0, 1) := by decide +kernel
theorem dL_law_319 : decode cL_law 319 = .ok (.iload_n 3, 1) := by decide +kernel
theorem dL_law_320 : decode cL_law 320 = .ok (.iconst 2, 1) := by decide +kernel
theorem dL_law_321 : decode cL_law 321 = .ok (.iadd, 1) := by decide +kernel
theorem dL_law_322 : decode cL_law 322 = .ok (.iaload, 1) := by decide +kernel
theorem dL_law_323 : decode cL_law 323 = .ok (.aload_n 0, 1) := by decide +kernel
theorem dL_law_324 : decode cL_law 324 = .ok (.iload_n 3, 1) := by decide +kernel
theorem dL_law_325 : decode cL_law 325 = .ok (.iconst 3, 1) := by decide +kernel
theorem dL_law_326 : decode cL_law 326 = .ok (.iadd, 1) := by decide +kernel
theorem dL_law_327 : decode cL_law 327 = .ok (.iaload, 1) := by decide +kernel
theorem dL_law_328 : decode cL_law 328 = .ok (.aload_n 0, 1) := by decide +kernel
theorem dL_law_329 : decode cL_law 329 = .ok (.iload_n 3, 1) := by decide +kernel
theorem dL_law_330 : decode cL_law 330 = .ok (.iconst 4, 1) := by decide +kernel
theorem dL_law_331 : decode cL_law 331 = .ok (.iadd, 1) := by decide +kernel
theorem dL_law_332 : decode cL_law 332 = .ok (.iaload, 1) := by decide +kernel
theorem dL_law_333 : decode cL_law 333 = .ok (.invokevirtual 34, 3) := by decide +kernel
theorem dL_law_336 : decode cL_law 336 = .ok (.if_icmp .eq 621, 3) := by decide +kernel
theorem dL_law_339 : decode cL_law 339 = .ok (.iconst 0, 1) := by decide +kernel
theorem dL_law_340 : decode cL_law 340 = .ok (.ireturn, 1) := by decide +kernel
theorem dL_law_341 : decode cL_law 341 = .ok (.aload_n 1, 1) := by decide +kernel
theorem dL_law_342 : decode cL_law 342 = .ok (.aload_n 0, 1) := by decide +kernel
theorem dL_law_343 : decode cL_law 343 = .ok (.iload_n 3, 1) := by decide +kernel
theorem dL_law_344 : decode cL_law 344 = .ok (.iconst 1, 1) := by decide +kernel
theorem dL_law_345 : decode cL_law 345 = .ok (.iadd, 1) := by decide +kernel
theorem dL_law_346 : decode cL_law 346 = .ok (.iaload, 1) := by decide +kernel
theorem dL_law_347 : decode cL_law 347 = .ok (.invokevirtual 35, 3) := by decide +kernel
theorem dL_law_350 : decode cL_law 350 = .ok (.aload_n 2, 1) := by decide +kernel
theorem dL_law_351 : decode cL_law 351 = .ok (.aload_n 0, 1) := by decide +kernel
theorem dL_law_352 : decode cL_law 352 = .ok (.iload_n 3, 1) := by decide +kernel
theorem dL_law_353 : decode cL_law 353 = .ok (.iconst 1, 1) := by decide +kernel
theorem dL_law_354 : decode cL_law 354 = .ok (.iadd, 1) := by decide +kernel
theorem dL_law_355 : decode cL_law 355 = .ok (.iaload, 1) := by decide +kernel
theorem dL_law_356 : decode cL_law 356 = .ok (.invokevirtual 39, 3) := by decide +kernel
theorem dL_law_359 : decode cL_law 359 = .ok (.if_icmp .eq 598, 3) := by decide +kernel
theorem dL_law_362 : decode cL_law 362 = .ok (.iconst 0, 1) := by decide +kernel
theorem dL_law_363 : decode cL_law 363 = .ok (.ireturn, 1) := by decide +kernel
theorem dL_law_364 : decode cL_law 364 = .ok (.aload_n 1, 1) := by decide +kernel
theorem dL_law_365 : decode cL_law 365 = .ok (.invokevirtual 40, 3) := by decide +kernel
theorem dL_law_368 : decode cL_law 368 = .ok (.aload_n 2, 1) := by decide +kernel
theorem dL_law_369 : decode cL_law 369 = .ok (.invokevirtual 44, 3) := by decide +kernel
theorem dL_law_372 : decode cL_law 372 = .ok (.if_icmp .eq 585, 3) := by decide +kernel
theorem dL_law_375 : decode cL_law 375 = .ok (.iconst 0, 1) := by decide +kernel
theorem dL_law_376 : decode cL_law 376 = .ok (.ireturn, 1) := by decide +kernel
theorem dL_law_377 : decode cL_law 377 = .ok (.aload_n 1, 1) := by decide +kernel
theorem dL_law_378 : decode cL_law 378 = .ok (.aload_n 0, 1) := by decide +kernel
theorem dL_law_379 : decode cL_law 379 = .ok (.iload_n 3, 1) := by decide +kernel
theorem dL_law_380 : decode cL_law 380 = .ok (.iconst 1, 1) := by decide +kernel
theorem dL_law_381 : decode cL_law 381 = .ok (.iadd, 1) := by decide +kernel
theorem dL_law_382 : decode cL_law 382 = .ok (.iaload, 1) := by decide +kernel
theorem dL_law_383 : decode cL_law 383 = .ok (.invokevirtual 45, 3) := by decide +kernel
theorem dL_law_386 : decode cL_law 386 = .ok (.aload_n 2, 1) := by decide +kernel
theorem dL_law_387 : decode cL_law 387 = .ok (.aload_n 0, 1) := by decide +kernel
theorem dL_law_388 : decode cL_law 388 = .ok (.iload_n 3, 1) := by decide +kernel
theorem dL_law_389 : decode cL_law 389 = .ok (.iconst 1, 1) := by decide +kernel
theorem dL_law_390 : decode cL_law 390 = .ok (.iadd, 1) := by decide +kernel
theorem dL_law_391 : decode cL_law 391 = .ok (.iaload, 1) := by decide +kernel
theorem dL_law_392 : decode cL_law 392 = .ok (.invokevirtual 48, 3) := by decide +kernel
theorem dL_law_395 : decode cL_law 395 = .ok (.if_icmp .eq 562, 3) := by decide +kernel
theorem dL_law_398 : decode cL_law 398 = .ok (.iconst 0, 1) := by decide +kernel
theorem dL_law_399 : decode cL_law 399 = .ok (.ireturn, 1) := by decide +kernel
theorem dL_law_400 : decode cL_law 400 = .ok (.aload_n 1, 1) := by decide +kernel
theorem dL_law_401 : decode cL_law 401 = .ok (.invokevirtual 49, 3) := by decide +kernel
theorem dL_law_404 : decode cL_law 404 = .ok (.aload_n 2, 1) := by decide +kernel
theorem dL_law_405 : decode cL_law 405 = .ok (.invokevirtual 52, 3) := by decide +kernel
theorem dL_law_408 : decode cL_law 408 = .ok (.if_icmp .eq 549, 3) := by decide +kernel
theorem dL_law_411 : decode cL_law 411 = .ok (.iconst 0, 1) := by decide +kernel
theorem dL_law_412 : decode cL_law 412 = .ok (.ireturn, 1) := by decide +kernel
theorem dL_law_413 : decode cL_law 413 = .ok (.aload_n 1, 1) := by decide +kernel
theorem dL_law_414 : decode cL_law 414 = .ok (.invokevirtual 53, 3) := by decide +kernel
theorem dL_law_417 : decode cL_law 417 = .ok (.aload_n 2, 1) := by decide +kernel
theorem dL_law_418 : decode cL_law 418 = .ok (.invokevirtual 56, 3) := by decide +kernel
theorem dL_law_421 : decode cL_law 421 = .ok (.if_icmp .eq 536, 3) := by decide +kernel
theorem dL_law_424 : decode cL_law 424 = .ok (.iconst 0, 1) := by decide +kernel
theorem dL_law_425 : decode cL_law 425 = .ok (.ireturn, 1) := by decide +kernel
theorem dL_law_426 : decode cL_law 426 = .ok (.aload_n 1, 1) := by decide +kernel
theorem dL_law_427 : decode cL_law 427 = .ok (.aload_n 0, 1) := by decide +kernel
theorem dL_law_428 : decode cL_law 428 = .ok (.iload_n 3, 1) := by decide +kernel
theorem dL_law_429 : decode cL_law 429 = .ok (.iconst 1, 1) := by decide +kernel
theorem dL_law_430 : decode cL_law 430 = .ok (.iadd, 1) := by decide +kernel
theorem dL_law_431 : decode cL_law 431 = .ok (.iaload, 1) := by decide +kernel
theorem dL_law_432 : decode cL_law 432 = .ok (.aload_n 0, 1) := by decide +kernel
theorem dL_law_433 : decode cL_law 433 = .ok (.iload_n 3, 1) := by decide +kernel
theorem dL_law_434 : decode cL_law 434 = .ok (.iconst 2, 1) := by decide +kernel
theorem dL_law_435 : decode cL_law 435 = .ok (.iadd, 1) := by decide +kernel
theorem dL_law_436 : decode cL_law 436 = .ok (.iaload, 1) := by decide +kernel
theorem dL_law_437 : decode cL_law 437 = .ok (.invokevirtual 57, 3) := by decide +kernel
theorem dL_law_440 : decode cL_law 440 = .ok (.aload_n 2, 1) := by decide +kernel
theorem dL_law_441 : decode cL_law 441 = .ok (.aload_n 0, 1) := by decide +kernel
theorem dL_law_442 : decode cL_law 442 = .ok (.iload_n 3, 1) := by decide +kernel
theorem dL_law_443 : decode cL_law 443 = .ok (.iconst 1, 1) := by decide +kernel
theorem dL_law_444 : decode cL_law 444 = .ok (.iadd, 1) := by decide +kernel
theorem dL_law_445 : decode cL_law 445 = .ok (.iaload, 1) := by decide +kernel
theorem dL_law_446 : decode cL_law 446 = .ok (.aload_n 0, 1) := by decide +kernel
theorem dL_law_447 : decode cL_law 447 = .ok (.iload_n 3, 1) := by decide +kernel
theorem dL_law_448 : decode cL_law 448 = .ok (.iconst 2, 1) := by decide +kernel
theorem dL_law_449 : decode cL_law 449 = .ok (.iadd, 1) := by decide +kernel
theorem dL_law_450 : decode cL_law 450 = .ok (.iaload, 1) := by decide +kernel
theorem dL_law_451 : decode cL_law 451 = .ok (.invokevirtual 60, 3) := by decide +kernel
theorem dL_law_454 : decode cL_law 454 = .ok (.if_icmp .eq 503, 3) := by decide +kernel
theorem dL_law_457 : decode cL_law 457 = .ok (.iconst 0, 1) := by decide +kernel
theorem dL_law_458 : decode cL_law 458 = .ok (.ireturn, 1) := by decide +kernel
theorem dL_law_459 : decode cL_law 459 = .ok (.aload_n 1, 1) := by decide +kernel
theorem dL_law_460 : decode cL_law 460 = .ok (.aload_n 0, 1) := by decide +kernel
theorem dL_law_461 : decode cL_law 461 = .ok (.iload_n 3, 1) := by decide +kernel
theorem dL_law_462 : decode cL_law 462 = .ok (.iconst 1, 1) := by decide +kernel
theorem dL_law_463 : decode cL_law 463 = .ok (.iadd, 1) := by decide +kernel
theorem dL_law_464 : decode cL_law 464 = .ok (.iaload, 1) := by decide +kernel
theorem dL_law_465 : decode cL_law 465 = .ok (.aload_n 0, 1) := by decide +kernel
theorem dL_law_466 : decode cL_law 466 = .ok (.iload_n 3, 1) := by decide +kernel
theorem dL_law_467 : decode cL_law 467 = .ok (.iconst 2, 1) := by decide +kernel
theorem dL_law_468 : decode cL_law 468 = .ok (.iadd, 1) := by decide +kernel
theorem dL_law_469 : decode cL_law 469 = .ok (.iaload, 1) := by decide +kernel
theorem dL_law_470 : decode cL_law 470 = .ok (.invokevirtual 61, 3) := by decide +kernel
theorem dL_law_473 : decode cL_law 473 = .ok (.aload_n 2, 1) := by decide +kernel
theorem dL_law_474 : decode cL_law 474 = .ok (.aload_n 0, 1) := by decide +kernel
theorem dL_law_475 : decode cL_law 475 = .ok (.iload_n 3, 1) := by decide +kernel
theorem dL_law_476 : decode cL_law 476 = .ok (.iconst 1, 1) := by decide +kernel
theorem dL_law_477 : decode cL_law 477 = .ok (.iadd, 1) := by decide +kernel
theorem dL_law_478 : decode cL_law 478 = .ok (.iaload, 1) := by decide +kernel
theorem dL_law_479 : decode cL_law 479 = .ok (.aload_n 0, 1) := by decide +kernel
theorem dL_law_480 : decode cL_law 480 = .ok (.iload_n 3, 1) := by decide +kernel
theorem dL_law_481 : decode cL_law 481 = .ok (.iconst 2, 1) := by decide +kernel
theorem dL_law_482 : decode cL_law 482 = .ok (.iadd, 1) := by decide +kernel
theorem dL_law_483 : decode cL_law 483 = .ok (.iaload, 1) := by decide +kernel
theorem dL_law_484 : decode cL_law 484 = .ok (.invokevirtual 64, 3) := by decide +kernel
theorem dL_law_487 : decode cL_law 487 = .ok (.if_icmp .eq 470, 3) := by decide +kernel
theorem dL_law_490 : decode cL_law 490 = .ok (.iconst 0, 1) := by decide +kernel
theorem dL_law_491 : decode cL_law 491 = .ok (.ireturn, 1) := by decide +kernel
theorem dL_law_492 : decode cL_law 492 = .ok (.aload_n 1, 1) := by decide +kernel
theorem dL_law_493 : decode cL_law 493 = .ok (.aload_n 0, 1) := by decide +kernel
theorem dL_law_494 : decode cL_law 494 = .ok (.iload_n 3, 1) := by decide +kernel
theorem dL_law_495 : decode cL_law 495 = .ok (.iconst 1, 1) := by decide +kernel
theorem dL_law_496 : decode cL_law 496 = .ok (.iadd, 1) := by decide +kernel
theorem dL_law_497 : decode cL_law 497 = .ok (.iaload, 1) := by decide +kernel
theorem dL_law_498 : decode cL_law 498 = .ok (.aload_n 0, 1) := by decide +kernel
theorem dL_law_499 : decode cL_law 499 = .ok (.iload_n 3, 1) := by decide +kernel
theorem dL_law_500 : decode cL_law 500 = .ok (.iconst 2, 1) := by decide +kernel
theorem dL_law_501 : decode cL_law 501 = .ok (.iadd, 1) := by decide +kernel
theorem dL_law_502 : decode cL_law 502 = .ok (.iaload, 1) := by decide +kernel
theorem dL_law_503 : decode cL_law 503 = .ok (.aload_n 0, 1) := by decide +kernel
theorem dL_law_504 : decode cL_law 504 = .ok (.iload_n 3, 1) := by decide +kernel
theorem dL_law_505 : decode cL_law 505 = .ok (.iconst 3, 1) := by decide +kernel
theorem dL_law_506 : decode cL_law 506 = .ok (.iadd, 1) := by decide +kernel
theorem dL_law_507 : decode cL_law 507 = .ok (.iaload, 1) := by decide +kernel
theorem dL_law_508 : decode cL_law 508 = .ok (.ifCond .eq 7, 3) := by decide +kernel
theorem dL_law_511 : decode cL_law 511 = .ok (.iconst 1, 1) := by decide +kernel
theorem dL_law_512 : decode cL_law 512 = .ok (.goto 4, 3) := by decide +kernel
theorem dL_law_515 : decode cL_law 515 = .ok (.iconst 0, 1) := by decide +kernel
theorem dL_law_516 : decode cL_law 516 = .ok (.invokevirtual 65, 3) := by decide +kernel
theorem dL_law_519 : decode cL_law 519 = .ok (.aload_n 2, 1) := by decide +kernel
theorem dL_law_520 : decode cL_law 520 = .ok (.aload_n 0, 1) := by decide +kernel
theorem dL_law_521 : decode cL_law 521 = .ok (.iload_n 3, 1) := by decide +kernel
theorem dL_law_522 : decode cL_law 522 = .ok (.iconst 1, 1) := by decide +kernel
theorem dL_law_523 : decode cL_law 523 = .ok (.iadd, 1) := by decide +kernel
theorem dL_law_524 : decode cL_law 524 = .ok (.iaload, 1) := by decide +kernel
theorem dL_law_525 : decode cL_law 525 = .ok (.aload_n 0, 1) := by decide +kernel
theorem dL_law_526 : decode cL_law 526 = .ok (.iload_n 3, 1) := by decide +kernel
theorem dL_law_527 : decode cL_law 527 = .ok (.iconst 2, 1) := by decide +kernel
theorem dL_law_528 : decode cL_law 528 = .ok (.iadd, 1) := by decide +kernel
theorem dL_law_529 : decode cL_law 529 = .ok (.iaload, 1) := by decide +kernel
theorem dL_law_530 : decode cL_law 530 = .ok (.aload_n 0, 1) := by decide +kernel
theorem dL_law_531 : decode cL_law 531 = .ok (.iload_n 3, 1) := by decide +kernel
theorem dL_law_532 : decode cL_law 532 = .ok (.iconst 3, 1) := by decide +kernel
theorem dL_law_533 : decode cL_law 533 = .ok (.iadd, 1) := by decide +kernel
theorem dL_law_534 : decode cL_law 534 = .ok (.iaload, 1) := by decide +kernel
theorem dL_law_535 : decode cL_law 535 = .ok (.ifCond .eq 7, 3) := by decide +kernel
theorem dL_law_538 : decode cL_law 538 = .ok (.iconst 1, 1) := by decide +kernel
theorem dL_law_539 : decode cL_law 539 = .ok (.goto 4, 3) := by decide +kernel
theorem dL_law_542 : decode cL_law 542 = .ok (.iconst 0, 1) := by decide +kernel
theorem dL_law_543 : decode cL_law 543 = .ok (.invokevirtual 69, 3) := by decide +kernel
theorem dL_law_546 : decode cL_law 546 = .ok (.if_icmp .eq 411, 3) := by decide +kernel
theorem dL_law_549 : decode cL_law 549 = .ok (.iconst 0, 1) := by decide +kernel
theorem dL_law_550 : decode cL_law 550 = .ok (.ireturn, 1) := by decide +kernel
theorem dL_law_551 : decode cL_law 551 = .ok (.aload_n 1, 1) := by decide +kernel
theorem dL_law_552 : decode cL_law 552 = .ok (.aload_n 0, 1) := by decide +kernel
theorem dL_law_553 : decode cL_law 553 = .ok (.iload_n 3, 1) := by decide +kernel
theorem dL_law_554 : decode cL_law 554 = .ok (.iconst 1, 1) := by decide +kernel
theorem dL_law_555 : decode cL_law 555 = .ok (.iadd, 1) := by decide +kernel
theorem dL_law_556 : decode cL_law 556 = .ok (.iaload, 1) := by decide +kernel
theorem dL_law_557 : decode cL_law 557 = .ok (.aload_n 0, 1) := by decide +kernel
theorem dL_law_558 : decode cL_law 558 = .ok (.iload_n 3, 1) := by decide +kernel
theorem dL_law_559 : decode cL_law 559 = .ok (.iconst 2, 1) := by decide +kernel
theorem dL_law_560 : decode cL_law 560 = .ok (.iadd, 1) := by decide +kernel
theorem dL_law_561 : decode cL_law 561 = .ok (.iaload, 1) := by decide +kernel
theorem dL_law_562 : decode cL_law 562 = .ok (.aload_n 0, 1) := by decide +kernel
theorem dL_law_563 : decode cL_law 563 = .ok (.iload_n 3, 1) := by decide +kernel
theorem dL_law_564 : decode cL_law 564 = .ok (.iconst 3, 1) := by decide +kernel
theorem dL_law_565 : decode cL_law 565 = .ok (.iadd, 1) := by decide +kernel
theorem dL_law_566 : decode cL_law 566 = .ok (.iaload, 1) := by decide +kernel
theorem dL_law_567 : decode cL_law 567 = .ok (.ifCond .eq 7, 3) := by decide +kernel
theorem dL_law_570 : decode cL_law 570 = .ok (.iconst 1, 1) := by decide +kernel
theorem dL_law_571 : decode cL_law 571 = .ok (.goto 4, 3) := by decide +kernel
theorem dL_law_574 : decode cL_law 574 = .ok (.iconst 0, 1) := by decide +kernel
theorem dL_law_575 : decode cL_law 575 = .ok (.invokevirtual 70, 3) := by decide +kernel
theorem dL_law_578 : decode cL_law 578 = .ok (.aload_n 2, 1) := by decide +kernel
theorem dL_law_579 : decode cL_law 579 = .ok (.aload_n 0, 1) := by decide +kernel
theorem dL_law_580 : decode cL_law 580 = .ok (.iload_n 3, 1) := by decide +kernel
theorem dL_law_581 : decode cL_law 581 = .ok (.iconst 1, 1) := by decide +kernel
theorem dL_law_582 : decode cL_law 582 = .ok (.iadd, 1) := by decide +kernel
theorem dL_law_583 : decode cL_law 583 = .ok (.iaload, 1) := by decide +kernel
theorem dL_law_584 : decode cL_law 584 = .ok (.aload_n 0, 1) := by decide +kernel
theorem dL_law_585 : decode cL_law 585 = .ok (.iload_n 3, 1) := by decide +kernel
theorem dL_law_586 : decode cL_law 586 = .ok (.iconst 2, 1) := by decide +kernel
theorem dL_law_587 : decode cL_law 587 = .ok (.iadd, 1) := by decide +kernel
theorem dL_law_588 : decode cL_law 588 = .ok (.iaload, 1) := by decide +kernel
theorem dL_law_589 : decode cL_law 589 = .ok (.aload_n 0, 1) := by decide +kernel
theorem dL_law_590 : decode cL_law 590 = .ok (.iload_n 3, 1) := by decide +kernel
theorem dL_law_591 : decode cL_law 591 = .ok (.iconst 3, 1) := by decide +kernel
theorem dL_law_592 : decode cL_law 592 = .ok (.iadd, 1) := by decide +kernel
theorem dL_law_593 : decode cL_law 593 = .ok (.iaload, 1) := by decide +kernel
theorem dL_law_594 : decode cL_law 594 = .ok (.ifCond .eq 7, 3) := by decide +kernel
theorem dL_law_597 : decode cL_law 597 = .ok (.iconst 1, 1) := by decide +kernel
theorem dL_law_598 : decode cL_law 598 = .ok (.goto 4, 3) := by decide +kernel
theorem dL_law_601 : decode cL_law 601 = .ok (.iconst 0, 1) := by decide +kernel
theorem dL_law_602 : decode cL_law 602 = .ok (.invokevirtual 73, 3) := by decide +kernel
theorem dL_law_605 : decode cL_law 605 = .ok (.if_icmp .eq 352, 3) := by decide +kernel
theorem dL_law_608 : decode cL_law 608 = .ok (.iconst 0, 1) := by decide +kernel
theorem dL_law_609 : decode cL_law 609 = .ok (.ireturn, 1) := by decide +kernel
theorem dL_law_610 : decode cL_law 610 = .ok (.aload_n 1, 1) := by decide +kernel
theorem dL_law_611 : decode cL_law 611 = .ok (.aload_n 0, 1) := by decide +kernel
theorem dL_law_612 : decode cL_law 612 = .ok (.iload_n 3, 1) := by decide +kernel
theorem dL_law_613 : decode cL_law 613 = .ok (.iconst 1, 1) := by decide +kernel
theorem dL_law_614 : decode cL_law 614 = .ok (.iadd, 1) := by decide +kernel
theorem dL_law_615 : decode cL_law 615 = .ok (.iaload, 1) := by decide +kernel
theorem dL_law_616 : decode cL_law 616 = .ok (.aload_n 0, 1) := by decide +kernel
theorem dL_law_617 : decode cL_law 617 = .ok (.iload_n 3, 1) := by decide +kernel
theorem dL_law_618 : decode cL_law 618 = .ok (.iconst 2, 1) := by decide +kernel
theorem dL_law_619 : decode cL_law 619 = .ok (.iadd, 1) := by decide +kernel
theorem dL_law_620 : decode cL_law 620 = .ok (.iaload, 1) := by decide +kernel
theorem dL_law_621 : decode cL_law 621 = .ok (.invokevirtual 74, 3) := by decide +kernel
theorem dL_law_624 : decode cL_law 624 = .ok (.aload_n 2, 1) := by decide +kernel
theorem dL_law_625 : decode cL_law 625 = .ok (.aload_n 0, 1) := by decide +kernel
theorem dL_law_626 : decode cL_law 626 = .ok (.iload_n 3, 1) := by decide +kernel
theorem dL_law_627 : decode cL_law 627 = .ok (.iconst 1, 1) := by decide +kernel
theorem dL_law_628 : decode cL_law 628 = .ok (.iadd, 1) := by decide +kernel
theorem dL_law_629 : decode cL_law 629 = .ok (.iaload, 1) := by decide +kernel
theorem dL_law_630 : decode cL_law 630 = .ok (.aload_n 0, 1) := by decide +kernel
theorem dL_law_631 : decode cL_law 631 = .ok (.iload_n 3, 1) := by decide +kernel
theorem dL_law_632 : decode cL_law 632 = .ok (.iconst 2, 1) := by decide +kernel
theorem dL_law_633 : decode cL_law 633 = .ok (.iadd, 1) := by decide +kernel
theorem dL_law_634 : decode cL_law 634 = .ok (.iaload, 1) := by decide +kernel
theorem dL_law_635 : decode cL_law 635 = .ok (.invokevirtual 77, 3) := by decide +kernel
theorem dL_law_638 : decode cL_law 638 = .ok (.if_icmp .eq 319, 3) := by decide +kernel
theorem dL_law_641 : decode cL_law 641 = .ok (.iconst 0, 1) := by decide +kernel
theorem dL_law_642 : decode cL_law 642 = .ok (.ireturn, 1) := by decide +kernel
theorem dL_law_643 : decode cL_law 643 = .ok (.aload_n 1, 1) := by decide +kernel
theorem dL_law_644 : decode cL_law 644 = .ok (.aload_n 0, 1) := by decide +kernel
theorem dL_law_645 : decode cL_law 645 = .ok (.iload_n 3, 1) := by decide +kernel
theorem dL_law_646 : decode cL_law 646 = .ok (.iconst 1, 1) := by decide +kernel
theorem dL_law_647 : decode cL_law 647 = .ok (.iadd, 1) := by decide +kernel
theorem dL_law_648 : decode cL_law 648 = .ok (.iaload, 1) := by decide +kernel
theorem dL_law_649 : decode cL_law 649 = .ok (.invokevirtual 78, 3) := by decide +kernel
theorem dL_law_652 : decode cL_law 652 = .ok (.aload_n 2, 1) := by decide +kernel
theorem dL_law_653 : decode cL_law 653 = .ok (.aload_n 0, 1) := by decide +kernel
theorem dL_law_654 : decode cL_law 654 = .ok (.iload_n 3, 1) := by decide +kernel
theorem dL_law_655 : decode cL_law 655 = .ok (.iconst 1, 1) := by decide +kernel
theorem dL_law_656 : decode cL_law 656 = .ok (.iadd, 1) := by decide +kernel
theorem dL_law_657 : decode cL_law 657 = .ok (.iaload, 1) := by decide +kernel
theorem dL_law_658 : decode cL_law 658 = .ok (.invokevirtual 81, 3) := by decide +kernel
theorem dL_law_661 : decode cL_law 661 = .ok (.if_icmp .eq 296, 3) := by decide +kernel
theorem dL_law_664 : decode cL_law 664 = .ok (.iconst 0, 1) := by decide +kernel
theorem dL_law_665 : decode cL_law 665 = .ok (.ireturn, 1) := by decide +kernel
theorem dL_law_666 : decode cL_law 666 = .ok (.aload_n 1, 1) := by decide +kernel
theorem dL_law_667 : decode cL_law 667 = .ok (.aload_n 0, 1) := by decide +kernel
theorem dL_law_668 : decode cL_law 668 = .ok (.iload_n 3, 1) := by decide +kernel
theorem dL_law_669 : decode cL_law 669 = .ok (.iconst 1, 1) := by decide +kernel
theorem dL_law_670 : decode cL_law 670 = .ok (.iadd, 1) := by decide +kernel
theorem dL_law_671 : decode cL_law 671 = .ok (.iaload, 1) := by decide +kernel
theorem dL_law_672 : decode cL_law 672 = .ok (.invokevirtual 82, 3) := by decide +kernel
theorem dL_law_675 : decode cL_law 675 = .ok (.aload_n 2, 1) := by decide +kernel
theorem dL_law_676 : decode cL_law 676 = .ok (.aload_n 0, 1) := by decide +kernel
theorem dL_law_677 : decode cL_law 677 = .ok (.iload_n 3, 1) := by decide +kernel
theorem dL_law_678 : decode cL_law 678 = .ok (.iconst 1, 1) := by decide +kernel
theorem dL_law_679 : decode cL_law 679 = .ok (.iadd, 1) := by decide +kernel
theorem dL_law_680 : decode cL_law 680 = .ok (.iaload, 1) := by decide +kernel
theorem dL_law_681 : decode cL_law 681 = .ok (.invokevirtual 85, 3) := by decide +kernel
theorem dL_law_684 : decode cL_law 684 = .ok (.if_icmp .eq 273, 3) := by decide +kernel
theorem dL_law_687 : decode cL_law 687 = .ok (.iconst 0, 1) := by decide +kernel
theorem dL_law_688 : decode cL_law 688 = .ok (.ireturn, 1) := by decide +kernel
theorem dL_law_689 : decode cL_law 689 = .ok (.aload_n 1, 1) := by decide +kernel
theorem dL_law_690 : decode cL_law 690 = .ok (.aload_n 0, 1) := by decide +kernel
theorem dL_law_691 : decode cL_law 691 = .ok (.iload_n 3, 1) := by decide +kernel
theorem dL_law_692 : decode cL_law 692 = .ok (.iconst 1, 1) := by decide +kernel
theorem dL_law_693 : decode cL_law 693 = .ok (.iadd, 1) := by decide +kernel
theorem dL_law_694 : decode cL_law 694 = .ok (.iaload, 1) := by decide +kernel
theorem dL_law_695 : decode cL_law 695 = .ok (.invokevirtual 86, 3) := by decide +kernel
theorem dL_law_698 : decode cL_law 698 = .ok (.aload_n 2, 1) := by decide +kernel
theorem dL_law_699 : decode cL_law 699 = .ok (.aload_n 0, 1) := by decide +kernel
theorem dL_law_700 : decode cL_law 700 = .ok (.iload_n 3, 1) := by decide +kernel
theorem dL_law_701 : decode cL_law 701 = .ok (.iconst 1, 1) := by decide +kernel
theorem dL_law_702 : decode cL_law 702 = .ok (.iadd, 1) := by decide +kernel
theorem dL_law_703 : decode cL_law 703 = .ok (.iaload, 1) := by decide +kernel
theorem dL_law_704 : decode cL_law 704 = .ok (.invokevirtual 89, 3) := by decide +kernel
theorem dL_law_707 : decode cL_law 707 = .ok (.if_icmp .eq 250, 3) := by decide +kernel
theorem dL_law_710 : decode cL_law 710 = .ok (.iconst 0, 1) := by decide +kernel
theorem dL_law_711 : decode cL_law 711 = .ok (.ireturn, 1) := by decide +kernel
theorem dL_law_712 : decode cL_law 712 = .ok (.aload_n 1, 1) := by decide +kernel
theorem dL_law_713 : decode cL_law 713 = .ok (.invokevirtual 90, 3) := by decide +kernel
theorem dL_law_716 : decode cL_law 716 = .ok (.dstore 4, 2) := by decide +kernel
theorem dL_law_718 : decode cL_law 718 = .ok (.aload_n 2, 1) := by decide +kernel
theorem dL_law_719 : decode cL_law 719 = .ok (.invokevirtual 94, 3) := by decide +kernel
theorem dL_law_722 : decode cL_law 722 = .ok (.dstore 6, 2) := by decide +kernel
theorem dL_law_724 : decode cL_law 724 = .ok (.dload 4, 2) := by decide +kernel
theorem dL_law_726 : decode cL_law 726 = .ok (.dload 6, 2) := by decide +kernel
theorem dL_law_728 : decode cL_law 728 = .ok (.dcmp .l, 1) := by decide +kernel
theorem dL_law_729 : decode cL_law 729 = .ok (.ifCond .eq 21, 3) := by decide +kernel
theorem dL_law_732 : decode cL_law 732 = .ok (.dload 4, 2) := by decide +kernel
theorem dL_law_734 : decode cL_law 734 = .ok (.dload 4, 2) := by decide +kernel
theorem dL_law_736 : decode cL_law 736 = .ok (.dcmp .l, 1) := by decide +kernel
theorem dL_law_737 : decode cL_law 737 = .ok (.ifCond .eq 11, 3) := by decide +kernel
theorem dL_law_740 : decode cL_law 740 = .ok (.dload 6, 2) := by decide +kernel
theorem dL_law_742 : decode cL_law 742 = .ok (.dload 6, 2) := by decide +kernel
theorem dL_law_744 : decode cL_law 744 = .ok (.dcmp .l, 1) := by decide +kernel
theorem dL_law_745 : decode cL_law 745 = .ok (.ifCond .ne 5, 3) := by decide +kernel
theorem dL_law_748 : decode cL_law 748 = .ok (.iconst 0, 1) := by decide +kernel
theorem dL_law_749 : decode cL_law 749 = .ok (.ireturn, 1) := by decide +kernel
theorem dL_law_750 : decode cL_law 750 = .ok (.goto 207, 3) := by decide +kernel
theorem dL_law_753 : decode cL_law 753 = .ok (.aload_n 1, 1) := by decide +kernel
theorem dL_law_754 : decode cL_law 754 = .ok (.aload_n 0, 1) := by decide +kernel
theorem dL_law_755 : decode cL_law 755 = .ok (.iload_n 3, 1) := by decide +kernel
theorem dL_law_756 : decode cL_law 756 = .ok (.iconst 1, 1) := by decide +kernel
theorem dL_law_757 : decode cL_law 757 = .ok (.iadd, 1) := by decide +kernel
theorem dL_law_758 : decode cL_law 758 = .ok (.iaload, 1) := by decide +kernel
theorem dL_law_759 : decode cL_law 759 = .ok (.aload_n 0, 1) := by decide +kernel
theorem dL_law_760 : decode cL_law 760 = .ok (.iload_n 3, 1) := by decide +kernel
theorem dL_law_761 : decode cL_law 761 = .ok (.iconst 2, 1) := by decide +kernel
theorem dL_law_762 : decode cL_law 762 = .ok (.iadd, 1) := by decide +kernel
theorem dL_law_763 : decode cL_law 763 = .ok (.iaload, 1) := by decide +kernel
theorem dL_law_764 : decode cL_law 764 = .ok (.invokevirtual 95, 3) := by decide +kernel
theorem dL_law_767 : decode cL_law 767 = .ok (.aload_n 2, 1) := by decide +kernel
theorem dL_law_768 : decode cL_law 768 = .ok (.aload_n 0, 1) := by decide +kernel
theorem dL_law_769 : decode cL_law 769 = .ok (.iload_n 3, 1) := by decide +kernel
theorem dL_law_770 : decode cL_law 770 = .ok (.iconst 1, 1) := by decide +kernel
theorem dL_law_771 : decode cL_law 771 = .ok (.iadd, 1) := by decide +kernel
theorem dL_law_772 : decode cL_law 772 = .ok (.iaload, 1) := by decide +kernel
theorem dL_law_773 : decode cL_law 773 = .ok (.aload_n 0, 1) := by decide +kernel
theorem dL_law_774 : decode cL_law 774 = .ok (.iload_n 3, 1) := by decide +kernel
theorem dL_law_775 : decode cL_law 775 = .ok (.iconst 2, 1) := by decide +kernel
theorem dL_law_776 : decode cL_law 776 = .ok (.iadd, 1) := by decide +kernel
theorem dL_law_777 : decode cL_law 777 = .ok (.iaload, 1) := by decide +kernel
theorem dL_law_778 : decode cL_law 778 = .ok (.invokevirtual 98, 3) := by decide +kernel
theorem dL_law_781 : decode cL_law 781 = .ok (.if_icmp .eq 176, 3) := by decide +kernel
theorem dL_law_784 : decode cL_law 784 = .ok (.iconst 0, 1) := by decide +kernel
theorem dL_law_785 : decode cL_law 785 = .ok (.ireturn, 1) := by decide +kernel
