theorem dX5_takeJoint_31 : decode cX5_takeJoint 31 = .ok (.iconst 1, 1) := by decide +kernel
theorem dX5_takeJoint_32 : decode cX5_takeJoint 32 = .ok (.ireturn, 1) := by decide +kernel
theorem dX5_takeJoint_33 : decode cX5_takeJoint 33 = .ok (.iload 4, 2) := by decide +kernel
theorem dX5_takeJoint_35 : decode cX5_takeJoint 35 = .ok (.bipush 41, 2) := by decide +kernel
theorem dX5_takeJoint_37 : decode cX5_takeJoint 37 = .ok (.if_icmp .ne 10, 3) := by decide +kernel
theorem dX5_takeJoint_40 : decode cX5_takeJoint 40 = .ok (.aload_n 0, 1) := by decide +kernel
theorem dX5_takeJoint_41 : decode cX5_takeJoint 41 = .ok (.getfield 30, 3) := by decide +kernel
theorem dX5_takeJoint_44 : decode cX5_takeJoint 44 = .ok (.ifCond .gt 5, 3) := by decide +kernel
theorem dX5_takeJoint_47 : decode cX5_takeJoint 47 = .ok (.iconst 0, 1) := by decide +kernel
theorem dX5_takeJoint_48 : decode cX5_takeJoint 48 = .ok (.ireturn, 1) := by decide +kernel
theorem dX5_takeJoint_49 : decode cX5_takeJoint 49 = .ok (.aload_n 0, 1) := by decide +kernel
theorem dX5_takeJoint_50 : decode cX5_takeJoint 50 = .ok (.getfield 11, 3) := by decide +kernel
theorem dX5_takeJoint_53 : decode cX5_takeJoint 53 = .ok (.aload_n 0, 1) := by decide +kernel
theorem dX5_takeJoint_54 : decode cX5_takeJoint 54 = .ok (.getfield 30, 3) := by decide +kernel
theorem dX5_takeJoint_57 : decode cX5_takeJoint 57 = .ok (.invokestatic 58, 3) := by decide +kernel
theorem dX5_takeJoint_60 : decode cX5_takeJoint 60 = .ok (.istore 5, 2) := by decide +kernel
theorem dX5_takeJoint_62 : decode cX5_takeJoint 62 = .ok (.aload_n 0, 1) := by decide +kernel
theorem dX5_takeJoint_63 : decode cX5_takeJoint 63 = .ok (.dup, 1) := by decide +kernel
theorem dX5_takeJoint_64 : decode cX5_takeJoint 64 = .ok (.getfield 30, 3) := by decide +kernel
theorem dX5_takeJoint_67 : decode cX5_takeJoint 67 = .ok (.iconst 1, 1) := by decide +kernel
theorem dX5_takeJoint_68 : decode cX5_takeJoint 68 = .ok (.isub, 1) := by decide +kernel
theorem dX5_takeJoint_69 : decode cX5_takeJoint 69 = .ok (.putfield 30, 3) := by decide +kernel
theorem dX5_takeJoint_72 : decode cX5_takeJoint 72 = .ok (.aload_n 0, 1) := by decide +kernel
theorem dX5_takeJoint_73 : decode cX5_takeJoint 73 = .ok (.iload 5, 2) := by decide +kernel
theorem dX5_takeJoint_75 : decode cX5_takeJoint 75 = .ok (.aload_n 3, 1) := by decide +kernel
theorem dX5_takeJoint_76 : decode cX5_takeJoint 76 = .ok (.invokevirtual 76, 3) := by decide +kernel
theorem dX5_takeJoint_79 : decode cX5_takeJoint 79 = .ok (.iconst 1, 1) := by decide +kernel
theorem dX5_takeJoint_80 : decode cX5_takeJoint 80 = .ok (.ireturn, 1) := by decide +kernel
set_option maxRecDepth 20000 in
theorem ggX5_join_X9_get : GoodIn wsX5_join wsX9_get := goodIn_r _ [11] rfl (by decide +kernel)
set_option maxRecDepth 20000 in
theorem gX5_join_X9_get_n58 : GoodIn wsX5_join (wsX9_get) := ggX5_join_X9_get
set_option maxRecDepth 20000 in
theorem ggX5_join_X9_put : GoodIn wsX5_join wsX9_put := goodIn_r _ [13] rfl (by decide +kernel)
set_option maxRecDepth 20000 in
theorem gX5_join_X9_put_n41 : GoodIn wsX5_join (wsX9_put) := ggX5_join_X9_put
set_option maxRecDepth 20000 in
theorem ggX5_join_X6_at : GoodIn wsX5_join wsX6_at := goodIn_r _ [18, 19, 29, 30] rfl (by decide +kernel)
set_option maxRecDepth 20000 in
theorem gX5_join_X6_at : GoodIn wsX5_join (wsV RX5 80 RX6 yX6_at wsX6_at) := goodIn_app (goodIn_of _ (by decide +kernel)) ggX5_join_X6_at
theorem dX5_join_0 : decode cX5_join 0 = .ok (.aload_n 0, 1) := by decide +kernel
theorem dX5_join_1 : decode cX5_join 1 = .ok (.getfield 11, 3) := by decide +kernel
theorem dX5_join_4 : decode cX5_join 4 = .ok (.aload_n 0, 1) := by decide +kernel
theorem dX5_join_5 : decode cX5_join 5 = .ok (.getfield 30, 3) := by decide +kernel
theorem dX5_join_8 : decode cX5_join 8 = .ok (.invokestatic 58, 3) := by decide +kernel
theorem dX5_join_11 : decode cX5_join 11 = .ok (.istore_n 3, 1) := by decide +kernel
theorem dX5_join_12 : decode cX5_join 12 = .ok (.iload_n 3, 1) := by decide +kernel
theorem dX5_join_13 : decode cX5_join 13 = .ok (.iconst (-1), 1) := by decide +kernel
theorem dX5_join_14 : decode cX5_join 14 = .ok (.if_icmp .ne 16, 3) := by decide +kernel
theorem dX5_join_17 : decode cX5_join 17 = .ok (.aload_n 0, 1) := by decide +kernel
theorem dX5_join_18 : decode cX5_join 18 = .ok (.getfield 11, 3) := by decide +kernel
theorem dX5_join_21 : decode cX5_join 21 = .ok (.aload_n 0, 1) := by decide +kernel
theorem dX5_join_22 : decode cX5_join 22 = .ok (.getfield 30, 3) := by decide +kernel
theorem dX5_join_25 : decode cX5_join 25 = .ok (.iload_n 1, 1) := by decide +kernel
theorem dX5_join_26 : decode cX5_join 26 = .ok (.invokestatic 41, 3) := by decide +kernel
theorem dX5_join_29 : decode cX5_join 29 = .ok (.return_, 1) := by decide +kernel
theorem dX5_join_30 : decode cX5_join 30 = .ok (.aload_n 2, 1) := by decide +kernel
theorem dX5_join_31 : decode cX5_join 31 = .ok (.iload_n 3, 1) := by decide +kernel
theorem dX5_join_32 : decode cX5_join 32 = .ok (.iload_n 1, 1) := by decide +kernel
theorem dX5_join_33 : decode cX5_join 33 = .ok (.invokevirtual 80, 3) := by decide +kernel
theorem dX5_join_36 : decode cX5_join 36 = .ok (.istore 4, 2) := by decide +kernel
theorem dX5_join_38 : decode cX5_join 38 = .ok (.aload_n 0, 1) := by decide +kernel
theorem dX5_join_39 : decode cX5_join 39 = .ok (.getfield 18, 3) := by decide +kernel
theorem dX5_join_42 : decode cX5_join 42 = .ok (.aload_n 0, 1) := by decide +kernel
theorem dX5_join_43 : decode cX5_join 43 = .ok (.getfield 34, 3) := by decide +kernel
theorem dX5_join_46 : decode cX5_join 46 = .ok (.iload_n 3, 1) := by decide +kernel
theorem dX5_join_47 : decode cX5_join 47 = .ok (.invokestatic 41, 3) := by decide +kernel
theorem dX5_join_50 : decode cX5_join 50 = .ok (.aload_n 0, 1) := by decide +kernel
theorem dX5_join_51 : decode cX5_join 51 = .ok (.getfield 21, 3) := by decide +kernel
theorem dX5_join_54 : decode cX5_join 54 = .ok (.aload_n 0, 1) := by decide +kernel
theorem dX5_join_55 : decode cX5_join 55 = .ok (.getfield 34, 3) := by decide +kernel
theorem dX5_join_58 : decode cX5_join 58 = .ok (.iload_n 1, 1) := by decide +kernel
theorem dX5_join_59 : decode cX5_join 59 = .ok (.invokestatic 41, 3) := by decide +kernel
theorem dX5_join_62 : decode cX5_join 62 = .ok (.aload_n 0, 1) := by decide +kernel
theorem dX5_join_63 : decode cX5_join 63 = .ok (.getfield 24, 3) := by decide +kernel
theorem dX5_join_66 : decode cX5_join 66 = .ok (.aload_n 0, 1) := by decide +kernel
theorem dX5_join_67 : decode cX5_join 67 = .ok (.getfield 34, 3) := by decide +kernel
theorem dX5_join_70 : decode cX5_join 70 = .ok (.iload 4, 2) := by decide +kernel
theorem dX5_join_72 : decode cX5_join 72 = .ok (.invokestatic 41, 3) := by decide +kernel
theorem dX5_join_75 : decode cX5_join 75 = .ok (.aload_n 0, 1) := by decide +kernel
theorem dX5_join_76 : decode cX5_join 76 = .ok (.getfield 27, 3) := by decide +kernel
theorem dX5_join_79 : decode cX5_join 79 = .ok (.aload_n 0, 1) := by decide +kernel
theorem dX5_join_80 : decode cX5_join 80 = .ok (.getfield 34, 3) := by decide +kernel
theorem dX5_join_83 : decode cX5_join 83 = .ok (.aload_n 0, 1) := by decide +kernel
theorem dX5_join_84 : decode cX5_join 84 = .ok (.getfield 15, 3) := by decide +kernel
theorem dX5_join_87 : decode cX5_join 87 = .ok (.aload_n 0, 1) := by decide +kernel
theorem dX5_join_88 : decode cX5_join 88 = .ok (.getfield 30, 3) := by decide +kernel
theorem dX5_join_91 : decode cX5_join 91 = .ok (.invokestatic 58, 3) := by decide +kernel
theorem dX5_join_94 : decode cX5_join 94 = .ok (.invokestatic 41, 3) := by decide +kernel
theorem dX5_join_97 : decode cX5_join 97 = .ok (.aload_n 0, 1) := by decide +kernel
theorem dX5_join_98 : decode cX5_join 98 = .ok (.getfield 11, 3) := by decide +kernel
theorem dX5_join_101 : decode cX5_join 101 = .ok (.aload_n 0, 1) := by decide +kernel
theorem dX5_join_102 : decode cX5_join 102 = .ok (.getfield 30, 3) := by decide +kernel
theorem dX5_join_105 : decode cX5_join 105 = .ok (.iload 4, 2) := by decide +kernel
theorem dX5_join_107 : decode cX5_join 107 = .ok (.invokestatic 41, 3) := by decide +kernel
theorem dX5_join_110 : decode cX5_join 110 = .ok (.aload_n 0, 1) := by decide +kernel
theorem dX5_join_111 : decode cX5_join 111 = .ok (.dup, 1) := by decide +kernel
theorem dX5_join_112 : decode cX5_join 112 = .ok (.getfield 34, 3) := by decide +kernel
theorem dX5_join_115 : decode cX5_join 115 = .ok (.iconst 1, 1) := by decide +kernel
theorem dX5_join_116 : decode cX5_join 116 = .ok (.iadd, 1) := by decide +kernel
theorem dX5_join_117 : decode cX5_join 117 = .ok (.putfield 34, 3) := by decide +kernel
theorem dX5_join_120 : decode cX5_join 120 = .ok (.return_, 1) := by decide +kernel
theorem dX6_init_0 : decode cX6_init 0 = .ok (.aload_n 0, 1) := by decide +kernel
theorem dX6_init_1 : decode cX6_init 1 = .ok (.invokespecial 3, 3) := by decide +kernel
theorem dX6_init_4 : decode cX6_init 4 = .ok (.aload_n 0, 1) := by decide +kernel
theorem dX6_init_5 : decode cX6_init 5 = .ok (.bipush 64, 2) := by decide +kernel
theorem dX6_init_7 : decode cX6_init 7 = .ok (.newarray .int, 2) := by decide +kernel
theorem dX6_init_9 : decode cX6_init 9 = .ok (.putfield 9, 3) := by decide +kernel
theorem dX6_init_12 : decode cX6_init 12 = .ok (.return_, 1) := by decide +kernel
theorem dX6_size_0 : decode cX6_size 0 = .ok (.aload_n 0, 1) := by decide +kernel
theorem dX6_size_1 : decode cX6_size 1 = .ok (.getfield 15, 3) := by decide +kernel
theorem dX6_size_4 : decode cX6_size 4 = .ok (.ireturn, 1) := by decide +kernel
theorem dX6_has_0 : decode cX6_has 0 = .ok (.iload_n 1, 1) := by decide +kernel
theorem dX6_has_1 : decode cX6_has 1 = .ok (.ifCond .lt 15, 3) := by decide +kernel
theorem dX6_has_4 : decode cX6_has 4 = .ok (.iload_n 1, 1) := by decide +kernel
theorem dX6_has_5 : decode cX6_has 5 = .ok (.aload_n 0, 1) := by decide +kernel
theorem dX6_has_6 : decode cX6_has 6 = .ok (.getfield 15, 3) := by decide +kernel
theorem dX6_has_9 : decode cX6_has 9 = .ok (.if_icmp .ge 7, 3) := by decide +kernel
theorem dX6_has_12 : decode cX6_has 12 = .ok (.iconst 1, 1) := by decide +kernel
theorem dX6_has_13 : decode cX6_has 13 = .ok (.goto 4, 3) := by decide +kernel
theorem dX6_has_16 : decode cX6_has 16 = .ok (.iconst 0, 1) := by decide +kernel
theorem dX6_has_17 : decode cX6_has 17 = .ok (.ireturn, 1) := by decide +kernel
theorem dX6_allBits_0 : decode cX6_allBits 0 = .ok (.iconst 1, 1) := by decide +kernel
theorem dX6_allBits_1 : decode cX6_allBits 1 = .ok (.aload_n 0, 1) := by decide +kernel
theorem dX6_allBits_2 : decode cX6_allBits 2 = .ok (.getfield 15, 3) := by decide +kernel
theorem dX6_allBits_5 : decode cX6_allBits 5 = .ok (.ishl, 1) := by decide +kernel
theorem dX6_allBits_6 : decode cX6_allBits 6 = .ok (.iconst 1, 1) := by decide +kernel
theorem dX6_allBits_7 : decode cX6_allBits 7 = .ok (.isub, 1) := by decide +kernel
theorem dX6_allBits_8 : decode cX6_allBits 8 = .ok (.ireturn, 1) := by decide +kernel
theorem dX6_at_0 : decode cX6_at 0 = .ok (.iload_n 1, 1) := by decide +kernel
theorem dX6_at_1 : decode cX6_at 1 = .ok (.bipush 8, 2) := by decide +kernel
theorem dX6_at_3 : decode cX6_at 3 = .ok (.imul, 1) := by decide +kernel
theorem dX6_at_4 : decode cX6_at 4 = .ok (.iload_n 2, 1) := by decide +kernel
theorem dX6_at_5 : decode cX6_at 5 = .ok (.iadd, 1) := by decide +kernel
theorem dX6_at_6 : decode cX6_at 6 = .ok (.istore_n 3, 1) := by decide +kernel
theorem dX6_at_7 : decode cX6_at 7 = .ok (.iload_n 3, 1) := by decide +kernel
theorem dX6_at_8 : decode cX6_at 8 = .ok (.ifCond .lt 21, 3) := by decide +kernel
theorem dX6_at_11 : decode cX6_at 11 = .ok (.iload_n 3, 1) := by decide +kernel
theorem dX6_at_12 : decode cX6_at 12 = .ok (.aload_n 0, 1) := by decide +kernel
theorem dX6_at_13 : decode cX6_at 13 = .ok (.getfield 9, 3) := by decide +kernel
theorem dX6_at_16 : decode cX6_at 16 = .ok (.arraylength, 1) := by decide +kernel
theorem dX6_at_17 : decode cX6_at 17 = .ok (.if_icmp .ge 12, 3) := by decide +kernel
theorem dX6_at_20 : decode cX6_at 20 = .ok (.aload_n 0, 1) := by decide +kernel
theorem dX6_at_21 : decode cX6_at 21 = .ok (.getfield 9, 3) := by decide +kernel
theorem dX6_at_24 : decode cX6_at 24 = .ok (.iload_n 3, 1) := by decide +kernel
theorem dX6_at_25 : decode cX6_at 25 = .ok (.iaload, 1) := by decide +kernel
theorem dX6_at_26 : decode cX6_at 26 = .ok (.goto 4, 3) := by decide +kernel
theorem dX6_at_29 : decode cX6_at 29 = .ok (.iconst 0, 1) := by decide +kernel
theorem dX6_at_30 : decode cX6_at 30 = .ok (.ireturn, 1) := by decide +kernel
set_option maxRecDepth 20000 in
theorem ggX6_set_X9_put : GoodIn wsX6_set wsX9_put := goodIn_r _ [4] rfl (by decide +kernel)
set_option maxRecDepth 20000 in
theorem gX6_set_X9_put_n19 : GoodIn wsX6_set (wsX9_put) := ggX6_set_X9_put
theorem dX6_set_0 : decode cX6_set 0 = .ok (.aload_n 0, 1) := by decide +kernel
theorem dX6_set_1 : decode cX6_set 1 = .ok (.getfield 9, 3) := by decide +kernel
theorem dX6_set_4 : decode cX6_set 4 = .ok (.iload_n 1, 1) := by decide +kernel
theorem dX6_set_5 : decode cX6_set 5 = .ok (.bipush 8, 2) := by decide +kernel
theorem dX6_set_7 : decode cX6_set 7 = .ok (.imul, 1) := by decide +kernel
theorem dX6_set_8 : decode cX6_set 8 = .ok (.iload_n 2, 1) := by decide +kernel
theorem dX6_set_9 : decode cX6_set 9 = .ok (.iadd, 1) := by decide +kernel
theorem dX6_set_10 : decode cX6_set 10 = .ok (.iload_n 3, 1) := by decide +kernel
theorem dX6_set_11 : decode cX6_set 11 = .ok (.invokestatic 19, 3) := by decide +kernel
theorem dX6_set_14 : decode cX6_set 14 = .ok (.return_, 1) := by decide +kernel
set_option maxRecDepth 20000 in
theorem ggX6_makeNew_X6_set : GoodIn wsX6_makeNew wsX6_set := goodIn_r _ [6, 7, 8, 9, 10, 11, 12] rfl (by decide +kernel)
set_option maxRecDepth 20000 in
theorem gX6_makeNew_X6_set : GoodIn wsX6_makeNew (wsV RX6 23 RX6 yX6_set wsX6_set) := goodIn_app (goodIn_of _ (by decide +kernel)) ggX6_makeNew_X6_set
theorem dX6_makeNew_0 : decode cX6_makeNew 0 = .ok (.iload_n 1, 1) := by decide +kernel
theorem dX6_makeNew_1 : decode cX6_makeNew 1 = .ok (.ifCond .gt 4, 3) := by decide +kernel
theorem dX6_makeNew_4 : decode cX6_makeNew 4 = .ok (.return_, 1) := by decide +kernel
theorem dX6_makeNew_5 : decode cX6_makeNew 5 = .ok (.aload_n 0, 1) := by decide +kernel
theorem dX6_makeNew_6 : decode cX6_makeNew 6 = .ok (.iload_n 1, 1) := by decide +kernel
theorem dX6_makeNew_7 : decode cX6_makeNew 7 = .ok (.putfield 15, 3) := by decide +kernel
theorem dX6_makeNew_10 : decode cX6_makeNew 10 = .ok (.iconst 0, 1) := by decide +kernel
theorem dX6_makeNew_11 : decode cX6_makeNew 11 = .ok (.istore_n 3, 1) := by decide +kernel
theorem dX6_makeNew_12 : decode cX6_makeNew 12 = .ok (.iload_n 3, 1) := by decide +kernel
theorem dX6_makeNew_13 : decode cX6_makeNew 13 = .ok (.aload_n 0, 1) := by decide +kernel
theorem dX6_makeNew_14 : decode cX6_makeNew 14 = .ok (.getfield 15, 3) := by decide +kernel
theorem dX6_makeNew_17 : decode cX6_makeNew 17 = .ok (.if_icmp .ge 42, 3) := by decide +kernel
theorem dX6_makeNew_20 : decode cX6_makeNew 20 = .ok (.iconst 0, 1) := by decide +kernel
theorem dX6_makeNew_21 : decode cX6_makeNew 21 = .ok (.istore 4, 2) := by decide +kernel
theorem dX6_makeNew_23 : decode cX6_makeNew 23 = .ok (.iload 4, 2) := by decide +kernel
theorem dX6_makeNew_25 : decode cX6_makeNew 25 = .ok (.aload_n 0, 1) := by decide +kernel
theorem dX6_makeNew_26 : decode cX6_makeNew 26 = .ok (.getfield 15, 3) := by decide +kernel
theorem dX6_makeNew_29 : decode cX6_makeNew 29 = .ok (.if_icmp .ge 24, 3) := by decide +kernel
theorem dX6_makeNew_32 : decode cX6_makeNew 32 = .ok (.aload_n 0, 1) := by decide +kernel
theorem dX6_makeNew_33 : decode cX6_makeNew 33 = .ok (.iload_n 3, 1) := by decide +kernel
theorem dX6_makeNew_34 : decode cX6_makeNew 34 = .ok (.iload 4, 2) := by decide +kernel
theorem dX6_makeNew_36 : decode cX6_makeNew 36 = .ok (.iload_n 2, 1) := by decide +kernel
theorem dX6_makeNew_37 : decode cX6_makeNew 37 = .ok (.iload_n 3, 1) := by decide +kernel
theorem dX6_makeNew_38 : decode cX6_makeNew 38 = .ok (.imul, 1) := by decide +kernel
theorem dX6_makeNew_39 : decode cX6_makeNew 39 = .ok (.iload 4, 2) := by decide +kernel
theorem dX6_makeNew_41 : decode cX6_makeNew 41 = .ok (.iadd, 1) := by decide +kernel
theorem dX6_makeNew_42 : decode cX6_makeNew 42 = .ok (.iload_n 1, 1) := by decide +kernel
theorem dX6_makeNew_43 : decode cX6_makeNew 43 = .ok (.irem, 1) := by decide +kernel
theorem dX6_makeNew_44 : decode cX6_makeNew 44 = .ok (.invokevirtual 23, 3) := by decide +kernel
theorem dX6_makeNew_47 : decode cX6_makeNew 47 = .ok (.iinc 4 1, 3) := by decide +kernel
theorem dX6_makeNew_50 : decode cX6_makeNew 50 = .ok (.goto (-27), 3) := by decide +kernel
theorem dX6_makeNew_53 : decode cX6_makeNew 53 = .ok (.iinc 3 1, 3) := by decide +kernel
theorem dX6_makeNew_56 : decode cX6_makeNew 56 = .ok (.goto (-44), 3) := by decide +kernel
theorem dX6_makeNew_59 : decode cX6_makeNew 59 = .ok (.return_, 1) := by decide +kernel
set_option maxRecDepth 20000 in
theorem ggX6_copyFrom_X9_get : GoodIn wsX6_copyFrom wsX9_get := goodIn_r _ [5] rfl (by decide +kernel)
set_option maxRecDepth 20000 in
theorem gX6_copyFrom_X9_get_n27 : GoodIn wsX6_copyFrom (wsX9_get) := ggX6_copyFrom_X9_get
set_option maxRecDepth 20000 in
theorem ggX6_copyFrom_X9_put : GoodIn wsX6_copyFrom wsX9_put := goodIn_r _ [7] rfl (by decide +kernel)
set_option maxRecDepth 20000 in
theorem gX6_copyFrom_X9_put_n19 : GoodIn wsX6_copyFrom (wsX9_put) := ggX6_copyFrom_X9_put
theorem dX6_copyFrom_0 : decode cX6_copyFrom 0 = .ok (.aload_n 0, 1) := by decide +kernel
theorem dX6_copyFrom_1 : decode cX6_copyFrom 1 = .ok (.aload_n 1, 1) := by decide +kernel
theorem dX6_copyFrom_2 : decode cX6_copyFrom 2 = .ok (.getfield 15, 3) := by decide +kernel
theorem dX6_copyFrom_5 : decode cX6_copyFrom 5 = .ok (.putfield 15, 3) := by decide +kernel
theorem dX6_copyFrom_8 : decode cX6_copyFrom 8 = .ok (.iconst 0, 1) := by decide +kernel
theorem dX6_copyFrom_9 : decode cX6_copyFrom 9 = .ok (.istore_n 2, 1) := by decide +kernel
theorem dX6_copyFrom_10 : decode cX6_copyFrom 10 = .ok (.iload_n 2, 1) := by decide +kernel
theorem dX6_copyFrom_11 : decode cX6_copyFrom 11 = .ok (.aload_n 0, 1) := by decide +kernel
theorem dX6_copyFrom_12 : decode cX6_copyFrom 12 = .ok (.getfield 9, 3) := by decide +kernel
theorem dX6_copyFrom_15 : decode cX6_copyFrom 15 = .ok (.arraylength, 1) := by decide +kernel
theorem dX6_copyFrom_16 : decode cX6_copyFrom 16 = .ok (.if_icmp .ge 25, 3) := by decide +kernel
theorem dX6_copyFrom_19 : decode cX6_copyFrom 19 = .ok (.aload_n 0, 1) := by decide +kernel
theorem dX6_copyFrom_20 : decode cX6_copyFrom 20 = .ok (.getfield 9, 3) := by decide +kernel
theorem dX6_copyFrom_23 : decode cX6_copyFrom 23 = .ok (.iload_n 2, 1) := by decide +kernel
theorem dX6_copyFrom_24 : decode cX6_copyFrom 24 = .ok (.aload_n 1, 1) := by decide +kernel
theorem dX6_copyFrom_25 : decode cX6_copyFrom 25 = .ok (.getfield 9, 3) := by decide +kernel
theorem dX6_copyFrom_28 : decode cX6_copyFrom 28 = .ok (.iload_n 2, 1) := by decide +kernel
theorem dX6_copyFrom_29 : decode cX6_copyFrom 29 = .ok (.invokestatic 27, 3) := by decide +kernel
theorem dX6_copyFrom_32 : decode cX6_copyFrom 32 = .ok (.invokestatic 19, 3) := by decide +kernel
theorem dX6_copyFrom_35 : decode cX6_copyFrom 35 = .ok (.iinc 2 1, 3) := by decide +kernel
theorem dX6_copyFrom_38 : decode cX6_copyFrom 38 = .ok (.goto (-28), 3) := by decide +kernel
theorem dX6_copyFrom_41 : decode cX6_copyFrom 41 = .ok (.return_, 1) := by decide +kernel
set_option maxRecDepth 20000 in
theorem ggX6_differencesTo_X6_at : GoodIn wsX6_differencesTo wsX6_at := goodIn_r _ [6, 7, 8, 9] rfl (by decide +kernel)
set_option maxRecDepth 20000 in
theorem gX6_differencesTo_X6_at : GoodIn wsX6_differencesTo (wsV RX6 31 RX6 yX6_at wsX6_at) := goodIn_app (goodIn_of _ (by decide +kernel)) ggX6_differencesTo_X6_at
theorem dX6_differencesTo_0 : decode cX6_differencesTo 0 = .ok (.iconst 0, 1) := by decide +kernel
theorem dX6_differencesTo_1 : decode cX6_differencesTo 1 = .ok (.istore_n 2, 1) := by decide +kernel
theorem dX6_differencesTo_2 : decode cX6_differencesTo 2 = .ok (.iconst 0, 1) := by decide +kernel
theorem dX6_differencesTo_3 : decode cX6_differencesTo 3 = .ok (.istore_n 3, 1) := by decide +kernel
theorem dX6_differencesTo_4 : decode cX6_differencesTo 4 = .ok (.iload_n 3, 1) := by decide +kernel
theorem dX6_differencesTo_5 : decode cX6_differencesTo 5 = .ok (.aload_n 0, 1) := by decide +kernel
theorem dX6_differencesTo_6 : decode cX6_differencesTo 6 = .ok (.getfield 15, 3) := by decide +kernel
theorem dX6_differencesTo_9 : decode cX6_differencesTo 9 = .ok (.if_icmp .ge 47, 3) := by decide +kernel
theorem dX6_differencesTo_12 : decode cX6_differencesTo 12 = .ok (.iconst 0, 1) := by decide +kernel
theorem dX6_differencesTo_13 : decode cX6_differencesTo 13 = .ok (.istore 4, 2) := by decide +kernel
theorem dX6_differencesTo_15 : decode cX6_differencesTo 15 = .ok (.iload 4, 2) := by decide +kernel
theorem dX6_differencesTo_17 : decode cX6_differencesTo 17 = .ok (.aload_n 0, 1) := by decide +kernel
theorem dX6_differencesTo_18 : decode cX6_differencesTo 18 = .ok (.getfield 15, 3) := by decide +kernel
theorem dX6_differencesTo_21 : decode cX6_differencesTo 21 = .ok (.if_icmp .ge 29, 3) := by decide +kernel
theorem dX6_differencesTo_24 : decode cX6_differencesTo 24 = .ok (.aload_n 0, 1) := by decide +kernel
theorem dX6_differencesTo_25 : decode cX6_differencesTo 25 = .ok (.iload_n 3, 1) := by decide +kernel
theorem dX6_differencesTo_26 : decode cX6_differencesTo 26 = .ok (.iload 4, 2) := by decide +kernel
theorem dX6_differencesTo_28 : decode cX6_differencesTo 28 = .ok (.invokevirtual 31, 3) := by decide +kernel
theorem dX6_differencesTo_31 : decode cX6_differencesTo 31 = .ok (.aload_n 1, 1) := by decide +kernel
theorem dX6_differencesTo_32 : decode cX6_differencesTo 32 = .ok (.iload_n 3, 1) := by decide +kernel
theorem dX6_differencesTo_33 : decode cX6_differencesTo 33 = .ok (.iload 4, 2) := by decide +kernel
theorem dX6_differencesTo_35 : decode cX6_differencesTo 35 = .ok (.invokevirtual 31, 3) := by decide +kernel
theorem dX6_differencesTo_38 : decode cX6_differencesTo 38 = .ok (.if_icmp .eq 6, 3) := by decide +kernel
theorem dX6_differencesTo_41 : decode cX6_differencesTo 41 = .ok (.iinc 2 1, 3) := by decide +kernel
theorem dX6_differencesTo_44 : decode cX6_differencesTo 44 = .ok (.iinc 4 1, 3) := by decide +kernel
theorem dX6_differencesTo_47 : decode cX6_differencesTo 47 = .ok (.goto (-32), 3) := by decide +kernel
theorem dX6_differencesTo_50 : decode cX6_differencesTo 50 = .ok (.iinc 3 1, 3) := by decide +kernel
theorem dX6_differencesTo_53 : decode cX6_differencesTo 53 = .ok (.goto (-49), 3) := by decide +kernel
theorem dX6_differencesTo_56 : decode cX6_differencesTo 56 = .ok (.iload_n 2, 1) := by decide +kernel
theorem dX6_differencesTo_57 : decode cX6_differencesTo 57 = .ok (.ireturn, 1) := by decide +kernel
set_option maxRecDepth 20000 in
theorem ggX6_exchangeRows_X6_exchange : GoodIn wsX6_exchangeRows wsX6_exchange := goodIn_r _ [6, 7, 8, 9, 5, 10, 11, 12, 13, 14, 15, 16, 17, 18, 19, 20] rfl (by decide +kernel)
set_option maxRecDepth 20000 in
theorem gX6_exchangeRows_X6_exchange : GoodIn wsX6_exchangeRows (wsV RX6 35 RX6 yX6_exchange wsX6_exchange) := goodIn_app (goodIn_of _ (by decide +kernel)) ggX6_exchangeRows_X6_exchange
theorem dX6_exchangeRows_0 : decode cX6_exchangeRows 0 = .ok (.iconst 0, 1) := by decide +kernel
theorem dX6_exchangeRows_1 : decode cX6_exchangeRows 1 = .ok (.istore_n 3, 1) := by decide +kernel
theorem dX6_exchangeRows_2 : decode cX6_exchangeRows 2 = .ok (.iload_n 3, 1) := by decide +kernel
theorem dX6_exchangeRows_3 : decode cX6_exchangeRows 3 = .ok (.aload_n 0, 1) := by decide +kernel
theorem dX6_exchangeRows_4 : decode cX6_exchangeRows 4 = .ok (.getfield 15, 3) := by decide +kernel
theorem dX6_exchangeRows_7 : decode cX6_exchangeRows 7 = .ok (.if_icmp .ge 17, 3) := by decide +kernel
theorem dX6_exchangeRows_10 : decode cX6_exchangeRows 10 = .ok (.aload_n 0, 1) := by decide +kernel
theorem dX6_exchangeRows_11 : decode cX6_exchangeRows 11 = .ok (.iload_n 1, 1) := by decide +kernel
theorem dX6_exchangeRows_12 : decode cX6_exchangeRows 12 = .ok (.iload_n 3, 1) := by decide +kernel
theorem dX6_exchangeRows_13 : decode cX6_exchangeRows 13 = .ok (.iload_n 2, 1) := by decide +kernel
theorem dX6_exchangeRows_14 : decode cX6_exchangeRows 14 = .ok (.iload_n 3, 1) := by decide +kernel
theorem dX6_exchangeRows_15 : decode cX6_exchangeRows 15 = .ok (.invokevirtual 35, 3) := by decide +kernel
theorem dX6_exchangeRows_18 : decode cX6_exchangeRows 18 = .ok (.iinc 3 1, 3) := by decide +kernel
theorem dX6_exchangeRows_21 : decode cX6_exchangeRows 21 = .ok (.goto (-19), 3) := by decide +kernel
theorem dX6_exchangeRows_24 : decode cX6_exchangeRows 24 = .ok (.return_, 1) := by decide +kernel
set_option maxRecDepth 20000 in
theorem ggX6_exchangeColumns_X6_exchange : GoodIn wsX6_exchangeColumns wsX6_exchange := goodIn_r _ [6, 7, 8, 9, 5, 10, 11, 12, 13, 14, 15, 16, 17, 18, 19, 20] rfl (by decide +kernel)
set_option maxRecDepth 20000 in
theorem gX6_exchangeColumns_X6_exchange : GoodIn wsX6_exchangeColumns (wsV RX6 35 RX6 yX6_exchange wsX6_exchange) := goodIn_app (goodIn_of _ (by decide +kernel)) ggX6_exchangeColumns_X6_exchange
theorem dX6_exchangeColumns_0 : decode cX6_exchangeColumns 0 = .ok (.iconst 0, 1) := by decide +kernel
theorem dX6_exchangeColumns_1 : decode cX6_exchangeColumns 1 = .ok (.istore_n 3, 1) := by decide +kernel
theorem dX6_exchangeColumns_2 : decode cX6_exchangeColumns 2 = .ok (.iload_n 3, 1) := by decide +kernel
theorem dX6_exchangeColumns_3 : decode cX6_exchangeColumns 3 = .ok (.aload_n 0, 1) := by decide +kernel
theorem dX6_exchangeColumns_4 : decode cX6_exchangeColumns 4 = .ok (.getfield 15, 3) := by decide +kernel
theorem dX6_exchangeColumns_7 : decode cX6_exchangeColumns 7 = .ok (.if_icmp .ge 17, 3) := by decide +kernel
theorem dX6_exchangeColumns_10 : decode cX6_exchangeColumns 10 = .ok (.aload_n 0, 1) := by decide +kernel
theorem dX6_exchangeColumns_11 : decode cX6_exchangeColumns 11 = .ok (.iload_n 3, 1) := by decide +kernel
theorem dX6_exchangeColumns_12 : decode cX6_exchangeColumns 12 = .ok (.iload_n 1, 1) := by decide +kernel
theorem dX6_exchangeColumns_13 : decode cX6_exchangeColumns 13 = .ok (.iload_n 3, 1) := by decide +kernel
theorem dX6_exchangeColumns_14 : decode cX6_exchangeColumns 14 = .ok (.iload_n 2, 1) := by decide +kernel
theorem dX6_exchangeColumns_15 : decode cX6_exchangeColumns 15 = .ok (.invokevirtual 35, 3) := by decide +kernel
theorem dX6_exchangeColumns_18 : decode cX6_exchangeColumns 18 = .ok (.iinc 3 1, 3) := by decide +kernel
theorem dX6_exchangeColumns_21 : decode cX6_exchangeColumns 21 = .ok (.goto (-19), 3) := by decide +kernel
theorem dX6_exchangeColumns_24 : decode cX6_exchangeColumns 24 = .ok (.return_, 1) := by decide +kernel
set_option maxRecDepth 20000 in
theorem ggX6_exchangeNames_X6_at : GoodIn wsX6_exchangeNames wsX6_at := goodIn_r _ [6, 7, 15, 16] rfl (by decide +kernel)
set_option maxRecDepth 20000 in
theorem gX6_exchangeNames_X6_at : GoodIn wsX6_exchangeNames (wsV RX6 31 RX6 yX6_at wsX6_at) := goodIn_app (goodIn_of _ (by decide +kernel)) ggX6_exchangeNames_X6_at
set_option maxRecDepth 20000 in
theorem ggX6_exchangeNames_X6_set : GoodIn wsX6_exchangeNames wsX6_set := goodIn_r _ [11, 7, 12, 13, 14, 15, 16] rfl (by decide +kernel)
set_option maxRecDepth 20000 in
theorem gX6_exchangeNames_X6_set : GoodIn wsX6_exchangeNames (wsV RX6 23 RX6 yX6_set wsX6_set) := goodIn_app (goodIn_of _ (by decide +kernel)) ggX6_exchangeNames_X6_set
theorem dX6_exchangeNames_0 : decode cX6_exchangeNames 0 = .ok (.iconst 0, 1) := by decide +kernel
theorem dX6_exchangeNames_1 : decode cX6_exchangeNames 1 = .ok (.istore_n 3, 1) := by decide +kernel
theorem dX6_exchangeNames_2 : decode cX6_exchangeNames 2 = .ok (.iload_n 3, 1) := by decide +kernel
theorem dX6_exchangeNames_3 : decode cX6_exchangeNames 3 = .ok (.aload_n 0, 1) := by decide +kernel
theorem dX6_exchangeNames_4 : decode cX6_exchangeNames 4 = .ok (.getfield 15, 3) := by decide +kernel
theorem dX6_exchangeNames_7 : decode cX6_exchangeNames 7 = .ok (.if_icmp .ge 65, 3) := by decide +kernel
theorem dX6_exchangeNames_10 : decode cX6_exchangeNames 10 = .ok (.iconst 0, 1) := by decide +kernel
theorem dX6_exchangeNames_11 : decode cX6_exchangeNames 11 = .ok (.istore 4, 2) := by decide +kernel
theorem dX6_exchangeNames_13 : decode cX6_exchangeNames 13 = .ok (.iload 4, 2) := by decide +kernel
theorem dX6_exchangeNames_15 : decode cX6_exchangeNames 15 = .ok (.aload_n 0, 1) := by decide +kernel
theorem dX6_exchangeNames_16 : decode cX6_exchangeNames 16 = .ok (.getfield 15, 3) := by decide +kernel
theorem dX6_exchangeNames_19 : decode cX6_exchangeNames 19 = .ok (.if_icmp .ge 47, 3) := by decide +kernel
theorem dX6_exchangeNames_22 : decode cX6_exchangeNames 22 = .ok (.aload_n 0, 1) := by decide +kernel
theorem dX6_exchangeNames_23 : decode cX6_exchangeNames 23 = .ok (.iload_n 3, 1) := by decide +kernel
theorem dX6_exchangeNames_24 : decode cX6_exchangeNames 24 = .ok (.iload 4, 2) := by decide +kernel
theorem dX6_exchangeNames_26 : decode cX6_exchangeNames 26 = .ok (.invokevirtual 31, 3) := by decide +kernel
theorem dX6_exchangeNames_29 : decode cX6_exchangeNames 29 = .ok (.istore 5, 2) := by decide +kernel
theorem dX6_exchangeNames_31 : decode cX6_exchangeNames 31 = .ok (.aload_n 0, 1) := by decide +kernel
theorem dX6_exchangeNames_32 : decode cX6_exchangeNames 32 = .ok (.iload_n 3, 1) := by decide +kernel
theorem dX6_exchangeNames_33 : decode cX6_exchangeNames 33 = .ok (.iload 4, 2) := by decide +kernel
theorem dX6_exchangeNames_35 : decode cX6_exchangeNames 35 = .ok (.iload 5, 2) := by decide +kernel
theorem dX6_exchangeNames_37 : decode cX6_exchangeNames 37 = .ok (.iload_n 1, 1) := by decide +kernel
theorem dX6_exchangeNames_38 : decode cX6_exchangeNames 38 = .ok (.if_icmp .ne 7, 3) := by decide +kernel
theorem dX6_exchangeNames_41 : decode cX6_exchangeNames 41 = .ok (.iload_n 2, 1) := by decide +kernel
theorem dX6_exchangeNames_42 : decode cX6_exchangeNames 42 = .ok (.goto 15, 3) := by decide +kernel
theorem dX6_exchangeNames_45 : decode cX6_exchangeNames 45 = .ok (.iload 5, 2) := by decide +kernel
theorem dX6_exchangeNames_47 : decode cX6_exchangeNames 47 = .ok (.iload_n 2, 1) := by decide +kernel
theorem dX6_exchangeNames_48 : decode cX6_exchangeNames 48 = .ok (.if_icmp .ne 7, 3) := by decide +kernel
theorem dX6_exchangeNames_51 : decode cX6_exchangeNames 51 = .ok (.iload_n 1, 1) := by decide +kernel
theorem dX6_exchangeNames_52 : decode cX6_exchangeNames 52 = .ok (.goto 5, 3) := by decide +kernel
theorem dX6_exchangeNames_55 : decode cX6_exchangeNames 55 = .ok (.iload 5, 2) := by decide +kernel
theorem dX6_exchangeNames_57 : decode cX6_exchangeNames 57 = .ok (.invokevirtual 23, 3) := by decide +kernel
theorem dX6_exchangeNames_60 : decode cX6_exchangeNames 60 = .ok (.iinc 4 1, 3) := by decide +kernel
theorem dX6_exchangeNames_63 : decode cX6_exchangeNames 63 = .ok (.goto (-50), 3) := by decide +kernel
theorem dX6_exchangeNames_66 : decode cX6_exchangeNames 66 = .ok (.iinc 3 1, 3) := by decide +kernel
theorem dX6_exchangeNames_69 : decode cX6_exchangeNames 69 = .ok (.goto (-67), 3) := by decide +kernel
theorem dX6_exchangeNames_72 : decode cX6_exchangeNames 72 = .ok (.return_, 1) := by decide +kernel
set_option maxRecDepth 20000 in
theorem ggX6_isLittleSquare_X6_at : GoodIn wsX6_isLittleSquare wsX6_at := goodIn_r _ [5, 6, 7, 8] rfl (by decide +kernel)
set_option maxRecDepth 20000 in
theorem gX6_isLittleSquare_X6_at : GoodIn wsX6_isLittleSquare (wsV RX6 31 RX6 yX6_at wsX6_at) := goodIn_app (goodIn_of _ (by decide +kernel)) ggX6_isLittleSquare_X6_at
theorem dX6_isLittleSquare_0 : decode cX6_isLittleSquare 0 = .ok (.aload_n 0, 1) := by decide +kernel
theorem dX6_isLittleSquare_1 : decode cX6_isLittleSquare 1 = .ok (.iload_n 1, 1) := by decide +kernel
theorem dX6_isLittleSquare_2 : decode cX6_isLittleSquare 2 = .ok (.iload_n 3, 1) := by decide +kernel
theorem dX6_isLittleSquare_3 : decode cX6_isLittleSquare 3 = .ok (.invokevirtual 31, 3) := by decide +kernel
theorem dX6_isLittleSquare_6 : decode cX6_isLittleSquare 6 = .ok (.aload_n 0, 1) := by decide +kernel
theorem dX6_isLittleSquare_7 : decode cX6_isLittleSquare 7 = .ok (.iload_n 2, 1) := by decide +kernel
theorem dX6_isLittleSquare_8 : decode cX6_isLittleSquare 8 = .ok (.iload 4, 2) := by decide +kernel
theorem dX6_isLittleSquare_10 : decode cX6_isLittleSquare 10 = .ok (.invokevirtual 31, 3) := by decide +kernel
theorem dX6_isLittleSquare_13 : decode cX6_isLittleSquare 13 = .ok (.if_icmp .ne 23, 3) := by decide +kernel
theorem dX6_isLittleSquare_16 : decode cX6_isLittleSquare 16 = .ok (.aload_n 0, 1) := by decide +kernel
theorem dX6_isLittleSquare_17 : decode cX6_isLittleSquare 17 = .ok (.iload_n 1, 1) := by decide +kernel
theorem dX6_isLittleSquare_18 : decode cX6_isLittleSquare 18 = .ok (.iload 4, 2) := by decide +kernel
theorem dX6_isLittleSquare_20 : decode cX6_isLittleSquare 20 = .ok (.invokevirtual 31, 3) := by decide +kernel
theorem dX6_isLittleSquare_23 : decode cX6_isLittleSquare 23 = .ok (.aload_n 0, 1) := by decide +kernel
theorem dX6_isLittleSquare_24 : decode cX6_isLittleSquare 24 = .ok (.iload_n 2, 1) := by decide +kernel
theorem dX6_isLittleSquare_25 : decode cX6_isLittleSquare 25 = .ok (.iload_n 3, 1) := by decide +kernel
theorem dX6_isLittleSquare_26 : decode cX6_isLittleSquare 26 = .ok (.invokevirtual 31, 3) := by decide +kernel
theorem dX6_isLittleSquare_29 : decode cX6_isLittleSquare 29 = .ok (.if_icmp .ne 7, 3) := by decide +kernel
theorem dX6_isLittleSquare_32 : decode cX6_isLittleSquare 32 = .ok (.iconst 1, 1) := by decide +kernel
theorem dX6_isLittleSquare_33 : decode cX6_isLittleSquare 33 = .ok (.goto 4, 3) := by decide +kernel
theorem dX6_isLittleSquare_36 : decode cX6_isLittleSquare 36 = .ok (.iconst 0, 1) := by decide +kernel
theorem dX6_isLittleSquare_37 : decode cX6_isLittleSquare 37 = .ok (.ireturn, 1) := by decide +kernel
set_option maxRecDepth 20000 in
theorem ggX6_swapSquare_X6_exchange : GoodIn wsX6_swapSquare wsX6_exchange := goodIn_r _ [5, 6, 7, 8, 4, 9, 10, 11, 12, 13, 14, 15, 16, 17, 18, 19] rfl (by decide +kernel)
set_option maxRecDepth 20000 in
theorem gX6_swapSquare_X6_exchange : GoodIn wsX6_swapSquare (wsV RX6 35 RX6 yX6_exchange wsX6_exchange) := goodIn_app (goodIn_of _ (by decide +kernel)) ggX6_swapSquare_X6_exchange
theorem dX6_swapSquare_0 : decode cX6_swapSquare 0 = .ok (.aload_n 0, 1) := by decide +kernel
theorem dX6_swapSquare_1 : decode cX6_swapSquare 1 = .ok (.iload_n 1, 1) := by decide +kernel
theorem dX6_swapSquare_2 : decode cX6_swapSquare 2 = .ok (.iload_n 3, 1) := by decide +kernel
theorem dX6_swapSquare_3 : decode cX6_swapSquare 3 = .ok (.iload_n 1, 1) := by decide +kernel
theorem dX6_swapSquare_4 : decode cX6_swapSquare 4 = .ok (.iload 4, 2) := by decide +kernel
theorem dX6_swapSquare_6 : decode cX6_swapSquare 6 = .ok (.invokevirtual 35, 3) := by decide +kernel
theorem dX6_swapSquare_9 : decode cX6_swapSquare 9 = .ok (.aload_n 0, 1) := by decide +kernel
theorem dX6_swapSquare_10 : decode cX6_swapSquare 10 = .ok (.iload_n 2, 1) := by decide +kernel
theorem dX6_swapSquare_11 : decode cX6_swapSquare 11 = .ok (.iload_n 3, 1) := by decide +kernel
theorem dX6_swapSquare_12 : decode cX6_swapSquare 12 = .ok (.iload_n 2, 1) := by decide +kernel
theorem dX6_swapSquare_13 : decode cX6_swapSquare 13 = .ok (.iload 4, 2) := by decide +kernel
theorem dX6_swapSquare_15 : decode cX6_swapSquare 15 = .ok (.invokevirtual 35, 3) := by decide +kernel
theorem dX6_swapSquare_18 : decode cX6_swapSquare 18 = .ok (.return_, 1) := by decide +kernel
set_option maxRecDepth 20000 in
theorem ggX6_exchange_X6_at : GoodIn wsX6_exchange wsX6_at := goodIn_r _ [5, 6, 14, 15] rfl (by decide +kernel)
set_option maxRecDepth 20000 in
theorem gX6_exchange_X6_at : GoodIn wsX6_exchange (wsV RX6 31 RX6 yX6_at wsX6_at) := goodIn_app (goodIn_of _ (by decide +kernel)) ggX6_exchange_X6_at
set_option maxRecDepth 20000 in
theorem ggX6_exchange_X6_set : GoodIn wsX6_exchange wsX6_set := goodIn_r _ [10, 6, 11, 12, 13, 14, 15] rfl (by decide +kernel)
set_option maxRecDepth 20000 in
theorem gX6_exchange_X6_set : GoodIn wsX6_exchange (wsV RX6 23 RX6 yX6_set wsX6_set) := goodIn_app (goodIn_of _ (by decide +kernel)) ggX6_exchange_X6_set
theorem dX6_exchange_0 : decode cX6_exchange 0 = .ok (.aload_n 0, 1) := by decide +kernel
theorem dX6_exchange_1 : decode cX6_exchange 1 = .ok (.iload_n 1, 1) := by decide +kernel
theorem dX6_exchange_2 : decode cX6_exchange 2 = .ok (.iload_n 2, 1) := by decide +kernel
theorem dX6_exchange_3 : decode cX6_exchange 3 = .ok (.invokevirtual 31, 3) := by decide +kernel
theorem dX6_exchange_6 : decode cX6_exchange 6 = .ok (.istore 5, 2) := by decide +kernel
theorem dX6_exchange_8 : decode cX6_exchange 8 = .ok (.aload_n 0, 1) := by decide +kernel
theorem dX6_exchange_9 : decode cX6_exchange 9 = .ok (.iload_n 1, 1) := by decide +kernel
theorem dX6_exchange_10 : decode cX6_exchange 10 = .ok (.iload_n 2, 1) := by decide +kernel
theorem dX6_exchange_11 : decode cX6_exchange 11 = .ok (.aload_n 0, 1) := by decide +kernel
theorem dX6_exchange_12 : decode cX6_exchange 12 = .ok (.iload_n 3, 1) := by decide +kernel
theorem dX6_exchange_13 : decode cX6_exchange 13 = .ok (.iload 4, 2) := by decide +kernel
theorem dX6_exchange_15 : decode cX6_exchange 15 = .ok (.invokevirtual 31, 3) := by decide +kernel
theorem dX6_exchange_18 : decode cX6_exchange 18 = .ok (.invokevirtual 23, 3) := by decide +kernel
theorem dX6_exchange_21 : decode cX6_exchange 21 = .ok (.aload_n 0, 1) := by decide +kernel
theorem dX6_exchange_22 : decode cX6_exchange 22 = .ok (.iload_n 3, 1) := by decide +kernel
theorem dX6_exchange_23 : decode cX6_exchange 23 = .ok (.iload 4, 2) := by decide +kernel
theorem dX6_exchange_25 : decode cX6_exchange 25 = .ok (.iload 5, 2) := by decide +kernel
theorem dX6_exchange_27 : decode cX6_exchange 27 = .ok (.invokevirtual 23, 3) := by decide +kernel
theorem dX6_exchange_30 : decode cX6_exchange 30 = .ok (.return_, 1) := by decide +kernel
set_option maxRecDepth 20000 in
theorem ggX6_readFrom_X1_signAt : GoodIn wsX6_readFrom wsX1_signAt := goodIn_r _ [6, 7, 8, 41, 42] rfl (by decide +kernel)
set_option maxRecDepth 20000 in
theorem gX6_readFrom_X1_signAt : GoodIn wsX6_readFrom (wsV RX6 39 RX1 yX1_signAt wsX1_signAt) := goodIn_app (goodIn_of _ (by decide +kernel)) ggX6_readFrom_X1_signAt
set_option maxRecDepth 20000 in
theorem ggX6_readFrom_X1_digitAt : GoodIn wsX6_readFrom wsX1_digitAt := goodIn_r _ [12, 13, 3, 4, 5, 6, 7, 8, 41, 42] rfl (by decide +kernel)
set_option maxRecDepth 20000 in
theorem gX6_readFrom_X1_digitAt : GoodIn wsX6_readFrom (wsV RX6 45 RX1 yX1_digitAt wsX1_digitAt) := goodIn_app (goodIn_of _ (by decide +kernel)) ggX6_readFrom_X1_digitAt
set_option maxRecDepth 20000 in
theorem ggX6_readFrom_X6_has : GoodIn wsX6_readFrom wsX6_has := goodIn_r _ [18, 1, 39, 40] rfl (by decide +kernel)
set_option maxRecDepth 20000 in
theorem gX6_readFrom_X6_has : GoodIn wsX6_readFrom (wsV RX6 49 RX6 yX6_has wsX6_has) := goodIn_app (goodIn_of _ (by decide +kernel)) ggX6_readFrom_X6_has
set_option maxRecDepth 20000 in
theorem ggX6_readFrom_X6_isTaken : GoodIn wsX6_readFrom wsX6_isTaken := goodIn_r _ [22, 23, 24, 25, 17, 26, 27, 39, 40] rfl (by decide +kernel)
set_option maxRecDepth 20000 in
theorem gX6_readFrom_X6_isTaken : GoodIn wsX6_readFrom (wsV RX6 53 RX6 yX6_isTaken wsX6_isTaken) := goodIn_app (goodIn_of _ (by decide +kernel)) ggX6_readFrom_X6_isTaken
set_option maxRecDepth 20000 in
theorem ggX6_readFrom_X6_set : GoodIn wsX6_readFrom wsX6_set := goodIn_r _ [31, 27, 32, 33, 34, 39, 40] rfl (by decide +kernel)
set_option maxRecDepth 20000 in
theorem gX6_readFrom_X6_set : GoodIn wsX6_readFrom (wsV RX6 23 RX6 yX6_set wsX6_set) := goodIn_app (goodIn_of _ (by decide +kernel)) ggX6_readFrom_X6_set
set_option maxRecDepth 20000 in
theorem ggX6_readFrom_X1_length : GoodIn wsX6_readFrom wsX1_length := goodIn_r _ [38, 7, 41, 42] rfl (by decide +kernel)
set_option maxRecDepth 20000 in
theorem gX6_readFrom_X1_length : GoodIn wsX6_readFrom (wsV RX6 57 RX1 yX1_length wsX1_length) := goodIn_app (goodIn_of _ (by decide +kernel)) ggX6_readFrom_X1_length
theorem dX6_readFrom_0 : decode cX6_readFrom 0 = .ok (.aload_n 0, 1) := by decide +kernel
theorem dX6_readFrom_1 : decode cX6_readFrom 1 = .ok (.iload_n 2, 1) := by decide +kernel
theorem dX6_readFrom_2 : decode cX6_readFrom 2 = .ok (.putfield 15, 3) := by decide +kernel
theorem dX6_readFrom_5 : decode cX6_readFrom 5 = .ok (.iconst 0, 1) := by decide +kernel
theorem dX6_readFrom_6 : decode cX6_readFrom 6 = .ok (.istore_n 3, 1) := by decide +kernel
theorem dX6_readFrom_7 : decode cX6_readFrom 7 = .ok (.iconst 0, 1) := by decide +kernel
theorem dX6_readFrom_8 : decode cX6_readFrom 8 = .ok (.istore 4, 2) := by decide +kernel
theorem dX6_readFrom_10 : decode cX6_readFrom 10 = .ok (.iload 4, 2) := by decide +kernel
theorem dX6_readFrom_12 : decode cX6_readFrom 12 = .ok (.aload_n 0, 1) := by decide +kernel
theorem dX6_readFrom_13 : decode cX6_readFrom 13 = .ok (.getfield 15, 3) := by decide +kernel
theorem dX6_readFrom_16 : decode cX6_readFrom 16 = .ok (.if_icmp .ge 91, 3) := by decide +kernel
theorem dX6_readFrom_19 : decode cX6_readFrom 19 = .ok (.iload 4, 2) := by decide +kernel
theorem dX6_readFrom_21 : decode cX6_readFrom 21 = .ok (.ifCond .le 18, 3) := by decide +kernel
theorem dX6_readFrom_24 : decode cX6_readFrom 24 = .ok (.aload_n 1, 1) := by decide +kernel
theorem dX6_readFrom_25 : decode cX6_readFrom 25 = .ok (.iload_n 3, 1) := by decide +kernel
theorem dX6_readFrom_26 : decode cX6_readFrom 26 = .ok (.invokevirtual 39, 3) := by decide +kernel
theorem dX6_readFrom_29 : decode cX6_readFrom 29 = .ok (.bipush 47, 2) := by decide +kernel
theorem dX6_readFrom_31 : decode cX6_readFrom 31 = .ok (.if_icmp .eq 5, 3) := by decide +kernel
theorem dX6_readFrom_34 : decode cX6_readFrom 34 = .ok (.iload_n 3, 1) := by decide +kernel
theorem dX6_readFrom_35 : decode cX6_readFrom 35 = .ok (.ireturn, 1) := by decide +kernel
theorem dX6_readFrom_36 : decode cX6_readFrom 36 = .ok (.iinc 3 1, 3) := by decide +kernel
theorem dX6_readFrom_39 : decode cX6_readFrom 39 = .ok (.iconst 0, 1) := by decide +kernel
theorem dX6_readFrom_40 : decode cX6_readFrom 40 = .ok (.istore 5, 2) := by decide +kernel
theorem dX6_readFrom_42 : decode cX6_readFrom 42 = .ok (.iload 5, 2) := by decide +kernel
theorem dX6_readFrom_44 : decode cX6_readFrom 44 = .ok (.aload_n 0, 1) := by decide +kernel
theorem dX6_readFrom_45 : decode cX6_readFrom 45 = .ok (.getfield 15, 3) := by decide +kernel
theorem dX6_readFrom_48 : decode cX6_readFrom 48 = .ok (.if_icmp .ge 53, 3) := by decide +kernel
theorem dX6_readFrom_51 : decode cX6_readFrom 51 = .ok (.aload_n 1, 1) := by decide +kernel
theorem dX6_readFrom_52 : decode cX6_readFrom 52 = .ok (.iload_n 3, 1) := by decide +kernel
theorem dX6_readFrom_53 : decode cX6_readFrom 53 = .ok (.invokevirtual 45, 3) := by decide +kernel
theorem dX6_readFrom_56 : decode cX6_readFrom 56 = .ok (.istore 6, 2) := by decide +kernel
theorem dX6_readFrom_58 : decode cX6_readFrom 58 = .ok (.aload_n 0, 1) := by decide +kernel
theorem dX6_readFrom_59 : decode cX6_readFrom 59 = .ok (.iload 6, 2) := by decide +kernel
theorem dX6_readFrom_61 : decode cX6_readFrom 61 = .ok (.invokevirtual 49, 3) := by decide +kernel
theorem dX6_readFrom_64 : decode cX6_readFrom 64 = .ok (.ifCond .eq 16, 3) := by decide +kernel
theorem dX6_readFrom_67 : decode cX6_readFrom 67 = .ok (.aload_n 0, 1) := by decide +kernel
theorem dX6_readFrom_68 : decode cX6_readFrom 68 = .ok (.iload 4, 2) := by decide +kernel
theorem dX6_readFrom_70 : decode cX6_readFrom 70 = .ok (.iload 5, 2) := by decide +kernel
theorem dX6_readFrom_72 : decode cX6_readFrom 72 = .ok (.iload 6, 2) := by decide +kernel
theorem dX6_readFrom_74 : decode cX6_readFrom 74 = .ok (.invokevirtual 53, 3) := by decide +kernel
theorem dX6_readFrom_77 : decode cX6_readFrom 77 = .ok (.ifCond .eq 5, 3) := by decide +kernel
theorem dX6_readFrom_80 : decode cX6_readFrom 80 = .ok (.iload_n 3, 1) := by decide +kernel
theorem dX6_readFrom_81 : decode cX6_readFrom 81 = .ok (.ireturn, 1) := by decide +kernel
theorem dX6_readFrom_82 : decode cX6_readFrom 82 = .ok (.aload_n 0, 1) := by decide +kernel
theorem dX6_readFrom_83 : decode cX6_readFrom 83 = .ok (.iload 4, 2) := by decide +kernel
theorem dX6_readFrom_85 : decode cX6_readFrom 85 = .ok (.iload 5, 2) := by decide +kernel
theorem dX6_readFrom_87 : decode cX6_readFrom 87 = .ok (.iload 6, 2) := by decide +kernel
theorem dX6_readFrom_89 : decode cX6_readFrom 89 = .ok (.invokevirtual 23, 3) := by decide +kernel
theorem dX6_readFrom_92 : decode cX6_readFrom 92 = .ok (.iinc 3 1, 3) := by decide +kernel
theorem dX6_readFrom_95 : decode cX6_readFrom 95 = .ok (.iinc 5 1, 3) := by decide +kernel
theorem dX6_readFrom_98 : decode cX6_readFrom 98 = .ok (.goto (-56), 3) := by decide +kernel
theorem dX6_readFrom_101 : decode cX6_readFrom 101 = .ok (.iinc 4 1, 3) := by decide +kernel
theorem dX6_readFrom_104 : decode cX6_readFrom 104 = .ok (.goto (-94), 3) := by decide +kernel
theorem dX6_readFrom_107 : decode cX6_readFrom 107 = .ok (.iload_n 3, 1) := by decide +kernel
theorem dX6_readFrom_108 : decode cX6_readFrom 108 = .ok (.aload_n 1, 1) := by decide +kernel
theorem dX6_readFrom_109 : decode cX6_readFrom 109 = .ok (.invokevirtual 57, 3) := by decide +kernel
theorem dX6_readFrom_112 : decode cX6_readFrom 112 = .ok (.if_icmp .ge 7, 3) := by decide +kernel
theorem dX6_readFrom_115 : decode cX6_readFrom 115 = .ok (.iload_n 3, 1) := by decide +kernel
theorem dX6_readFrom_116 : decode cX6_readFrom 116 = .ok (.goto 5, 3) := by decide +kernel
theorem dX6_readFrom_119 : decode cX6_readFrom 119 = .ok (.bipush (-4), 2) := by decide +kernel
theorem dX6_readFrom_121 : decode cX6_readFrom 121 = .ok (.ireturn, 1) := by decide +kernel
set_option maxRecDepth 20000 in
theorem ggX6_isTaken_X6_at : GoodIn wsX6_isTaken wsX6_at := goodIn_r _ [5, 6, 7, 8] rfl (by decide +kernel)
set_option maxRecDepth 20000 in
theorem gX6_isTaken_X6_at : GoodIn wsX6_isTaken (wsV RX6 31 RX6 yX6_at wsX6_at) := goodIn_app (goodIn_of _ (by decide +kernel)) ggX6_isTaken_X6_at
theorem dX6_isTaken_0 : decode cX6_isTaken 0 = .ok (.iconst 0, 1) := by decide +kernel
theorem dX6_isTaken_1 : decode cX6_isTaken 1 = .ok (.istore 4, 2) := by decide +kernel
theorem dX6_isTaken_3 : decode cX6_isTaken 3 = .ok (.iload 4, 2) := by decide +kernel
theorem dX6_isTaken_5 : decode cX6_isTaken 5 = .ok (.iload_n 2, 1) := by decide +kernel
theorem dX6_isTaken_6 : decode cX6_isTaken 6 = .ok (.if_icmp .ge 22, 3) := by decide +kernel
theorem dX6_isTaken_9 : decode cX6_isTaken 9 = .ok (.aload_n 0, 1) := by decide +kernel
theorem dX6_isTaken_10 : decode cX6_isTaken 10 = .ok (.iload_n 1, 1) := by decide +kernel
theorem dX6_isTaken_11 : decode cX6_isTaken 11 = .ok (.iload 4, 2) := by decide +kernel
theorem dX6_isTaken_13 : decode cX6_isTaken 13 = .ok (.invokevirtual 31, 3) := by decide +kernel
theorem dX6_isTaken_16 : decode cX6_isTaken 16 = .ok (.iload_n 3, 1) := by decide +kernel
theorem dX6_isTaken_17 : decode cX6_isTaken 17 = .ok (.if_icmp .ne 5, 3) := by decide +kernel
theorem dX6_isTaken_20 : decode cX6_isTaken 20 = .ok (.iconst 1, 1) := by decide +kernel
theorem dX6_isTaken_21 : decode cX6_isTaken 21 = .ok (.ireturn, 1) := by decide +kernel
theorem dX6_isTaken_22 : decode cX6_isTaken 22 = .ok (.iinc 4 1, 3) := by decide +kernel
theorem dX6_isTaken_25 : decode cX6_isTaken 25 = .ok (.goto (-22), 3) := by decide +kernel
theorem dX6_isTaken_28 : decode cX6_isTaken 28 = .ok (.iconst 0, 1) := by decide +kernel
theorem dX6_isTaken_29 : decode cX6_isTaken 29 = .ok (.istore 4, 2) := by decide +kernel
theorem dX6_isTaken_31 : decode cX6_isTaken 31 = .ok (.iload 4, 2) := by decide +kernel
theorem dX6_isTaken_33 : decode cX6_isTaken 33 = .ok (.iload_n 1, 1) := by decide +kernel
theorem dX6_isTaken_34 : decode cX6_isTaken 34 = .ok (.if_icmp .ge 22, 3) := by decide +kernel
theorem dX6_isTaken_37 : decode cX6_isTaken 37 = .ok (.aload_n 0, 1) := by decide +kernel
theorem dX6_isTaken_38 : decode cX6_isTaken 38 = .ok (.iload 4, 2) := by decide +kernel
theorem dX6_isTaken_40 : decode cX6_isTaken 40 = .ok (.iload_n 2, 1) := by decide +kernel
theorem dX6_isTaken_41 : decode cX6_isTaken 41 = .ok (.invokevirtual 31, 3) := by decide +kernel
theorem dX6_isTaken_44 : decode cX6_isTaken 44 = .ok (.iload_n 3, 1) := by decide +kernel
theorem dX6_isTaken_45 : decode cX6_isTaken 45 = .ok (.if_icmp .ne 5, 3) := by decide +kernel
theorem dX6_isTaken_48 : decode cX6_isTaken 48 = .ok (.iconst 1, 1) := by decide +kernel
theorem dX6_isTaken_49 : decode cX6_isTaken 49 = .ok (.ireturn, 1) := by decide +kernel
theorem dX6_isTaken_50 : decode cX6_isTaken 50 = .ok (.iinc 4 1, 3) := by decide +kernel
theorem dX6_isTaken_53 : decode cX6_isTaken 53 = .ok (.goto (-22), 3) := by decide +kernel
theorem dX6_isTaken_56 : decode cX6_isTaken 56 = .ok (.iconst 0, 1) := by decide +kernel
theorem dX6_isTaken_57 : decode cX6_isTaken 57 = .ok (.ireturn, 1) := by decide +kernel
set_option maxRecDepth 20000 in
theorem ggX7_added_X6_at : GoodIn wsX7_added wsX6_at := goodIn_r _ [5, 6, 7, 8] rfl (by decide +kernel)
set_option maxRecDepth 20000 in
theorem gX7_added_X6_at : GoodIn wsX7_added (wsV RX7 9 RX6 yX6_at wsX6_at) := goodIn_app (goodIn_of _ (by decide +kernel)) ggX7_added_X6_at
theorem dX7_added_0 : decode cX7_added 0 = .ok (.iload_n 3, 1) := by decide +kernel
theorem dX7_added_1 : decode cX7_added 1 = .ok (.ifCond .eq 12, 3) := by decide +kernel
theorem dX7_added_4 : decode cX7_added 4 = .ok (.aload_n 0, 1) := by decide +kernel
theorem dX7_added_5 : decode cX7_added 5 = .ok (.iload_n 2, 1) := by decide +kernel
theorem dX7_added_6 : decode cX7_added 6 = .ok (.iload_n 1, 1) := by decide +kernel
theorem dX7_added_7 : decode cX7_added 7 = .ok (.invokevirtual 9, 3) := by decide +kernel
theorem dX7_added_10 : decode cX7_added 10 = .ok (.goto 9, 3) := by decide +kernel
theorem dX7_added_13 : decode cX7_added 13 = .ok (.aload_n 0, 1) := by decide +kernel
theorem dX7_added_14 : decode cX7_added 14 = .ok (.iload_n 1, 1) := by decide +kernel
theorem dX7_added_15 : decode cX7_added 15 = .ok (.iload_n 2, 1) := by decide +kernel
theorem dX7_added_16 : decode cX7_added 16 = .ok (.invokevirtual 9, 3) := by decide +kernel
theorem dX7_added_19 : decode cX7_added 19 = .ok (.ireturn, 1) := by decide +kernel
set_option maxRecDepth 20000 in
theorem ggX7_addedBetween_X6_size : GoodIn wsX7_addedBetween wsX6_size := goodIn_r _ [5, 6, 16, 17] rfl (by decide +kernel)
set_option maxRecDepth 20000 in
theorem gX7_addedBetween_X6_size : GoodIn wsX7_addedBetween (wsV RX7 15 RX6 yX6_size wsX6_size) := goodIn_app (goodIn_of _ (by decide +kernel)) ggX7_addedBetween_X6_size
set_option maxRecDepth 20000 in
theorem ggX7_addedBetween_X7_added : GoodIn wsX7_addedBetween wsX7_added := goodIn_r _ [10, 11, 12, 13, 4, 14, 15, 16, 17] rfl (by decide +kernel)
set_option maxRecDepth 20000 in
theorem gX7_addedBetween_X7_added : GoodIn wsX7_addedBetween (va_wsS RX7 19 yX7_added wsX7_added) := goodIn_app (goodIn_of _ (by decide +kernel)) ggX7_addedBetween_X7_added
theorem dX7_addedBetween_0 : decode cX7_addedBetween 0 = .ok (.iconst 0, 1) := by decide +kernel
theorem dX7_addedBetween_1 : decode cX7_addedBetween 1 = .ok (.istore 4, 2) := by decide +kernel
theorem dX7_addedBetween_3 : decode cX7_addedBetween 3 = .ok (.iload 4, 2) := by decide +kernel
theorem dX7_addedBetween_5 : decode cX7_addedBetween 5 = .ok (.aload_n 0, 1) := by decide +kernel
theorem dX7_addedBetween_6 : decode cX7_addedBetween 6 = .ok (.invokevirtual 15, 3) := by decide +kernel
theorem dX7_addedBetween_9 : decode cX7_addedBetween 9 = .ok (.if_icmp .ge 24, 3) := by decide +kernel
theorem dX7_addedBetween_12 : decode cX7_addedBetween 12 = .ok (.aload_n 0, 1) := by decide +kernel
theorem dX7_addedBetween_13 : decode cX7_addedBetween 13 = .ok (.iload_n 1, 1) := by decide +kernel
theorem dX7_addedBetween_14 : decode cX7_addedBetween 14 = .ok (.iload 4, 2) := by decide +kernel
theorem dX7_addedBetween_16 : decode cX7_addedBetween 16 = .ok (.iload_n 3, 1) := by decide +kernel
theorem dX7_addedBetween_17 : decode cX7_addedBetween 17 = .ok (.invokestatic 19, 3) := by decide +kernel
theorem dX7_addedBetween_20 : decode cX7_addedBetween 20 = .ok (.iload_n 2, 1) := by decide +kernel
theorem dX7_addedBetween_21 : decode cX7_addedBetween 21 = .ok (.if_icmp .ne 6, 3) := by decide +kernel
theorem dX7_addedBetween_24 : decode cX7_addedBetween 24 = .ok (.iload 4, 2) := by decide +kernel
theorem dX7_addedBetween_26 : decode cX7_addedBetween 26 = .ok (.ireturn, 1) := by decide +kernel
theorem dX7_addedBetween_27 : decode cX7_addedBetween 27 = .ok (.iinc 4 1, 3) := by decide +kernel
theorem dX7_addedBetween_30 : decode cX7_addedBetween 30 = .ok (.goto (-27), 3) := by decide +kernel
theorem dX7_addedBetween_33 : decode cX7_addedBetween 33 = .ok (.bipush (-4), 2) := by decide +kernel
theorem dX7_addedBetween_35 : decode cX7_addedBetween 35 = .ok (.ireturn, 1) := by decide +kernel
set_option maxRecDepth 20000 in
theorem ggX7_timesToReturn_X7_added : GoodIn wsX7_timesToReturn wsX7_added := goodIn_r _ [4, 5, 6, 7, 8, 9, 10, 11, 12] rfl (by decide +kernel)
set_option maxRecDepth 20000 in
theorem gX7_timesToReturn_X7_added : GoodIn wsX7_timesToReturn (va_wsS RX7 19 yX7_added wsX7_added) := goodIn_app (goodIn_of _ (by decide +kernel)) ggX7_timesToReturn_X7_added
theorem dX7_timesToReturn_0 : decode cX7_timesToReturn 0 = .ok (.iload_n 1, 1) := by decide +kernel
theorem dX7_timesToReturn_1 : decode cX7_timesToReturn 1 = .ok (.istore 4, 2) := by decide +kernel
theorem dX7_timesToReturn_3 : decode cX7_timesToReturn 3 = .ok (.iconst 1, 1) := by decide +kernel
theorem dX7_timesToReturn_4 : decode cX7_timesToReturn 4 = .ok (.istore 5, 2) := by decide +kernel
theorem dX7_timesToReturn_6 : decode cX7_timesToReturn 6 = .ok (.iload 5, 2) := by decide +kernel
theorem dX7_timesToReturn_8 : decode cX7_timesToReturn 8 = .ok (.bipush 8, 2) := by decide +kernel
theorem dX7_timesToReturn_10 : decode cX7_timesToReturn 10 = .ok (.if_icmp .gt 28, 3) := by decide +kernel
theorem dX7_timesToReturn_13 : decode cX7_timesToReturn 13 = .ok (.aload_n 0, 1) := by decide +kernel
theorem dX7_timesToReturn_14 : decode cX7_timesToReturn 14 = .ok (.iload 4, 2) := by decide +kernel
theorem dX7_timesToReturn_16 : decode cX7_timesToReturn 16 = .ok (.iload_n 2, 1) := by decide +kernel
theorem dX7_timesToReturn_17 : decode cX7_timesToReturn 17 = .ok (.iload_n 3, 1) := by decide +kernel
theorem dX7_timesToReturn_18 : decode cX7_timesToReturn 18 = .ok (.invokestatic 19, 3) := by decide +kernel
theorem dX7_timesToReturn_21 : decode cX7_timesToReturn 21 = .ok (.istore 4, 2) := by decide +kernel
theorem dX7_timesToReturn_23 : decode cX7_timesToReturn 23 = .ok (.iload 4, 2) := by decide +kernel
theorem dX7_timesToReturn_25 : decode cX7_timesToReturn 25 = .ok (.iload_n 1, 1) := by decide +kernel
theorem dX7_timesToReturn_26 : decode cX7_timesToReturn 26 = .ok (.if_icmp .ne 6, 3) := by decide +kernel
theorem dX7_timesToReturn_29 : decode cX7_timesToReturn 29 = .ok (.iload 5, 2) := by decide +kernel
theorem dX7_timesToReturn_31 : decode cX7_timesToReturn 31 = .ok (.ireturn, 1) := by decide +kernel
theorem dX7_timesToReturn_32 : decode cX7_timesToReturn 32 = .ok (.iinc 5 1, 3) := by decide +kernel
theorem dX7_timesToReturn_35 : decode cX7_timesToReturn 35 = .ok (.goto (-29), 3) := by decide +kernel
theorem dX7_timesToReturn_38 : decode cX7_timesToReturn 38 = .ok (.bipush (-4), 2) := by decide +kernel
theorem dX7_timesToReturn_40 : decode cX7_timesToReturn 40 = .ok (.ireturn, 1) := by decide +kernel
set_option maxRecDepth 20000 in
theorem ggX7_rounds_X6_size : GoodIn wsX7_rounds wsX6_size := goodIn_r _ [5, 6, 16, 17] rfl (by decide +kernel)
set_option maxRecDepth 20000 in
theorem gX7_rounds_X6_size : GoodIn wsX7_rounds (wsV RX7 15 RX6 yX6_size wsX6_size) := goodIn_app (goodIn_of _ (by decide +kernel)) ggX7_rounds_X6_size
set_option maxRecDepth 20000 in
theorem ggX7_rounds_X7_isLeastOfRound : GoodIn wsX7_rounds wsX7_isLeastOfRound := goodIn_r _ [10, 11, 12, 13, 4, 14, 15, 16, 17] rfl (by decide +kernel)
set_option maxRecDepth 20000 in
theorem gX7_rounds_X7_isLeastOfRound : GoodIn wsX7_rounds (va_wsS RX7 25 yX7_isLeastOfRound wsX7_isLeastOfRound) := goodIn_app (goodIn_of _ (by decide +kernel)) ggX7_rounds_X7_isLeastOfRound
theorem dX7_rounds_0 : decode cX7_rounds 0 = .ok (.iconst 0, 1) := by decide +kernel
theorem dX7_rounds_1 : decode cX7_rounds 1 = .ok (.istore_n 2, 1) := by decide +kernel
theorem dX7_rounds_2 : decode cX7_rounds 2 = .ok (.iconst 0, 1) := by decide +kernel
theorem dX7_rounds_3 : decode cX7_rounds 3 = .ok (.istore_n 3, 1) := by decide +kernel
theorem dX7_rounds_4 : decode cX7_rounds 4 = .ok (.iload_n 3, 1) := by decide +kernel
theorem dX7_rounds_5 : decode cX7_rounds 5 = .ok (.aload_n 0, 1) := by decide +kernel
theorem dX7_rounds_6 : decode cX7_rounds 6 = .ok (.invokevirtual 15, 3) := by decide +kernel
theorem dX7_rounds_9 : decode cX7_rounds 9 = .ok (.if_icmp .ge 21, 3) := by decide +kernel
theorem dX7_rounds_12 : decode cX7_rounds 12 = .ok (.aload_n 0, 1) := by decide +kernel
theorem dX7_rounds_13 : decode cX7_rounds 13 = .ok (.iload_n 3, 1) := by decide +kernel
theorem dX7_rounds_14 : decode cX7_rounds 14 = .ok (.iload_n 1, 1) := by decide +kernel
theorem dX7_rounds_15 : decode cX7_rounds 15 = .ok (.invokestatic 25, 3) := by decide +kernel
theorem dX7_rounds_18 : decode cX7_rounds 18 = .ok (.ifCond .eq 6, 3) := by decide +kernel
theorem dX7_rounds_21 : decode cX7_rounds 21 = .ok (.iinc 2 1, 3) := by decide +kernel
theorem dX7_rounds_24 : decode cX7_rounds 24 = .ok (.iinc 3 1, 3) := by decide +kernel
theorem dX7_rounds_27 : decode cX7_rounds 27 = .ok (.goto (-23), 3) := by decide +kernel
theorem dX7_rounds_30 : decode cX7_rounds 30 = .ok (.iload_n 2, 1) := by decide +kernel
theorem dX7_rounds_31 : decode cX7_rounds 31 = .ok (.ireturn, 1) := by decide +kernel
set_option maxRecDepth 20000 in
theorem ggX7_isLeastOfRound_X6_at : GoodIn wsX7_isLeastOfRound wsX6_at := goodIn_r _ [5, 6, 7, 8] rfl (by decide +kernel)
set_option maxRecDepth 20000 in
theorem gX7_isLeastOfRound_X6_at : GoodIn wsX7_isLeastOfRound (wsV RX7 9 RX6 yX6_at wsX6_at) := goodIn_app (goodIn_of _ (by decide +kernel)) ggX7_isLeastOfRound_X6_at
theorem dX7_isLeastOfRound_0 : decode cX7_isLeastOfRound 0 = .ok (.iload_n 1, 1) := by decide +kernel
theorem dX7_isLeastOfRound_1 : decode cX7_isLeastOfRound 1 = .ok (.istore_n 3, 1) := by decide +kernel
theorem dX7_isLeastOfRound_2 : decode cX7_isLeastOfRound 2 = .ok (.iconst 0, 1) := by decide +kernel
theorem dX7_isLeastOfRound_3 : decode cX7_isLeastOfRound 3 = .ok (.istore 4, 2) := by decide +kernel
theorem dX7_isLeastOfRound_5 : decode cX7_isLeastOfRound 5 = .ok (.iload 4, 2) := by decide +kernel
theorem dX7_isLeastOfRound_7 : decode cX7_isLeastOfRound 7 = .ok (.bipush 8, 2) := by decide +kernel
theorem dX7_isLeastOfRound_9 : decode cX7_isLeastOfRound 9 = .ok (.if_icmp .ge 23, 3) := by decide +kernel
theorem dX7_isLeastOfRound_12 : decode cX7_isLeastOfRound 12 = .ok (.aload_n 0, 1) := by decide +kernel
theorem dX7_isLeastOfRound_13 : decode cX7_isLeastOfRound 13 = .ok (.iload_n 2, 1) := by decide +kernel
theorem dX7_isLeastOfRound_14 : decode cX7_isLeastOfRound 14 = .ok (.iload_n 3, 1) := by decide +kernel
theorem dX7_isLeastOfRound_15 : decode cX7_isLeastOfRound 15 = .ok (.invokevirtual 9, 3) := by decide +kernel
theorem dX7_isLeastOfRound_18 : decode cX7_isLeastOfRound 18 = .ok (.istore_n 3, 1) := by decide +kernel
theorem dX7_isLeastOfRound_19 : decode cX7_isLeastOfRound 19 = .ok (.iload_n 3, 1) := by decide +kernel
theorem dX7_isLeastOfRound_20 : decode cX7_isLeastOfRound 20 = .ok (.iload_n 1, 1) := by decide +kernel
theorem dX7_isLeastOfRound_21 : decode cX7_isLeastOfRound 21 = .ok (.if_icmp .ge 5, 3) := by decide +kernel
theorem dX7_isLeastOfRound_24 : decode cX7_isLeastOfRound 24 = .ok (.iconst 0, 1) := by decide +kernel
theorem dX7_isLeastOfRound_25 : decode cX7_isLeastOfRound 25 = .ok (.ireturn, 1) := by decide +kernel
theorem dX7_isLeastOfRound_26 : decode cX7_isLeastOfRound 26 = .ok (.iinc 4 1, 3) := by decide +kernel
theorem dX7_isLeastOfRound_29 : decode cX7_isLeastOfRound 29 = .ok (.goto (-24), 3) := by decide +kernel
theorem dX7_isLeastOfRound_32 : decode cX7_isLeastOfRound 32 = .ok (.iconst 1, 1) := by decide +kernel
theorem dX7_isLeastOfRound_33 : decode cX7_isLeastOfRound 33 = .ok (.ireturn, 1) := by decide +kernel
set_option maxRecDepth 20000 in
theorem ggX7_timesToReturnAll_X7_allReturnBehind : GoodIn wsX7_timesToReturnAll wsX7_allReturnBehind := goodIn_r _ [4, 5, 6, 7, 8, 9, 10, 11, 12, 3, 13, 14, 15, 16, 17, 18, 19, 20, 21, 22, 23] rfl (by decide +kernel)
set_option maxRecDepth 20000 in
theorem gX7_timesToReturnAll_X7_allReturnBehind : GoodIn wsX7_timesToReturnAll (va_wsS RX7 29 yX7_allReturnBehind wsX7_allReturnBehind) := goodIn_app (goodIn_of _ (by decide +kernel)) ggX7_timesToReturnAll_X7_allReturnBehind
theorem dX7_timesToReturnAll_0 : decode cX7_timesToReturnAll 0 = .ok (.iconst 1, 1) := by decide +kernel
theorem dX7_timesToReturnAll_1 : decode cX7_timesToReturnAll 1 = .ok (.istore_n 2, 1) := by decide +kernel
theorem dX7_timesToReturnAll_2 : decode cX7_timesToReturnAll 2 = .ok (.iload_n 2, 1) := by decide +kernel
theorem dX7_timesToReturnAll_3 : decode cX7_timesToReturnAll 3 = .ok (.sipush 840, 3) := by decide +kernel
theorem dX7_timesToReturnAll_6 : decode cX7_timesToReturnAll 6 = .ok (.if_icmp .gt 20, 3) := by decide +kernel
theorem dX7_timesToReturnAll_9 : decode cX7_timesToReturnAll 9 = .ok (.aload_n 0, 1) := by decide +kernel
theorem dX7_timesToReturnAll_10 : decode cX7_timesToReturnAll 10 = .ok (.iload_n 1, 1) := by decide +kernel
theorem dX7_timesToReturnAll_11 : decode cX7_timesToReturnAll 11 = .ok (.iload_n 2, 1) := by decide +kernel
theorem dX7_timesToReturnAll_12 : decode cX7_timesToReturnAll 12 = .ok (.invokestatic 29, 3) := by decide +kernel
theorem dX7_timesToReturnAll_15 : decode cX7_timesToReturnAll 15 = .ok (.ifCond .eq 5, 3) := by decide +kernel
theorem dX7_timesToReturnAll_18 : decode cX7_timesToReturnAll 18 = .ok (.iload_n 2, 1) := by decide +kernel
theorem dX7_timesToReturnAll_19 : decode cX7_timesToReturnAll 19 = .ok (.ireturn, 1) := by decide +kernel
theorem dX7_timesToReturnAll_20 : decode cX7_timesToReturnAll 20 = .ok (.iinc 2 1, 3) := by decide +kernel
theorem dX7_timesToReturnAll_23 : decode cX7_timesToReturnAll 23 = .ok (.goto (-21), 3) := by decide +kernel
theorem dX7_timesToReturnAll_26 : decode cX7_timesToReturnAll 26 = .ok (.bipush (-4), 2) := by decide +kernel
theorem dX7_timesToReturnAll_28 : decode cX7_timesToReturnAll 28 = .ok (.ireturn, 1) := by decide +kernel
set_option maxRecDepth 20000 in
theorem ggX7_allReturnBehind_X6_size : GoodIn wsX7_allReturnBehind wsX6_size := goodIn_r _ [5, 6, 19, 20] rfl (by decide +kernel)
set_option maxRecDepth 20000 in
theorem gX7_allReturnBehind_X6_size : GoodIn wsX7_allReturnBehind (wsV RX7 15 RX6 yX6_size wsX6_size) := goodIn_app (goodIn_of _ (by decide +kernel)) ggX7_allReturnBehind_X6_size
set_option maxRecDepth 20000 in
theorem ggX7_allReturnBehind_X7_timesToReturn : GoodIn wsX7_allReturnBehind wsX7_timesToReturn := goodIn_r _ [10, 11, 12, 9, 13, 14, 15, 16, 4, 17, 18, 19, 20] rfl (by decide +kernel)
set_option maxRecDepth 20000 in
theorem gX7_allReturnBehind_X7_timesToReturn : GoodIn wsX7_allReturnBehind (va_wsS RX7 32 yX7_timesToReturn wsX7_timesToReturn) := goodIn_app (goodIn_of _ (by decide +kernel)) ggX7_allReturnBehind_X7_timesToReturn
theorem dX7_allReturnBehind_0 : decode cX7_allReturnBehind 0 = .ok (.iconst 0, 1) := by decide +kernel
theorem dX7_allReturnBehind_1 : decode cX7_allReturnBehind 1 = .ok (.istore_n 3, 1) := by decide +kernel
theorem dX7_allReturnBehind_2 : decode cX7_allReturnBehind 2 = .ok (.iload_n 3, 1) := by decide +kernel
theorem dX7_allReturnBehind_3 : decode cX7_allReturnBehind 3 = .ok (.aload_n 0, 1) := by decide +kernel
theorem dX7_allReturnBehind_4 : decode cX7_allReturnBehind 4 = .ok (.invokevirtual 15, 3) := by decide +kernel
theorem dX7_allReturnBehind_7 : decode cX7_allReturnBehind 7 = .ok (.if_icmp .ge 32, 3) := by decide +kernel
theorem dX7_allReturnBehind_10 : decode cX7_allReturnBehind 10 = .ok (.aload_n 0, 1) := by decide +kernel
theorem dX7_allReturnBehind_11 : decode cX7_allReturnBehind 11 = .ok (.iload_n 3, 1) := by decide +kernel
theorem dX7_allReturnBehind_12 : decode cX7_allReturnBehind 12 = .ok (.iload_n 1, 1) := by decide +kernel
theorem dX7_allReturnBehind_13 : decode cX7_allReturnBehind 13 = .ok (.iconst 1, 1) := by decide +kernel
theorem dX7_allReturnBehind_14 : decode cX7_allReturnBehind 14 = .ok (.invokestatic 32, 3) := by decide +kernel
theorem dX7_allReturnBehind_17 : decode cX7_allReturnBehind 17 = .ok (.istore 4, 2) := by decide +kernel
theorem dX7_allReturnBehind_19 : decode cX7_allReturnBehind 19 = .ok (.iload 4, 2) := by decide +kernel
theorem dX7_allReturnBehind_21 : decode cX7_allReturnBehind 21 = .ok (.ifCond .le 10, 3) := by decide +kernel
theorem dX7_allReturnBehind_24 : decode cX7_allReturnBehind 24 = .ok (.iload_n 2, 1) := by decide +kernel
theorem dX7_allReturnBehind_25 : decode cX7_allReturnBehind 25 = .ok (.iload 4, 2) := by decide +kernel
theorem dX7_allReturnBehind_27 : decode cX7_allReturnBehind 27 = .ok (.irem, 1) := by decide +kernel
theorem dX7_allReturnBehind_28 : decode cX7_allReturnBehind 28 = .ok (.ifCond .eq 5, 3) := by decide +kernel
theorem dX7_allReturnBehind_31 : decode cX7_allReturnBehind 31 = .ok (.iconst 0, 1) := by decide +kernel
theorem dX7_allReturnBehind_32 : decode cX7_allReturnBehind 32 = .ok (.ireturn, 1) := by decide +kernel
theorem dX7_allReturnBehind_33 : decode cX7_allReturnBehind 33 = .ok (.iinc 3 1, 3) := by decide +kernel
theorem dX7_allReturnBehind_36 : decode cX7_allReturnBehind 36 = .ok (.goto (-34), 3) := by decide +kernel
theorem dX7_allReturnBehind_39 : decode cX7_allReturnBehind 39 = .ok (.iconst 1, 1) := by decide +kernel
theorem dX7_allReturnBehind_40 : decode cX7_allReturnBehind 40 = .ok (.ireturn, 1) := by decide +kernel
set_option maxRecDepth 20000 in
theorem ggX8_commutingWith_X6_size : GoodIn wsX8_commutingWith wsX6_size := goodIn_r _ [5, 6, 12, 13] rfl (by decide +kernel)
set_option maxRecDepth 20000 in
theorem gX8_commutingWith_X6_size : GoodIn wsX8_commutingWith (wsV RX8 9 RX6 yX6_size wsX6_size) := goodIn_app (goodIn_of _ (by decide +kernel)) ggX8_commutingWith_X6_size
set_option maxRecDepth 20000 in
theorem ggX8_commutingWith_X6_at : GoodIn wsX8_commutingWith wsX6_at := goodIn_r _ [10, 11, 12, 13] rfl (by decide +kernel)
set_option maxRecDepth 20000 in
theorem gX8_commutingWith_X6_at : GoodIn wsX8_commutingWith (wsV RX8 15 RX6 yX6_at wsX6_at) := goodIn_app (goodIn_of _ (by decide +kernel)) ggX8_commutingWith_X6_at
theorem dX8_commutingWith_0 : decode cX8_commutingWith 0 = .ok (.iconst 0, 1) := by decide +kernel
theorem dX8_commutingWith_1 : decode cX8_commutingWith 1 = .ok (.istore_n 2, 1) := by decide +kernel
theorem dX8_commutingWith_2 : decode cX8_commutingWith 2 = .ok (.iconst 0, 1) := by decide +kernel
theorem dX8_commutingWith_3 : decode cX8_commutingWith 3 = .ok (.istore_n 3, 1) := by decide +kernel
theorem dX8_commutingWith_4 : decode cX8_commutingWith 4 = .ok (.iload_n 3, 1) := by decide +kernel
theorem dX8_commutingWith_5 : decode cX8_commutingWith 5 = .ok (.aload_n 0, 1) := by decide +kernel
theorem dX8_commutingWith_6 : decode cX8_commutingWith 6 = .ok (.invokevirtual 9, 3) := by decide +kernel
theorem dX8_commutingWith_9 : decode cX8_commutingWith 9 = .ok (.if_icmp .ge 27, 3) := by decide +kernel
theorem dX8_commutingWith_12 : decode cX8_commutingWith 12 = .ok (.aload_n 0, 1) := by decide +kernel
theorem dX8_commutingWith_13 : decode cX8_commutingWith 13 = .ok (.iload_n 1, 1) := by decide +kernel
theorem dX8_commutingWith_14 : decode cX8_commutingWith 14 = .ok (.iload_n 3, 1) := by decide +kernel
theorem dX8_commutingWith_15 : decode cX8_commutingWith 15 = .ok (.invokevirtual 15, 3) := by decide +kernel
theorem dX8_commutingWith_18 : decode cX8_commutingWith 18 = .ok (.aload_n 0, 1) := by decide +kernel
theorem dX8_commutingWith_19 : decode cX8_commutingWith 19 = .ok (.iload_n 3, 1) := by decide +kernel
theorem dX8_commutingWith_20 : decode cX8_commutingWith 20 = .ok (.iload_n 1, 1) := by decide +kernel
theorem dX8_commutingWith_21 : decode cX8_commutingWith 21 = .ok (.invokevirtual 15, 3) := by decide +kernel
theorem dX8_commutingWith_24 : decode cX8_commutingWith 24 = .ok (.if_icmp .ne 6, 3) := by decide +kernel
theorem dX8_commutingWith_27 : decode cX8_commutingWith 27 = .ok (.iinc 2 1, 3) := by decide +kernel
theorem dX8_commutingWith_30 : decode cX8_commutingWith 30 = .ok (.iinc 3 1, 3) := by decide +kernel
theorem dX8_commutingWith_33 : decode cX8_commutingWith 33 = .ok (.goto (-29), 3) := by decide +kernel
theorem dX8_commutingWith_36 : decode cX8_commutingWith 36 = .ok (.iload_n 2, 1) := by decide +kernel
theorem dX8_commutingWith_37 : decode cX8_commutingWith 37 = .ok (.ireturn, 1) := by decide +kernel
set_option maxRecDepth 20000 in
theorem ggX8_commutingPairs_X6_size : GoodIn wsX8_commutingPairs wsX6_size := goodIn_r _ [5, 6, 16, 17] rfl (by decide +kernel)
set_option maxRecDepth 20000 in
theorem gX8_commutingPairs_X6_size : GoodIn wsX8_commutingPairs (wsV RX8 9 RX6 yX6_size wsX6_size) := goodIn_app (goodIn_of _ (by decide +kernel)) ggX8_commutingPairs_X6_size
set_option maxRecDepth 20000 in
theorem ggX8_commutingPairs_X8_commutingWith : GoodIn wsX8_commutingPairs wsX8_commutingWith := goodIn_r _ [10, 1, 2, 3, 4, 5, 6, 11, 12, 13, 14, 15, 16, 17] rfl (by decide +kernel)
set_option maxRecDepth 20000 in
theorem gX8_commutingPairs_X8_commutingWith : GoodIn wsX8_commutingPairs (va_wsS RX8 19 yX8_commutingWith wsX8_commutingWith) := goodIn_app (goodIn_of _ (by decide +kernel)) ggX8_commutingPairs_X8_commutingWith
theorem dX8_commutingPairs_0 : decode cX8_commutingPairs 0 = .ok (.iconst 0, 1) := by decide +kernel
theorem dX8_commutingPairs_1 : decode cX8_commutingPairs 1 = .ok (.istore_n 1, 1) := by decide +kernel
theorem dX8_commutingPairs_2 : decode cX8_commutingPairs 2 = .ok (.iconst 0, 1) := by decide +kernel
theorem dX8_commutingPairs_3 : decode cX8_commutingPairs 3 = .ok (.istore_n 2, 1) := by decide +kernel
theorem dX8_commutingPairs_4 : decode cX8_commutingPairs 4 = .ok (.iload_n 2, 1) := by decide +kernel
theorem dX8_commutingPairs_5 : decode cX8_commutingPairs 5 = .ok (.aload_n 0, 1) := by decide +kernel
theorem dX8_commutingPairs_6 : decode cX8_commutingPairs 6 = .ok (.invokevirtual 9, 3) := by decide +kernel
theorem dX8_commutingPairs_9 : decode cX8_commutingPairs 9 = .ok (.if_icmp .ge 17, 3) := by decide +kernel
theorem dX8_commutingPairs_12 : decode cX8_commutingPairs 12 = .ok (.iload_n 1, 1) := by decide +kernel
theorem dX8_commutingPairs_13 : decode cX8_commutingPairs 13 = .ok (.aload_n 0, 1) := by decide +kernel
theorem dX8_commutingPairs_14 : decode cX8_commutingPairs 14 = .ok (.iload_n 2, 1) := by decide +kernel
theorem dX8_commutingPairs_15 : decode cX8_commutingPairs 15 = .ok (.invokestatic 19, 3) := by decide +kernel
theorem dX8_commutingPairs_18 : decode cX8_commutingPairs 18 = .ok (.iadd, 1) := by decide +kernel
theorem dX8_commutingPairs_19 : decode cX8_commutingPairs 19 = .ok (.istore_n 1, 1) := by decide +kernel
theorem dX8_commutingPairs_20 : decode cX8_commutingPairs 20 = .ok (.iinc 2 1, 3) := by decide +kernel
theorem dX8_commutingPairs_23 : decode cX8_commutingPairs 23 = .ok (.goto (-19), 3) := by decide +kernel
theorem dX8_commutingPairs_26 : decode cX8_commutingPairs 26 = .ok (.iload_n 1, 1) := by decide +kernel
theorem dX8_commutingPairs_27 : decode cX8_commutingPairs 27 = .ok (.ireturn, 1) := by decide +kernel
set_option maxRecDepth 20000 in
theorem ggX8_pairsBehind_X6_size : GoodIn wsX8_pairsBehind wsX6_size := goodIn_r _ [5, 6, 12, 13] rfl (by decide +kernel)
set_option maxRecDepth 20000 in
theorem gX8_pairsBehind_X6_size : GoodIn wsX8_pairsBehind (wsV RX8 9 RX6 yX6_size wsX6_size) := goodIn_app (goodIn_of _ (by decide +kernel)) ggX8_pairsBehind_X6_size
set_option maxRecDepth 20000 in
theorem ggX8_pairsBehind_X6_at : GoodIn wsX8_pairsBehind wsX6_at := goodIn_r _ [10, 11, 12, 13] rfl (by decide +kernel)
set_option maxRecDepth 20000 in
theorem gX8_pairsBehind_X6_at : GoodIn wsX8_pairsBehind (wsV RX8 15 RX6 yX6_at wsX6_at) := goodIn_app (goodIn_of _ (by decide +kernel)) ggX8_pairsBehind_X6_at
theorem dX8_pairsBehind_0 : decode cX8_pairsBehind 0 = .ok (.aload_n 0, 1) := by decide +kernel
theorem dX8_pairsBehind_1 : decode cX8_pairsBehind 1 = .ok (.invokevirtual 9, 3) := by decide +kernel
theorem dX8_pairsBehind_4 : decode cX8_pairsBehind 4 = .ok (.istore_n 2, 1) := by decide +kernel
theorem dX8_pairsBehind_5 : decode cX8_pairsBehind 5 = .ok (.iconst 0, 1) := by decide +kernel
theorem dX8_pairsBehind_6 : decode cX8_pairsBehind 6 = .ok (.istore_n 3, 1) := by decide +kernel
theorem dX8_pairsBehind_7 : decode cX8_pairsBehind 7 = .ok (.iconst 0, 1) := by decide +kernel
theorem dX8_pairsBehind_8 : decode cX8_pairsBehind 8 = .ok (.istore 4, 2) := by decide +kernel
theorem dX8_pairsBehind_10 : decode cX8_pairsBehind 10 = .ok (.iload 4, 2) := by decide +kernel
theorem dX8_pairsBehind_12 : decode cX8_pairsBehind 12 = .ok (.iload_n 2, 1) := by decide +kernel
theorem dX8_pairsBehind_13 : decode cX8_pairsBehind 13 = .ok (.if_icmp .ge 60, 3) := by decide +kernel
theorem dX8_pairsBehind_16 : decode cX8_pairsBehind 16 = .ok (.aload_n 0, 1) := by decide +kernel
theorem dX8_pairsBehind_17 : decode cX8_pairsBehind 17 = .ok (.iload_n 1, 1) := by decide +kernel
theorem dX8_pairsBehind_18 : decode cX8_pairsBehind 18 = .ok (.iload 4, 2) := by decide +kernel
theorem dX8_pairsBehind_20 : decode cX8_pairsBehind 20 = .ok (.invokevirtual 15, 3) := by decide +kernel
theorem dX8_pairsBehind_23 : decode cX8_pairsBehind 23 = .ok (.istore 5, 2) := by decide +kernel
theorem dX8_pairsBehind_25 : decode cX8_pairsBehind 25 = .ok (.iconst 0, 1) := by decide +kernel
theorem dX8_pairsBehind_26 : decode cX8_pairsBehind 26 = .ok (.istore 6, 2) := by decide +kernel
theorem dX8_pairsBehind_28 : decode cX8_pairsBehind 28 = .ok (.iload 6, 2) := by decide +kernel
theorem dX8_pairsBehind_30 : decode cX8_pairsBehind 30 = .ok (.iload_n 2, 1) := by decide +kernel
theorem dX8_pairsBehind_31 : decode cX8_pairsBehind 31 = .ok (.if_icmp .ge 36, 3) := by decide +kernel
theorem dX8_pairsBehind_34 : decode cX8_pairsBehind 34 = .ok (.aload_n 0, 1) := by decide +kernel
theorem dX8_pairsBehind_35 : decode cX8_pairsBehind 35 = .ok (.iload 5, 2) := by decide +kernel
theorem dX8_pairsBehind_37 : decode cX8_pairsBehind 37 = .ok (.iload 6, 2) := by decide +kernel
theorem dX8_pairsBehind_39 : decode cX8_pairsBehind 39 = .ok (.invokevirtual 15, 3) := by decide +kernel
theorem dX8_pairsBehind_42 : decode cX8_pairsBehind 42 = .ok (.aload_n 0, 1) := by decide +kernel
theorem dX8_pairsBehind_43 : decode cX8_pairsBehind 43 = .ok (.iload_n 1, 1) := by decide +kernel
theorem dX8_pairsBehind_44 : decode cX8_pairsBehind 44 = .ok (.aload_n 0, 1) := by decide +kernel
theorem dX8_pairsBehind_45 : decode cX8_pairsBehind 45 = .ok (.iload 4, 2) := by decide +kernel
theorem dX8_pairsBehind_47 : decode cX8_pairsBehind 47 = .ok (.iload 6, 2) := by decide +kernel
theorem dX8_pairsBehind_49 : decode cX8_pairsBehind 49 = .ok (.invokevirtual 15, 3) := by decide +kernel
theorem dX8_pairsBehind_52 : decode cX8_pairsBehind 52 = .ok (.invokevirtual 15, 3) := by decide +kernel
theorem dX8_pairsBehind_55 : decode cX8_pairsBehind 55 = .ok (.if_icmp .ne 6, 3) := by decide +kernel
theorem dX8_pairsBehind_58 : decode cX8_pairsBehind 58 = .ok (.iinc 3 1, 3) := by decide +kernel
theorem dX8_pairsBehind_61 : decode cX8_pairsBehind 61 = .ok (.iinc 6 1, 3) := by decide +kernel
theorem dX8_pairsBehind_64 : decode cX8_pairsBehind 64 = .ok (.goto (-36), 3) := by decide +kernel
theorem dX8_pairsBehind_67 : decode cX8_pairsBehind 67 = .ok (.iinc 4 1, 3) := by decide +kernel
theorem dX8_pairsBehind_70 : decode cX8_pairsBehind 70 = .ok (.goto (-60), 3) := by decide +kernel
theorem dX8_pairsBehind_73 : decode cX8_pairsBehind 73 = .ok (.iload_n 3, 1) := by decide +kernel
theorem dX8_pairsBehind_74 : decode cX8_pairsBehind 74 = .ok (.ireturn, 1) := by decide +kernel
set_option maxRecDepth 20000 in
theorem ggX8_associatingTriples_X6_size : GoodIn wsX8_associatingTriples wsX6_size := goodIn_r _ [5, 6, 16, 17] rfl (by decide +kernel)
set_option maxRecDepth 20000 in
theorem gX8_associatingTriples_X6_size : GoodIn wsX8_associatingTriples (wsV RX8 9 RX6 yX6_size wsX6_size) := goodIn_app (goodIn_of _ (by decide +kernel)) ggX8_associatingTriples_X6_size
set_option maxRecDepth 20000 in
theorem ggX8_associatingTriples_X8_pairsBehind : GoodIn wsX8_associatingTriples wsX8_pairsBehind := goodIn_r _ [10, 1, 2, 3, 4, 5, 6, 11, 12, 13, 14, 15, 16, 17] rfl (by decide +kernel)
set_option maxRecDepth 20000 in
theorem gX8_associatingTriples_X8_pairsBehind : GoodIn wsX8_associatingTriples (va_wsS RX8 25 yX8_pairsBehind wsX8_pairsBehind) := goodIn_app (goodIn_of _ (by decide +kernel)) ggX8_associatingTriples_X8_pairsBehind
theorem dX8_associatingTriples_0 : decode cX8_associatingTriples 0 = .ok (.iconst 0, 1) := by decide +kernel
theorem dX8_associatingTriples_1 : decode cX8_associatingTriples 1 = .ok (.istore_n 1, 1) := by decide +kernel
theorem dX8_associatingTriples_2 : decode cX8_associatingTriples 2 = .ok (.iconst 0, 1) := by decide +kernel
theorem dX8_associatingTriples_3 : decode cX8_associatingTriples 3 = .ok (.istore_n 2, 1) := by decide +kernel
theorem dX8_associatingTriples_4 : decode cX8_associatingTriples 4 = .ok (.iload_n 2, 1) := by decide +kernel
theorem dX8_associatingTriples_5 : decode cX8_associatingTriples 5 = .ok (.aload_n 0, 1) := by decide +kernel
theorem dX8_associatingTriples_6 : decode cX8_associatingTriples 6 = .ok (.invokevirtual 9, 3) := by decide +kernel
theorem dX8_associatingTriples_9 : decode cX8_associatingTriples 9 = .ok (.if_icmp .ge 17, 3) := by decide +kernel
theorem dX8_associatingTriples_12 : decode cX8_associatingTriples 12 = .ok (.iload_n 1, 1) := by decide +kernel
theorem dX8_associatingTriples_13 : decode cX8_associatingTriples 13 = .ok (.aload_n 0, 1) := by decide +kernel
theorem dX8_associatingTriples_14 : decode cX8_associatingTriples 14 = .ok (.iload_n 2, 1) := by decide +kernel
theorem dX8_associatingTriples_15 : decode cX8_associatingTriples 15 = .ok (.invokestatic 25, 3) := by decide +kernel
theorem dX8_associatingTriples_18 : decode cX8_associatingTriples 18 = .ok (.iadd, 1) := by decide +kernel
theorem dX8_associatingTriples_19 : decode cX8_associatingTriples 19 = .ok (.istore_n 1, 1) := by decide +kernel
theorem dX8_associatingTriples_20 : decode cX8_associatingTriples 20 = .ok (.iinc 2 1, 3) := by decide +kernel
theorem dX8_associatingTriples_23 : decode cX8_associatingTriples 23 = .ok (.goto (-19), 3) := by decide +kernel
theorem dX8_associatingTriples_26 : decode cX8_associatingTriples 26 = .ok (.iload_n 1, 1) := by decide +kernel
theorem dX8_associatingTriples_27 : decode cX8_associatingTriples 27 = .ok (.ireturn, 1) := by decide +kernel
set_option maxRecDepth 20000 in
theorem ggX8_isNeutral_X6_size : GoodIn wsX8_isNeutral wsX6_size := goodIn_r _ [5, 6, 12, 13] rfl (by decide +kernel)
set_option maxRecDepth 20000 in
theorem gX8_isNeutral_X6_size : GoodIn wsX8_isNeutral (wsV RX8 9 RX6 yX6_size wsX6_size) := goodIn_app (goodIn_of _ (by decide +kernel)) ggX8_isNeutral_X6_size
set_option maxRecDepth 20000 in
theorem ggX8_isNeutral_X6_at : GoodIn wsX8_isNeutral wsX6_at := goodIn_r _ [10, 11, 12, 13] rfl (by decide +kernel)
set_option maxRecDepth 20000 in
theorem gX8_isNeutral_X6_at : GoodIn wsX8_isNeutral (wsV RX8 15 RX6 yX6_at wsX6_at) := goodIn_app (goodIn_of _ (by decide +kernel)) ggX8_isNeutral_X6_at
theorem dX8_isNeutral_0 : decode cX8_isNeutral 0 = .ok (.iconst 0, 1) := by decide +kernel
theorem dX8_isNeutral_1 : decode cX8_isNeutral 1 = .ok (.istore_n 3, 1) := by decide +kernel
theorem dX8_isNeutral_2 : decode cX8_isNeutral 2 = .ok (.iload_n 3, 1) := by decide +kernel
theorem dX8_isNeutral_3 : decode cX8_isNeutral 3 = .ok (.aload_n 0, 1) := by decide +kernel
theorem dX8_isNeutral_4 : decode cX8_isNeutral 4 = .ok (.invokevirtual 9, 3) := by decide +kernel
theorem dX8_isNeutral_7 : decode cX8_isNeutral 7 = .ok (.if_icmp .ge 38, 3) := by decide +kernel
theorem dX8_isNeutral_10 : decode cX8_isNeutral 10 = .ok (.iload_n 2, 1) := by decide +kernel
theorem dX8_isNeutral_11 : decode cX8_isNeutral 11 = .ok (.ifCond .eq 12, 3) := by decide +kernel
theorem dX8_isNeutral_14 : decode cX8_isNeutral 14 = .ok (.aload_n 0, 1) := by decide +kernel
theorem dX8_isNeutral_15 : decode cX8_isNeutral 15 = .ok (.iload_n 1, 1) := by decide +kernel
theorem dX8_isNeutral_16 : decode cX8_isNeutral 16 = .ok (.iload_n 3, 1) := by decide +kernel
theorem dX8_isNeutral_17 : decode cX8_isNeutral 17 = .ok (.invokevirtual 15, 3) := by decide +kernel
theorem dX8_isNeutral_20 : decode cX8_isNeutral 20 = .ok (.goto 9, 3) := by decide +kernel
theorem dX8_isNeutral_23 : decode cX8_isNeutral 23 = .ok (.aload_n 0, 1) := by decide +kernel
theorem dX8_isNeutral_24 : decode cX8_isNeutral 24 = .ok (.iload_n 3, 1) := by decide +kernel
theorem dX8_isNeutral_25 : decode cX8_isNeutral 25 = .ok (.iload_n 1, 1) := by decide +kernel
theorem dX8_isNeutral_26 : decode cX8_isNeutral 26 = .ok (.invokevirtual 15, 3) := by decide +kernel
theorem dX8_isNeutral_29 : decode cX8_isNeutral 29 = .ok (.istore 4, 2) := by decide +kernel
theorem dX8_isNeutral_31 : decode cX8_isNeutral 31 = .ok (.iload 4, 2) := by decide +kernel
theorem dX8_isNeutral_33 : decode cX8_isNeutral 33 = .ok (.iload_n 3, 1) := by decide +kernel
theorem dX8_isNeutral_34 : decode cX8_isNeutral 34 = .ok (.if_icmp .eq 5, 3) := by decide +kernel
theorem dX8_isNeutral_37 : decode cX8_isNeutral 37 = .ok (.iconst 0, 1) := by decide +kernel
theorem dX8_isNeutral_38 : decode cX8_isNeutral 38 = .ok (.ireturn, 1) := by decide +kernel
theorem dX8_isNeutral_39 : decode cX8_isNeutral 39 = .ok (.iinc 3 1, 3) := by decide +kernel
theorem dX8_isNeutral_42 : decode cX8_isNeutral 42 = .ok (.goto (-40), 3) := by decide +kernel
theorem dX8_isNeutral_45 : decode cX8_isNeutral 45 = .ok (.iconst 1, 1) := by decide +kernel
theorem dX8_isNeutral_46 : decode cX8_isNeutral 46 = .ok (.ireturn, 1) := by decide +kernel
set_option maxRecDepth 20000 in
theorem ggX8_neutralToken_X6_size : GoodIn wsX8_neutralToken wsX6_size := goodIn_r _ [5, 6, 16, 17] rfl (by decide +kernel)
set_option maxRecDepth 20000 in
theorem gX8_neutralToken_X6_size : GoodIn wsX8_neutralToken (wsV RX8 9 RX6 yX6_size wsX6_size) := goodIn_app (goodIn_of _ (by decide +kernel)) ggX8_neutralToken_X6_size
set_option maxRecDepth 20000 in
theorem ggX8_neutralToken_X8_isNeutral : GoodIn wsX8_neutralToken wsX8_isNeutral := goodIn_r _ [10, 1, 2, 3, 4, 5, 6, 11, 12, 13, 14, 15, 16, 17] rfl (by decide +kernel)
set_option maxRecDepth 20000 in
theorem gX8_neutralToken_X8_isNeutral : GoodIn wsX8_neutralToken (va_wsS RX8 28 yX8_isNeutral wsX8_isNeutral) := goodIn_app (goodIn_of _ (by decide +kernel)) ggX8_neutralToken_X8_isNeutral
theorem dX8_neutralToken_0 : decode cX8_neutralToken 0 = .ok (.iconst 0, 1) := by decide +kernel
theorem dX8_neutralToken_1 : decode cX8_neutralToken 1 = .ok (.istore_n 2, 1) := by decide +kernel
theorem dX8_neutralToken_2 : decode cX8_neutralToken 2 = .ok (.iload_n 2, 1) := by decide +kernel
theorem dX8_neutralToken_3 : decode cX8_neutralToken 3 = .ok (.aload_n 0, 1) := by decide +kernel
theorem dX8_neutralToken_4 : decode cX8_neutralToken 4 = .ok (.invokevirtual 9, 3) := by decide +kernel
theorem dX8_neutralToken_7 : decode cX8_neutralToken 7 = .ok (.if_icmp .ge 20, 3) := by decide +kernel
theorem dX8_neutralToken_10 : decode cX8_neutralToken 10 = .ok (.aload_n 0, 1) := by decide +kernel
theorem dX8_neutralToken_11 : decode cX8_neutralToken 11 = .ok (.iload_n 2, 1) := by decide +kernel
theorem dX8_neutralToken_12 : decode cX8_neutralToken 12 = .ok (.iload_n 1, 1) := by decide +kernel
theorem dX8_neutralToken_13 : decode cX8_neutralToken 13 = .ok (.invokestatic 28, 3) := by decide +kernel
theorem dX8_neutralToken_16 : decode cX8_neutralToken 16 = .ok (.ifCond .eq 5, 3) := by decide +kernel
theorem dX8_neutralToken_19 : decode cX8_neutralToken 19 = .ok (.iload_n 2, 1) := by decide +kernel
theorem dX8_neutralToken_20 : decode cX8_neutralToken 20 = .ok (.ireturn, 1) := by decide +kernel
theorem dX8_neutralToken_21 : decode cX8_neutralToken 21 = .ok (.iinc 2 1, 3) := by decide +kernel
theorem dX8_neutralToken_24 : decode cX8_neutralToken 24 = .ok (.goto (-22), 3) := by decide +kernel
theorem dX8_neutralToken_27 : decode cX8_neutralToken 27 = .ok (.bipush (-4), 2) := by decide +kernel
theorem dX8_neutralToken_29 : decode cX8_neutralToken 29 = .ok (.ireturn, 1) := by decide +kernel
set_option maxRecDepth 20000 in
theorem ggX8_selfSums_X6_size : GoodIn wsX8_selfSums wsX6_size := goodIn_r _ [5, 6, 12, 13] rfl (by decide +kernel)
set_option maxRecDepth 20000 in
theorem gX8_selfSums_X6_size : GoodIn wsX8_selfSums (wsV RX8 9 RX6 yX6_size wsX6_size) := goodIn_app (goodIn_of _ (by decide +kernel)) ggX8_selfSums_X6_size
set_option maxRecDepth 20000 in
theorem ggX8_selfSums_X6_at : GoodIn wsX8_selfSums wsX6_at := goodIn_r _ [10, 11, 12, 13] rfl (by decide +kernel)
set_option maxRecDepth 20000 in
theorem gX8_selfSums_X6_at : GoodIn wsX8_selfSums (wsV RX8 15 RX6 yX6_at wsX6_at) := goodIn_app (goodIn_of _ (by decide +kernel)) ggX8_selfSums_X6_at
theorem dX8_selfSums_0 : decode cX8_selfSums 0 = .ok (.iconst 0, 1) := by decide +kernel
theorem dX8_selfSums_1 : decode cX8_selfSums 1 = .ok (.istore_n 1, 1) := by decide +kernel
theorem dX8_selfSums_2 : decode cX8_selfSums 2 = .ok (.iconst 0, 1) := by decide +kernel
theorem dX8_selfSums_3 : decode cX8_selfSums 3 = .ok (.istore_n 2, 1) := by decide +kernel
theorem dX8_selfSums_4 : decode cX8_selfSums 4 = .ok (.iload_n 2, 1) := by decide +kernel
theorem dX8_selfSums_5 : decode cX8_selfSums 5 = .ok (.aload_n 0, 1) := by decide +kernel
theorem dX8_selfSums_6 : decode cX8_selfSums 6 = .ok (.invokevirtual 9, 3) := by decide +kernel
theorem dX8_selfSums_9 : decode cX8_selfSums 9 = .ok (.if_icmp .ge 22, 3) := by decide +kernel
theorem dX8_selfSums_12 : decode cX8_selfSums 12 = .ok (.aload_n 0, 1) := by decide +kernel
theorem dX8_selfSums_13 : decode cX8_selfSums 13 = .ok (.iload_n 2, 1) := by decide +kernel
theorem dX8_selfSums_14 : decode cX8_selfSums 14 = .ok (.iload_n 2, 1) := by decide +kernel
theorem dX8_selfSums_15 : decode cX8_selfSums 15 = .ok (.invokevirtual 15, 3) := by decide +kernel
theorem dX8_selfSums_18 : decode cX8_selfSums 18 = .ok (.iload_n 2, 1) := by decide +kernel
theorem dX8_selfSums_19 : decode cX8_selfSums 19 = .ok (.if_icmp .ne 6, 3) := by decide +kernel
theorem dX8_selfSums_22 : decode cX8_selfSums 22 = .ok (.iinc 1 1, 3) := by decide +kernel
theorem dX8_selfSums_25 : decode cX8_selfSums 25 = .ok (.iinc 2 1, 3) := by decide +kernel
theorem dX8_selfSums_28 : decode cX8_selfSums 28 = .ok (.goto (-24), 3) := by decide +kernel
theorem dX8_selfSums_31 : decode cX8_selfSums 31 = .ok (.iload_n 1, 1) := by decide +kernel
theorem dX8_selfSums_32 : decode cX8_selfSums 32 = .ok (.ireturn, 1) := by decide +kernel
set_option maxRecDepth 20000 in
theorem ggX9_init_X6_init : GoodIn wsX9_init wsX6_init := goodIn_r _ [32, 33, 2, 3, 34, 35, 84, 85] rfl (by decide +kernel)
set_option maxRecDepth 20000 in
theorem gX9_init_X6_init : GoodIn wsX9_init (wsX6_init) := ggX9_init_X6_init
set_option maxRecDepth 20000 in
theorem ggX9_init_X0_init : GoodIn wsX9_init wsX0_init := goodIn_r _ [38, 39, 2, 3, 40, 41, 5, 6, 42, 31, 32, 33, 34, 35, 95, 96, 84, 85] rfl (by decide +kernel)
set_option maxRecDepth 20000 in
theorem gX9_init_X0_init : GoodIn wsX9_init (wsX0_init) := ggX9_init_X0_init
set_option maxRecDepth 20000 in
theorem ggX9_init_X1_init : GoodIn wsX9_init wsX1_init := goodIn_r _ [45, 46, 2, 3, 47, 48, 97, 98] rfl (by decide +kernel)
set_option maxRecDepth 20000 in
theorem gX9_init_X1_init : GoodIn wsX9_init (wsX1_init) := ggX9_init_X1_init
set_option maxRecDepth 20000 in
theorem ggX9_init_X5_init : GoodIn wsX9_init wsX5_init := goodIn_r _ [51, 52, 2, 3, 34, 53, 54, 55, 56, 57, 58, 99, 100, 101, 102, 103, 104, 105, 106, 107] rfl (by decide +kernel)
set_option maxRecDepth 20000 in
theorem gX9_init_X5_init : GoodIn wsX9_init (wsX5_init) := ggX9_init_X5_init
set_option maxRecDepth 20000 in
theorem ggX9_init_X3_init : GoodIn wsX9_init wsX3_init := goodIn_r _ [61, 62, 2, 3, 34, 63, 64, 108, 109, 110] rfl (by decide +kernel)
set_option maxRecDepth 20000 in
theorem gX9_init_X3_init : GoodIn wsX9_init (wsX3_init) := ggX9_init_X3_init
set_option maxRecDepth 20000 in
theorem ggX9_init_X4_init : GoodIn wsX9_init wsX4_init := goodIn_r _ [67, 68, 2, 3, 69, 5, 6, 70, 71, 31, 32, 33, 34, 35, 84, 85, 111, 112, 113, 114, 115, 116] rfl (by decide +kernel)
set_option maxRecDepth 20000 in
theorem gX9_init_X4_init : GoodIn wsX9_init (wsX4_init) := ggX9_init_X4_init
set_option maxRecDepth 20000 in
theorem ggX9_init_X6_makeNew : GoodIn wsX9_init wsX6_makeNew := goodIn_r _ [75, 76, 77, 78, 79, 6, 80, 35, 81, 82, 83, 84, 85] rfl (by decide +kernel)
set_option maxRecDepth 20000 in
theorem gX9_init_X6_makeNew : GoodIn wsX9_init (wsV RX9 57 RX6 yX6_makeNew wsX6_makeNew) := goodIn_app (goodIn_of _ (by decide +kernel)) ggX9_init_X6_makeNew
theorem dX9_init_0 : decode cX9_init 0 = .ok (.aload_n 0, 1) := by decide +kernel
theorem dX9_init_1 : decode cX9_init 1 = .ok (.invokespecial 1, 3) := by decide +kernel
theorem dX9_init_4 : decode cX9_init 4 = .ok (.aload_n 0, 1) := by decide +kernel
theorem dX9_init_5 : decode cX9_init 5 = .ok (.new 7, 3) := by decide +kernel
theorem dX9_init_8 : decode cX9_init 8 = .ok (.dup, 1) := by decide +kernel
theorem dX9_init_9 : decode cX9_init 9 = .ok (.invokespecial 9, 3) := by decide +kernel
theorem dX9_init_12 : decode cX9_init 12 = .ok (.putfield 10, 3) := by decide +kernel
theorem dX9_init_15 : decode cX9_init 15 = .ok (.aload_n 0, 1) := by decide +kernel
theorem dX9_init_16 : decode cX9_init 16 = .ok (.new 7, 3) := by decide +kernel
theorem dX9_init_19 : decode cX9_init 19 = .ok (.dup, 1) := by decide +kernel
theorem dX9_init_20 : decode cX9_init 20 = .ok (.invokespecial 9, 3) := by decide +kernel
theorem dX9_init_23 : decode cX9_init 23 = .ok (.putfield 16, 3) := by decide +kernel
theorem dX9_init_26 : decode cX9_init 26 = .ok (.aload_n 0, 1) := by decide +kernel
theorem dX9_init_27 : decode cX9_init 27 = .ok (.new 7, 3) := by decide +kernel
theorem dX9_init_30 : decode cX9_init 30 = .ok (.dup, 1) := by decide +kernel
theorem dX9_init_31 : decode cX9_init 31 = .ok (.invokespecial 9, 3) := by decide +kernel
theorem dX9_init_34 : decode cX9_init 34 = .ok (.putfield 19, 3) := by decide +kernel
theorem dX9_init_37 : decode cX9_init 37 = .ok (.aload_n 0, 1) := by decide +kernel
theorem dX9_init_38 : decode cX9_init 38 = .ok (.new 22, 3) := by decide +kernel
theorem dX9_init_41 : decode cX9_init 41 = .ok (.dup, 1) := by decide +kernel
theorem dX9_init_42 : decode cX9_init 42 = .ok (.invokespecial 24, 3) := by decide +kernel
theorem dX9_init_45 : decode cX9_init 45 = .ok (.putfield 25, 3) := by decide +kernel
theorem dX9_init_48 : decode cX9_init 48 = .ok (.aload_n 0, 1) := by decide +kernel
theorem dX9_init_49 : decode cX9_init 49 = .ok (.new 29, 3) := by decide +kernel
theorem dX9_init_52 : decode cX9_init 52 = .ok (.dup, 1) := by decide +kernel
theorem dX9_init_53 : decode cX9_init 53 = .ok (.invokespecial 31, 3) := by decide +kernel
theorem dX9_init_56 : decode cX9_init 56 = .ok (.putfield 32, 3) := by decide +kernel
theorem dX9_init_59 : decode cX9_init 59 = .ok (.aload_n 0, 1) := by decide +kernel
theorem dX9_init_60 : decode cX9_init 60 = .ok (.new 36, 3) := by decide +kernel
theorem dX9_init_63 : decode cX9_init 63 = .ok (.dup, 1) := by decide +kernel
theorem dX9_init_64 : decode cX9_init 64 = .ok (.invokespecial 38, 3) := by decide +kernel
theorem dX9_init_67 : decode cX9_init 67 = .ok (.putfield 39, 3) := by decide +kernel
theorem dX9_init_70 : decode cX9_init 70 = .ok (.aload_n 0, 1) := by decide +kernel
theorem dX9_init_71 : decode cX9_init 71 = .ok (.new 43, 3) := by decide +kernel
theorem dX9_init_74 : decode cX9_init 74 = .ok (.dup, 1) := by decide +kernel
theorem dX9_init_75 : decode cX9_init 75 = .ok (.invokespecial 45, 3) := by decide +kernel
theorem dX9_init_78 : decode cX9_init 78 = .ok (.putfield 46, 3) := by decide +kernel
theorem dX9_init_81 : decode cX9_init 81 = .ok (.aload_n 0, 1) := by decide +kernel
theorem dX9_init_82 : decode cX9_init 82 = .ok (.new 50, 3) := by decide +kernel
theorem dX9_init_85 : decode cX9_init 85 = .ok (.dup, 1) := by decide +kernel
theorem dX9_init_86 : decode cX9_init 86 = .ok (.invokespecial 52, 3) := by decide +kernel
theorem dX9_init_89 : decode cX9_init 89 = .ok (.putfield 53, 3) := by decide +kernel
theorem dX9_init_92 : decode cX9_init 92 = .ok (.aload_n 0, 1) := by decide +kernel
theorem dX9_init_93 : decode cX9_init 93 = .ok (.getfield 10, 3) := by decide +kernel
theorem dX9_init_96 : decode cX9_init 96 = .ok (.iconst 4, 1) := by decide +kernel
theorem dX9_init_97 : decode cX9_init 97 = .ok (.iconst 1, 1) := by decide +kernel
theorem dX9_init_98 : decode cX9_init 98 = .ok (.invokevirtual 57, 3) := by decide +kernel
theorem dX9_init_101 : decode cX9_init 101 = .ok (.return_, 1) := by decide +kernel
set_option maxRecDepth 20000 in
theorem ggX9_begin_X9_isWithin : GoodIn wsX9_begin wsX9_isWithin := goodIn_r _ [6] rfl (by decide +kernel)
set_option maxRecDepth 20000 in
theorem gX9_begin_X9_isWithin : GoodIn wsX9_begin (va_wsS RX9 61 yX9_isWithin wsX9_isWithin) := goodIn_app (goodIn_of _ (by decide +kernel)) ggX9_begin_X9_isWithin
set_option maxRecDepth 20000 in
theorem ggX9_begin_X9_haveCommonDivisor : GoodIn wsX9_begin wsX9_haveCommonDivisor := goodIn_r _ [9] rfl (by decide +kernel)
set_option maxRecDepth 20000 in
theorem gX9_begin_X9_haveCommonDivisor : GoodIn wsX9_begin (va_wsS RX9 65 yX9_haveCommonDivisor wsX9_haveCommonDivisor) := goodIn_app (goodIn_of _ (by decide +kernel)) ggX9_begin_X9_haveCommonDivisor
set_option maxRecDepth 20000 in
theorem ggX9_begin_X0_record : GoodIn wsX9_begin wsX0_record := goodIn_r _ [14, 15, 16, 17, 18, 13, 19, 20, 21, 22, 23, 24, 25, 26, 27, 28, 29, 30, 31, 32, 5, 33, 34, 35, 68, 69, 70, 71] rfl (by decide +kernel)
set_option maxRecDepth 20000 in
theorem gX9_begin_X0_record : GoodIn wsX9_begin (wsV RX9 69 RX0 yX0_record wsX0_record) := goodIn_app (goodIn_of _ (by decide +kernel)) ggX9_begin_X0_record
set_option maxRecDepth 20000 in
theorem ggX9_begin_X6_makeNew : GoodIn wsX9_begin wsX6_makeNew := goodIn_r _ [39, 30, 40, 41, 42, 28, 43, 31, 34, 5, 35, 70, 71] rfl (by decide +kernel)
set_option maxRecDepth 20000 in
theorem gX9_begin_X6_makeNew : GoodIn wsX9_begin (wsV RX9 57 RX6 yX6_makeNew wsX6_makeNew) := goodIn_app (goodIn_of _ (by decide +kernel)) ggX9_begin_X6_makeNew
set_option maxRecDepth 20000 in
theorem ggX9_begin_X8_associatingTriples : GoodIn wsX9_begin wsX8_associatingTriples := goodIn_r _ [47, 48, 49, 50, 28, 51, 30, 52, 53, 46, 54, 55, 56, 57, 58, 31, 70, 71] rfl (by decide +kernel)
set_option maxRecDepth 20000 in
theorem gX9_begin_X8_associatingTriples : GoodIn wsX9_begin (va_wsS RX9 73 yX8_associatingTriples wsX8_associatingTriples) := goodIn_app (goodIn_of _ (by decide +kernel)) ggX9_begin_X8_associatingTriples
theorem dX9_begin_0 : decode cX9_begin 0 = .ok (.iload_n 1, 1) := by decide +kernel
theorem dX9_begin_1 : decode cX9_begin 1 = .ok (.iconst 2, 1) := by decide +kernel
theorem dX9_begin_2 : decode cX9_begin 2 = .ok (.bipush 8, 2) := by decide +kernel
theorem dX9_begin_4 : decode cX9_begin 4 = .ok (.invokestatic 61, 3) := by decide +kernel
theorem dX9_begin_7 : decode cX9_begin 7 = .ok (.ifCond .eq 21, 3) := by decide +kernel
theorem dX9_begin_10 : decode cX9_begin 10 = .ok (.iload_n 2, 1) := by decide +kernel
theorem dX9_begin_11 : decode cX9_begin 11 = .ok (.iconst 1, 1) := by decide +kernel
theorem dX9_begin_12 : decode cX9_begin 12 = .ok (.bipush 7, 2) := by decide +kernel
theorem dX9_begin_14 : decode cX9_begin 14 = .ok (.invokestatic 61, 3) := by decide +kernel
theorem dX9_begin_17 : decode cX9_begin 17 = .ok (.ifCond .eq 11, 3) := by decide +kernel
theorem dX9_begin_20 : decode cX9_begin 20 = .ok (.iload_n 1, 1) := by decide +kernel
theorem dX9_begin_21 : decode cX9_begin 21 = .ok (.iload_n 2, 1) := by decide +kernel
theorem dX9_begin_22 : decode cX9_begin 22 = .ok (.invokestatic 65, 3) := by decide +kernel
theorem dX9_begin_25 : decode cX9_begin 25 = .ok (.ifCond .eq 5, 3) := by decide +kernel
theorem dX9_begin_28 : decode cX9_begin 28 = .ok (.iconst (-1), 1) := by decide +kernel
theorem dX9_begin_29 : decode cX9_begin 29 = .ok (.ireturn, 1) := by decide +kernel
theorem dX9_begin_30 : decode cX9_begin 30 = .ok (.aload_n 0, 1) := by decide +kernel
theorem dX9_begin_31 : decode cX9_begin 31 = .ok (.getfield 25, 3) := by decide +kernel
theorem dX9_begin_34 : decode cX9_begin 34 = .ok (.aload_n 0, 1) := by decide +kernel
theorem dX9_begin_35 : decode cX9_begin 35 = .ok (.getfield 10, 3) := by decide +kernel
theorem dX9_begin_38 : decode cX9_begin 38 = .ok (.invokevirtual 69, 3) := by decide +kernel
theorem dX9_begin_41 : decode cX9_begin 41 = .ok (.aload_n 0, 1) := by decide +kernel
theorem dX9_begin_42 : decode cX9_begin 42 = .ok (.getfield 10, 3) := by decide +kernel
theorem dX9_begin_45 : decode cX9_begin 45 = .ok (.iload_n 1, 1) := by decide +kernel
theorem dX9_begin_46 : decode cX9_begin 46 = .ok (.iload_n 2, 1) := by decide +kernel
theorem dX9_begin_47 : decode cX9_begin 47 = .ok (.invokevirtual 57, 3) := by decide +kernel
theorem dX9_begin_50 : decode cX9_begin 50 = .ok (.aload_n 0, 1) := by decide +kernel
theorem dX9_begin_51 : decode cX9_begin 51 = .ok (.getfield 10, 3) := by decide +kernel
theorem dX9_begin_54 : decode cX9_begin 54 = .ok (.invokestatic 73, 3) := by decide +kernel
theorem dX9_begin_57 : decode cX9_begin 57 = .ok (.ireturn, 1) := by decide +kernel
set_option maxRecDepth 20000 in
theorem ggX9_rows_X9_areUnlikeTokens : GoodIn wsX9_rows wsX9_areUnlikeTokens := goodIn_r _ [7, 2, 8, 9, 10, 11, 12, 13, 64, 65, 66, 67, 68, 69, 70, 71, 72, 73, 74] rfl (by decide +kernel)
set_option maxRecDepth 20000 in
theorem gX9_rows_X9_areUnlikeTokens : GoodIn wsX9_rows (wsV RX9 79 RX9 yX9_areUnlikeTokens wsX9_areUnlikeTokens) := goodIn_app (goodIn_of _ (by decide +kernel)) ggX9_rows_X9_areUnlikeTokens
set_option maxRecDepth 20000 in
theorem ggX9_rows_X6_copyFrom : GoodIn wsX9_rows wsX6_copyFrom := goodIn_r _ [17, 13, 18, 19, 6, 20, 21, 22, 73, 74] rfl (by decide +kernel)
set_option maxRecDepth 20000 in
theorem gX9_rows_X6_copyFrom : GoodIn wsX9_rows (wsV RX9 82 RX6 yX6_copyFrom wsX6_copyFrom) := goodIn_app (goodIn_of _ (by decide +kernel)) ggX9_rows_X6_copyFrom
set_option maxRecDepth 20000 in
theorem ggX9_rows_X6_exchangeRows : GoodIn wsX9_rows wsX6_exchangeRows := goodIn_r _ [26, 13, 27, 28, 29, 11, 30, 31, 32, 33, 34, 18, 35, 36, 37, 38, 21, 6, 22, 73, 74] rfl (by decide +kernel)
set_option maxRecDepth 20000 in
theorem gX9_rows_X6_exchangeRows : GoodIn wsX9_rows (wsV RX9 85 RX6 yX6_exchangeRows wsX6_exchangeRows) := goodIn_app (goodIn_of _ (by decide +kernel)) ggX9_rows_X6_exchangeRows
set_option maxRecDepth 20000 in
theorem ggX9_rows_X9_changeToTrial : GoodIn wsX9_rows wsX9_changeToTrial := goodIn_r _ [42, 2, 1, 43, 44, 45, 46, 11, 47, 13, 31, 32, 33, 34, 18, 48, 49, 50, 51, 52, 53, 54, 55, 56, 57, 58, 59, 60, 61, 62, 63, 15, 16, 17, 19, 6, 20, 21, 22, 14, 64, 65, 66, 67, 68, 69, 70, 71, 72, 73, 74, 75, 76] rfl (by decide +kernel)
set_option maxRecDepth 20000 in
theorem gX9_rows_X9_changeToTrial : GoodIn wsX9_rows (wsV RX9 88 RX9 yX9_changeToTrial wsX9_changeToTrial) := goodIn_app (goodIn_of _ (by decide +kernel)) ggX9_rows_X9_changeToTrial
theorem dX9_rows_0 : decode cX9_rows 0 = .ok (.aload_n 0, 1) := by decide +kernel
theorem dX9_rows_1 : decode cX9_rows 1 = .ok (.iload_n 1, 1) := by decide +kernel
theorem dX9_rows_2 : decode cX9_rows 2 = .ok (.iload_n 2, 1) := by decide +kernel
theorem dX9_rows_3 : decode cX9_rows 3 = .ok (.invokevirtual 79, 3) := by decide +kernel
theorem dX9_rows_6 : decode cX9_rows 6 = .ok (.ifCond .ne 5, 3) := by decide +kernel
theorem dX9_rows_9 : decode cX9_rows 9 = .ok (.iconst (-1), 1) := by decide +kernel
theorem dX9_rows_10 : decode cX9_rows 10 = .ok (.ireturn, 1) := by decide +kernel
theorem dX9_rows_11 : decode cX9_rows 11 = .ok (.aload_n 0, 1) := by decide +kernel
theorem dX9_rows_12 : decode cX9_rows 12 = .ok (.getfield 19, 3) := by decide +kernel
theorem dX9_rows_15 : decode cX9_rows 15 = .ok (.aload_n 0, 1) := by decide +kernel
theorem dX9_rows_16 : decode cX9_rows 16 = .ok (.getfield 10, 3) := by decide +kernel
theorem dX9_rows_19 : decode cX9_rows 19 = .ok (.invokevirtual 82, 3) := by decide +kernel
theorem dX9_rows_22 : decode cX9_rows 22 = .ok (.aload_n 0, 1) := by decide +kernel
theorem dX9_rows_23 : decode cX9_rows 23 = .ok (.getfield 19, 3) := by decide +kernel
theorem dX9_rows_26 : decode cX9_rows 26 = .ok (.iload_n 1, 1) := by decide +kernel
theorem dX9_rows_27 : decode cX9_rows 27 = .ok (.iload_n 2, 1) := by decide +kernel
theorem dX9_rows_28 : decode cX9_rows 28 = .ok (.invokevirtual 85, 3) := by decide +kernel
theorem dX9_rows_31 : decode cX9_rows 31 = .ok (.aload_n 0, 1) := by decide +kernel
theorem dX9_rows_32 : decode cX9_rows 32 = .ok (.invokevirtual 88, 3) := by decide +kernel
theorem dX9_rows_35 : decode cX9_rows 35 = .ok (.ireturn, 1) := by decide +kernel
set_option maxRecDepth 20000 in
theorem ggX9_columns_X9_areUnlikeTokens : GoodIn wsX9_columns wsX9_areUnlikeTokens := goodIn_r _ [7, 2, 8, 9, 10, 11, 12, 13, 64, 65, 66, 67, 68, 69, 70, 71, 72, 73, 74] rfl (by decide +kernel)
set_option maxRecDepth 20000 in
theorem gX9_columns_X9_areUnlikeTokens : GoodIn wsX9_columns (wsV RX9 79 RX9 yX9_areUnlikeTokens wsX9_areUnlikeTokens) := goodIn_app (goodIn_of _ (by decide +kernel)) ggX9_columns_X9_areUnlikeTokens
set_option maxRecDepth 20000 in
theorem ggX9_columns_X6_copyFrom : GoodIn wsX9_columns wsX6_copyFrom := goodIn_r _ [17, 13, 18, 19, 6, 20, 21, 22, 73, 74] rfl (by decide +kernel)
set_option maxRecDepth 20000 in
theorem gX9_columns_X6_copyFrom : GoodIn wsX9_columns (wsV RX9 82 RX6 yX6_copyFrom wsX6_copyFrom) := goodIn_app (goodIn_of _ (by decide +kernel)) ggX9_columns_X6_copyFrom
set_option maxRecDepth 20000 in
theorem ggX9_columns_X6_exchangeColumns : GoodIn wsX9_columns wsX6_exchangeColumns := goodIn_r _ [26, 13, 27, 28, 29, 11, 30, 31, 32, 33, 34, 18, 35, 36, 37, 38, 21, 6, 22, 73, 74] rfl (by decide +kernel)
set_option maxRecDepth 20000 in
theorem gX9_columns_X6_exchangeColumns : GoodIn wsX9_columns (wsV RX9 92 RX6 yX6_exchangeColumns wsX6_exchangeColumns) := goodIn_app (goodIn_of _ (by decide +kernel)) ggX9_columns_X6_exchangeColumns
set_option maxRecDepth 20000 in
theorem ggX9_columns_X9_changeToTrial : GoodIn wsX9_columns wsX9_changeToTrial := goodIn_r _ [42, 2, 1, 43, 44, 45, 46, 11, 47, 13, 31, 32, 33, 34, 18, 48, 49, 50, 51, 52, 53, 54, 55, 56, 57, 58, 59, 60, 61, 62, 63, 15, 16, 17, 19, 6, 20, 21, 22, 14, 64, 65, 66, 67, 68, 69, 70, 71, 72, 73, 74, 75, 76] rfl (by decide +kernel)
set_option maxRecDepth 20000 in
theorem gX9_columns_X9_changeToTrial : GoodIn wsX9_columns (wsV RX9 88 RX9 yX9_changeToTrial wsX9_changeToTrial) := goodIn_app (goodIn_of _ (by decide +kernel)) ggX9_columns_X9_changeToTrial
theorem dX9_columns_0 : decode cX9_columns 0 = .ok (.aload_n 0, 1) := by decide +kernel
theorem dX9_columns_1 : decode cX9_columns 1 = .ok (.iload_n 1, 1) := by decide +kernel
theorem dX9_columns_2 : decode cX9_columns 2 = .ok (.iload_n 2, 1) := by decide +kernel
theorem dX9_columns_3 : decode cX9_columns 3 = .ok (.invokevirtual 79, 3) := by decide +kernel
theorem dX9_columns_6 : decode cX9_columns 6 = .ok (.ifCond .ne 5, 3) := by decide +kernel
theorem dX9_columns_9 : decode cX9_columns 9 = .ok (.iconst (-1), 1) := by decide +kernel
theorem dX9_columns_10 : decode cX9_columns 10 = .ok (.ireturn, 1) := by decide +kernel
theorem dX9_columns_11 : decode cX9_columns 11 = .ok (.aload_n 0, 1) := by decide +kernel
theorem dX9_columns_12 : decode cX9_columns 12 = .ok (.getfield 19, 3) := by decide +kernel
theorem dX9_columns_15 : decode cX9_columns 15 = .ok (.aload_n 0, 1) := by decide +kernel
theorem dX9_columns_16 : decode cX9_columns 16 = .ok (.getfield 10, 3) := by decide +kernel
theorem dX9_columns_19 : decode cX9_columns 19 = .ok (.invokevirtual 82, 3) := by decide +kernel
theorem dX9_columns_22 : decode cX9_columns 22 = .ok (.aload_n 0, 1) := by decide +kernel
theorem dX9_columns_23 : decode cX9_columns 23 = .ok (.getfield 19, 3) := by decide +kernel
theorem dX9_columns_26 : decode cX9_columns 26 = .ok (.iload_n 1, 1) := by decide +kernel
theorem dX9_columns_27 : decode cX9_columns 27 = .ok (.iload_n 2, 1) := by decide +kernel
theorem dX9_columns_28 : decode cX9_columns 28 = .ok (.invokevirtual 92, 3) := by decide +kernel
theorem dX9_columns_31 : decode cX9_columns 31 = .ok (.aload_n 0, 1) := by decide +kernel
theorem dX9_columns_32 : decode cX9_columns 32 = .ok (.invokevirtual 88, 3) := by decide +kernel
theorem dX9_columns_35 : decode cX9_columns 35 = .ok (.ireturn, 1) := by decide +kernel
set_option maxRecDepth 20000 in
theorem ggX9_names_X9_areUnlikeTokens : GoodIn wsX9_names wsX9_areUnlikeTokens := goodIn_r _ [7, 2, 8, 9, 10, 11, 12, 13, 60, 61, 62, 63, 64, 65, 66, 67, 68, 69, 70] rfl (by decide +kernel)
set_option maxRecDepth 20000 in
theorem gX9_names_X9_areUnlikeTokens : GoodIn wsX9_names (wsV RX9 79 RX9 yX9_areUnlikeTokens wsX9_areUnlikeTokens) := goodIn_app (goodIn_of _ (by decide +kernel)) ggX9_names_X9_areUnlikeTokens
set_option maxRecDepth 20000 in
theorem ggX9_names_X6_copyFrom : GoodIn wsX9_names wsX6_copyFrom := goodIn_r _ [17, 13, 18, 19, 6, 20, 21, 22, 69, 70] rfl (by decide +kernel)
set_option maxRecDepth 20000 in
theorem gX9_names_X6_copyFrom : GoodIn wsX9_names (wsV RX9 82 RX6 yX6_copyFrom wsX6_copyFrom) := goodIn_app (goodIn_of _ (by decide +kernel)) ggX9_names_X6_copyFrom
set_option maxRecDepth 20000 in
theorem ggX9_names_X6_exchangeNames : GoodIn wsX9_names wsX6_exchangeNames := goodIn_r _ [26, 13, 27, 28, 29, 11, 30, 18, 31, 32, 33, 34, 21, 6, 22, 69, 70] rfl (by decide +kernel)
set_option maxRecDepth 20000 in
theorem gX9_names_X6_exchangeNames : GoodIn wsX9_names (wsV RX9 95 RX6 yX6_exchangeNames wsX6_exchangeNames) := goodIn_app (goodIn_of _ (by decide +kernel)) ggX9_names_X6_exchangeNames
set_option maxRecDepth 20000 in
theorem ggX9_names_X9_changeToTrial : GoodIn wsX9_names wsX9_changeToTrial := goodIn_r _ [38, 2, 1, 39, 40, 41, 42, 11, 43, 13, 27, 28, 29, 30, 18, 44, 45, 46, 47, 48, 49, 50, 51, 52, 53, 54, 55, 56, 57, 58, 59, 15, 16, 17, 19, 6, 20, 21, 22, 14, 60, 61, 62, 63, 64, 65, 66, 67, 68, 69, 70, 71, 72] rfl (by decide +kernel)
set_option maxRecDepth 20000 in
theorem gX9_names_X9_changeToTrial : GoodIn wsX9_names (wsV RX9 88 RX9 yX9_changeToTrial wsX9_changeToTrial) := goodIn_app (goodIn_of _ (by decide +kernel)) ggX9_names_X9_changeToTrial
theorem dX9_names_0 : decode cX9_names 0 = .ok (.aload_n 0, 1) := by decide +kernel
theorem dX9_names_1 : decode cX9_names 1 = .ok (.iload_n 1, 1) := by decide +kernel
theorem dX9_names_2 : decode cX9_names 2 = .ok (.iload_n 2, 1) := by decide +kernel
theorem dX9_names_3 : decode cX9_names 3 = .ok (.invokevirtual 79, 3) := by decide +kernel
theorem dX9_names_6 : decode cX9_names 6 = .ok (.ifCond .ne 5, 3) := by decide +kernel
theorem dX9_names_9 : decode cX9_names 9 = .ok (.iconst (-1), 1) := by decide +kernel
theorem dX9_names_10 : decode cX9_names 10 = .ok (.ireturn, 1) := by decide +kernel
theorem dX9_names_11 : decode cX9_names 11 = .ok (.aload_n 0, 1) := by decide +kernel
theorem dX9_names_12 : decode cX9_names 12 = .ok (.getfield 19, 3) := by decide +kernel
theorem dX9_names_15 : decode cX9_names 15 = .ok (.aload_n 0, 1) := by decide +kernel
theorem dX9_names_16 : decode cX9_names 16 = .ok (.getfield 10, 3) := by decide +kernel
theorem dX9_names_19 : decode cX9_names 19 = .ok (.invokevirtual 82, 3) := by decide +kernel
theorem dX9_names_22 : decode cX9_names 22 = .ok (.aload_n 0, 1) := by decide +kernel
theorem dX9_names_23 : decode cX9_names 23 = .ok (.getfield 19, 3) := by decide +kernel
theorem dX9_names_26 : decode cX9_names 26 = .ok (.iload_n 1, 1) := by decide +kernel
theorem dX9_names_27 : decode cX9_names 27 = .ok (.iload_n 2, 1) := by decide +kernel
theorem dX9_names_28 : decode cX9_names 28 = .ok (.invokevirtual 95, 3) := by decide +kernel
theorem dX9_names_31 : decode cX9_names 31 = .ok (.aload_n 0, 1) := by decide +kernel
theorem dX9_names_32 : decode cX9_names 32 = .ok (.invokevirtual 88, 3) := by decide +kernel
theorem dX9_names_35 : decode cX9_names 35 = .ok (.ireturn, 1) := by decide +kernel
set_option maxRecDepth 20000 in
theorem ggX9_swap_X9_areUnlikeTokens : GoodIn wsX9_swap wsX9_areUnlikeTokens := goodIn_r _ [7, 1, 8, 9, 10, 11, 12, 13, 70, 71, 72, 73, 74, 75, 76, 77, 78, 79, 80] rfl (by decide +kernel)
set_option maxRecDepth 20000 in
theorem gX9_swap_X9_areUnlikeTokens : GoodIn wsX9_swap (wsV RX9 79 RX9 yX9_areUnlikeTokens wsX9_areUnlikeTokens) := goodIn_app (goodIn_of _ (by decide +kernel)) ggX9_swap_X9_areUnlikeTokens
set_option maxRecDepth 20000 in
theorem ggX9_swap_X6_isLittleSquare : GoodIn wsX9_swap wsX6_isLittleSquare := goodIn_r _ [17, 18, 19, 20, 11, 21, 22, 79, 80] rfl (by decide +kernel)
set_option maxRecDepth 20000 in
theorem gX9_swap_X6_isLittleSquare : GoodIn wsX9_swap (wsV RX9 98 RX6 yX6_isLittleSquare wsX6_isLittleSquare) := goodIn_app (goodIn_of _ (by decide +kernel)) ggX9_swap_X6_isLittleSquare
set_option maxRecDepth 20000 in
theorem ggX9_swap_X8_associatingTriples : GoodIn wsX9_swap wsX8_associatingTriples := goodIn_r _ [26, 27, 28, 29, 11, 30, 13, 31, 32, 25, 33, 34, 19, 20, 21, 22, 79, 80] rfl (by decide +kernel)
set_option maxRecDepth 20000 in
theorem gX9_swap_X8_associatingTriples : GoodIn wsX9_swap (va_wsS RX9 73 yX8_associatingTriples wsX8_associatingTriples) := goodIn_app (goodIn_of _ (by decide +kernel)) ggX9_swap_X8_associatingTriples
set_option maxRecDepth 20000 in
theorem ggX9_swap_X0_record : GoodIn wsX9_swap wsX0_record := goodIn_r _ [39, 40, 41, 42, 43, 38, 44, 45, 46, 47, 48, 49, 50, 51, 52, 11, 53, 13, 22, 54, 6, 55, 56, 57, 81, 82, 79, 80] rfl (by decide +kernel)
set_option maxRecDepth 20000 in
theorem gX9_swap_X0_record : GoodIn wsX9_swap (wsV RX9 69 RX0 yX0_record wsX0_record) := goodIn_app (goodIn_of _ (by decide +kernel)) ggX9_swap_X0_record
set_option maxRecDepth 20000 in
theorem ggX9_swap_X6_swapSquare : GoodIn wsX9_swap wsX6_swapSquare := goodIn_r _ [61, 62, 63, 64, 11, 65, 18, 19, 20, 21, 22, 66, 67, 68, 69, 56, 6, 57, 79, 80] rfl (by decide +kernel)
set_option maxRecDepth 20000 in
theorem gX9_swap_X6_swapSquare : GoodIn wsX9_swap (wsV RX9 102 RX6 yX6_swapSquare wsX6_swapSquare) := goodIn_app (goodIn_of _ (by decide +kernel)) ggX9_swap_X6_swapSquare
theorem dX9_swap_0 : decode cX9_swap 0 = .ok (.aload_n 0, 1) := by decide +kernel
theorem dX9_swap_1 : decode cX9_swap 1 = .ok (.iload_n 1, 1) := by decide +kernel
theorem dX9_swap_2 : decode cX9_swap 2 = .ok (.iload_n 2, 1) := by decide +kernel
theorem dX9_swap_3 : decode cX9_swap 3 = .ok (.invokevirtual 79, 3) := by decide +kernel
theorem dX9_swap_6 : decode cX9_swap 6 = .ok (.ifCond .eq 13, 3) := by decide +kernel
theorem dX9_swap_9 : decode cX9_swap 9 = .ok (.aload_n 0, 1) := by decide +kernel
theorem dX9_swap_10 : decode cX9_swap 10 = .ok (.iload_n 3, 1) := by decide +kernel
theorem dX9_swap_11 : decode cX9_swap 11 = .ok (.iload 4, 2) := by decide +kernel
theorem dX9_swap_13 : decode cX9_swap 13 = .ok (.invokevirtual 79, 3) := by decide +kernel
theorem dX9_swap_16 : decode cX9_swap 16 = .ok (.ifCond .ne 5, 3) := by decide +kernel
theorem dX9_swap_19 : decode cX9_swap 19 = .ok (.iconst (-1), 1) := by decide +kernel
theorem dX9_swap_20 : decode cX9_swap 20 = .ok (.ireturn, 1) := by decide +kernel
theorem dX9_swap_21 : decode cX9_swap 21 = .ok (.aload_n 0, 1) := by decide +kernel
theorem dX9_swap_22 : decode cX9_swap 22 = .ok (.getfield 10, 3) := by decide +kernel
theorem dX9_swap_25 : decode cX9_swap 25 = .ok (.iload_n 1, 1) := by decide +kernel
theorem dX9_swap_26 : decode cX9_swap 26 = .ok (.iload_n 2, 1) := by decide +kernel
theorem dX9_swap_27 : decode cX9_swap 27 = .ok (.iload_n 3, 1) := by decide +kernel
theorem dX9_swap_28 : decode cX9_swap 28 = .ok (.iload 4, 2) := by decide +kernel
theorem dX9_swap_30 : decode cX9_swap 30 = .ok (.invokevirtual 98, 3) := by decide +kernel
theorem dX9_swap_33 : decode cX9_swap 33 = .ok (.ifCond .ne 6, 3) := by decide +kernel
theorem dX9_swap_36 : decode cX9_swap 36 = .ok (.bipush (-2), 2) := by decide +kernel
theorem dX9_swap_38 : decode cX9_swap 38 = .ok (.ireturn, 1) := by decide +kernel
theorem dX9_swap_39 : decode cX9_swap 39 = .ok (.aload_n 0, 1) := by decide +kernel
theorem dX9_swap_40 : decode cX9_swap 40 = .ok (.getfield 10, 3) := by decide +kernel
theorem dX9_swap_43 : decode cX9_swap 43 = .ok (.invokestatic 73, 3) := by decide +kernel
theorem dX9_swap_46 : decode cX9_swap 46 = .ok (.istore 5, 2) := by decide +kernel
theorem dX9_swap_48 : decode cX9_swap 48 = .ok (.aload_n 0, 1) := by decide +kernel
theorem dX9_swap_49 : decode cX9_swap 49 = .ok (.getfield 25, 3) := by decide +kernel
theorem dX9_swap_52 : decode cX9_swap 52 = .ok (.aload_n 0, 1) := by decide +kernel
theorem dX9_swap_53 : decode cX9_swap 53 = .ok (.getfield 10, 3) := by decide +kernel
theorem dX9_swap_56 : decode cX9_swap 56 = .ok (.invokevirtual 69, 3) := by decide +kernel
theorem dX9_swap_59 : decode cX9_swap 59 = .ok (.aload_n 0, 1) := by decide +kernel
theorem dX9_swap_60 : decode cX9_swap 60 = .ok (.getfield 10, 3) := by decide +kernel
theorem dX9_swap_63 : decode cX9_swap 63 = .ok (.iload_n 1, 1) := by decide +kernel
theorem dX9_swap_64 : decode cX9_swap 64 = .ok (.iload_n 2, 1) := by decide +kernel
theorem dX9_swap_65 : decode cX9_swap 65 = .ok (.iload_n 3, 1) := by decide +kernel
theorem dX9_swap_66 : decode cX9_swap 66 = .ok (.iload 4, 2) := by decide +kernel
theorem dX9_swap_68 : decode cX9_swap 68 = .ok (.invokevirtual 102, 3) := by decide +kernel
theorem dX9_swap_71 : decode cX9_swap 71 = .ok (.sipush 1000, 3) := by decide +kernel
theorem dX9_swap_74 : decode cX9_swap 74 = .ok (.aload_n 0, 1) := by decide +kernel
theorem dX9_swap_75 : decode cX9_swap 75 = .ok (.getfield 10, 3) := by decide +kernel
theorem dX9_swap_78 : decode cX9_swap 78 = .ok (.invokestatic 73, 3) := by decide +kernel
theorem dX9_swap_81 : decode cX9_swap 81 = .ok (.iadd, 1) := by decide +kernel
theorem dX9_swap_82 : decode cX9_swap 82 = .ok (.iload 5, 2) := by decide +kernel
theorem dX9_swap_84 : decode cX9_swap 84 = .ok (.isub, 1) := by decide +kernel
theorem dX9_swap_85 : decode cX9_swap 85 = .ok (.ireturn, 1) := by decide +kernel
set_option maxRecDepth 20000 in
theorem ggX9_append_X9_isWithin : GoodIn wsX9_append wsX9_isWithin := goodIn_r _ [5] rfl (by decide +kernel)
set_option maxRecDepth 20000 in
theorem gX9_append_X9_isWithin : GoodIn wsX9_append (va_wsS RX9 61 yX9_isWithin wsX9_isWithin) := goodIn_app (goodIn_of _ (by decide +kernel)) ggX9_append_X9_isWithin
set_option maxRecDepth 20000 in
theorem ggX9_append_X1_add : GoodIn wsX9_append wsX1_add := goodIn_r _ [10, 11, 12, 26, 27] rfl (by decide +kernel)
set_option maxRecDepth 20000 in
theorem gX9_append_X1_add : GoodIn wsX9_append (wsV RX9 106 RX1 yX1_add wsX1_add) := goodIn_app (goodIn_of _ (by decide +kernel)) ggX9_append_X1_add
set_option maxRecDepth 20000 in
theorem ggX9_append_X1_length : GoodIn wsX9_append wsX1_length := goodIn_r _ [16, 11, 26, 27] rfl (by decide +kernel)
set_option maxRecDepth 20000 in
theorem gX9_append_X1_length : GoodIn wsX9_append (wsV RX9 110 RX1 yX1_length wsX1_length) := goodIn_app (goodIn_of _ (by decide +kernel)) ggX9_append_X1_length
theorem dX9_append_0 : decode cX9_append 0 = .ok (.iload_n 1, 1) := by decide +kernel
theorem dX9_append_1 : decode cX9_append 1 = .ok (.bipush 33, 2) := by decide +kernel
theorem dX9_append_3 : decode cX9_append 3 = .ok (.bipush 126, 2) := by decide +kernel
theorem dX9_append_5 : decode cX9_append 5 = .ok (.invokestatic 61, 3) := by decide +kernel
theorem dX9_append_8 : decode cX9_append 8 = .ok (.ifCond .ne 5, 3) := by decide +kernel
theorem dX9_append_11 : decode cX9_append 11 = .ok (.iconst (-1), 1) := by decide +kernel
theorem dX9_append_12 : decode cX9_append 12 = .ok (.ireturn, 1) := by decide +kernel
theorem dX9_append_13 : decode cX9_append 13 = .ok (.aload_n 0, 1) := by decide +kernel
theorem dX9_append_14 : decode cX9_append 14 = .ok (.getfield 32, 3) := by decide +kernel
theorem dX9_append_17 : decode cX9_append 17 = .ok (.iload_n 1, 1) := by decide +kernel
theorem dX9_append_18 : decode cX9_append 18 = .ok (.i2c, 1) := by decide +kernel
theorem dX9_append_19 : decode cX9_append 19 = .ok (.invokevirtual 106, 3) := by decide +kernel
theorem dX9_append_22 : decode cX9_append 22 = .ok (.ifCond .eq 13, 3) := by decide +kernel
theorem dX9_append_25 : decode cX9_append 25 = .ok (.aload_n 0, 1) := by decide +kernel
theorem dX9_append_26 : decode cX9_append 26 = .ok (.getfield 32, 3) := by decide +kernel
theorem dX9_append_29 : decode cX9_append 29 = .ok (.invokevirtual 110, 3) := by decide +kernel
theorem dX9_append_32 : decode cX9_append 32 = .ok (.goto 5, 3) := by decide +kernel
theorem dX9_append_35 : decode cX9_append 35 = .ok (.bipush (-3), 2) := by decide +kernel
theorem dX9_append_37 : decode cX9_append 37 = .ok (.ireturn, 1) := by decide +kernel
set_option maxRecDepth 20000 in
theorem ggX9_clear_X1_length : GoodIn wsX9_clear wsX1_length := goodIn_r _ [6, 7, 21, 22] rfl (by decide +kernel)
set_option maxRecDepth 20000 in
theorem gX9_clear_X1_length : GoodIn wsX9_clear (wsV RX9 110 RX1 yX1_length wsX1_length) := goodIn_app (goodIn_of _ (by decide +kernel)) ggX9_clear_X1_length
set_option maxRecDepth 20000 in
theorem ggX9_clear_X1_wipe : GoodIn wsX9_clear wsX1_wipe := goodIn_r _ [11, 7, 21, 22] rfl (by decide +kernel)
set_option maxRecDepth 20000 in
theorem gX9_clear_X1_wipe : GoodIn wsX9_clear (wsV RX9 113 RX1 yX1_wipe wsX1_wipe) := goodIn_app (goodIn_of _ (by decide +kernel)) ggX9_clear_X1_wipe
theorem dX9_clear_0 : decode cX9_clear 0 = .ok (.aload_n 0, 1) := by decide +kernel
theorem dX9_clear_1 : decode cX9_clear 1 = .ok (.getfield 32, 3) := by decide +kernel
theorem dX9_clear_4 : decode cX9_clear 4 = .ok (.invokevirtual 110, 3) := by decide +kernel
theorem dX9_clear_7 : decode cX9_clear 7 = .ok (.istore_n 1, 1) := by decide +kernel
theorem dX9_clear_8 : decode cX9_clear 8 = .ok (.aload_n 0, 1) := by decide +kernel
theorem dX9_clear_9 : decode cX9_clear 9 = .ok (.getfield 32, 3) := by decide +kernel
theorem dX9_clear_12 : decode cX9_clear 12 = .ok (.invokevirtual 113, 3) := by decide +kernel
theorem dX9_clear_15 : decode cX9_clear 15 = .ok (.iload_n 1, 1) := by decide +kernel
theorem dX9_clear_16 : decode cX9_clear 16 = .ok (.ireturn, 1) := by decide +kernel
set_option maxRecDepth 20000 in
theorem ggX9_fault_X6_size : GoodIn wsX9_fault wsX6_size := goodIn_r _ [10, 11, 104, 105] rfl (by decide +kernel)
set_option maxRecDepth 20000 in
theorem gX9_fault_X6_size : GoodIn wsX9_fault (wsV RX9 116 RX6 yX6_size wsX6_size) := goodIn_app (goodIn_of _ (by decide +kernel)) ggX9_fault_X6_size
set_option maxRecDepth 20000 in
theorem ggX9_fault_X6_readFrom : GoodIn wsX9_fault wsX6_readFrom := goodIn_r _ [15, 11, 16, 17, 18, 19, 20, 21, 22, 23, 24, 25, 26, 27, 28, 29, 30, 9, 31, 32, 33, 34, 35, 36, 37, 38, 39, 40, 41, 42, 43, 44, 45, 46, 47, 48, 49, 50, 51, 104, 105, 106, 107] rfl (by decide +kernel)
set_option maxRecDepth 20000 in
theorem gX9_fault_X6_readFrom : GoodIn wsX9_fault (wsV RX9 119 RX6 yX6_readFrom wsX6_readFrom) := goodIn_app (goodIn_of _ (by decide +kernel)) ggX9_fault_X6_readFrom
set_option maxRecDepth 20000 in
theorem ggX9_fault_X5_readFrom : GoodIn wsX9_fault wsX5_readFrom := goodIn_r _ [56, 57, 58, 59, 60, 45, 46, 47, 61, 49, 50, 19, 51, 21, 62, 63, 64, 55, 65, 66, 17, 18, 20, 22, 67, 24, 25, 26, 27, 68, 29, 30, 9, 31, 11, 69, 70, 71, 72, 73, 74, 75, 76, 77, 78, 79, 80, 37, 38, 39, 40, 81, 82, 83, 84, 108, 109, 110, 111, 112, 113, 114, 115, 116, 106, 107, 104, 105] rfl (by decide +kernel)
set_option maxRecDepth 20000 in
theorem gX9_fault_X5_readFrom : GoodIn wsX9_fault (wsV RX9 123 RX5 yX5_readFrom wsX5_readFrom) := goodIn_app (goodIn_of _ (by decide +kernel)) ggX9_fault_X5_readFrom
set_option maxRecDepth 20000 in
theorem ggX9_fault_X3_readFrom : GoodIn wsX9_fault wsX3_readFrom := goodIn_r _ [89, 90, 91, 92, 49, 50, 19, 51, 21, 93, 24, 25, 26, 27, 17, 18, 20, 22, 94, 29, 30, 9, 31, 11, 45, 46, 47, 117, 118, 119, 106, 107, 104, 105] rfl (by decide +kernel)
set_option maxRecDepth 20000 in
theorem gX9_fault_X3_readFrom : GoodIn wsX9_fault (wsV RX9 126 RX3 yX3_readFrom wsX3_readFrom) := goodIn_app (goodIn_of _ (by decide +kernel)) ggX9_fault_X3_readFrom
theorem dX9_fault_0 : decode cX9_fault 0 = .ok (.iload_n 1, 1) := by decide +kernel
theorem dX9_fault_1 : decode cX9_fault 1 = .ok (.tableswitch 78 0 2 #[27, 46, 62], 27) := by decide +kernel
theorem dX9_fault_28 : decode cX9_fault 28 = .ok (.aload_n 0, 1) := by decide +kernel
theorem dX9_fault_29 : decode cX9_fault 29 = .ok (.getfield 19, 3) := by decide +kernel
theorem dX9_fault_32 : decode cX9_fault 32 = .ok (.aload_n 0, 1) := by decide +kernel
theorem dX9_fault_33 : decode cX9_fault 33 = .ok (.getfield 32, 3) := by decide +kernel
theorem dX9_fault_36 : decode cX9_fault 36 = .ok (.aload_n 0, 1) := by decide +kernel
theorem dX9_fault_37 : decode cX9_fault 37 = .ok (.getfield 10, 3) := by decide +kernel
theorem dX9_fault_40 : decode cX9_fault 40 = .ok (.invokevirtual 116, 3) := by decide +kernel
theorem dX9_fault_43 : decode cX9_fault 43 = .ok (.invokevirtual 119, 3) := by decide +kernel
theorem dX9_fault_46 : decode cX9_fault 46 = .ok (.ireturn, 1) := by decide +kernel
theorem dX9_fault_47 : decode cX9_fault 47 = .ok (.aload_n 0, 1) := by decide +kernel
theorem dX9_fault_48 : decode cX9_fault 48 = .ok (.getfield 39, 3) := by decide +kernel
theorem dX9_fault_51 : decode cX9_fault 51 = .ok (.aload_n 0, 1) := by decide +kernel
theorem dX9_fault_52 : decode cX9_fault 52 = .ok (.getfield 32, 3) := by decide +kernel
theorem dX9_fault_55 : decode cX9_fault 55 = .ok (.aload_n 0, 1) := by decide +kernel
theorem dX9_fault_56 : decode cX9_fault 56 = .ok (.getfield 10, 3) := by decide +kernel
theorem dX9_fault_59 : decode cX9_fault 59 = .ok (.invokevirtual 123, 3) := by decide +kernel
theorem dX9_fault_62 : decode cX9_fault 62 = .ok (.ireturn, 1) := by decide +kernel
theorem dX9_fault_63 : decode cX9_fault 63 = .ok (.aload_n 0, 1) := by decide +kernel
theorem dX9_fault_64 : decode cX9_fault 64 = .ok (.getfield 46, 3) := by decide +kernel
theorem dX9_fault_67 : decode cX9_fault 67 = .ok (.aload_n 0, 1) := by decide +kernel
theorem dX9_fault_68 : decode cX9_fault 68 = .ok (.getfield 32, 3) := by decide +kernel
theorem dX9_fault_71 : decode cX9_fault 71 = .ok (.aload_n 0, 1) := by decide +kernel
theorem dX9_fault_72 : decode cX9_fault 72 = .ok (.getfield 10, 3) := by decide +kernel
theorem dX9_fault_75 : decode cX9_fault 75 = .ok (.invokevirtual 126, 3) := by decide +kernel
theorem dX9_fault_78 : decode cX9_fault 78 = .ok (.ireturn, 1) := by decide +kernel
theorem dX9_fault_79 : decode cX9_fault 79 = .ok (.iconst (-1), 1) := by decide +kernel
theorem dX9_fault_80 : decode cX9_fault 80 = .ok (.ireturn, 1) := by decide +kernel
set_option maxRecDepth 20000 in
theorem ggX9_load_X6_size : GoodIn wsX9_load wsX6_size := goodIn_r _ [8, 9, 94, 95] rfl (by decide +kernel)
set_option maxRecDepth 20000 in
theorem gX9_load_X6_size : GoodIn wsX9_load (wsV RX9 116 RX6 yX6_size wsX6_size) := goodIn_app (goodIn_of _ (by decide +kernel)) ggX9_load_X6_size
set_option maxRecDepth 20000 in
theorem ggX9_load_X6_readFrom : GoodIn wsX9_load wsX6_readFrom := goodIn_r _ [13, 9, 14, 15, 16, 17, 18, 19, 20, 21, 22, 23, 24, 25, 26, 27, 28, 7, 29, 30, 31, 32, 33, 34, 35, 36, 37, 38, 39, 40, 41, 42, 43, 44, 45, 46, 47, 48, 49, 94, 95, 96, 97] rfl (by decide +kernel)
set_option maxRecDepth 20000 in
theorem gX9_load_X6_readFrom : GoodIn wsX9_load (wsV RX9 119 RX6 yX6_readFrom wsX6_readFrom) := goodIn_app (goodIn_of _ (by decide +kernel)) ggX9_load_X6_readFrom
set_option maxRecDepth 20000 in
theorem ggX9_load_X1_wipe : GoodIn wsX9_load wsX1_wipe := goodIn_r _ [53, 19, 96, 97] rfl (by decide +kernel)
set_option maxRecDepth 20000 in
theorem gX9_load_X1_wipe : GoodIn wsX9_load (wsV RX9 113 RX1 yX1_wipe wsX1_wipe) := goodIn_app (goodIn_of _ (by decide +kernel)) ggX9_load_X1_wipe
set_option maxRecDepth 20000 in
theorem ggX9_load_X9_changeToTrial : GoodIn wsX9_load wsX9_changeToTrial := goodIn_r _ [57, 3, 1, 58, 59, 60, 61, 7, 62, 9, 34, 35, 36, 37, 38, 63, 64, 65, 66, 67, 68, 69, 70, 71, 72, 73, 74, 75, 76, 77, 78, 79, 80, 81, 82, 44, 83, 43, 45, 84, 85, 86, 87, 88, 89, 90, 91, 92, 93, 94, 95, 98, 99] rfl (by decide +kernel)
set_option maxRecDepth 20000 in
theorem gX9_load_X9_changeToTrial : GoodIn wsX9_load (wsV RX9 88 RX9 yX9_changeToTrial wsX9_changeToTrial) := goodIn_app (goodIn_of _ (by decide +kernel)) ggX9_load_X9_changeToTrial
theorem dX9_load_0 : decode cX9_load 0 = .ok (.aload_n 0, 1) := by decide +kernel
theorem dX9_load_1 : decode cX9_load 1 = .ok (.getfield 19, 3) := by decide +kernel
theorem dX9_load_4 : decode cX9_load 4 = .ok (.aload_n 0, 1) := by decide +kernel
theorem dX9_load_5 : decode cX9_load 5 = .ok (.getfield 32, 3) := by decide +kernel
theorem dX9_load_8 : decode cX9_load 8 = .ok (.aload_n 0, 1) := by decide +kernel
theorem dX9_load_9 : decode cX9_load 9 = .ok (.getfield 10, 3) := by decide +kernel
theorem dX9_load_12 : decode cX9_load 12 = .ok (.invokevirtual 116, 3) := by decide +kernel
theorem dX9_load_15 : decode cX9_load 15 = .ok (.invokevirtual 119, 3) := by decide +kernel
theorem dX9_load_18 : decode cX9_load 18 = .ok (.bipush (-4), 2) := by decide +kernel
theorem dX9_load_20 : decode cX9_load 20 = .ok (.if_icmp .eq 6, 3) := by decide +kernel
theorem dX9_load_23 : decode cX9_load 23 = .ok (.bipush (-2), 2) := by decide +kernel
theorem dX9_load_25 : decode cX9_load 25 = .ok (.ireturn, 1) := by decide +kernel
theorem dX9_load_26 : decode cX9_load 26 = .ok (.aload_n 0, 1) := by decide +kernel
theorem dX9_load_27 : decode cX9_load 27 = .ok (.getfield 32, 3) := by decide +kernel
theorem dX9_load_30 : decode cX9_load 30 = .ok (.invokevirtual 113, 3) := by decide +kernel
theorem dX9_load_33 : decode cX9_load 33 = .ok (.aload_n 0, 1) := by decide +kernel
theorem dX9_load_34 : decode cX9_load 34 = .ok (.invokevirtual 88, 3) := by decide +kernel
theorem dX9_load_37 : decode cX9_load 37 = .ok (.ireturn, 1) := by decide +kernel
set_option maxRecDepth 20000 in
theorem ggX9_value_X5_readFrom : GoodIn wsX9_value wsX5_readFrom := goodIn_r _ [8, 9, 10, 11, 12, 13, 14, 15, 16, 17, 18, 19, 20, 21, 22, 23, 24, 7, 25, 26, 27, 28, 29, 30, 31, 32, 33, 34, 35, 36, 37, 38, 39, 40, 41, 42, 43, 44, 45, 46, 47, 48, 49, 50, 51, 52, 53, 54, 55, 56, 57, 58, 59, 60, 61, 75, 76, 77, 78, 79, 80, 81, 82, 83, 84, 85, 86, 87] rfl (by decide +kernel)
set_option maxRecDepth 20000 in
theorem gX9_value_X5_readFrom : GoodIn wsX9_value (wsV RX9 123 RX5 yX5_readFrom wsX5_readFrom) := goodIn_app (goodIn_of _ (by decide +kernel)) ggX9_value_X5_readFrom
set_option maxRecDepth 20000 in
theorem ggX9_value_X5_total : GoodIn wsX9_value wsX5_total := goodIn_r _ [65, 12, 51, 14, 52, 75, 76, 77, 78, 79, 80, 81, 82, 83] rfl (by decide +kernel)
set_option maxRecDepth 20000 in
theorem gX9_value_X5_total : GoodIn wsX9_value (wsV RX9 127 RX5 yX5_total wsX5_total) := goodIn_app (goodIn_of _ (by decide +kernel)) ggX9_value_X5_total
theorem dX9_value_0 : decode cX9_value 0 = .ok (.aload_n 0, 1) := by decide +kernel
theorem dX9_value_1 : decode cX9_value 1 = .ok (.getfield 39, 3) := by decide +kernel
theorem dX9_value_4 : decode cX9_value 4 = .ok (.aload_n 0, 1) := by decide +kernel
theorem dX9_value_5 : decode cX9_value 5 = .ok (.getfield 32, 3) := by decide +kernel
theorem dX9_value_8 : decode cX9_value 8 = .ok (.aload_n 0, 1) := by decide +kernel
theorem dX9_value_9 : decode cX9_value 9 = .ok (.getfield 10, 3) := by decide +kernel
theorem dX9_value_12 : decode cX9_value 12 = .ok (.invokevirtual 123, 3) := by decide +kernel
theorem dX9_value_15 : decode cX9_value 15 = .ok (.bipush (-4), 2) := by decide +kernel
theorem dX9_value_17 : decode cX9_value 17 = .ok (.if_icmp .eq 6, 3) := by decide +kernel
theorem dX9_value_20 : decode cX9_value 20 = .ok (.bipush (-2), 2) := by decide +kernel
theorem dX9_value_22 : decode cX9_value 22 = .ok (.ireturn, 1) := by decide +kernel
theorem dX9_value_23 : decode cX9_value 23 = .ok (.aload_n 0, 1) := by decide +kernel
theorem dX9_value_24 : decode cX9_value 24 = .ok (.getfield 39, 3) := by decide +kernel
theorem dX9_value_27 : decode cX9_value 27 = .ok (.invokevirtual 127, 3) := by decide +kernel
theorem dX9_value_30 : decode cX9_value 30 = .ok (.ireturn, 1) := by decide +kernel
set_option maxRecDepth 20000 in
theorem ggX9_step_X9_isWithin : GoodIn wsX9_step wsX9_isWithin := goodIn_r _ [7] rfl (by decide +kernel)
set_option maxRecDepth 20000 in
theorem gX9_step_X9_isWithin : GoodIn wsX9_step (va_wsS RX9 61 yX9_isWithin wsX9_isWithin) := goodIn_app (goodIn_of _ (by decide +kernel)) ggX9_step_X9_isWithin
set_option maxRecDepth 20000 in
theorem ggX9_step_X5_readFrom : GoodIn wsX9_step wsX5_readFrom := goodIn_r _ [12, 13, 14, 15, 16, 17, 6, 18, 19, 20, 21, 22, 23, 24, 25, 26, 27, 11, 28, 29, 30, 31, 32, 33, 34, 35, 36, 37, 38, 39, 40, 41, 42, 43, 44, 45, 46, 47, 48, 49, 50, 51, 52, 53, 54, 55, 56, 57, 58, 59, 60, 61, 62, 63, 64, 78, 79, 80, 81, 82, 83, 84, 85, 86, 87, 88, 89, 90] rfl (by decide +kernel)
set_option maxRecDepth 20000 in
theorem gX9_step_X5_readFrom : GoodIn wsX9_step (wsV RX9 123 RX5 yX5_readFrom wsX5_readFrom) := goodIn_app (goodIn_of _ (by decide +kernel)) ggX9_step_X5_readFrom
set_option maxRecDepth 20000 in
theorem ggX9_step_X5_stepAt : GoodIn wsX9_step wsX5_stepAt := goodIn_r _ [68, 14, 49, 50, 51, 52, 54, 6, 55, 78, 79, 80, 81, 82, 83, 84, 85, 86] rfl (by decide +kernel)
set_option maxRecDepth 20000 in
theorem gX9_step_X5_stepAt : GoodIn wsX9_step (wsV RX9 130 RX5 yX5_stepAt wsX5_stepAt) := goodIn_app (goodIn_of _ (by decide +kernel)) ggX9_step_X5_stepAt
theorem dX9_step_0 : decode cX9_step 0 = .ok (.iload_n 1, 1) := by decide +kernel
theorem dX9_step_1 : decode cX9_step 1 = .ok (.ifCond .lt 12, 3) := by decide +kernel
theorem dX9_step_4 : decode cX9_step 4 = .ok (.iload_n 2, 1) := by decide +kernel
theorem dX9_step_5 : decode cX9_step 5 = .ok (.iconst 0, 1) := by decide +kernel
theorem dX9_step_6 : decode cX9_step 6 = .ok (.iconst 3, 1) := by decide +kernel
theorem dX9_step_7 : decode cX9_step 7 = .ok (.invokestatic 61, 3) := by decide +kernel
theorem dX9_step_10 : decode cX9_step 10 = .ok (.ifCond .ne 5, 3) := by decide +kernel
theorem dX9_step_13 : decode cX9_step 13 = .ok (.iconst (-1), 1) := by decide +kernel
theorem dX9_step_14 : decode cX9_step 14 = .ok (.ireturn, 1) := by decide +kernel
theorem dX9_step_15 : decode cX9_step 15 = .ok (.aload_n 0, 1) := by decide +kernel
theorem dX9_step_16 : decode cX9_step 16 = .ok (.getfield 39, 3) := by decide +kernel
theorem dX9_step_19 : decode cX9_step 19 = .ok (.aload_n 0, 1) := by decide +kernel
theorem dX9_step_20 : decode cX9_step 20 = .ok (.getfield 32, 3) := by decide +kernel
theorem dX9_step_23 : decode cX9_step 23 = .ok (.aload_n 0, 1) := by decide +kernel
theorem dX9_step_24 : decode cX9_step 24 = .ok (.getfield 10, 3) := by decide +kernel
theorem dX9_step_27 : decode cX9_step 27 = .ok (.invokevirtual 123, 3) := by decide +kernel
theorem dX9_step_30 : decode cX9_step 30 = .ok (.bipush (-4), 2) := by decide +kernel
theorem dX9_step_32 : decode cX9_step 32 = .ok (.if_icmp .eq 6, 3) := by decide +kernel
theorem dX9_step_35 : decode cX9_step 35 = .ok (.bipush (-2), 2) := by decide +kernel
theorem dX9_step_37 : decode cX9_step 37 = .ok (.ireturn, 1) := by decide +kernel
theorem dX9_step_38 : decode cX9_step 38 = .ok (.aload_n 0, 1) := by decide +kernel
theorem dX9_step_39 : decode cX9_step 39 = .ok (.getfield 39, 3) := by decide +kernel
theorem dX9_step_42 : decode cX9_step 42 = .ok (.iload_n 1, 1) := by decide +kernel
theorem dX9_step_43 : decode cX9_step 43 = .ok (.iload_n 2, 1) := by decide +kernel
theorem dX9_step_44 : decode cX9_step 44 = .ok (.invokevirtual 130, 3) := by decide +kernel
theorem dX9_step_47 : decode cX9_step 47 = .ok (.ireturn, 1) := by decide +kernel
set_option maxRecDepth 20000 in
theorem ggX9_sum_X6_has : GoodIn wsX9_sum wsX6_has := goodIn_r _ [6, 7, 22, 23] rfl (by decide +kernel)
set_option maxRecDepth 20000 in
theorem gX9_sum_X6_has : GoodIn wsX9_sum (wsV RX9 134 RX6 yX6_has wsX6_has) := goodIn_app (goodIn_of _ (by decide +kernel)) ggX9_sum_X6_has
set_option maxRecDepth 20000 in
theorem ggX9_sum_X6_at : GoodIn wsX9_sum wsX6_at := goodIn_r _ [11, 12, 22, 23] rfl (by decide +kernel)
set_option maxRecDepth 20000 in
theorem gX9_sum_X6_at : GoodIn wsX9_sum (wsV RX9 138 RX6 yX6_at wsX6_at) := goodIn_app (goodIn_of _ (by decide +kernel)) ggX9_sum_X6_at
theorem dX9_sum_0 : decode cX9_sum 0 = .ok (.aload_n 0, 1) := by decide +kernel
theorem dX9_sum_1 : decode cX9_sum 1 = .ok (.getfield 10, 3) := by decide +kernel
theorem dX9_sum_4 : decode cX9_sum 4 = .ok (.iload_n 1, 1) := by decide +kernel
theorem dX9_sum_5 : decode cX9_sum 5 = .ok (.invokevirtual 134, 3) := by decide +kernel
theorem dX9_sum_8 : decode cX9_sum 8 = .ok (.ifCond .eq 14, 3) := by decide +kernel
theorem dX9_sum_11 : decode cX9_sum 11 = .ok (.aload_n 0, 1) := by decide +kernel
theorem dX9_sum_12 : decode cX9_sum 12 = .ok (.getfield 10, 3) := by decide +kernel
theorem dX9_sum_15 : decode cX9_sum 15 = .ok (.iload_n 2, 1) := by decide +kernel
theorem dX9_sum_16 : decode cX9_sum 16 = .ok (.invokevirtual 134, 3) := by decide +kernel
theorem dX9_sum_19 : decode cX9_sum 19 = .ok (.ifCond .ne 5, 3) := by decide +kernel
theorem dX9_sum_22 : decode cX9_sum 22 = .ok (.iconst (-1), 1) := by decide +kernel
theorem dX9_sum_23 : decode cX9_sum 23 = .ok (.ireturn, 1) := by decide +kernel
theorem dX9_sum_24 : decode cX9_sum 24 = .ok (.aload_n 0, 1) := by decide +kernel
theorem dX9_sum_25 : decode cX9_sum 25 = .ok (.getfield 10, 3) := by decide +kernel
theorem dX9_sum_28 : decode cX9_sum 28 = .ok (.iload_n 1, 1) := by decide +kernel
theorem dX9_sum_29 : decode cX9_sum 29 = .ok (.iload_n 2, 1) := by decide +kernel
theorem dX9_sum_30 : decode cX9_sum 30 = .ok (.invokevirtual 138, 3) := by decide +kernel
theorem dX9_sum_33 : decode cX9_sum 33 = .ok (.ireturn, 1) := by decide +kernel
set_option maxRecDepth 20000 in
theorem ggX9_between_X6_has : GoodIn wsX9_between wsX6_has := goodIn_r _ [6, 7, 33, 34] rfl (by decide +kernel)
set_option maxRecDepth 20000 in
theorem gX9_between_X6_has : GoodIn wsX9_between (wsV RX9 134 RX6 yX6_has wsX6_has) := goodIn_app (goodIn_of _ (by decide +kernel)) ggX9_between_X6_has
set_option maxRecDepth 20000 in
theorem ggX9_between_X7_addedBetween : GoodIn wsX9_between wsX7_addedBetween := goodIn_r _ [11, 12, 13, 14, 5, 15, 7, 16, 17, 10, 18, 19, 20, 21, 22, 23, 33, 34] rfl (by decide +kernel)
set_option maxRecDepth 20000 in
theorem gX9_between_X7_addedBetween : GoodIn wsX9_between (va_wsS RX9 141 yX7_addedBetween wsX7_addedBetween) := goodIn_app (goodIn_of _ (by decide +kernel)) ggX9_between_X7_addedBetween
theorem dX9_between_0 : decode cX9_between 0 = .ok (.aload_n 0, 1) := by decide +kernel
theorem dX9_between_1 : decode cX9_between 1 = .ok (.getfield 10, 3) := by decide +kernel
theorem dX9_between_4 : decode cX9_between 4 = .ok (.iload_n 1, 1) := by decide +kernel
theorem dX9_between_5 : decode cX9_between 5 = .ok (.invokevirtual 134, 3) := by decide +kernel
theorem dX9_between_8 : decode cX9_between 8 = .ok (.ifCond .eq 14, 3) := by decide +kernel
theorem dX9_between_11 : decode cX9_between 11 = .ok (.aload_n 0, 1) := by decide +kernel
theorem dX9_between_12 : decode cX9_between 12 = .ok (.getfield 10, 3) := by decide +kernel
theorem dX9_between_15 : decode cX9_between 15 = .ok (.iload_n 2, 1) := by decide +kernel
theorem dX9_between_16 : decode cX9_between 16 = .ok (.invokevirtual 134, 3) := by decide +kernel
theorem dX9_between_19 : decode cX9_between 19 = .ok (.ifCond .ne 5, 3) := by decide +kernel
theorem dX9_between_22 : decode cX9_between 22 = .ok (.iconst (-1), 1) := by decide +kernel
theorem dX9_between_23 : decode cX9_between 23 = .ok (.ireturn, 1) := by decide +kernel
theorem dX9_between_24 : decode cX9_between 24 = .ok (.aload_n 0, 1) := by decide +kernel
theorem dX9_between_25 : decode cX9_between 25 = .ok (.getfield 10, 3) := by decide +kernel
theorem dX9_between_28 : decode cX9_between 28 = .ok (.iload_n 1, 1) := by decide +kernel
theorem dX9_between_29 : decode cX9_between 29 = .ok (.iload_n 2, 1) := by decide +kernel
theorem dX9_between_30 : decode cX9_between 30 = .ok (.iload_n 3, 1) := by decide +kernel
theorem dX9_between_31 : decode cX9_between 31 = .ok (.invokestatic 141, 3) := by decide +kernel
theorem dX9_between_34 : decode cX9_between 34 = .ok (.ireturn, 1) := by decide +kernel
set_option maxRecDepth 20000 in
theorem ggX9_returns_X6_has : GoodIn wsX9_returns wsX6_has := goodIn_r _ [6, 7, 29, 30] rfl (by decide +kernel)
set_option maxRecDepth 20000 in
theorem gX9_returns_X6_has : GoodIn wsX9_returns (wsV RX9 134 RX6 yX6_has wsX6_has) := goodIn_app (goodIn_of _ (by decide +kernel)) ggX9_returns_X6_has
set_option maxRecDepth 20000 in
theorem ggX9_returns_X7_timesToReturn : GoodIn wsX9_returns wsX7_timesToReturn := goodIn_r _ [11, 12, 13, 10, 14, 15, 16, 17, 5, 18, 19, 29, 30] rfl (by decide +kernel)
set_option maxRecDepth 20000 in
theorem gX9_returns_X7_timesToReturn : GoodIn wsX9_returns (va_wsS RX9 147 yX7_timesToReturn wsX7_timesToReturn) := goodIn_app (goodIn_of _ (by decide +kernel)) ggX9_returns_X7_timesToReturn
theorem dX9_returns_0 : decode cX9_returns 0 = .ok (.aload_n 0, 1) := by decide +kernel
theorem dX9_returns_1 : decode cX9_returns 1 = .ok (.getfield 10, 3) := by decide +kernel
theorem dX9_returns_4 : decode cX9_returns 4 = .ok (.iload_n 1, 1) := by decide +kernel
theorem dX9_returns_5 : decode cX9_returns 5 = .ok (.invokevirtual 134, 3) := by decide +kernel
theorem dX9_returns_8 : decode cX9_returns 8 = .ok (.ifCond .eq 14, 3) := by decide +kernel
theorem dX9_returns_11 : decode cX9_returns 11 = .ok (.aload_n 0, 1) := by decide +kernel
theorem dX9_returns_12 : decode cX9_returns 12 = .ok (.getfield 10, 3) := by decide +kernel
theorem dX9_returns_15 : decode cX9_returns 15 = .ok (.iload_n 2, 1) := by decide +kernel
theorem dX9_returns_16 : decode cX9_returns 16 = .ok (.invokevirtual 134, 3) := by decide +kernel
theorem dX9_returns_19 : decode cX9_returns 19 = .ok (.ifCond .ne 5, 3) := by decide +kernel
theorem dX9_returns_22 : decode cX9_returns 22 = .ok (.iconst (-1), 1) := by decide +kernel
theorem dX9_returns_23 : decode cX9_returns 23 = .ok (.ireturn, 1) := by decide +kernel
theorem dX9_returns_24 : decode cX9_returns 24 = .ok (.aload_n 0, 1) := by decide +kernel
theorem dX9_returns_25 : decode cX9_returns 25 = .ok (.getfield 10, 3) := by decide +kernel
theorem dX9_returns_28 : decode cX9_returns 28 = .ok (.iload_n 1, 1) := by decide +kernel
theorem dX9_returns_29 : decode cX9_returns 29 = .ok (.iload_n 2, 1) := by decide +kernel
theorem dX9_returns_30 : decode cX9_returns 30 = .ok (.iload_n 3, 1) := by decide +kernel
theorem dX9_returns_31 : decode cX9_returns 31 = .ok (.invokestatic 147, 3) := by decide +kernel
theorem dX9_returns_34 : decode cX9_returns 34 = .ok (.ireturn, 1) := by decide +kernel
set_option maxRecDepth 20000 in
theorem ggX9_token_X6_has : GoodIn wsX9_token wsX6_has := goodIn_r _ [6, 7, 77, 78] rfl (by decide +kernel)
set_option maxRecDepth 20000 in
theorem gX9_token_X6_has : GoodIn wsX9_token (wsV RX9 134 RX6 yX6_has wsX6_has) := goodIn_app (goodIn_of _ (by decide +kernel)) ggX9_token_X6_has
set_option maxRecDepth 20000 in
theorem ggX9_token_X8_commutingWith : GoodIn wsX9_token wsX8_commutingWith := goodIn_r _ [11, 12, 13, 14, 5, 15, 7, 16, 17, 18, 19, 20, 77, 78] rfl (by decide +kernel)
set_option maxRecDepth 20000 in
theorem gX9_token_X8_commutingWith : GoodIn wsX9_token (va_wsS RX9 150 yX8_commutingWith wsX8_commutingWith) := goodIn_app (goodIn_of _ (by decide +kernel)) ggX9_token_X8_commutingWith
set_option maxRecDepth 20000 in
theorem ggX9_token_X8_pairsBehind : GoodIn wsX9_token wsX8_pairsBehind := goodIn_r _ [23, 12, 13, 14, 5, 15, 7, 16, 17, 18, 19, 20, 77, 78] rfl (by decide +kernel)
set_option maxRecDepth 20000 in
theorem gX9_token_X8_pairsBehind : GoodIn wsX9_token (va_wsS RX9 154 yX8_pairsBehind wsX8_pairsBehind) := goodIn_app (goodIn_of _ (by decide +kernel)) ggX9_token_X8_pairsBehind
set_option maxRecDepth 20000 in
theorem ggX9_token_X8_isNeutral : GoodIn wsX9_token wsX8_isNeutral := goodIn_r _ [26, 12, 13, 14, 5, 15, 7, 16, 17, 18, 19, 20, 77, 78] rfl (by decide +kernel)
set_option maxRecDepth 20000 in
theorem gX9_token_X8_isNeutral : GoodIn wsX9_token (va_wsS RX9 157 yX8_isNeutral wsX8_isNeutral) := goodIn_app (goodIn_of _ (by decide +kernel)) ggX9_token_X8_isNeutral
set_option maxRecDepth 20000 in
theorem ggX9_token_X2_grownFrom : GoodIn wsX9_token wsX2_grownFrom := goodIn_r _ [30, 31, 32, 29, 33, 34, 13, 14, 5, 15, 7, 35, 36, 37, 38, 17, 18, 19, 20, 77, 78] rfl (by decide +kernel)
set_option maxRecDepth 20000 in
theorem gX9_token_X2_grownFrom : GoodIn wsX9_token (va_wsS RX9 161 yX2_grownFrom wsX2_grownFrom) := goodIn_app (goodIn_of _ (by decide +kernel)) ggX9_token_X2_grownFrom
set_option maxRecDepth 20000 in
theorem ggX9_token_J6_bitCount_0f7a4 : GoodIn wsX9_token wsJ6_bitCount_0f7a4 := goodIn_r _ [42, 43, 44, 45] rfl (by decide +kernel)
set_option maxRecDepth 20000 in
theorem gX9_token_J6_bitCount_0f7a4 : GoodIn wsX9_token (va_wsS RX9 166 yJ6_bitCount_0f7a4 wsJ6_bitCount_0f7a4) := goodIn_app (goodIn_of _ (by decide +kernel)) ggX9_token_J6_bitCount_0f7a4
set_option maxRecDepth 20000 in
theorem ggX9_token_X6_at : GoodIn wsX9_token wsX6_at := goodIn_r _ [19, 20, 77, 78] rfl (by decide +kernel)
set_option maxRecDepth 20000 in
theorem gX9_token_X6_at : GoodIn wsX9_token (wsV RX9 138 RX6 yX6_at wsX6_at) := goodIn_app (goodIn_of _ (by decide +kernel)) ggX9_token_X6_at
set_option maxRecDepth 20000 in
theorem ggX9_token_X7_rounds : GoodIn wsX9_token wsX7_rounds := goodIn_r _ [50, 51, 13, 14, 5, 15, 7, 52, 53, 49, 54, 55, 17, 18, 19, 20, 77, 78] rfl (by decide +kernel)
set_option maxRecDepth 20000 in
theorem gX9_token_X7_rounds : GoodIn wsX9_token (va_wsS RX9 172 yX7_rounds wsX7_rounds) := goodIn_app (goodIn_of _ (by decide +kernel)) ggX9_token_X7_rounds
set_option maxRecDepth 20000 in
theorem ggX9_token_X7_timesToReturnAll : GoodIn wsX9_token wsX7_timesToReturnAll := goodIn_r _ [58, 59, 60, 49, 61, 51, 13, 14, 5, 15, 7, 62, 63, 64, 65, 66, 67, 55, 17, 18, 19, 20, 77, 78] rfl (by decide +kernel)
set_option maxRecDepth 20000 in
theorem gX9_token_X7_timesToReturnAll : GoodIn wsX9_token (va_wsS RX9 175 yX7_timesToReturnAll wsX7_timesToReturnAll) := goodIn_app (goodIn_of _ (by decide +kernel)) ggX9_token_X7_timesToReturnAll
