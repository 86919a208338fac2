theorem dX0_init_13 : decode cX0_init 13 = .ok (.istore_n 1, 1) := by decide +kernel
theorem dX0_init_14 : decode cX0_init 14 = .ok (.iload_n 1, 1) := by decide +kernel
theorem dX0_init_15 : decode cX0_init 15 = .ok (.aload_n 0, 1) := by decide +kernel
theorem dX0_init_16 : decode cX0_init 16 = .ok (.getfield 11, 3) := by decide +kernel
theorem dX0_init_19 : decode cX0_init 19 = .ok (.arraylength, 1) := by decide +kernel
theorem dX0_init_20 : decode cX0_init 20 = .ok (.if_icmp .ge 22, 3) := by decide +kernel
theorem dX0_init_23 : decode cX0_init 23 = .ok (.aload_n 0, 1) := by decide +kernel
theorem dX0_init_24 : decode cX0_init 24 = .ok (.getfield 11, 3) := by decide +kernel
theorem dX0_init_27 : decode cX0_init 27 = .ok (.iload_n 1, 1) := by decide +kernel
theorem dX0_init_28 : decode cX0_init 28 = .ok (.new 9, 3) := by decide +kernel
theorem dX0_init_31 : decode cX0_init 31 = .ok (.dup, 1) := by decide +kernel
theorem dX0_init_32 : decode cX0_init 32 = .ok (.invokespecial 15, 3) := by decide +kernel
theorem dX0_init_35 : decode cX0_init 35 = .ok (.aastore, 1) := by decide +kernel
theorem dX0_init_36 : decode cX0_init 36 = .ok (.iinc 1 1, 3) := by decide +kernel
theorem dX0_init_39 : decode cX0_init 39 = .ok (.goto (-25), 3) := by decide +kernel
theorem dX0_init_42 : decode cX0_init 42 = .ok (.return_, 1) := by decide +kernel
theorem dX0_states_0 : decode cX0_states 0 = .ok (.aload_n 0, 1) := by decide +kernel
theorem dX0_states_1 : decode cX0_states 1 = .ok (.getfield 16, 3) := by decide +kernel
theorem dX0_states_4 : decode cX0_states 4 = .ok (.ireturn, 1) := by decide +kernel
set_option maxRecDepth 20000 in
theorem ggX0_record_X0_dropOldest : GoodIn wsX0_record wsX0_dropOldest := goodIn_r _ [6, 7, 1, 8, 9, 10, 5, 11, 24, 25] rfl (by decide +kernel)
set_option maxRecDepth 20000 in
theorem gX0_record_X0_dropOldest : GoodIn wsX0_record (wsV RX0 20 RX0 yX0_dropOldest wsX0_dropOldest) := goodIn_app (goodIn_of _ (by decide +kernel)) ggX0_record_X0_dropOldest
set_option maxRecDepth 20000 in
theorem ggX0_record_X0_stateAt : GoodIn wsX0_record wsX0_stateAt := goodIn_r _ [11, 7, 24, 25] rfl (by decide +kernel)
set_option maxRecDepth 20000 in
theorem gX0_record_X0_stateAt : GoodIn wsX0_record (wsV RX0 23 RX0 yX0_stateAt wsX0_stateAt) := goodIn_app (goodIn_of _ (by decide +kernel)) ggX0_record_X0_stateAt
set_option maxRecDepth 20000 in
theorem ggX0_record_X6_copyFrom : GoodIn wsX0_record wsX6_copyFrom := goodIn_r _ [16, 17, 18, 19, 20, 21, 22, 23, 26, 27] rfl (by decide +kernel)
set_option maxRecDepth 20000 in
theorem gX0_record_X6_copyFrom : GoodIn wsX0_record (wsV RX0 27 RX6 yX6_copyFrom wsX6_copyFrom) := goodIn_app (goodIn_of _ (by decide +kernel)) ggX0_record_X6_copyFrom
theorem dX0_record_0 : decode cX0_record 0 = .ok (.aload_n 0, 1) := by decide +kernel
theorem dX0_record_1 : decode cX0_record 1 = .ok (.getfield 16, 3) := by decide +kernel
theorem dX0_record_4 : decode cX0_record 4 = .ok (.iconst 4, 1) := by decide +kernel
theorem dX0_record_5 : decode cX0_record 5 = .ok (.if_icmp .lt 7, 3) := by decide +kernel
theorem dX0_record_8 : decode cX0_record 8 = .ok (.aload_n 0, 1) := by decide +kernel
theorem dX0_record_9 : decode cX0_record 9 = .ok (.invokevirtual 20, 3) := by decide +kernel
theorem dX0_record_12 : decode cX0_record 12 = .ok (.aload_n 0, 1) := by decide +kernel
theorem dX0_record_13 : decode cX0_record 13 = .ok (.aload_n 0, 1) := by decide +kernel
theorem dX0_record_14 : decode cX0_record 14 = .ok (.getfield 16, 3) := by decide +kernel
theorem dX0_record_17 : decode cX0_record 17 = .ok (.invokevirtual 23, 3) := by decide +kernel
theorem dX0_record_20 : decode cX0_record 20 = .ok (.astore_n 2, 1) := by decide +kernel
theorem dX0_record_21 : decode cX0_record 21 = .ok (.aload_n 2, 1) := by decide +kernel
theorem dX0_record_22 : decode cX0_record 22 = .ok (.ifnull 18, 3) := by decide +kernel
theorem dX0_record_25 : decode cX0_record 25 = .ok (.aload_n 2, 1) := by decide +kernel
theorem dX0_record_26 : decode cX0_record 26 = .ok (.aload_n 1, 1) := by decide +kernel
theorem dX0_record_27 : decode cX0_record 27 = .ok (.invokevirtual 27, 3) := by decide +kernel
theorem dX0_record_30 : decode cX0_record 30 = .ok (.aload_n 0, 1) := by decide +kernel
theorem dX0_record_31 : decode cX0_record 31 = .ok (.dup, 1) := by decide +kernel
theorem dX0_record_32 : decode cX0_record 32 = .ok (.getfield 16, 3) := by decide +kernel
theorem dX0_record_35 : decode cX0_record 35 = .ok (.iconst 1, 1) := by decide +kernel
theorem dX0_record_36 : decode cX0_record 36 = .ok (.iadd, 1) := by decide +kernel
theorem dX0_record_37 : decode cX0_record 37 = .ok (.putfield 16, 3) := by decide +kernel
theorem dX0_record_40 : decode cX0_record 40 = .ok (.return_, 1) := by decide +kernel
set_option maxRecDepth 20000 in
theorem ggX0_takeBack_X0_stateAt : GoodIn wsX0_takeBack wsX0_stateAt := goodIn_r _ [6, 7, 20, 21] rfl (by decide +kernel)
set_option maxRecDepth 20000 in
theorem gX0_takeBack_X0_stateAt : GoodIn wsX0_takeBack (wsV RX0 23 RX0 yX0_stateAt wsX0_stateAt) := goodIn_app (goodIn_of _ (by decide +kernel)) ggX0_takeBack_X0_stateAt
set_option maxRecDepth 20000 in
theorem ggX0_takeBack_X6_copyFrom : GoodIn wsX0_takeBack wsX6_copyFrom := goodIn_r _ [12, 13, 14, 15, 16, 17, 18, 19, 22, 23] rfl (by decide +kernel)
set_option maxRecDepth 20000 in
theorem gX0_takeBack_X6_copyFrom : GoodIn wsX0_takeBack (wsV RX0 27 RX6 yX6_copyFrom wsX6_copyFrom) := goodIn_app (goodIn_of _ (by decide +kernel)) ggX0_takeBack_X6_copyFrom
theorem dX0_takeBack_0 : decode cX0_takeBack 0 = .ok (.aload_n 0, 1) := by decide +kernel
theorem dX0_takeBack_1 : decode cX0_takeBack 1 = .ok (.aload_n 0, 1) := by decide +kernel
theorem dX0_takeBack_2 : decode cX0_takeBack 2 = .ok (.getfield 16, 3) := by decide +kernel
theorem dX0_takeBack_5 : decode cX0_takeBack 5 = .ok (.iconst 1, 1) := by decide +kernel
theorem dX0_takeBack_6 : decode cX0_takeBack 6 = .ok (.isub, 1) := by decide +kernel
theorem dX0_takeBack_7 : decode cX0_takeBack 7 = .ok (.invokevirtual 23, 3) := by decide +kernel
theorem dX0_takeBack_10 : decode cX0_takeBack 10 = .ok (.astore_n 2, 1) := by decide +kernel
theorem dX0_takeBack_11 : decode cX0_takeBack 11 = .ok (.aload_n 2, 1) := by decide +kernel
theorem dX0_takeBack_12 : decode cX0_takeBack 12 = .ok (.ifnonnull 5, 3) := by decide +kernel
theorem dX0_takeBack_15 : decode cX0_takeBack 15 = .ok (.iconst 0, 1) := by decide +kernel
theorem dX0_takeBack_16 : decode cX0_takeBack 16 = .ok (.ireturn, 1) := by decide +kernel
theorem dX0_takeBack_17 : decode cX0_takeBack 17 = .ok (.aload_n 1, 1) := by decide +kernel
theorem dX0_takeBack_18 : decode cX0_takeBack 18 = .ok (.aload_n 2, 1) := by decide +kernel
theorem dX0_takeBack_19 : decode cX0_takeBack 19 = .ok (.invokevirtual 27, 3) := by decide +kernel
theorem dX0_takeBack_22 : decode cX0_takeBack 22 = .ok (.aload_n 0, 1) := by decide +kernel
theorem dX0_takeBack_23 : decode cX0_takeBack 23 = .ok (.dup, 1) := by decide +kernel
theorem dX0_takeBack_24 : decode cX0_takeBack 24 = .ok (.getfield 16, 3) := by decide +kernel
theorem dX0_takeBack_27 : decode cX0_takeBack 27 = .ok (.iconst 1, 1) := by decide +kernel
theorem dX0_takeBack_28 : decode cX0_takeBack 28 = .ok (.isub, 1) := by decide +kernel
theorem dX0_takeBack_29 : decode cX0_takeBack 29 = .ok (.putfield 16, 3) := by decide +kernel
theorem dX0_takeBack_32 : decode cX0_takeBack 32 = .ok (.iconst 1, 1) := by decide +kernel
theorem dX0_takeBack_33 : decode cX0_takeBack 33 = .ok (.ireturn, 1) := by decide +kernel
theorem dX0_stateAt_0 : decode cX0_stateAt 0 = .ok (.iload_n 1, 1) := by decide +kernel
theorem dX0_stateAt_1 : decode cX0_stateAt 1 = .ok (.ifCond .lt 21, 3) := by decide +kernel
theorem dX0_stateAt_4 : decode cX0_stateAt 4 = .ok (.iload_n 1, 1) := by decide +kernel
theorem dX0_stateAt_5 : decode cX0_stateAt 5 = .ok (.aload_n 0, 1) := by decide +kernel
theorem dX0_stateAt_6 : decode cX0_stateAt 6 = .ok (.getfield 11, 3) := by decide +kernel
theorem dX0_stateAt_9 : decode cX0_stateAt 9 = .ok (.arraylength, 1) := by decide +kernel
theorem dX0_stateAt_10 : decode cX0_stateAt 10 = .ok (.if_icmp .ge 12, 3) := by decide +kernel
theorem dX0_stateAt_13 : decode cX0_stateAt 13 = .ok (.aload_n 0, 1) := by decide +kernel
theorem dX0_stateAt_14 : decode cX0_stateAt 14 = .ok (.getfield 11, 3) := by decide +kernel
theorem dX0_stateAt_17 : decode cX0_stateAt 17 = .ok (.iload_n 1, 1) := by decide +kernel
theorem dX0_stateAt_18 : decode cX0_stateAt 18 = .ok (.aaload, 1) := by decide +kernel
theorem dX0_stateAt_19 : decode cX0_stateAt 19 = .ok (.goto 4, 3) := by decide +kernel
theorem dX0_stateAt_22 : decode cX0_stateAt 22 = .ok (.aconst_null, 1) := by decide +kernel
theorem dX0_stateAt_23 : decode cX0_stateAt 23 = .ok (.areturn, 1) := by decide +kernel
set_option maxRecDepth 20000 in
theorem ggX0_dropOldest_X0_stateAt : GoodIn wsX0_dropOldest wsX0_stateAt := goodIn_r _ [7, 1, 8, 9] rfl (by decide +kernel)
set_option maxRecDepth 20000 in
theorem gX0_dropOldest_X0_stateAt : GoodIn wsX0_dropOldest (wsV RX0 23 RX0 yX0_stateAt wsX0_stateAt) := goodIn_app (goodIn_of _ (by decide +kernel)) ggX0_dropOldest_X0_stateAt
theorem dX0_dropOldest_0 : decode cX0_dropOldest 0 = .ok (.aload_n 0, 1) := by decide +kernel
theorem dX0_dropOldest_1 : decode cX0_dropOldest 1 = .ok (.iconst 0, 1) := by decide +kernel
theorem dX0_dropOldest_2 : decode cX0_dropOldest 2 = .ok (.invokevirtual 23, 3) := by decide +kernel
theorem dX0_dropOldest_5 : decode cX0_dropOldest 5 = .ok (.astore_n 1, 1) := by decide +kernel
theorem dX0_dropOldest_6 : decode cX0_dropOldest 6 = .ok (.iconst 1, 1) := by decide +kernel
theorem dX0_dropOldest_7 : decode cX0_dropOldest 7 = .ok (.istore_n 2, 1) := by decide +kernel
theorem dX0_dropOldest_8 : decode cX0_dropOldest 8 = .ok (.iload_n 2, 1) := by decide +kernel
theorem dX0_dropOldest_9 : decode cX0_dropOldest 9 = .ok (.aload_n 0, 1) := by decide +kernel
theorem dX0_dropOldest_10 : decode cX0_dropOldest 10 = .ok (.getfield 11, 3) := by decide +kernel
theorem dX0_dropOldest_13 : decode cX0_dropOldest 13 = .ok (.arraylength, 1) := by decide +kernel
theorem dX0_dropOldest_14 : decode cX0_dropOldest 14 = .ok (.if_icmp .ge 23, 3) := by decide +kernel
theorem dX0_dropOldest_17 : decode cX0_dropOldest 17 = .ok (.aload_n 0, 1) := by decide +kernel
theorem dX0_dropOldest_18 : decode cX0_dropOldest 18 = .ok (.getfield 11, 3) := by decide +kernel
theorem dX0_dropOldest_21 : decode cX0_dropOldest 21 = .ok (.iload_n 2, 1) := by decide +kernel
theorem dX0_dropOldest_22 : decode cX0_dropOldest 22 = .ok (.iconst 1, 1) := by decide +kernel
theorem dX0_dropOldest_23 : decode cX0_dropOldest 23 = .ok (.isub, 1) := by decide +kernel
theorem dX0_dropOldest_24 : decode cX0_dropOldest 24 = .ok (.aload_n 0, 1) := by decide +kernel
theorem dX0_dropOldest_25 : decode cX0_dropOldest 25 = .ok (.getfield 11, 3) := by decide +kernel
theorem dX0_dropOldest_28 : decode cX0_dropOldest 28 = .ok (.iload_n 2, 1) := by decide +kernel
theorem dX0_dropOldest_29 : decode cX0_dropOldest 29 = .ok (.aaload, 1) := by decide +kernel
theorem dX0_dropOldest_30 : decode cX0_dropOldest 30 = .ok (.aastore, 1) := by decide +kernel
theorem dX0_dropOldest_31 : decode cX0_dropOldest 31 = .ok (.iinc 2 1, 3) := by decide +kernel
theorem dX0_dropOldest_34 : decode cX0_dropOldest 34 = .ok (.goto (-26), 3) := by decide +kernel
theorem dX0_dropOldest_37 : decode cX0_dropOldest 37 = .ok (.aload_n 0, 1) := by decide +kernel
theorem dX0_dropOldest_38 : decode cX0_dropOldest 38 = .ok (.getfield 11, 3) := by decide +kernel
theorem dX0_dropOldest_41 : decode cX0_dropOldest 41 = .ok (.arraylength, 1) := by decide +kernel
theorem dX0_dropOldest_42 : decode cX0_dropOldest 42 = .ok (.ifCond .le 16, 3) := by decide +kernel
theorem dX0_dropOldest_45 : decode cX0_dropOldest 45 = .ok (.aload_n 0, 1) := by decide +kernel
theorem dX0_dropOldest_46 : decode cX0_dropOldest 46 = .ok (.getfield 11, 3) := by decide +kernel
theorem dX0_dropOldest_49 : decode cX0_dropOldest 49 = .ok (.aload_n 0, 1) := by decide +kernel
theorem dX0_dropOldest_50 : decode cX0_dropOldest 50 = .ok (.getfield 11, 3) := by decide +kernel
theorem dX0_dropOldest_53 : decode cX0_dropOldest 53 = .ok (.arraylength, 1) := by decide +kernel
theorem dX0_dropOldest_54 : decode cX0_dropOldest 54 = .ok (.iconst 1, 1) := by decide +kernel
theorem dX0_dropOldest_55 : decode cX0_dropOldest 55 = .ok (.isub, 1) := by decide +kernel
theorem dX0_dropOldest_56 : decode cX0_dropOldest 56 = .ok (.aload_n 1, 1) := by decide +kernel
theorem dX0_dropOldest_57 : decode cX0_dropOldest 57 = .ok (.aastore, 1) := by decide +kernel
theorem dX0_dropOldest_58 : decode cX0_dropOldest 58 = .ok (.aload_n 0, 1) := by decide +kernel
theorem dX0_dropOldest_59 : decode cX0_dropOldest 59 = .ok (.dup, 1) := by decide +kernel
theorem dX0_dropOldest_60 : decode cX0_dropOldest 60 = .ok (.getfield 16, 3) := by decide +kernel
theorem dX0_dropOldest_63 : decode cX0_dropOldest 63 = .ok (.iconst 1, 1) := by decide +kernel
theorem dX0_dropOldest_64 : decode cX0_dropOldest 64 = .ok (.isub, 1) := by decide +kernel
theorem dX0_dropOldest_65 : decode cX0_dropOldest 65 = .ok (.putfield 16, 3) := by decide +kernel
theorem dX0_dropOldest_68 : decode cX0_dropOldest 68 = .ok (.return_, 1) := by decide +kernel
theorem dX1_init_0 : decode cX1_init 0 = .ok (.aload_n 0, 1) := by decide +kernel
theorem dX1_init_1 : decode cX1_init 1 = .ok (.invokespecial 1, 3) := by decide +kernel
theorem dX1_init_4 : decode cX1_init 4 = .ok (.aload_n 0, 1) := by decide +kernel
theorem dX1_init_5 : decode cX1_init 5 = .ok (.bipush 80, 2) := by decide +kernel
theorem dX1_init_7 : decode cX1_init 7 = .ok (.newarray .char, 2) := by decide +kernel
theorem dX1_init_9 : decode cX1_init 9 = .ok (.putfield 9, 3) := by decide +kernel
theorem dX1_init_12 : decode cX1_init 12 = .ok (.return_, 1) := by decide +kernel
theorem dX1_length_0 : decode cX1_length 0 = .ok (.aload_n 0, 1) := by decide +kernel
theorem dX1_length_1 : decode cX1_length 1 = .ok (.getfield 13, 3) := by decide +kernel
theorem dX1_length_4 : decode cX1_length 4 = .ok (.ireturn, 1) := by decide +kernel
theorem dX1_add_0 : decode cX1_add 0 = .ok (.aload_n 0, 1) := by decide +kernel
theorem dX1_add_1 : decode cX1_add 1 = .ok (.getfield 13, 3) := by decide +kernel
theorem dX1_add_4 : decode cX1_add 4 = .ok (.ifCond .lt 15, 3) := by decide +kernel
theorem dX1_add_7 : decode cX1_add 7 = .ok (.aload_n 0, 1) := by decide +kernel
theorem dX1_add_8 : decode cX1_add 8 = .ok (.getfield 13, 3) := by decide +kernel
theorem dX1_add_11 : decode cX1_add 11 = .ok (.aload_n 0, 1) := by decide +kernel
theorem dX1_add_12 : decode cX1_add 12 = .ok (.getfield 9, 3) := by decide +kernel
theorem dX1_add_15 : decode cX1_add 15 = .ok (.arraylength, 1) := by decide +kernel
theorem dX1_add_16 : decode cX1_add 16 = .ok (.if_icmp .lt 5, 3) := by decide +kernel
theorem dX1_add_19 : decode cX1_add 19 = .ok (.iconst 0, 1) := by decide +kernel
theorem dX1_add_20 : decode cX1_add 20 = .ok (.ireturn, 1) := by decide +kernel
theorem dX1_add_21 : decode cX1_add 21 = .ok (.aload_n 0, 1) := by decide +kernel
theorem dX1_add_22 : decode cX1_add 22 = .ok (.getfield 9, 3) := by decide +kernel
theorem dX1_add_25 : decode cX1_add 25 = .ok (.aload_n 0, 1) := by decide +kernel
theorem dX1_add_26 : decode cX1_add 26 = .ok (.getfield 13, 3) := by decide +kernel
theorem dX1_add_29 : decode cX1_add 29 = .ok (.iload_n 1, 1) := by decide +kernel
theorem dX1_add_30 : decode cX1_add 30 = .ok (.castore, 1) := by decide +kernel
theorem dX1_add_31 : decode cX1_add 31 = .ok (.aload_n 0, 1) := by decide +kernel
theorem dX1_add_32 : decode cX1_add 32 = .ok (.dup, 1) := by decide +kernel
theorem dX1_add_33 : decode cX1_add 33 = .ok (.getfield 13, 3) := by decide +kernel
theorem dX1_add_36 : decode cX1_add 36 = .ok (.iconst 1, 1) := by decide +kernel
theorem dX1_add_37 : decode cX1_add 37 = .ok (.iadd, 1) := by decide +kernel
theorem dX1_add_38 : decode cX1_add 38 = .ok (.putfield 13, 3) := by decide +kernel
theorem dX1_add_41 : decode cX1_add 41 = .ok (.iconst 1, 1) := by decide +kernel
theorem dX1_add_42 : decode cX1_add 42 = .ok (.ireturn, 1) := by decide +kernel
theorem dX1_wipe_0 : decode cX1_wipe 0 = .ok (.aload_n 0, 1) := by decide +kernel
theorem dX1_wipe_1 : decode cX1_wipe 1 = .ok (.iconst 0, 1) := by decide +kernel
theorem dX1_wipe_2 : decode cX1_wipe 2 = .ok (.putfield 13, 3) := by decide +kernel
theorem dX1_wipe_5 : decode cX1_wipe 5 = .ok (.return_, 1) := by decide +kernel
theorem dX1_signAt_0 : decode cX1_signAt 0 = .ok (.iload_n 1, 1) := by decide +kernel
theorem dX1_signAt_1 : decode cX1_signAt 1 = .ok (.ifCond .lt 29, 3) := by decide +kernel
theorem dX1_signAt_4 : decode cX1_signAt 4 = .ok (.iload_n 1, 1) := by decide +kernel
theorem dX1_signAt_5 : decode cX1_signAt 5 = .ok (.aload_n 0, 1) := by decide +kernel
theorem dX1_signAt_6 : decode cX1_signAt 6 = .ok (.getfield 13, 3) := by decide +kernel
theorem dX1_signAt_9 : decode cX1_signAt 9 = .ok (.if_icmp .ge 21, 3) := by decide +kernel
theorem dX1_signAt_12 : decode cX1_signAt 12 = .ok (.iload_n 1, 1) := by decide +kernel
theorem dX1_signAt_13 : decode cX1_signAt 13 = .ok (.aload_n 0, 1) := by decide +kernel
theorem dX1_signAt_14 : decode cX1_signAt 14 = .ok (.getfield 9, 3) := by decide +kernel
theorem dX1_signAt_17 : decode cX1_signAt 17 = .ok (.arraylength, 1) := by decide +kernel
theorem dX1_signAt_18 : decode cX1_signAt 18 = .ok (.if_icmp .ge 12, 3) := by decide +kernel
theorem dX1_signAt_21 : decode cX1_signAt 21 = .ok (.aload_n 0, 1) := by decide +kernel
theorem dX1_signAt_22 : decode cX1_signAt 22 = .ok (.getfield 9, 3) := by decide +kernel
theorem dX1_signAt_25 : decode cX1_signAt 25 = .ok (.iload_n 1, 1) := by decide +kernel
theorem dX1_signAt_26 : decode cX1_signAt 26 = .ok (.caload, 1) := by decide +kernel
theorem dX1_signAt_27 : decode cX1_signAt 27 = .ok (.goto 4, 3) := by decide +kernel
theorem dX1_signAt_30 : decode cX1_signAt 30 = .ok (.iconst 0, 1) := by decide +kernel
theorem dX1_signAt_31 : decode cX1_signAt 31 = .ok (.ireturn, 1) := by decide +kernel
set_option maxRecDepth 20000 in
theorem ggX1_digitAt_X1_signAt : GoodIn wsX1_digitAt wsX1_signAt := goodIn_r _ [5, 6, 7, 8, 9] rfl (by decide +kernel)
set_option maxRecDepth 20000 in
theorem gX1_digitAt_X1_signAt : GoodIn wsX1_digitAt (wsV RX1 17 RX1 yX1_signAt wsX1_signAt) := goodIn_app (goodIn_of _ (by decide +kernel)) ggX1_digitAt_X1_signAt
theorem dX1_digitAt_0 : decode cX1_digitAt 0 = .ok (.aload_n 0, 1) := by decide +kernel
theorem dX1_digitAt_1 : decode cX1_digitAt 1 = .ok (.iload_n 1, 1) := by decide +kernel
theorem dX1_digitAt_2 : decode cX1_digitAt 2 = .ok (.invokevirtual 17, 3) := by decide +kernel
theorem dX1_digitAt_5 : decode cX1_digitAt 5 = .ok (.bipush 48, 2) := by decide +kernel
theorem dX1_digitAt_7 : decode cX1_digitAt 7 = .ok (.isub, 1) := by decide +kernel
theorem dX1_digitAt_8 : decode cX1_digitAt 8 = .ok (.ireturn, 1) := by decide +kernel
set_option maxRecDepth 20000 in
theorem ggX2_grownFrom_X2_withSums : GoodIn wsX2_grownFrom wsX2_withSums := goodIn_r _ [4, 5, 6, 7, 8, 9, 10, 11, 12, 13, 14, 15, 16, 17, 18, 19, 20] rfl (by decide +kernel)
set_option maxRecDepth 20000 in
theorem gX2_grownFrom_X2_withSums : GoodIn wsX2_grownFrom (va_wsS RX2 9 yX2_withSums wsX2_withSums) := goodIn_app (goodIn_of _ (by decide +kernel)) ggX2_grownFrom_X2_withSums
theorem dX2_grownFrom_0 : decode cX2_grownFrom 0 = .ok (.iload_n 1, 1) := by decide +kernel
theorem dX2_grownFrom_1 : decode cX2_grownFrom 1 = .ok (.istore_n 2, 1) := by decide +kernel
theorem dX2_grownFrom_2 : decode cX2_grownFrom 2 = .ok (.iconst 0, 1) := by decide +kernel
theorem dX2_grownFrom_3 : decode cX2_grownFrom 3 = .ok (.istore_n 3, 1) := by decide +kernel
theorem dX2_grownFrom_4 : decode cX2_grownFrom 4 = .ok (.iload_n 3, 1) := by decide +kernel
theorem dX2_grownFrom_5 : decode cX2_grownFrom 5 = .ok (.bipush 8, 2) := by decide +kernel
theorem dX2_grownFrom_7 : decode cX2_grownFrom 7 = .ok (.if_icmp .ge 27, 3) := by decide +kernel
theorem dX2_grownFrom_10 : decode cX2_grownFrom 10 = .ok (.aload_n 0, 1) := by decide +kernel
theorem dX2_grownFrom_11 : decode cX2_grownFrom 11 = .ok (.iload_n 2, 1) := by decide +kernel
theorem dX2_grownFrom_12 : decode cX2_grownFrom 12 = .ok (.invokestatic 9, 3) := by decide +kernel
theorem dX2_grownFrom_15 : decode cX2_grownFrom 15 = .ok (.istore 4, 2) := by decide +kernel
theorem dX2_grownFrom_17 : decode cX2_grownFrom 17 = .ok (.iload 4, 2) := by decide +kernel
theorem dX2_grownFrom_19 : decode cX2_grownFrom 19 = .ok (.iload_n 2, 1) := by decide +kernel
theorem dX2_grownFrom_20 : decode cX2_grownFrom 20 = .ok (.if_icmp .ne 5, 3) := by decide +kernel
theorem dX2_grownFrom_23 : decode cX2_grownFrom 23 = .ok (.iload_n 2, 1) := by decide +kernel
theorem dX2_grownFrom_24 : decode cX2_grownFrom 24 = .ok (.ireturn, 1) := by decide +kernel
theorem dX2_grownFrom_25 : decode cX2_grownFrom 25 = .ok (.iload 4, 2) := by decide +kernel
theorem dX2_grownFrom_27 : decode cX2_grownFrom 27 = .ok (.istore_n 2, 1) := by decide +kernel
theorem dX2_grownFrom_28 : decode cX2_grownFrom 28 = .ok (.iinc 3 1, 3) := by decide +kernel
theorem dX2_grownFrom_31 : decode cX2_grownFrom 31 = .ok (.goto (-27), 3) := by decide +kernel
theorem dX2_grownFrom_34 : decode cX2_grownFrom 34 = .ok (.iload_n 2, 1) := by decide +kernel
theorem dX2_grownFrom_35 : decode cX2_grownFrom 35 = .ok (.ireturn, 1) := by decide +kernel
set_option maxRecDepth 20000 in
theorem ggX2_withSums_X6_size : GoodIn wsX2_withSums wsX6_size := goodIn_r _ [5, 6, 15, 16] rfl (by decide +kernel)
set_option maxRecDepth 20000 in
theorem gX2_withSums_X6_size : GoodIn wsX2_withSums (wsV RX2 15 RX6 yX6_size wsX6_size) := goodIn_app (goodIn_of _ (by decide +kernel)) ggX2_withSums_X6_size
set_option maxRecDepth 20000 in
theorem ggX2_withSums_X9_hasBit : GoodIn wsX2_withSums wsX9_hasBit := goodIn_r _ [9] rfl (by decide +kernel)
set_option maxRecDepth 20000 in
theorem gX2_withSums_X9_hasBit_n21 : GoodIn wsX2_withSums (wsX9_hasBit) := ggX2_withSums_X9_hasBit
set_option maxRecDepth 20000 in
theorem ggX2_withSums_X6_at : GoodIn wsX2_withSums wsX6_at := goodIn_r _ [13, 14, 15, 16] rfl (by decide +kernel)
set_option maxRecDepth 20000 in
theorem gX2_withSums_X6_at : GoodIn wsX2_withSums (wsV RX2 25 RX6 yX6_at wsX6_at) := goodIn_app (goodIn_of _ (by decide +kernel)) ggX2_withSums_X6_at
theorem dX2_withSums_0 : decode cX2_withSums 0 = .ok (.aload_n 0, 1) := by decide +kernel
theorem dX2_withSums_1 : decode cX2_withSums 1 = .ok (.invokevirtual 15, 3) := by decide +kernel
theorem dX2_withSums_4 : decode cX2_withSums 4 = .ok (.istore_n 2, 1) := by decide +kernel
theorem dX2_withSums_5 : decode cX2_withSums 5 = .ok (.iload_n 1, 1) := by decide +kernel
theorem dX2_withSums_6 : decode cX2_withSums 6 = .ok (.istore_n 3, 1) := by decide +kernel
theorem dX2_withSums_7 : decode cX2_withSums 7 = .ok (.iconst 0, 1) := by decide +kernel
theorem dX2_withSums_8 : decode cX2_withSums 8 = .ok (.istore 4, 2) := by decide +kernel
theorem dX2_withSums_10 : decode cX2_withSums 10 = .ok (.iload 4, 2) := by decide +kernel
theorem dX2_withSums_12 : decode cX2_withSums 12 = .ok (.iload_n 2, 1) := by decide +kernel
theorem dX2_withSums_13 : decode cX2_withSums 13 = .ok (.if_icmp .ge 58, 3) := by decide +kernel
theorem dX2_withSums_16 : decode cX2_withSums 16 = .ok (.iload_n 1, 1) := by decide +kernel
theorem dX2_withSums_17 : decode cX2_withSums 17 = .ok (.iload 4, 2) := by decide +kernel
theorem dX2_withSums_19 : decode cX2_withSums 19 = .ok (.invokestatic 21, 3) := by decide +kernel
theorem dX2_withSums_22 : decode cX2_withSums 22 = .ok (.ifCond .ne 6, 3) := by decide +kernel
theorem dX2_withSums_25 : decode cX2_withSums 25 = .ok (.goto 40, 3) := by decide +kernel
theorem dX2_withSums_28 : decode cX2_withSums 28 = .ok (.iconst 0, 1) := by decide +kernel
theorem dX2_withSums_29 : decode cX2_withSums 29 = .ok (.istore 5, 2) := by decide +kernel
theorem dX2_withSums_31 : decode cX2_withSums 31 = .ok (.iload 5, 2) := by decide +kernel
theorem dX2_withSums_33 : decode cX2_withSums 33 = .ok (.iload_n 2, 1) := by decide +kernel
theorem dX2_withSums_34 : decode cX2_withSums 34 = .ok (.if_icmp .ge 31, 3) := by decide +kernel
theorem dX2_withSums_37 : decode cX2_withSums 37 = .ok (.iload_n 1, 1) := by decide +kernel
theorem dX2_withSums_38 : decode cX2_withSums 38 = .ok (.iload 5, 2) := by decide +kernel
theorem dX2_withSums_40 : decode cX2_withSums 40 = .ok (.invokestatic 21, 3) := by decide +kernel
theorem dX2_withSums_43 : decode cX2_withSums 43 = .ok (.ifCond .eq 16, 3) := by decide +kernel
theorem dX2_withSums_46 : decode cX2_withSums 46 = .ok (.iload_n 3, 1) := by decide +kernel
theorem dX2_withSums_47 : decode cX2_withSums 47 = .ok (.iconst 1, 1) := by decide +kernel
theorem dX2_withSums_48 : decode cX2_withSums 48 = .ok (.aload_n 0, 1) := by decide +kernel
theorem dX2_withSums_49 : decode cX2_withSums 49 = .ok (.iload 4, 2) := by decide +kernel
theorem dX2_withSums_51 : decode cX2_withSums 51 = .ok (.iload 5, 2) := by decide +kernel
theorem dX2_withSums_53 : decode cX2_withSums 53 = .ok (.invokevirtual 25, 3) := by decide +kernel
theorem dX2_withSums_56 : decode cX2_withSums 56 = .ok (.ishl, 1) := by decide +kernel
theorem dX2_withSums_57 : decode cX2_withSums 57 = .ok (.ior, 1) := by decide +kernel
theorem dX2_withSums_58 : decode cX2_withSums 58 = .ok (.istore_n 3, 1) := by decide +kernel
theorem dX2_withSums_59 : decode cX2_withSums 59 = .ok (.iinc 5 1, 3) := by decide +kernel
theorem dX2_withSums_62 : decode cX2_withSums 62 = .ok (.goto (-31), 3) := by decide +kernel
theorem dX2_withSums_65 : decode cX2_withSums 65 = .ok (.iinc 4 1, 3) := by decide +kernel
theorem dX2_withSums_68 : decode cX2_withSums 68 = .ok (.goto (-58), 3) := by decide +kernel
theorem dX2_withSums_71 : decode cX2_withSums 71 = .ok (.iload_n 3, 1) := by decide +kernel
theorem dX2_withSums_72 : decode cX2_withSums 72 = .ok (.ireturn, 1) := by decide +kernel
set_option maxRecDepth 20000 in
theorem ggX2_isRing_X2_withSums : GoodIn wsX2_isRing wsX2_withSums := goodIn_r _ [4, 5, 6, 7, 8, 9, 10, 11, 12, 13, 14, 15, 16, 17, 18, 19, 20] rfl (by decide +kernel)
set_option maxRecDepth 20000 in
theorem gX2_isRing_X2_withSums : GoodIn wsX2_isRing (va_wsS RX2 9 yX2_withSums wsX2_withSums) := goodIn_app (goodIn_of _ (by decide +kernel)) ggX2_isRing_X2_withSums
theorem dX2_isRing_0 : decode cX2_isRing 0 = .ok (.aload_n 0, 1) := by decide +kernel
theorem dX2_isRing_1 : decode cX2_isRing 1 = .ok (.iload_n 1, 1) := by decide +kernel
theorem dX2_isRing_2 : decode cX2_isRing 2 = .ok (.invokestatic 9, 3) := by decide +kernel
theorem dX2_isRing_5 : decode cX2_isRing 5 = .ok (.iload_n 1, 1) := by decide +kernel
theorem dX2_isRing_6 : decode cX2_isRing 6 = .ok (.if_icmp .ne 7, 3) := by decide +kernel
theorem dX2_isRing_9 : decode cX2_isRing 9 = .ok (.iconst 1, 1) := by decide +kernel
theorem dX2_isRing_10 : decode cX2_isRing 10 = .ok (.goto 4, 3) := by decide +kernel
theorem dX2_isRing_13 : decode cX2_isRing 13 = .ok (.iconst 0, 1) := by decide +kernel
theorem dX2_isRing_14 : decode cX2_isRing 14 = .ok (.ireturn, 1) := by decide +kernel
set_option maxRecDepth 20000 in
theorem ggX2_howMany_X6_allBits : GoodIn wsX2_howMany wsX6_allBits := goodIn_r _ [5, 6, 26, 27] rfl (by decide +kernel)
set_option maxRecDepth 20000 in
theorem gX2_howMany_X6_allBits : GoodIn wsX2_howMany (wsV RX2 29 RX6 yX6_allBits wsX6_allBits) := goodIn_app (goodIn_of _ (by decide +kernel)) ggX2_howMany_X6_allBits
set_option maxRecDepth 20000 in
theorem ggX2_howMany_X2_isRing : GoodIn wsX2_howMany wsX2_isRing := goodIn_r _ [10, 11, 12, 9, 13, 14, 15, 16, 4, 17, 6, 18, 19, 20, 21, 22, 23, 24, 25, 26, 27] rfl (by decide +kernel)
set_option maxRecDepth 20000 in
theorem gX2_howMany_X2_isRing : GoodIn wsX2_howMany (va_wsS RX2 32 yX2_isRing wsX2_isRing) := goodIn_app (goodIn_of _ (by decide +kernel)) ggX2_howMany_X2_isRing
theorem dX2_howMany_0 : decode cX2_howMany 0 = .ok (.iconst 0, 1) := by decide +kernel
theorem dX2_howMany_1 : decode cX2_howMany 1 = .ok (.istore_n 1, 1) := by decide +kernel
theorem dX2_howMany_2 : decode cX2_howMany 2 = .ok (.iconst 1, 1) := by decide +kernel
theorem dX2_howMany_3 : decode cX2_howMany 3 = .ok (.istore_n 2, 1) := by decide +kernel
theorem dX2_howMany_4 : decode cX2_howMany 4 = .ok (.iload_n 2, 1) := by decide +kernel
theorem dX2_howMany_5 : decode cX2_howMany 5 = .ok (.aload_n 0, 1) := by decide +kernel
theorem dX2_howMany_6 : decode cX2_howMany 6 = .ok (.invokevirtual 29, 3) := by decide +kernel
theorem dX2_howMany_9 : decode cX2_howMany 9 = .ok (.if_icmp .gt 20, 3) := by decide +kernel
theorem dX2_howMany_12 : decode cX2_howMany 12 = .ok (.aload_n 0, 1) := by decide +kernel
theorem dX2_howMany_13 : decode cX2_howMany 13 = .ok (.iload_n 2, 1) := by decide +kernel
theorem dX2_howMany_14 : decode cX2_howMany 14 = .ok (.invokestatic 32, 3) := by decide +kernel
theorem dX2_howMany_17 : decode cX2_howMany 17 = .ok (.ifCond .eq 6, 3) := by decide +kernel
theorem dX2_howMany_20 : decode cX2_howMany 20 = .ok (.iinc 1 1, 3) := by decide +kernel
theorem dX2_howMany_23 : decode cX2_howMany 23 = .ok (.iinc 2 1, 3) := by decide +kernel
theorem dX2_howMany_26 : decode cX2_howMany 26 = .ok (.goto (-22), 3) := by decide +kernel
theorem dX2_howMany_29 : decode cX2_howMany 29 = .ok (.iload_n 1, 1) := by decide +kernel
theorem dX2_howMany_30 : decode cX2_howMany 30 = .ok (.ireturn, 1) := by decide +kernel
set_option maxRecDepth 20000 in
theorem ggX2_atPlace_X6_allBits : GoodIn wsX2_atPlace wsX6_allBits := goodIn_r _ [5, 6, 26, 27] rfl (by decide +kernel)
set_option maxRecDepth 20000 in
theorem gX2_atPlace_X6_allBits : GoodIn wsX2_atPlace (wsV RX2 29 RX6 yX6_allBits wsX6_allBits) := goodIn_app (goodIn_of _ (by decide +kernel)) ggX2_atPlace_X6_allBits
set_option maxRecDepth 20000 in
theorem ggX2_atPlace_X2_isRing : GoodIn wsX2_atPlace wsX2_isRing := goodIn_r _ [10, 11, 12, 9, 13, 14, 15, 16, 4, 17, 6, 18, 19, 20, 21, 22, 23, 24, 25, 26, 27] rfl (by decide +kernel)
set_option maxRecDepth 20000 in
theorem gX2_atPlace_X2_isRing : GoodIn wsX2_atPlace (va_wsS RX2 32 yX2_isRing wsX2_isRing) := goodIn_app (goodIn_of _ (by decide +kernel)) ggX2_atPlace_X2_isRing
theorem dX2_atPlace_0 : decode cX2_atPlace 0 = .ok (.iconst 0, 1) := by decide +kernel
theorem dX2_atPlace_1 : decode cX2_atPlace 1 = .ok (.istore_n 2, 1) := by decide +kernel
theorem dX2_atPlace_2 : decode cX2_atPlace 2 = .ok (.iconst 1, 1) := by decide +kernel
theorem dX2_atPlace_3 : decode cX2_atPlace 3 = .ok (.istore_n 3, 1) := by decide +kernel
theorem dX2_atPlace_4 : decode cX2_atPlace 4 = .ok (.iload_n 3, 1) := by decide +kernel
theorem dX2_atPlace_5 : decode cX2_atPlace 5 = .ok (.aload_n 0, 1) := by decide +kernel
theorem dX2_atPlace_6 : decode cX2_atPlace 6 = .ok (.invokevirtual 29, 3) := by decide +kernel
theorem dX2_atPlace_9 : decode cX2_atPlace 9 = .ok (.if_icmp .gt 27, 3) := by decide +kernel
theorem dX2_atPlace_12 : decode cX2_atPlace 12 = .ok (.aload_n 0, 1) := by decide +kernel
theorem dX2_atPlace_13 : decode cX2_atPlace 13 = .ok (.iload_n 3, 1) := by decide +kernel
theorem dX2_atPlace_14 : decode cX2_atPlace 14 = .ok (.invokestatic 32, 3) := by decide +kernel
theorem dX2_atPlace_17 : decode cX2_atPlace 17 = .ok (.ifCond .eq 13, 3) := by decide +kernel
theorem dX2_atPlace_20 : decode cX2_atPlace 20 = .ok (.iload_n 2, 1) := by decide +kernel
theorem dX2_atPlace_21 : decode cX2_atPlace 21 = .ok (.iload_n 1, 1) := by decide +kernel
theorem dX2_atPlace_22 : decode cX2_atPlace 22 = .ok (.if_icmp .ne 5, 3) := by decide +kernel
theorem dX2_atPlace_25 : decode cX2_atPlace 25 = .ok (.iload_n 3, 1) := by decide +kernel
theorem dX2_atPlace_26 : decode cX2_atPlace 26 = .ok (.ireturn, 1) := by decide +kernel
theorem dX2_atPlace_27 : decode cX2_atPlace 27 = .ok (.iinc 2 1, 3) := by decide +kernel
theorem dX2_atPlace_30 : decode cX2_atPlace 30 = .ok (.iinc 3 1, 3) := by decide +kernel
theorem dX2_atPlace_33 : decode cX2_atPlace 33 = .ok (.goto (-29), 3) := by decide +kernel
theorem dX2_atPlace_36 : decode cX2_atPlace 36 = .ok (.bipush (-4), 2) := by decide +kernel
theorem dX2_atPlace_38 : decode cX2_atPlace 38 = .ok (.ireturn, 1) := by decide +kernel
set_option maxRecDepth 20000 in
theorem ggX2_leastSeeds_X6_allBits : GoodIn wsX2_leastSeeds wsX6_allBits := goodIn_r _ [5, 6, 33, 34] rfl (by decide +kernel)
set_option maxRecDepth 20000 in
theorem gX2_leastSeeds_X6_allBits : GoodIn wsX2_leastSeeds (wsV RX2 29 RX6 yX6_allBits wsX6_allBits) := goodIn_app (goodIn_of _ (by decide +kernel)) ggX2_leastSeeds_X6_allBits
set_option maxRecDepth 20000 in
theorem ggX2_leastSeeds_J6_bitCount_0f7a4 : GoodIn wsX2_leastSeeds wsJ6_bitCount_0f7a4 := goodIn_r _ [10, 11, 12, 13] rfl (by decide +kernel)
set_option maxRecDepth 20000 in
theorem gX2_leastSeeds_J6_bitCount_0f7a4 : GoodIn wsX2_leastSeeds (va_wsS RX2 36 yJ6_bitCount_0f7a4 wsJ6_bitCount_0f7a4) := goodIn_app (goodIn_of _ (by decide +kernel)) ggX2_leastSeeds_J6_bitCount_0f7a4
set_option maxRecDepth 20000 in
theorem ggX2_leastSeeds_X2_grownFrom : GoodIn wsX2_leastSeeds wsX2_grownFrom := goodIn_r _ [17, 18, 19, 16, 20, 21, 22, 23, 4, 24, 6, 25, 26, 27, 28, 29, 30, 31, 32, 33, 34] rfl (by decide +kernel)
set_option maxRecDepth 20000 in
theorem gX2_leastSeeds_X2_grownFrom : GoodIn wsX2_leastSeeds (va_wsS RX2 42 yX2_grownFrom wsX2_grownFrom) := goodIn_app (goodIn_of _ (by decide +kernel)) ggX2_leastSeeds_X2_grownFrom
theorem dX2_leastSeeds_0 : decode cX2_leastSeeds 0 = .ok (.aload_n 0, 1) := by decide +kernel
theorem dX2_leastSeeds_1 : decode cX2_leastSeeds 1 = .ok (.invokevirtual 29, 3) := by decide +kernel
theorem dX2_leastSeeds_4 : decode cX2_leastSeeds 4 = .ok (.istore_n 1, 1) := by decide +kernel
theorem dX2_leastSeeds_5 : decode cX2_leastSeeds 5 = .ok (.iload_n 1, 1) := by decide +kernel
theorem dX2_leastSeeds_6 : decode cX2_leastSeeds 6 = .ok (.istore_n 2, 1) := by decide +kernel
theorem dX2_leastSeeds_7 : decode cX2_leastSeeds 7 = .ok (.iconst 1, 1) := by decide +kernel
theorem dX2_leastSeeds_8 : decode cX2_leastSeeds 8 = .ok (.istore_n 3, 1) := by decide +kernel
theorem dX2_leastSeeds_9 : decode cX2_leastSeeds 9 = .ok (.iload_n 3, 1) := by decide +kernel
theorem dX2_leastSeeds_10 : decode cX2_leastSeeds 10 = .ok (.iload_n 1, 1) := by decide +kernel
theorem dX2_leastSeeds_11 : decode cX2_leastSeeds 11 = .ok (.if_icmp .gt 31, 3) := by decide +kernel
theorem dX2_leastSeeds_14 : decode cX2_leastSeeds 14 = .ok (.iload_n 3, 1) := by decide +kernel
theorem dX2_leastSeeds_15 : decode cX2_leastSeeds 15 = .ok (.invokestatic 36, 3) := by decide +kernel
theorem dX2_leastSeeds_18 : decode cX2_leastSeeds 18 = .ok (.iload_n 2, 1) := by decide +kernel
theorem dX2_leastSeeds_19 : decode cX2_leastSeeds 19 = .ok (.invokestatic 36, 3) := by decide +kernel
theorem dX2_leastSeeds_22 : decode cX2_leastSeeds 22 = .ok (.if_icmp .ge 14, 3) := by decide +kernel
theorem dX2_leastSeeds_25 : decode cX2_leastSeeds 25 = .ok (.aload_n 0, 1) := by decide +kernel
theorem dX2_leastSeeds_26 : decode cX2_leastSeeds 26 = .ok (.iload_n 3, 1) := by decide +kernel
theorem dX2_leastSeeds_27 : decode cX2_leastSeeds 27 = .ok (.invokestatic 42, 3) := by decide +kernel
theorem dX2_leastSeeds_30 : decode cX2_leastSeeds 30 = .ok (.iload_n 1, 1) := by decide +kernel
theorem dX2_leastSeeds_31 : decode cX2_leastSeeds 31 = .ok (.if_icmp .ne 5, 3) := by decide +kernel
theorem dX2_leastSeeds_34 : decode cX2_leastSeeds 34 = .ok (.iload_n 3, 1) := by decide +kernel
theorem dX2_leastSeeds_35 : decode cX2_leastSeeds 35 = .ok (.istore_n 2, 1) := by decide +kernel
theorem dX2_leastSeeds_36 : decode cX2_leastSeeds 36 = .ok (.iinc 3 1, 3) := by decide +kernel
theorem dX2_leastSeeds_39 : decode cX2_leastSeeds 39 = .ok (.goto (-30), 3) := by decide +kernel
theorem dX2_leastSeeds_42 : decode cX2_leastSeeds 42 = .ok (.iload_n 2, 1) := by decide +kernel
theorem dX2_leastSeeds_43 : decode cX2_leastSeeds 43 = .ok (.ireturn, 1) := by decide +kernel
theorem dX3_init_0 : decode cX3_init 0 = .ok (.aload_n 0, 1) := by decide +kernel
theorem dX3_init_1 : decode cX3_init 1 = .ok (.invokespecial 3, 3) := by decide +kernel
theorem dX3_init_4 : decode cX3_init 4 = .ok (.aload_n 0, 1) := by decide +kernel
theorem dX3_init_5 : decode cX3_init 5 = .ok (.bipush 7, 2) := by decide +kernel
theorem dX3_init_7 : decode cX3_init 7 = .ok (.newarray .int, 2) := by decide +kernel
theorem dX3_init_9 : decode cX3_init 9 = .ok (.putfield 11, 3) := by decide +kernel
theorem dX3_init_12 : decode cX3_init 12 = .ok (.aload_n 0, 1) := by decide +kernel
theorem dX3_init_13 : decode cX3_init 13 = .ok (.sipush 448, 3) := by decide +kernel
theorem dX3_init_16 : decode cX3_init 16 = .ok (.newarray .int, 2) := by decide +kernel
theorem dX3_init_18 : decode cX3_init 18 = .ok (.putfield 15, 3) := by decide +kernel
theorem dX3_init_21 : decode cX3_init 21 = .ok (.return_, 1) := by decide +kernel
set_option maxRecDepth 20000 in
theorem ggX3_readFrom_X1_length : GoodIn wsX3_readFrom wsX1_length := goodIn_r _ [7, 8, 30, 31] rfl (by decide +kernel)
set_option maxRecDepth 20000 in
theorem gX3_readFrom_X1_length : GoodIn wsX3_readFrom (wsV RX3 22 RX1 yX1_length wsX1_length) := goodIn_app (goodIn_of _ (by decide +kernel)) ggX3_readFrom_X1_length
set_option maxRecDepth 20000 in
theorem ggX3_readFrom_X1_digitAt : GoodIn wsX3_readFrom wsX1_digitAt := goodIn_r _ [12, 13, 14, 15, 6, 16, 8, 17, 30, 31] rfl (by decide +kernel)
set_option maxRecDepth 20000 in
theorem gX3_readFrom_X1_digitAt : GoodIn wsX3_readFrom (wsV RX3 27 RX1 yX1_digitAt wsX1_digitAt) := goodIn_app (goodIn_of _ (by decide +kernel)) ggX3_readFrom_X1_digitAt
set_option maxRecDepth 20000 in
theorem ggX3_readFrom_X6_has : GoodIn wsX3_readFrom wsX6_has := goodIn_r _ [22, 23, 32, 33] rfl (by decide +kernel)
set_option maxRecDepth 20000 in
theorem gX3_readFrom_X6_has : GoodIn wsX3_readFrom (wsV RX3 31 RX6 yX6_has wsX6_has) := goodIn_app (goodIn_of _ (by decide +kernel)) ggX3_readFrom_X6_has
set_option maxRecDepth 20000 in
theorem ggX3_readFrom_X9_put : GoodIn wsX3_readFrom wsX9_put := goodIn_r _ [26] rfl (by decide +kernel)
set_option maxRecDepth 20000 in
theorem gX3_readFrom_X9_put_n37 : GoodIn wsX3_readFrom (wsX9_put) := ggX3_readFrom_X9_put
theorem dX3_readFrom_0 : decode cX3_readFrom 0 = .ok (.aload_n 0, 1) := by decide +kernel
theorem dX3_readFrom_1 : decode cX3_readFrom 1 = .ok (.iconst 0, 1) := by decide +kernel
theorem dX3_readFrom_2 : decode cX3_readFrom 2 = .ok (.putfield 18, 3) := by decide +kernel
theorem dX3_readFrom_5 : decode cX3_readFrom 5 = .ok (.iconst 0, 1) := by decide +kernel
theorem dX3_readFrom_6 : decode cX3_readFrom 6 = .ok (.istore_n 3, 1) := by decide +kernel
theorem dX3_readFrom_7 : decode cX3_readFrom 7 = .ok (.iload_n 3, 1) := by decide +kernel
theorem dX3_readFrom_8 : decode cX3_readFrom 8 = .ok (.aload_n 1, 1) := by decide +kernel
theorem dX3_readFrom_9 : decode cX3_readFrom 9 = .ok (.invokevirtual 22, 3) := by decide +kernel
theorem dX3_readFrom_12 : decode cX3_readFrom 12 = .ok (.if_icmp .ge 53, 3) := by decide +kernel
theorem dX3_readFrom_15 : decode cX3_readFrom 15 = .ok (.aload_n 1, 1) := by decide +kernel
theorem dX3_readFrom_16 : decode cX3_readFrom 16 = .ok (.iload_n 3, 1) := by decide +kernel
theorem dX3_readFrom_17 : decode cX3_readFrom 17 = .ok (.invokevirtual 27, 3) := by decide +kernel
theorem dX3_readFrom_20 : decode cX3_readFrom 20 = .ok (.istore 4, 2) := by decide +kernel
theorem dX3_readFrom_22 : decode cX3_readFrom 22 = .ok (.iload_n 3, 1) := by decide +kernel
theorem dX3_readFrom_23 : decode cX3_readFrom 23 = .ok (.bipush 7, 2) := by decide +kernel
theorem dX3_readFrom_25 : decode cX3_readFrom 25 = .ok (.if_icmp .ge 12, 3) := by decide +kernel
theorem dX3_readFrom_28 : decode cX3_readFrom 28 = .ok (.aload_n 2, 1) := by decide +kernel
theorem dX3_readFrom_29 : decode cX3_readFrom 29 = .ok (.iload 4, 2) := by decide +kernel
theorem dX3_readFrom_31 : decode cX3_readFrom 31 = .ok (.invokevirtual 31, 3) := by decide +kernel
theorem dX3_readFrom_34 : decode cX3_readFrom 34 = .ok (.ifCond .ne 5, 3) := by decide +kernel
theorem dX3_readFrom_37 : decode cX3_readFrom 37 = .ok (.iload_n 3, 1) := by decide +kernel
theorem dX3_readFrom_38 : decode cX3_readFrom 38 = .ok (.ireturn, 1) := by decide +kernel
theorem dX3_readFrom_39 : decode cX3_readFrom 39 = .ok (.aload_n 0, 1) := by decide +kernel
theorem dX3_readFrom_40 : decode cX3_readFrom 40 = .ok (.getfield 11, 3) := by decide +kernel
theorem dX3_readFrom_43 : decode cX3_readFrom 43 = .ok (.iload_n 3, 1) := by decide +kernel
theorem dX3_readFrom_44 : decode cX3_readFrom 44 = .ok (.iload 4, 2) := by decide +kernel
theorem dX3_readFrom_46 : decode cX3_readFrom 46 = .ok (.invokestatic 37, 3) := by decide +kernel
theorem dX3_readFrom_49 : decode cX3_readFrom 49 = .ok (.aload_n 0, 1) := by decide +kernel
theorem dX3_readFrom_50 : decode cX3_readFrom 50 = .ok (.dup, 1) := by decide +kernel
theorem dX3_readFrom_51 : decode cX3_readFrom 51 = .ok (.getfield 18, 3) := by decide +kernel
theorem dX3_readFrom_54 : decode cX3_readFrom 54 = .ok (.iconst 1, 1) := by decide +kernel
theorem dX3_readFrom_55 : decode cX3_readFrom 55 = .ok (.iadd, 1) := by decide +kernel
theorem dX3_readFrom_56 : decode cX3_readFrom 56 = .ok (.putfield 18, 3) := by decide +kernel
theorem dX3_readFrom_59 : decode cX3_readFrom 59 = .ok (.iinc 3 1, 3) := by decide +kernel
theorem dX3_readFrom_62 : decode cX3_readFrom 62 = .ok (.goto (-55), 3) := by decide +kernel
theorem dX3_readFrom_65 : decode cX3_readFrom 65 = .ok (.aload_n 0, 1) := by decide +kernel
theorem dX3_readFrom_66 : decode cX3_readFrom 66 = .ok (.getfield 18, 3) := by decide +kernel
theorem dX3_readFrom_69 : decode cX3_readFrom 69 = .ok (.ifCond .ne 7, 3) := by decide +kernel
theorem dX3_readFrom_72 : decode cX3_readFrom 72 = .ok (.iconst 0, 1) := by decide +kernel
theorem dX3_readFrom_73 : decode cX3_readFrom 73 = .ok (.goto 5, 3) := by decide +kernel
theorem dX3_readFrom_76 : decode cX3_readFrom 76 = .ok (.bipush (-4), 2) := by decide +kernel
theorem dX3_readFrom_78 : decode cX3_readFrom 78 = .ok (.ireturn, 1) := by decide +kernel
set_option maxRecDepth 20000 in
theorem ggX3_waysByParts_X3_sumParts : GoodIn wsX3_waysByParts wsX3_sumParts := goodIn_r _ [6, 7, 1, 8, 9, 10, 11, 12, 13, 14, 15, 16, 5, 17, 18, 19, 20, 21, 22, 23, 24, 25, 26, 27, 28, 29, 30, 31, 32, 33, 34, 35, 36, 37, 38, 39, 40, 41, 42, 43, 44] rfl (by decide +kernel)
set_option maxRecDepth 20000 in
theorem gX3_waysByParts_X3_sumParts : GoodIn wsX3_waysByParts (wsV RX3 41 RX3 yX3_sumParts wsX3_sumParts) := goodIn_app (goodIn_of _ (by decide +kernel)) ggX3_waysByParts_X3_sumParts
set_option maxRecDepth 20000 in
theorem ggX3_waysByParts_X3_partWays : GoodIn wsX3_waysByParts wsX3_partWays := goodIn_r _ [24, 7, 18, 19, 5, 20, 12, 10, 13, 40, 41, 42] rfl (by decide +kernel)
set_option maxRecDepth 20000 in
theorem gX3_waysByParts_X3_partWays : GoodIn wsX3_waysByParts (wsV RX3 45 RX3 yX3_partWays wsX3_partWays) := goodIn_app (goodIn_of _ (by decide +kernel)) ggX3_waysByParts_X3_partWays
theorem dX3_waysByParts_0 : decode cX3_waysByParts 0 = .ok (.aload_n 0, 1) := by decide +kernel
theorem dX3_waysByParts_1 : decode cX3_waysByParts 1 = .ok (.aload_n 1, 1) := by decide +kernel
theorem dX3_waysByParts_2 : decode cX3_waysByParts 2 = .ok (.invokevirtual 41, 3) := by decide +kernel
theorem dX3_waysByParts_5 : decode cX3_waysByParts 5 = .ok (.aload_n 0, 1) := by decide +kernel
theorem dX3_waysByParts_6 : decode cX3_waysByParts 6 = .ok (.iconst 0, 1) := by decide +kernel
theorem dX3_waysByParts_7 : decode cX3_waysByParts 7 = .ok (.aload_n 0, 1) := by decide +kernel
theorem dX3_waysByParts_8 : decode cX3_waysByParts 8 = .ok (.getfield 18, 3) := by decide +kernel
theorem dX3_waysByParts_11 : decode cX3_waysByParts 11 = .ok (.iload_n 2, 1) := by decide +kernel
theorem dX3_waysByParts_12 : decode cX3_waysByParts 12 = .ok (.invokevirtual 45, 3) := by decide +kernel
theorem dX3_waysByParts_15 : decode cX3_waysByParts 15 = .ok (.ireturn, 1) := by decide +kernel
set_option maxRecDepth 20000 in
theorem ggX3_waysOneByOne_X9_get : GoodIn wsX3_waysOneByOne wsX9_get := goodIn_r _ [6] rfl (by decide +kernel)
set_option maxRecDepth 20000 in
theorem gX3_waysOneByOne_X9_get_n52 : GoodIn wsX3_waysOneByOne (wsX9_get) := ggX3_waysOneByOne_X9_get
set_option maxRecDepth 20000 in
theorem ggX3_waysOneByOne_X3_sumOfWay : GoodIn wsX3_waysOneByOne wsX3_sumOfWay := goodIn_r _ [10, 1, 4, 5, 6, 7, 8, 9, 11, 12, 13, 14, 15, 16, 20, 21] rfl (by decide +kernel)
set_option maxRecDepth 20000 in
theorem gX3_waysOneByOne_X3_sumOfWay : GoodIn wsX3_waysOneByOne (va_wsS RX3 56 yX3_sumOfWay wsX3_sumOfWay) := goodIn_app (goodIn_of _ (by decide +kernel)) ggX3_waysOneByOne_X3_sumOfWay
theorem dX3_waysOneByOne_0 : decode cX3_waysOneByOne 0 = .ok (.getstatic 49, 3) := by decide +kernel
theorem dX3_waysOneByOne_3 : decode cX3_waysOneByOne 3 = .ok (.aload_n 0, 1) := by decide +kernel
theorem dX3_waysOneByOne_4 : decode cX3_waysOneByOne 4 = .ok (.getfield 18, 3) := by decide +kernel
theorem dX3_waysOneByOne_7 : decode cX3_waysOneByOne 7 = .ok (.invokestatic 52, 3) := by decide +kernel
theorem dX3_waysOneByOne_10 : decode cX3_waysOneByOne 10 = .ok (.istore_n 3, 1) := by decide +kernel
theorem dX3_waysOneByOne_11 : decode cX3_waysOneByOne 11 = .ok (.iconst 0, 1) := by decide +kernel
theorem dX3_waysOneByOne_12 : decode cX3_waysOneByOne 12 = .ok (.istore 4, 2) := by decide +kernel
theorem dX3_waysOneByOne_14 : decode cX3_waysOneByOne 14 = .ok (.iconst 0, 1) := by decide +kernel
theorem dX3_waysOneByOne_15 : decode cX3_waysOneByOne 15 = .ok (.istore 5, 2) := by decide +kernel
theorem dX3_waysOneByOne_17 : decode cX3_waysOneByOne 17 = .ok (.iload 5, 2) := by decide +kernel
theorem dX3_waysOneByOne_19 : decode cX3_waysOneByOne 19 = .ok (.iload_n 3, 1) := by decide +kernel
theorem dX3_waysOneByOne_20 : decode cX3_waysOneByOne 20 = .ok (.if_icmp .ge 31, 3) := by decide +kernel
theorem dX3_waysOneByOne_23 : decode cX3_waysOneByOne 23 = .ok (.aload_n 0, 1) := by decide +kernel
theorem dX3_waysOneByOne_24 : decode cX3_waysOneByOne 24 = .ok (.getfield 11, 3) := by decide +kernel
theorem dX3_waysOneByOne_27 : decode cX3_waysOneByOne 27 = .ok (.aload_n 1, 1) := by decide +kernel
theorem dX3_waysOneByOne_28 : decode cX3_waysOneByOne 28 = .ok (.iconst 0, 1) := by decide +kernel
theorem dX3_waysOneByOne_29 : decode cX3_waysOneByOne 29 = .ok (.aload_n 0, 1) := by decide +kernel
theorem dX3_waysOneByOne_30 : decode cX3_waysOneByOne 30 = .ok (.getfield 18, 3) := by decide +kernel
theorem dX3_waysOneByOne_33 : decode cX3_waysOneByOne 33 = .ok (.iload 5, 2) := by decide +kernel
theorem dX3_waysOneByOne_35 : decode cX3_waysOneByOne 35 = .ok (.invokestatic 56, 3) := by decide +kernel
theorem dX3_waysOneByOne_38 : decode cX3_waysOneByOne 38 = .ok (.iload_n 2, 1) := by decide +kernel
theorem dX3_waysOneByOne_39 : decode cX3_waysOneByOne 39 = .ok (.if_icmp .ne 6, 3) := by decide +kernel
theorem dX3_waysOneByOne_42 : decode cX3_waysOneByOne 42 = .ok (.iinc 4 1, 3) := by decide +kernel
theorem dX3_waysOneByOne_45 : decode cX3_waysOneByOne 45 = .ok (.iinc 5 1, 3) := by decide +kernel
theorem dX3_waysOneByOne_48 : decode cX3_waysOneByOne 48 = .ok (.goto (-31), 3) := by decide +kernel
theorem dX3_waysOneByOne_51 : decode cX3_waysOneByOne 51 = .ok (.iload 4, 2) := by decide +kernel
theorem dX3_waysOneByOne_53 : decode cX3_waysOneByOne 53 = .ok (.ireturn, 1) := by decide +kernel
set_option maxRecDepth 20000 in
theorem ggX3_sumOfWay_X9_get : GoodIn wsX3_sumOfWay wsX9_get := goodIn_r _ [4] rfl (by decide +kernel)
set_option maxRecDepth 20000 in
theorem gX3_sumOfWay_X9_get_n52 : GoodIn wsX3_sumOfWay (wsX9_get) := ggX3_sumOfWay_X9_get
set_option maxRecDepth 20000 in
theorem ggX3_sumOfWay_X3_sumOfWay : GoodIn wsX3_sumOfWay wsX3_sumOfWay := goodIn_r _ [0, 1, 2, 3, 4, 5, 6, 7, 8, 9, 10, 11, 12, 13, 14, 15] rfl (by decide +kernel)
set_option maxRecDepth 20000 in
theorem gX3_sumOfWay_X3_sumOfWay : GoodIn wsX3_sumOfWay (va_wsS RX3 56 yX3_sumOfWay wsX3_sumOfWay) := goodIn_app (goodIn_of _ (by decide +kernel)) ggX3_sumOfWay_X3_sumOfWay
set_option maxRecDepth 20000 in
theorem ggX3_sumOfWay_X6_at : GoodIn wsX3_sumOfWay wsX6_at := goodIn_r _ [12, 13, 14, 15] rfl (by decide +kernel)
set_option maxRecDepth 20000 in
theorem gX3_sumOfWay_X6_at : GoodIn wsX3_sumOfWay (wsV RX3 60 RX6 yX6_at wsX6_at) := goodIn_app (goodIn_of _ (by decide +kernel)) ggX3_sumOfWay_X6_at
theorem dX3_sumOfWay_0 : decode cX3_sumOfWay 0 = .ok (.iload_n 3, 1) := by decide +kernel
theorem dX3_sumOfWay_1 : decode cX3_sumOfWay 1 = .ok (.iconst 1, 1) := by decide +kernel
theorem dX3_sumOfWay_2 : decode cX3_sumOfWay 2 = .ok (.if_icmp .le 9, 3) := by decide +kernel
theorem dX3_sumOfWay_5 : decode cX3_sumOfWay 5 = .ok (.iload_n 3, 1) := by decide +kernel
theorem dX3_sumOfWay_6 : decode cX3_sumOfWay 6 = .ok (.bipush 7, 2) := by decide +kernel
theorem dX3_sumOfWay_8 : decode cX3_sumOfWay 8 = .ok (.if_icmp .le 9, 3) := by decide +kernel
theorem dX3_sumOfWay_11 : decode cX3_sumOfWay 11 = .ok (.aload_n 0, 1) := by decide +kernel
theorem dX3_sumOfWay_12 : decode cX3_sumOfWay 12 = .ok (.iload_n 2, 1) := by decide +kernel
theorem dX3_sumOfWay_13 : decode cX3_sumOfWay 13 = .ok (.invokestatic 52, 3) := by decide +kernel
theorem dX3_sumOfWay_16 : decode cX3_sumOfWay 16 = .ok (.ireturn, 1) := by decide +kernel
theorem dX3_sumOfWay_17 : decode cX3_sumOfWay 17 = .ok (.iload 4, 2) := by decide +kernel
theorem dX3_sumOfWay_19 : decode cX3_sumOfWay 19 = .ok (.istore 5, 2) := by decide +kernel
theorem dX3_sumOfWay_21 : decode cX3_sumOfWay 21 = .ok (.iconst 1, 1) := by decide +kernel
theorem dX3_sumOfWay_22 : decode cX3_sumOfWay 22 = .ok (.istore 6, 2) := by decide +kernel
theorem dX3_sumOfWay_24 : decode cX3_sumOfWay 24 = .ok (.iload 6, 2) := by decide +kernel
theorem dX3_sumOfWay_26 : decode cX3_sumOfWay 26 = .ok (.iload_n 3, 1) := by decide +kernel
theorem dX3_sumOfWay_27 : decode cX3_sumOfWay 27 = .ok (.if_icmp .ge 97, 3) := by decide +kernel
theorem dX3_sumOfWay_30 : decode cX3_sumOfWay 30 = .ok (.getstatic 49, 3) := by decide +kernel
theorem dX3_sumOfWay_33 : decode cX3_sumOfWay 33 = .ok (.iload_n 3, 1) := by decide +kernel
theorem dX3_sumOfWay_34 : decode cX3_sumOfWay 34 = .ok (.iload 6, 2) := by decide +kernel
theorem dX3_sumOfWay_36 : decode cX3_sumOfWay 36 = .ok (.isub, 1) := by decide +kernel
theorem dX3_sumOfWay_37 : decode cX3_sumOfWay 37 = .ok (.invokestatic 52, 3) := by decide +kernel
theorem dX3_sumOfWay_40 : decode cX3_sumOfWay 40 = .ok (.istore 7, 2) := by decide +kernel
theorem dX3_sumOfWay_42 : decode cX3_sumOfWay 42 = .ok (.getstatic 49, 3) := by decide +kernel
theorem dX3_sumOfWay_45 : decode cX3_sumOfWay 45 = .ok (.iload 6, 2) := by decide +kernel
theorem dX3_sumOfWay_47 : decode cX3_sumOfWay 47 = .ok (.invokestatic 52, 3) := by decide +kernel
theorem dX3_sumOfWay_50 : decode cX3_sumOfWay 50 = .ok (.iload 7, 2) := by decide +kernel
theorem dX3_sumOfWay_52 : decode cX3_sumOfWay 52 = .ok (.imul, 1) := by decide +kernel
theorem dX3_sumOfWay_53 : decode cX3_sumOfWay 53 = .ok (.istore 8, 2) := by decide +kernel
theorem dX3_sumOfWay_55 : decode cX3_sumOfWay 55 = .ok (.iload 7, 2) := by decide +kernel
theorem dX3_sumOfWay_57 : decode cX3_sumOfWay 57 = .ok (.ifCond .le 54, 3) := by decide +kernel
theorem dX3_sumOfWay_60 : decode cX3_sumOfWay 60 = .ok (.iload 5, 2) := by decide +kernel
theorem dX3_sumOfWay_62 : decode cX3_sumOfWay 62 = .ok (.iload 8, 2) := by decide +kernel
theorem dX3_sumOfWay_64 : decode cX3_sumOfWay 64 = .ok (.if_icmp .ge 47, 3) := by decide +kernel
theorem dX3_sumOfWay_67 : decode cX3_sumOfWay 67 = .ok (.aload_n 0, 1) := by decide +kernel
theorem dX3_sumOfWay_68 : decode cX3_sumOfWay 68 = .ok (.aload_n 1, 1) := by decide +kernel
theorem dX3_sumOfWay_69 : decode cX3_sumOfWay 69 = .ok (.iload_n 2, 1) := by decide +kernel
theorem dX3_sumOfWay_70 : decode cX3_sumOfWay 70 = .ok (.iload 6, 2) := by decide +kernel
theorem dX3_sumOfWay_72 : decode cX3_sumOfWay 72 = .ok (.iload 5, 2) := by decide +kernel
theorem dX3_sumOfWay_74 : decode cX3_sumOfWay 74 = .ok (.iload 7, 2) := by decide +kernel
theorem dX3_sumOfWay_76 : decode cX3_sumOfWay 76 = .ok (.idiv, 1) := by decide +kernel
theorem dX3_sumOfWay_77 : decode cX3_sumOfWay 77 = .ok (.invokestatic 56, 3) := by decide +kernel
theorem dX3_sumOfWay_80 : decode cX3_sumOfWay 80 = .ok (.istore 9, 2) := by decide +kernel
theorem dX3_sumOfWay_82 : decode cX3_sumOfWay 82 = .ok (.aload_n 0, 1) := by decide +kernel
theorem dX3_sumOfWay_83 : decode cX3_sumOfWay 83 = .ok (.aload_n 1, 1) := by decide +kernel
theorem dX3_sumOfWay_84 : decode cX3_sumOfWay 84 = .ok (.iload_n 2, 1) := by decide +kernel
theorem dX3_sumOfWay_85 : decode cX3_sumOfWay 85 = .ok (.iload 6, 2) := by decide +kernel
theorem dX3_sumOfWay_87 : decode cX3_sumOfWay 87 = .ok (.iadd, 1) := by decide +kernel
theorem dX3_sumOfWay_88 : decode cX3_sumOfWay 88 = .ok (.iload_n 3, 1) := by decide +kernel
theorem dX3_sumOfWay_89 : decode cX3_sumOfWay 89 = .ok (.iload 6, 2) := by decide +kernel
theorem dX3_sumOfWay_91 : decode cX3_sumOfWay 91 = .ok (.isub, 1) := by decide +kernel
theorem dX3_sumOfWay_92 : decode cX3_sumOfWay 92 = .ok (.iload 5, 2) := by decide +kernel
theorem dX3_sumOfWay_94 : decode cX3_sumOfWay 94 = .ok (.iload 7, 2) := by decide +kernel
theorem dX3_sumOfWay_96 : decode cX3_sumOfWay 96 = .ok (.irem, 1) := by decide +kernel
theorem dX3_sumOfWay_97 : decode cX3_sumOfWay 97 = .ok (.invokestatic 56, 3) := by decide +kernel
theorem dX3_sumOfWay_100 : decode cX3_sumOfWay 100 = .ok (.istore 10, 2) := by decide +kernel
theorem dX3_sumOfWay_102 : decode cX3_sumOfWay 102 = .ok (.aload_n 1, 1) := by decide +kernel
theorem dX3_sumOfWay_103 : decode cX3_sumOfWay 103 = .ok (.iload 9, 2) := by decide +kernel
theorem dX3_sumOfWay_105 : decode cX3_sumOfWay 105 = .ok (.iload 10, 2) := by decide +kernel
theorem dX3_sumOfWay_107 : decode cX3_sumOfWay 107 = .ok (.invokevirtual 60, 3) := by decide +kernel
theorem dX3_sumOfWay_110 : decode cX3_sumOfWay 110 = .ok (.ireturn, 1) := by decide +kernel
theorem dX3_sumOfWay_111 : decode cX3_sumOfWay 111 = .ok (.iload 5, 2) := by decide +kernel
theorem dX3_sumOfWay_113 : decode cX3_sumOfWay 113 = .ok (.iload 8, 2) := by decide +kernel
theorem dX3_sumOfWay_115 : decode cX3_sumOfWay 115 = .ok (.isub, 1) := by decide +kernel
theorem dX3_sumOfWay_116 : decode cX3_sumOfWay 116 = .ok (.istore 5, 2) := by decide +kernel
theorem dX3_sumOfWay_118 : decode cX3_sumOfWay 118 = .ok (.iinc 6 1, 3) := by decide +kernel
theorem dX3_sumOfWay_121 : decode cX3_sumOfWay 121 = .ok (.goto (-97), 3) := by decide +kernel
theorem dX3_sumOfWay_124 : decode cX3_sumOfWay 124 = .ok (.bipush (-4), 2) := by decide +kernel
theorem dX3_sumOfWay_126 : decode cX3_sumOfWay 126 = .ok (.ireturn, 1) := by decide +kernel
set_option maxRecDepth 20000 in
theorem ggX3_possibleSums_X3_sumParts : GoodIn wsX3_possibleSums wsX3_sumParts := goodIn_r _ [6, 7, 1, 8, 9, 10, 11, 12, 13, 14, 15, 16, 5, 17, 18, 19, 20, 21, 22, 23, 24, 25, 26, 27, 28, 29, 30, 31, 32, 33, 34, 35, 36, 37, 38, 39, 40, 41, 42, 43, 44] rfl (by decide +kernel)
set_option maxRecDepth 20000 in
theorem gX3_possibleSums_X3_sumParts : GoodIn wsX3_possibleSums (wsV RX3 41 RX3 yX3_sumParts wsX3_sumParts) := goodIn_app (goodIn_of _ (by decide +kernel)) ggX3_possibleSums_X3_sumParts
set_option maxRecDepth 20000 in
theorem ggX3_possibleSums_X6_size : GoodIn wsX3_possibleSums wsX6_size := goodIn_r _ [33, 34, 43, 44] rfl (by decide +kernel)
set_option maxRecDepth 20000 in
theorem gX3_possibleSums_X6_size : GoodIn wsX3_possibleSums (wsV RX3 64 RX6 yX6_size wsX6_size) := goodIn_app (goodIn_of _ (by decide +kernel)) ggX3_possibleSums_X6_size
set_option maxRecDepth 20000 in
theorem ggX3_possibleSums_X3_partWays : GoodIn wsX3_possibleSums wsX3_partWays := goodIn_r _ [24, 7, 18, 19, 5, 20, 12, 10, 13, 40, 41, 42] rfl (by decide +kernel)
set_option maxRecDepth 20000 in
theorem gX3_possibleSums_X3_partWays : GoodIn wsX3_possibleSums (wsV RX3 45 RX3 yX3_partWays wsX3_partWays) := goodIn_app (goodIn_of _ (by decide +kernel)) ggX3_possibleSums_X3_partWays
theorem dX3_possibleSums_0 : decode cX3_possibleSums 0 = .ok (.aload_n 0, 1) := by decide +kernel
theorem dX3_possibleSums_1 : decode cX3_possibleSums 1 = .ok (.aload_n 1, 1) := by decide +kernel
theorem dX3_possibleSums_2 : decode cX3_possibleSums 2 = .ok (.invokevirtual 41, 3) := by decide +kernel
theorem dX3_possibleSums_5 : decode cX3_possibleSums 5 = .ok (.iconst 0, 1) := by decide +kernel
theorem dX3_possibleSums_6 : decode cX3_possibleSums 6 = .ok (.istore_n 2, 1) := by decide +kernel
theorem dX3_possibleSums_7 : decode cX3_possibleSums 7 = .ok (.iconst 0, 1) := by decide +kernel
theorem dX3_possibleSums_8 : decode cX3_possibleSums 8 = .ok (.istore_n 3, 1) := by decide +kernel
theorem dX3_possibleSums_9 : decode cX3_possibleSums 9 = .ok (.iload_n 3, 1) := by decide +kernel
theorem dX3_possibleSums_10 : decode cX3_possibleSums 10 = .ok (.aload_n 1, 1) := by decide +kernel
theorem dX3_possibleSums_11 : decode cX3_possibleSums 11 = .ok (.invokevirtual 64, 3) := by decide +kernel
theorem dX3_possibleSums_14 : decode cX3_possibleSums 14 = .ok (.if_icmp .ge 28, 3) := by decide +kernel
theorem dX3_possibleSums_17 : decode cX3_possibleSums 17 = .ok (.aload_n 0, 1) := by decide +kernel
theorem dX3_possibleSums_18 : decode cX3_possibleSums 18 = .ok (.iconst 0, 1) := by decide +kernel
theorem dX3_possibleSums_19 : decode cX3_possibleSums 19 = .ok (.aload_n 0, 1) := by decide +kernel
theorem dX3_possibleSums_20 : decode cX3_possibleSums 20 = .ok (.getfield 18, 3) := by decide +kernel
theorem dX3_possibleSums_23 : decode cX3_possibleSums 23 = .ok (.iload_n 3, 1) := by decide +kernel
theorem dX3_possibleSums_24 : decode cX3_possibleSums 24 = .ok (.invokevirtual 45, 3) := by decide +kernel
theorem dX3_possibleSums_27 : decode cX3_possibleSums 27 = .ok (.ifCond .le 9, 3) := by decide +kernel
theorem dX3_possibleSums_30 : decode cX3_possibleSums 30 = .ok (.iload_n 2, 1) := by decide +kernel
theorem dX3_possibleSums_31 : decode cX3_possibleSums 31 = .ok (.iconst 1, 1) := by decide +kernel
theorem dX3_possibleSums_32 : decode cX3_possibleSums 32 = .ok (.iload_n 3, 1) := by decide +kernel
theorem dX3_possibleSums_33 : decode cX3_possibleSums 33 = .ok (.ishl, 1) := by decide +kernel
theorem dX3_possibleSums_34 : decode cX3_possibleSums 34 = .ok (.ior, 1) := by decide +kernel
theorem dX3_possibleSums_35 : decode cX3_possibleSums 35 = .ok (.istore_n 2, 1) := by decide +kernel
theorem dX3_possibleSums_36 : decode cX3_possibleSums 36 = .ok (.iinc 3 1, 3) := by decide +kernel
theorem dX3_possibleSums_39 : decode cX3_possibleSums 39 = .ok (.goto (-30), 3) := by decide +kernel
theorem dX3_possibleSums_42 : decode cX3_possibleSums 42 = .ok (.iload_n 2, 1) := by decide +kernel
theorem dX3_possibleSums_43 : decode cX3_possibleSums 43 = .ok (.ireturn, 1) := by decide +kernel
set_option maxRecDepth 20000 in
theorem ggX3_sumFromLeft_X9_get : GoodIn wsX3_sumFromLeft wsX9_get := goodIn_r _ [5] rfl (by decide +kernel)
set_option maxRecDepth 20000 in
theorem gX3_sumFromLeft_X9_get_n52 : GoodIn wsX3_sumFromLeft (wsX9_get) := ggX3_sumFromLeft_X9_get
set_option maxRecDepth 20000 in
theorem ggX3_sumFromLeft_X6_at : GoodIn wsX3_sumFromLeft wsX6_at := goodIn_r _ [10, 11, 15, 16] rfl (by decide +kernel)
set_option maxRecDepth 20000 in
theorem gX3_sumFromLeft_X6_at : GoodIn wsX3_sumFromLeft (wsV RX3 60 RX6 yX6_at wsX6_at) := goodIn_app (goodIn_of _ (by decide +kernel)) ggX3_sumFromLeft_X6_at
theorem dX3_sumFromLeft_0 : decode cX3_sumFromLeft 0 = .ok (.aload_n 0, 1) := by decide +kernel
theorem dX3_sumFromLeft_1 : decode cX3_sumFromLeft 1 = .ok (.getfield 11, 3) := by decide +kernel
theorem dX3_sumFromLeft_4 : decode cX3_sumFromLeft 4 = .ok (.iconst 0, 1) := by decide +kernel
theorem dX3_sumFromLeft_5 : decode cX3_sumFromLeft 5 = .ok (.invokestatic 52, 3) := by decide +kernel
theorem dX3_sumFromLeft_8 : decode cX3_sumFromLeft 8 = .ok (.istore_n 2, 1) := by decide +kernel
theorem dX3_sumFromLeft_9 : decode cX3_sumFromLeft 9 = .ok (.iconst 1, 1) := by decide +kernel
theorem dX3_sumFromLeft_10 : decode cX3_sumFromLeft 10 = .ok (.istore_n 3, 1) := by decide +kernel
theorem dX3_sumFromLeft_11 : decode cX3_sumFromLeft 11 = .ok (.iload_n 3, 1) := by decide +kernel
theorem dX3_sumFromLeft_12 : decode cX3_sumFromLeft 12 = .ok (.aload_n 0, 1) := by decide +kernel
theorem dX3_sumFromLeft_13 : decode cX3_sumFromLeft 13 = .ok (.getfield 18, 3) := by decide +kernel
theorem dX3_sumFromLeft_16 : decode cX3_sumFromLeft 16 = .ok (.if_icmp .ge 23, 3) := by decide +kernel
theorem dX3_sumFromLeft_19 : decode cX3_sumFromLeft 19 = .ok (.aload_n 1, 1) := by decide +kernel
theorem dX3_sumFromLeft_20 : decode cX3_sumFromLeft 20 = .ok (.iload_n 2, 1) := by decide +kernel
theorem dX3_sumFromLeft_21 : decode cX3_sumFromLeft 21 = .ok (.aload_n 0, 1) := by decide +kernel
theorem dX3_sumFromLeft_22 : decode cX3_sumFromLeft 22 = .ok (.getfield 11, 3) := by decide +kernel
theorem dX3_sumFromLeft_25 : decode cX3_sumFromLeft 25 = .ok (.iload_n 3, 1) := by decide +kernel
theorem dX3_sumFromLeft_26 : decode cX3_sumFromLeft 26 = .ok (.invokestatic 52, 3) := by decide +kernel
theorem dX3_sumFromLeft_29 : decode cX3_sumFromLeft 29 = .ok (.invokevirtual 60, 3) := by decide +kernel
theorem dX3_sumFromLeft_32 : decode cX3_sumFromLeft 32 = .ok (.istore_n 2, 1) := by decide +kernel
theorem dX3_sumFromLeft_33 : decode cX3_sumFromLeft 33 = .ok (.iinc 3 1, 3) := by decide +kernel
theorem dX3_sumFromLeft_36 : decode cX3_sumFromLeft 36 = .ok (.goto (-25), 3) := by decide +kernel
theorem dX3_sumFromLeft_39 : decode cX3_sumFromLeft 39 = .ok (.iload_n 2, 1) := by decide +kernel
theorem dX3_sumFromLeft_40 : decode cX3_sumFromLeft 40 = .ok (.ireturn, 1) := by decide +kernel
set_option maxRecDepth 20000 in
theorem ggX3_sumFromRight_X9_get : GoodIn wsX3_sumFromRight wsX9_get := goodIn_r _ [5] rfl (by decide +kernel)
set_option maxRecDepth 20000 in
theorem gX3_sumFromRight_X9_get_n52 : GoodIn wsX3_sumFromRight (wsX9_get) := ggX3_sumFromRight_X9_get
set_option maxRecDepth 20000 in
theorem ggX3_sumFromRight_X6_at : GoodIn wsX3_sumFromRight wsX6_at := goodIn_r _ [10, 11, 15, 16] rfl (by decide +kernel)
set_option maxRecDepth 20000 in
theorem gX3_sumFromRight_X6_at : GoodIn wsX3_sumFromRight (wsV RX3 60 RX6 yX6_at wsX6_at) := goodIn_app (goodIn_of _ (by decide +kernel)) ggX3_sumFromRight_X6_at
theorem dX3_sumFromRight_0 : decode cX3_sumFromRight 0 = .ok (.aload_n 0, 1) := by decide +kernel
theorem dX3_sumFromRight_1 : decode cX3_sumFromRight 1 = .ok (.getfield 11, 3) := by decide +kernel
theorem dX3_sumFromRight_4 : decode cX3_sumFromRight 4 = .ok (.aload_n 0, 1) := by decide +kernel
theorem dX3_sumFromRight_5 : decode cX3_sumFromRight 5 = .ok (.getfield 18, 3) := by decide +kernel
theorem dX3_sumFromRight_8 : decode cX3_sumFromRight 8 = .ok (.iconst 1, 1) := by decide +kernel
theorem dX3_sumFromRight_9 : decode cX3_sumFromRight 9 = .ok (.isub, 1) := by decide +kernel
theorem dX3_sumFromRight_10 : decode cX3_sumFromRight 10 = .ok (.invokestatic 52, 3) := by decide +kernel
theorem dX3_sumFromRight_13 : decode cX3_sumFromRight 13 = .ok (.istore_n 2, 1) := by decide +kernel
theorem dX3_sumFromRight_14 : decode cX3_sumFromRight 14 = .ok (.aload_n 0, 1) := by decide +kernel
theorem dX3_sumFromRight_15 : decode cX3_sumFromRight 15 = .ok (.getfield 18, 3) := by decide +kernel
theorem dX3_sumFromRight_18 : decode cX3_sumFromRight 18 = .ok (.iconst 2, 1) := by decide +kernel
theorem dX3_sumFromRight_19 : decode cX3_sumFromRight 19 = .ok (.isub, 1) := by decide +kernel
theorem dX3_sumFromRight_20 : decode cX3_sumFromRight 20 = .ok (.istore_n 3, 1) := by decide +kernel
theorem dX3_sumFromRight_21 : decode cX3_sumFromRight 21 = .ok (.iload_n 3, 1) := by decide +kernel
theorem dX3_sumFromRight_22 : decode cX3_sumFromRight 22 = .ok (.ifCond .lt 23, 3) := by decide +kernel
theorem dX3_sumFromRight_25 : decode cX3_sumFromRight 25 = .ok (.aload_n 1, 1) := by decide +kernel
theorem dX3_sumFromRight_26 : decode cX3_sumFromRight 26 = .ok (.aload_n 0, 1) := by decide +kernel
theorem dX3_sumFromRight_27 : decode cX3_sumFromRight 27 = .ok (.getfield 11, 3) := by decide +kernel
theorem dX3_sumFromRight_30 : decode cX3_sumFromRight 30 = .ok (.iload_n 3, 1) := by decide +kernel
theorem dX3_sumFromRight_31 : decode cX3_sumFromRight 31 = .ok (.invokestatic 52, 3) := by decide +kernel
theorem dX3_sumFromRight_34 : decode cX3_sumFromRight 34 = .ok (.iload_n 2, 1) := by decide +kernel
theorem dX3_sumFromRight_35 : decode cX3_sumFromRight 35 = .ok (.invokevirtual 60, 3) := by decide +kernel
theorem dX3_sumFromRight_38 : decode cX3_sumFromRight 38 = .ok (.istore_n 2, 1) := by decide +kernel
theorem dX3_sumFromRight_39 : decode cX3_sumFromRight 39 = .ok (.iinc 3 (-1), 3) := by decide +kernel
theorem dX3_sumFromRight_42 : decode cX3_sumFromRight 42 = .ok (.goto (-21), 3) := by decide +kernel
theorem dX3_sumFromRight_45 : decode cX3_sumFromRight 45 = .ok (.iload_n 2, 1) := by decide +kernel
theorem dX3_sumFromRight_46 : decode cX3_sumFromRight 46 = .ok (.ireturn, 1) := by decide +kernel
set_option maxRecDepth 20000 in
theorem ggX3_likeliestSum_X3_sumParts : GoodIn wsX3_likeliestSum wsX3_sumParts := goodIn_r _ [6, 7, 1, 8, 9, 10, 11, 12, 13, 14, 15, 16, 5, 17, 18, 19, 20, 21, 22, 23, 24, 25, 26, 27, 28, 29, 30, 31, 32, 33, 34, 35, 36, 37, 38, 39, 40, 41, 42, 43, 44] rfl (by decide +kernel)
set_option maxRecDepth 20000 in
theorem gX3_likeliestSum_X3_sumParts : GoodIn wsX3_likeliestSum (wsV RX3 41 RX3 yX3_sumParts wsX3_sumParts) := goodIn_app (goodIn_of _ (by decide +kernel)) ggX3_likeliestSum_X3_sumParts
set_option maxRecDepth 20000 in
theorem ggX3_likeliestSum_X6_size : GoodIn wsX3_likeliestSum wsX6_size := goodIn_r _ [33, 34, 43, 44] rfl (by decide +kernel)
set_option maxRecDepth 20000 in
theorem gX3_likeliestSum_X6_size : GoodIn wsX3_likeliestSum (wsV RX3 64 RX6 yX6_size wsX6_size) := goodIn_app (goodIn_of _ (by decide +kernel)) ggX3_likeliestSum_X6_size
set_option maxRecDepth 20000 in
theorem ggX3_likeliestSum_X3_partWays : GoodIn wsX3_likeliestSum wsX3_partWays := goodIn_r _ [24, 7, 18, 19, 5, 20, 12, 10, 13, 40, 41, 42] rfl (by decide +kernel)
set_option maxRecDepth 20000 in
theorem gX3_likeliestSum_X3_partWays : GoodIn wsX3_likeliestSum (wsV RX3 45 RX3 yX3_partWays wsX3_partWays) := goodIn_app (goodIn_of _ (by decide +kernel)) ggX3_likeliestSum_X3_partWays
theorem dX3_likeliestSum_0 : decode cX3_likeliestSum 0 = .ok (.aload_n 0, 1) := by decide +kernel
theorem dX3_likeliestSum_1 : decode cX3_likeliestSum 1 = .ok (.aload_n 1, 1) := by decide +kernel
theorem dX3_likeliestSum_2 : decode cX3_likeliestSum 2 = .ok (.invokevirtual 41, 3) := by decide +kernel
theorem dX3_likeliestSum_5 : decode cX3_likeliestSum 5 = .ok (.iconst 0, 1) := by decide +kernel
theorem dX3_likeliestSum_6 : decode cX3_likeliestSum 6 = .ok (.istore_n 2, 1) := by decide +kernel
theorem dX3_likeliestSum_7 : decode cX3_likeliestSum 7 = .ok (.iconst 1, 1) := by decide +kernel
theorem dX3_likeliestSum_8 : decode cX3_likeliestSum 8 = .ok (.istore_n 3, 1) := by decide +kernel
theorem dX3_likeliestSum_9 : decode cX3_likeliestSum 9 = .ok (.iload_n 3, 1) := by decide +kernel
theorem dX3_likeliestSum_10 : decode cX3_likeliestSum 10 = .ok (.aload_n 1, 1) := by decide +kernel
theorem dX3_likeliestSum_11 : decode cX3_likeliestSum 11 = .ok (.invokevirtual 64, 3) := by decide +kernel
theorem dX3_likeliestSum_14 : decode cX3_likeliestSum 14 = .ok (.if_icmp .ge 34, 3) := by decide +kernel
theorem dX3_likeliestSum_17 : decode cX3_likeliestSum 17 = .ok (.aload_n 0, 1) := by decide +kernel
theorem dX3_likeliestSum_18 : decode cX3_likeliestSum 18 = .ok (.iconst 0, 1) := by decide +kernel
theorem dX3_likeliestSum_19 : decode cX3_likeliestSum 19 = .ok (.aload_n 0, 1) := by decide +kernel
theorem dX3_likeliestSum_20 : decode cX3_likeliestSum 20 = .ok (.getfield 18, 3) := by decide +kernel
theorem dX3_likeliestSum_23 : decode cX3_likeliestSum 23 = .ok (.iload_n 3, 1) := by decide +kernel
theorem dX3_likeliestSum_24 : decode cX3_likeliestSum 24 = .ok (.invokevirtual 45, 3) := by decide +kernel
theorem dX3_likeliestSum_27 : decode cX3_likeliestSum 27 = .ok (.aload_n 0, 1) := by decide +kernel
theorem dX3_likeliestSum_28 : decode cX3_likeliestSum 28 = .ok (.iconst 0, 1) := by decide +kernel
theorem dX3_likeliestSum_29 : decode cX3_likeliestSum 29 = .ok (.aload_n 0, 1) := by decide +kernel
theorem dX3_likeliestSum_30 : decode cX3_likeliestSum 30 = .ok (.getfield 18, 3) := by decide +kernel
theorem dX3_likeliestSum_33 : decode cX3_likeliestSum 33 = .ok (.iload_n 2, 1) := by decide +kernel
theorem dX3_likeliestSum_34 : decode cX3_likeliestSum 34 = .ok (.invokevirtual 45, 3) := by decide +kernel
theorem dX3_likeliestSum_37 : decode cX3_likeliestSum 37 = .ok (.if_icmp .le 5, 3) := by decide +kernel
theorem dX3_likeliestSum_40 : decode cX3_likeliestSum 40 = .ok (.iload_n 3, 1) := by decide +kernel
theorem dX3_likeliestSum_41 : decode cX3_likeliestSum 41 = .ok (.istore_n 2, 1) := by decide +kernel
theorem dX3_likeliestSum_42 : decode cX3_likeliestSum 42 = .ok (.iinc 3 1, 3) := by decide +kernel
theorem dX3_likeliestSum_45 : decode cX3_likeliestSum 45 = .ok (.goto (-36), 3) := by decide +kernel
theorem dX3_likeliestSum_48 : decode cX3_likeliestSum 48 = .ok (.iload_n 2, 1) := by decide +kernel
theorem dX3_likeliestSum_49 : decode cX3_likeliestSum 49 = .ok (.ireturn, 1) := by decide +kernel
set_option maxRecDepth 20000 in
theorem ggX3_firstCut_X3_sumParts : GoodIn wsX3_firstCut wsX3_sumParts := goodIn_r _ [6, 7, 1, 8, 9, 10, 11, 12, 13, 14, 15, 16, 5, 17, 18, 19, 20, 21, 22, 23, 24, 25, 26, 27, 28, 29, 30, 31, 32, 33, 34, 35, 36, 37, 38, 39, 44, 45, 46, 47, 48] rfl (by decide +kernel)
set_option maxRecDepth 20000 in
theorem gX3_firstCut_X3_sumParts : GoodIn wsX3_firstCut (wsV RX3 41 RX3 yX3_sumParts wsX3_sumParts) := goodIn_app (goodIn_of _ (by decide +kernel)) ggX3_firstCut_X3_sumParts
set_option maxRecDepth 20000 in
theorem ggX3_firstCut_X3_cutComesTo : GoodIn wsX3_firstCut wsX3_cutComesTo := goodIn_r _ [43, 1, 29, 30, 31, 32, 33, 34, 35, 36, 37, 38, 39, 21, 22, 23, 5, 24, 7, 18, 19, 20, 12, 10, 13, 44, 45, 46, 47, 48] rfl (by decide +kernel)
set_option maxRecDepth 20000 in
theorem gX3_firstCut_X3_cutComesTo : GoodIn wsX3_firstCut (wsV RX3 67 RX3 yX3_cutComesTo wsX3_cutComesTo) := goodIn_app (goodIn_of _ (by decide +kernel)) ggX3_firstCut_X3_cutComesTo
theorem dX3_firstCut_0 : decode cX3_firstCut 0 = .ok (.aload_n 0, 1) := by decide +kernel
theorem dX3_firstCut_1 : decode cX3_firstCut 1 = .ok (.aload_n 1, 1) := by decide +kernel
theorem dX3_firstCut_2 : decode cX3_firstCut 2 = .ok (.invokevirtual 41, 3) := by decide +kernel
theorem dX3_firstCut_5 : decode cX3_firstCut 5 = .ok (.iconst 1, 1) := by decide +kernel
theorem dX3_firstCut_6 : decode cX3_firstCut 6 = .ok (.istore_n 3, 1) := by decide +kernel
theorem dX3_firstCut_7 : decode cX3_firstCut 7 = .ok (.iload_n 3, 1) := by decide +kernel
theorem dX3_firstCut_8 : decode cX3_firstCut 8 = .ok (.aload_n 0, 1) := by decide +kernel
theorem dX3_firstCut_9 : decode cX3_firstCut 9 = .ok (.getfield 18, 3) := by decide +kernel
theorem dX3_firstCut_12 : decode cX3_firstCut 12 = .ok (.if_icmp .ge 21, 3) := by decide +kernel
theorem dX3_firstCut_15 : decode cX3_firstCut 15 = .ok (.aload_n 0, 1) := by decide +kernel
theorem dX3_firstCut_16 : decode cX3_firstCut 16 = .ok (.aload_n 1, 1) := by decide +kernel
theorem dX3_firstCut_17 : decode cX3_firstCut 17 = .ok (.iload_n 3, 1) := by decide +kernel
theorem dX3_firstCut_18 : decode cX3_firstCut 18 = .ok (.iload_n 2, 1) := by decide +kernel
theorem dX3_firstCut_19 : decode cX3_firstCut 19 = .ok (.invokevirtual 67, 3) := by decide +kernel
theorem dX3_firstCut_22 : decode cX3_firstCut 22 = .ok (.ifCond .eq 5, 3) := by decide +kernel
theorem dX3_firstCut_25 : decode cX3_firstCut 25 = .ok (.iload_n 3, 1) := by decide +kernel
theorem dX3_firstCut_26 : decode cX3_firstCut 26 = .ok (.ireturn, 1) := by decide +kernel
theorem dX3_firstCut_27 : decode cX3_firstCut 27 = .ok (.iinc 3 1, 3) := by decide +kernel
theorem dX3_firstCut_30 : decode cX3_firstCut 30 = .ok (.goto (-23), 3) := by decide +kernel
theorem dX3_firstCut_33 : decode cX3_firstCut 33 = .ok (.bipush (-4), 2) := by decide +kernel
theorem dX3_firstCut_35 : decode cX3_firstCut 35 = .ok (.ireturn, 1) := by decide +kernel
set_option maxRecDepth 20000 in
theorem ggX3_cutComesTo_X6_size : GoodIn wsX3_cutComesTo wsX6_size := goodIn_r _ [6, 7, 28, 29] rfl (by decide +kernel)
set_option maxRecDepth 20000 in
theorem gX3_cutComesTo_X6_size : GoodIn wsX3_cutComesTo (wsV RX3 64 RX6 yX6_size wsX6_size) := goodIn_app (goodIn_of _ (by decide +kernel)) ggX3_cutComesTo_X6_size
set_option maxRecDepth 20000 in
theorem ggX3_cutComesTo_X6_at : GoodIn wsX3_cutComesTo wsX6_at := goodIn_r _ [11, 12, 28, 29] rfl (by decide +kernel)
set_option maxRecDepth 20000 in
theorem gX3_cutComesTo_X6_at : GoodIn wsX3_cutComesTo (wsV RX3 60 RX6 yX6_at wsX6_at) := goodIn_app (goodIn_of _ (by decide +kernel)) ggX3_cutComesTo_X6_at
set_option maxRecDepth 20000 in
theorem ggX3_cutComesTo_X3_partWays : GoodIn wsX3_cutComesTo wsX3_partWays := goodIn_r _ [17, 18, 19, 20, 16, 21, 22, 23, 24, 25, 26, 27] rfl (by decide +kernel)
set_option maxRecDepth 20000 in
theorem gX3_cutComesTo_X3_partWays : GoodIn wsX3_cutComesTo (wsV RX3 45 RX3 yX3_partWays wsX3_partWays) := goodIn_app (goodIn_of _ (by decide +kernel)) ggX3_cutComesTo_X3_partWays
theorem dX3_cutComesTo_0 : decode cX3_cutComesTo 0 = .ok (.iconst 0, 1) := by decide +kernel
theorem dX3_cutComesTo_1 : decode cX3_cutComesTo 1 = .ok (.istore 4, 2) := by decide +kernel
theorem dX3_cutComesTo_3 : decode cX3_cutComesTo 3 = .ok (.iload 4, 2) := by decide +kernel
theorem dX3_cutComesTo_5 : decode cX3_cutComesTo 5 = .ok (.aload_n 1, 1) := by decide +kernel
theorem dX3_cutComesTo_6 : decode cX3_cutComesTo 6 = .ok (.invokevirtual 64, 3) := by decide +kernel
theorem dX3_cutComesTo_9 : decode cX3_cutComesTo 9 = .ok (.if_icmp .ge 68, 3) := by decide +kernel
theorem dX3_cutComesTo_12 : decode cX3_cutComesTo 12 = .ok (.iconst 0, 1) := by decide +kernel
theorem dX3_cutComesTo_13 : decode cX3_cutComesTo 13 = .ok (.istore 5, 2) := by decide +kernel
theorem dX3_cutComesTo_15 : decode cX3_cutComesTo 15 = .ok (.iload 5, 2) := by decide +kernel
theorem dX3_cutComesTo_17 : decode cX3_cutComesTo 17 = .ok (.aload_n 1, 1) := by decide +kernel
theorem dX3_cutComesTo_18 : decode cX3_cutComesTo 18 = .ok (.invokevirtual 64, 3) := by decide +kernel
theorem dX3_cutComesTo_21 : decode cX3_cutComesTo 21 = .ok (.if_icmp .ge 50, 3) := by decide +kernel
theorem dX3_cutComesTo_24 : decode cX3_cutComesTo 24 = .ok (.aload_n 1, 1) := by decide +kernel
theorem dX3_cutComesTo_25 : decode cX3_cutComesTo 25 = .ok (.iload 4, 2) := by decide +kernel
theorem dX3_cutComesTo_27 : decode cX3_cutComesTo 27 = .ok (.iload 5, 2) := by decide +kernel
theorem dX3_cutComesTo_29 : decode cX3_cutComesTo 29 = .ok (.invokevirtual 60, 3) := by decide +kernel
theorem dX3_cutComesTo_32 : decode cX3_cutComesTo 32 = .ok (.iload_n 3, 1) := by decide +kernel
theorem dX3_cutComesTo_33 : decode cX3_cutComesTo 33 = .ok (.if_icmp .ne 32, 3) := by decide +kernel
theorem dX3_cutComesTo_36 : decode cX3_cutComesTo 36 = .ok (.aload_n 0, 1) := by decide +kernel
theorem dX3_cutComesTo_37 : decode cX3_cutComesTo 37 = .ok (.iconst 0, 1) := by decide +kernel
theorem dX3_cutComesTo_38 : decode cX3_cutComesTo 38 = .ok (.iload_n 2, 1) := by decide +kernel
theorem dX3_cutComesTo_39 : decode cX3_cutComesTo 39 = .ok (.iload 4, 2) := by decide +kernel
theorem dX3_cutComesTo_41 : decode cX3_cutComesTo 41 = .ok (.invokevirtual 45, 3) := by decide +kernel
theorem dX3_cutComesTo_44 : decode cX3_cutComesTo 44 = .ok (.ifCond .le 21, 3) := by decide +kernel
theorem dX3_cutComesTo_47 : decode cX3_cutComesTo 47 = .ok (.aload_n 0, 1) := by decide +kernel
theorem dX3_cutComesTo_48 : decode cX3_cutComesTo 48 = .ok (.iload_n 2, 1) := by decide +kernel
theorem dX3_cutComesTo_49 : decode cX3_cutComesTo 49 = .ok (.aload_n 0, 1) := by decide +kernel
theorem dX3_cutComesTo_50 : decode cX3_cutComesTo 50 = .ok (.getfield 18, 3) := by decide +kernel
theorem dX3_cutComesTo_53 : decode cX3_cutComesTo 53 = .ok (.iload_n 2, 1) := by decide +kernel
theorem dX3_cutComesTo_54 : decode cX3_cutComesTo 54 = .ok (.isub, 1) := by decide +kernel
theorem dX3_cutComesTo_55 : decode cX3_cutComesTo 55 = .ok (.iload 5, 2) := by decide +kernel
theorem dX3_cutComesTo_57 : decode cX3_cutComesTo 57 = .ok (.invokevirtual 45, 3) := by decide +kernel
theorem dX3_cutComesTo_60 : decode cX3_cutComesTo 60 = .ok (.ifCond .le 5, 3) := by decide +kernel
theorem dX3_cutComesTo_63 : decode cX3_cutComesTo 63 = .ok (.iconst 1, 1) := by decide +kernel
theorem dX3_cutComesTo_64 : decode cX3_cutComesTo 64 = .ok (.ireturn, 1) := by decide +kernel
theorem dX3_cutComesTo_65 : decode cX3_cutComesTo 65 = .ok (.iinc 5 1, 3) := by decide +kernel
theorem dX3_cutComesTo_68 : decode cX3_cutComesTo 68 = .ok (.goto (-53), 3) := by decide +kernel
theorem dX3_cutComesTo_71 : decode cX3_cutComesTo 71 = .ok (.iinc 4 1, 3) := by decide +kernel
theorem dX3_cutComesTo_74 : decode cX3_cutComesTo 74 = .ok (.goto (-71), 3) := by decide +kernel
theorem dX3_cutComesTo_77 : decode cX3_cutComesTo 77 = .ok (.iconst 0, 1) := by decide +kernel
theorem dX3_cutComesTo_78 : decode cX3_cutComesTo 78 = .ok (.ireturn, 1) := by decide +kernel
theorem dX3_partPlace_0 : decode cX3_partPlace 0 = .ok (.iload_n 0, 1) := by decide +kernel
theorem dX3_partPlace_1 : decode cX3_partPlace 1 = .ok (.bipush 8, 2) := by decide +kernel
theorem dX3_partPlace_3 : decode cX3_partPlace 3 = .ok (.imul, 1) := by decide +kernel
theorem dX3_partPlace_4 : decode cX3_partPlace 4 = .ok (.iload_n 1, 1) := by decide +kernel
theorem dX3_partPlace_5 : decode cX3_partPlace 5 = .ok (.iadd, 1) := by decide +kernel
theorem dX3_partPlace_6 : decode cX3_partPlace 6 = .ok (.bipush 8, 2) := by decide +kernel
theorem dX3_partPlace_8 : decode cX3_partPlace 8 = .ok (.imul, 1) := by decide +kernel
theorem dX3_partPlace_9 : decode cX3_partPlace 9 = .ok (.iload_n 2, 1) := by decide +kernel
theorem dX3_partPlace_10 : decode cX3_partPlace 10 = .ok (.iadd, 1) := by decide +kernel
theorem dX3_partPlace_11 : decode cX3_partPlace 11 = .ok (.ireturn, 1) := by decide +kernel
set_option maxRecDepth 20000 in
theorem ggX3_partWays_X3_partPlace : GoodIn wsX3_partWays wsX3_partPlace := goodIn_r _ [5] rfl (by decide +kernel)
set_option maxRecDepth 20000 in
theorem gX3_partWays_X3_partPlace : GoodIn wsX3_partWays (va_wsS RX3 71 yX3_partPlace wsX3_partPlace) := goodIn_app (goodIn_of _ (by decide +kernel)) ggX3_partWays_X3_partPlace
set_option maxRecDepth 20000 in
theorem ggX3_partWays_X9_get : GoodIn wsX3_partWays wsX9_get := goodIn_r _ [8] rfl (by decide +kernel)
set_option maxRecDepth 20000 in
theorem gX3_partWays_X9_get_n52 : GoodIn wsX3_partWays (wsX9_get) := ggX3_partWays_X9_get
theorem dX3_partWays_0 : decode cX3_partWays 0 = .ok (.aload_n 0, 1) := by decide +kernel
theorem dX3_partWays_1 : decode cX3_partWays 1 = .ok (.getfield 15, 3) := by decide +kernel
theorem dX3_partWays_4 : decode cX3_partWays 4 = .ok (.iload_n 1, 1) := by decide +kernel
theorem dX3_partWays_5 : decode cX3_partWays 5 = .ok (.iload_n 2, 1) := by decide +kernel
theorem dX3_partWays_6 : decode cX3_partWays 6 = .ok (.iload_n 3, 1) := by decide +kernel
theorem dX3_partWays_7 : decode cX3_partWays 7 = .ok (.invokestatic 71, 3) := by decide +kernel
theorem dX3_partWays_10 : decode cX3_partWays 10 = .ok (.invokestatic 52, 3) := by decide +kernel
theorem dX3_partWays_13 : decode cX3_partWays 13 = .ok (.ireturn, 1) := by decide +kernel
set_option maxRecDepth 20000 in
theorem ggX3_addWays_X3_partPlace : GoodIn wsX3_addWays wsX3_partPlace := goodIn_r _ [5] rfl (by decide +kernel)
set_option maxRecDepth 20000 in
theorem gX3_addWays_X3_partPlace : GoodIn wsX3_addWays (va_wsS RX3 71 yX3_partPlace wsX3_partPlace) := goodIn_app (goodIn_of _ (by decide +kernel)) ggX3_addWays_X3_partPlace
set_option maxRecDepth 20000 in
theorem ggX3_addWays_X3_partWays : GoodIn wsX3_addWays wsX3_partWays := goodIn_r _ [9, 1, 2, 3, 4, 5, 10, 11, 12, 15, 16, 17] rfl (by decide +kernel)
set_option maxRecDepth 20000 in
theorem gX3_addWays_X3_partWays : GoodIn wsX3_addWays (wsV RX3 45 RX3 yX3_partWays wsX3_partWays) := goodIn_app (goodIn_of _ (by decide +kernel)) ggX3_addWays_X3_partWays
set_option maxRecDepth 20000 in
theorem ggX3_addWays_X9_put : GoodIn wsX3_addWays wsX9_put := goodIn_r _ [14] rfl (by decide +kernel)
set_option maxRecDepth 20000 in
theorem gX3_addWays_X9_put_n37 : GoodIn wsX3_addWays (wsX9_put) := ggX3_addWays_X9_put
theorem dX3_addWays_0 : decode cX3_addWays 0 = .ok (.aload_n 0, 1) := by decide +kernel
theorem dX3_addWays_1 : decode cX3_addWays 1 = .ok (.getfield 15, 3) := by decide +kernel
theorem dX3_addWays_4 : decode cX3_addWays 4 = .ok (.iload_n 1, 1) := by decide +kernel
theorem dX3_addWays_5 : decode cX3_addWays 5 = .ok (.iload_n 2, 1) := by decide +kernel
theorem dX3_addWays_6 : decode cX3_addWays 6 = .ok (.iload_n 3, 1) := by decide +kernel
theorem dX3_addWays_7 : decode cX3_addWays 7 = .ok (.invokestatic 71, 3) := by decide +kernel
theorem dX3_addWays_10 : decode cX3_addWays 10 = .ok (.aload_n 0, 1) := by decide +kernel
theorem dX3_addWays_11 : decode cX3_addWays 11 = .ok (.iload_n 1, 1) := by decide +kernel
theorem dX3_addWays_12 : decode cX3_addWays 12 = .ok (.iload_n 2, 1) := by decide +kernel
theorem dX3_addWays_13 : decode cX3_addWays 13 = .ok (.iload_n 3, 1) := by decide +kernel
theorem dX3_addWays_14 : decode cX3_addWays 14 = .ok (.invokevirtual 45, 3) := by decide +kernel
theorem dX3_addWays_17 : decode cX3_addWays 17 = .ok (.iload 4, 2) := by decide +kernel
theorem dX3_addWays_19 : decode cX3_addWays 19 = .ok (.iadd, 1) := by decide +kernel
theorem dX3_addWays_20 : decode cX3_addWays 20 = .ok (.invokestatic 37, 3) := by decide +kernel
theorem dX3_addWays_23 : decode cX3_addWays 23 = .ok (.return_, 1) := by decide +kernel
set_option maxRecDepth 20000 in
theorem ggX3_sumParts_X9_put : GoodIn wsX3_sumParts wsX9_put := goodIn_r _ [6] rfl (by decide +kernel)
set_option maxRecDepth 20000 in
theorem gX3_sumParts_X9_put_n37 : GoodIn wsX3_sumParts (wsX9_put) := ggX3_sumParts_X9_put
set_option maxRecDepth 20000 in
theorem ggX3_sumParts_X9_get : GoodIn wsX3_sumParts wsX9_get := goodIn_r _ [8] rfl (by decide +kernel)
set_option maxRecDepth 20000 in
theorem gX3_sumParts_X9_get_n52 : GoodIn wsX3_sumParts (wsX9_get) := ggX3_sumParts_X9_get
set_option maxRecDepth 20000 in
theorem ggX3_sumParts_X3_addWays : GoodIn wsX3_sumParts wsX3_addWays := goodIn_r _ [13, 1, 14, 15, 12, 16, 17, 18, 19, 20, 7, 5, 8, 4, 6, 36, 37, 38] rfl (by decide +kernel)
set_option maxRecDepth 20000 in
theorem gX3_sumParts_X3_addWays : GoodIn wsX3_sumParts (wsV RX3 74 RX3 yX3_addWays wsX3_addWays) := goodIn_app (goodIn_of _ (by decide +kernel)) ggX3_sumParts_X3_addWays
set_option maxRecDepth 20000 in
theorem ggX3_sumParts_X3_sumCut : GoodIn wsX3_sumParts wsX3_sumCut := goodIn_r _ [24, 25, 26, 27, 28, 29, 30, 17, 18, 19, 12, 20, 1, 14, 15, 16, 7, 5, 8, 31, 32, 33, 34, 35, 9, 10, 11, 13, 4, 6, 39, 40, 36, 37, 38] rfl (by decide +kernel)
set_option maxRecDepth 20000 in
theorem gX3_sumParts_X3_sumCut : GoodIn wsX3_sumParts (wsV RX3 78 RX3 yX3_sumCut wsX3_sumCut) := goodIn_app (goodIn_of _ (by decide +kernel)) ggX3_sumParts_X3_sumCut
theorem dX3_sumParts_0 : decode cX3_sumParts 0 = .ok (.iconst 0, 1) := by decide +kernel
theorem dX3_sumParts_1 : decode cX3_sumParts 1 = .ok (.istore_n 2, 1) := by decide +kernel
theorem dX3_sumParts_2 : decode cX3_sumParts 2 = .ok (.iload_n 2, 1) := by decide +kernel
theorem dX3_sumParts_3 : decode cX3_sumParts 3 = .ok (.aload_n 0, 1) := by decide +kernel
theorem dX3_sumParts_4 : decode cX3_sumParts 4 = .ok (.getfield 15, 3) := by decide +kernel
theorem dX3_sumParts_7 : decode cX3_sumParts 7 = .ok (.arraylength, 1) := by decide +kernel
theorem dX3_sumParts_8 : decode cX3_sumParts 8 = .ok (.if_icmp .ge 18, 3) := by decide +kernel
theorem dX3_sumParts_11 : decode cX3_sumParts 11 = .ok (.aload_n 0, 1) := by decide +kernel
theorem dX3_sumParts_12 : decode cX3_sumParts 12 = .ok (.getfield 15, 3) := by decide +kernel
theorem dX3_sumParts_15 : decode cX3_sumParts 15 = .ok (.iload_n 2, 1) := by decide +kernel
theorem dX3_sumParts_16 : decode cX3_sumParts 16 = .ok (.iconst 0, 1) := by decide +kernel
theorem dX3_sumParts_17 : decode cX3_sumParts 17 = .ok (.invokestatic 37, 3) := by decide +kernel
theorem dX3_sumParts_20 : decode cX3_sumParts 20 = .ok (.iinc 2 1, 3) := by decide +kernel
theorem dX3_sumParts_23 : decode cX3_sumParts 23 = .ok (.goto (-21), 3) := by decide +kernel
theorem dX3_sumParts_26 : decode cX3_sumParts 26 = .ok (.iconst 0, 1) := by decide +kernel
theorem dX3_sumParts_27 : decode cX3_sumParts 27 = .ok (.istore_n 2, 1) := by decide +kernel
theorem dX3_sumParts_28 : decode cX3_sumParts 28 = .ok (.iload_n 2, 1) := by decide +kernel
theorem dX3_sumParts_29 : decode cX3_sumParts 29 = .ok (.aload_n 0, 1) := by decide +kernel
theorem dX3_sumParts_30 : decode cX3_sumParts 30 = .ok (.getfield 18, 3) := by decide +kernel
theorem dX3_sumParts_33 : decode cX3_sumParts 33 = .ok (.if_icmp .ge 24, 3) := by decide +kernel
theorem dX3_sumParts_36 : decode cX3_sumParts 36 = .ok (.aload_n 0, 1) := by decide +kernel
theorem dX3_sumParts_37 : decode cX3_sumParts 37 = .ok (.iload_n 2, 1) := by decide +kernel
theorem dX3_sumParts_38 : decode cX3_sumParts 38 = .ok (.iconst 1, 1) := by decide +kernel
theorem dX3_sumParts_39 : decode cX3_sumParts 39 = .ok (.aload_n 0, 1) := by decide +kernel
theorem dX3_sumParts_40 : decode cX3_sumParts 40 = .ok (.getfield 11, 3) := by decide +kernel
theorem dX3_sumParts_43 : decode cX3_sumParts 43 = .ok (.iload_n 2, 1) := by decide +kernel
theorem dX3_sumParts_44 : decode cX3_sumParts 44 = .ok (.invokestatic 52, 3) := by decide +kernel
theorem dX3_sumParts_47 : decode cX3_sumParts 47 = .ok (.iconst 1, 1) := by decide +kernel
theorem dX3_sumParts_48 : decode cX3_sumParts 48 = .ok (.invokevirtual 74, 3) := by decide +kernel
theorem dX3_sumParts_51 : decode cX3_sumParts 51 = .ok (.iinc 2 1, 3) := by decide +kernel
theorem dX3_sumParts_54 : decode cX3_sumParts 54 = .ok (.goto (-26), 3) := by decide +kernel
theorem dX3_sumParts_57 : decode cX3_sumParts 57 = .ok (.iconst 2, 1) := by decide +kernel
theorem dX3_sumParts_58 : decode cX3_sumParts 58 = .ok (.istore_n 2, 1) := by decide +kernel
theorem dX3_sumParts_59 : decode cX3_sumParts 59 = .ok (.iload_n 2, 1) := by decide +kernel
theorem dX3_sumParts_60 : decode cX3_sumParts 60 = .ok (.aload_n 0, 1) := by decide +kernel
theorem dX3_sumParts_61 : decode cX3_sumParts 61 = .ok (.getfield 18, 3) := by decide +kernel
theorem dX3_sumParts_64 : decode cX3_sumParts 64 = .ok (.if_icmp .gt 51, 3) := by decide +kernel
theorem dX3_sumParts_67 : decode cX3_sumParts 67 = .ok (.iconst 0, 1) := by decide +kernel
theorem dX3_sumParts_68 : decode cX3_sumParts 68 = .ok (.istore_n 3, 1) := by decide +kernel
theorem dX3_sumParts_69 : decode cX3_sumParts 69 = .ok (.iload_n 3, 1) := by decide +kernel
theorem dX3_sumParts_70 : decode cX3_sumParts 70 = .ok (.iload_n 2, 1) := by decide +kernel
theorem dX3_sumParts_71 : decode cX3_sumParts 71 = .ok (.iadd, 1) := by decide +kernel
theorem dX3_sumParts_72 : decode cX3_sumParts 72 = .ok (.aload_n 0, 1) := by decide +kernel
theorem dX3_sumParts_73 : decode cX3_sumParts 73 = .ok (.getfield 18, 3) := by decide +kernel
theorem dX3_sumParts_76 : decode cX3_sumParts 76 = .ok (.if_icmp .gt 33, 3) := by decide +kernel
theorem dX3_sumParts_79 : decode cX3_sumParts 79 = .ok (.iconst 1, 1) := by decide +kernel
theorem dX3_sumParts_80 : decode cX3_sumParts 80 = .ok (.istore 4, 2) := by decide +kernel
theorem dX3_sumParts_82 : decode cX3_sumParts 82 = .ok (.iload 4, 2) := by decide +kernel
theorem dX3_sumParts_84 : decode cX3_sumParts 84 = .ok (.iload_n 2, 1) := by decide +kernel
theorem dX3_sumParts_85 : decode cX3_sumParts 85 = .ok (.if_icmp .ge 18, 3) := by decide +kernel
theorem dX3_sumParts_88 : decode cX3_sumParts 88 = .ok (.aload_n 0, 1) := by decide +kernel
theorem dX3_sumParts_89 : decode cX3_sumParts 89 = .ok (.aload_n 1, 1) := by decide +kernel
theorem dX3_sumParts_90 : decode cX3_sumParts 90 = .ok (.iload_n 3, 1) := by decide +kernel
theorem dX3_sumParts_91 : decode cX3_sumParts 91 = .ok (.iload 4, 2) := by decide +kernel
theorem dX3_sumParts_93 : decode cX3_sumParts 93 = .ok (.iload_n 2, 1) := by decide +kernel
theorem dX3_sumParts_94 : decode cX3_sumParts 94 = .ok (.invokevirtual 78, 3) := by decide +kernel
theorem dX3_sumParts_97 : decode cX3_sumParts 97 = .ok (.iinc 4 1, 3) := by decide +kernel
theorem dX3_sumParts_100 : decode cX3_sumParts 100 = .ok (.goto (-18), 3) := by decide +kernel
theorem dX3_sumParts_103 : decode cX3_sumParts 103 = .ok (.iinc 3 1, 3) := by decide +kernel
theorem dX3_sumParts_106 : decode cX3_sumParts 106 = .ok (.goto (-37), 3) := by decide +kernel
theorem dX3_sumParts_109 : decode cX3_sumParts 109 = .ok (.iinc 2 1, 3) := by decide +kernel
theorem dX3_sumParts_112 : decode cX3_sumParts 112 = .ok (.goto (-53), 3) := by decide +kernel
theorem dX3_sumParts_115 : decode cX3_sumParts 115 = .ok (.return_, 1) := by decide +kernel
set_option maxRecDepth 20000 in
theorem ggX3_sumCut_X6_size : GoodIn wsX3_sumCut wsX6_size := goodIn_r _ [5, 6, 30, 31] rfl (by decide +kernel)
set_option maxRecDepth 20000 in
theorem gX3_sumCut_X6_size : GoodIn wsX3_sumCut (wsV RX3 64 RX6 yX6_size wsX6_size) := goodIn_app (goodIn_of _ (by decide +kernel)) ggX3_sumCut_X6_size
set_option maxRecDepth 20000 in
theorem ggX3_sumCut_X3_partWays : GoodIn wsX3_sumCut wsX3_partWays := goodIn_r _ [11, 12, 13, 14, 10, 15, 16, 17, 18, 32, 33, 34] rfl (by decide +kernel)
set_option maxRecDepth 20000 in
theorem gX3_sumCut_X3_partWays : GoodIn wsX3_sumCut (wsV RX3 45 RX3 yX3_partWays wsX3_partWays) := goodIn_app (goodIn_of _ (by decide +kernel)) ggX3_sumCut_X3_partWays
set_option maxRecDepth 20000 in
theorem ggX3_sumCut_X6_at : GoodIn wsX3_sumCut wsX6_at := goodIn_r _ [22, 23, 30, 31] rfl (by decide +kernel)
set_option maxRecDepth 20000 in
theorem gX3_sumCut_X6_at : GoodIn wsX3_sumCut (wsV RX3 60 RX6 yX6_at wsX6_at) := goodIn_app (goodIn_of _ (by decide +kernel)) ggX3_sumCut_X6_at
set_option maxRecDepth 20000 in
theorem ggX3_sumCut_X3_addWays : GoodIn wsX3_sumCut wsX3_addWays := goodIn_r _ [27, 12, 13, 14, 10, 15, 7, 8, 9, 11, 16, 17, 18, 28, 29, 32, 33, 34] rfl (by decide +kernel)
set_option maxRecDepth 20000 in
theorem gX3_sumCut_X3_addWays : GoodIn wsX3_sumCut (wsV RX3 74 RX3 yX3_addWays wsX3_addWays) := goodIn_app (goodIn_of _ (by decide +kernel)) ggX3_sumCut_X3_addWays
theorem dX3_sumCut_0 : decode cX3_sumCut 0 = .ok (.iconst 0, 1) := by decide +kernel
theorem dX3_sumCut_1 : decode cX3_sumCut 1 = .ok (.istore 5, 2) := by decide +kernel
theorem dX3_sumCut_3 : decode cX3_sumCut 3 = .ok (.iload 5, 2) := by decide +kernel
theorem dX3_sumCut_5 : decode cX3_sumCut 5 = .ok (.aload_n 1, 1) := by decide +kernel
theorem dX3_sumCut_6 : decode cX3_sumCut 6 = .ok (.invokevirtual 64, 3) := by decide +kernel
theorem dX3_sumCut_9 : decode cX3_sumCut 9 = .ok (.if_icmp .ge 80, 3) := by decide +kernel
theorem dX3_sumCut_12 : decode cX3_sumCut 12 = .ok (.aload_n 0, 1) := by decide +kernel
theorem dX3_sumCut_13 : decode cX3_sumCut 13 = .ok (.iload_n 2, 1) := by decide +kernel
theorem dX3_sumCut_14 : decode cX3_sumCut 14 = .ok (.iload_n 3, 1) := by decide +kernel
theorem dX3_sumCut_15 : decode cX3_sumCut 15 = .ok (.iload 5, 2) := by decide +kernel
theorem dX3_sumCut_17 : decode cX3_sumCut 17 = .ok (.invokevirtual 45, 3) := by decide +kernel
theorem dX3_sumCut_20 : decode cX3_sumCut 20 = .ok (.istore 6, 2) := by decide +kernel
theorem dX3_sumCut_22 : decode cX3_sumCut 22 = .ok (.iload 6, 2) := by decide +kernel
theorem dX3_sumCut_24 : decode cX3_sumCut 24 = .ok (.ifCond .ne 6, 3) := by decide +kernel
theorem dX3_sumCut_27 : decode cX3_sumCut 27 = .ok (.goto 56, 3) := by decide +kernel
theorem dX3_sumCut_30 : decode cX3_sumCut 30 = .ok (.iconst 0, 1) := by decide +kernel
theorem dX3_sumCut_31 : decode cX3_sumCut 31 = .ok (.istore 7, 2) := by decide +kernel
theorem dX3_sumCut_33 : decode cX3_sumCut 33 = .ok (.iload 7, 2) := by decide +kernel
theorem dX3_sumCut_35 : decode cX3_sumCut 35 = .ok (.aload_n 1, 1) := by decide +kernel
theorem dX3_sumCut_36 : decode cX3_sumCut 36 = .ok (.invokevirtual 64, 3) := by decide +kernel
theorem dX3_sumCut_39 : decode cX3_sumCut 39 = .ok (.if_icmp .ge 44, 3) := by decide +kernel
theorem dX3_sumCut_42 : decode cX3_sumCut 42 = .ok (.aload_n 0, 1) := by decide +kernel
theorem dX3_sumCut_43 : decode cX3_sumCut 43 = .ok (.iload_n 2, 1) := by decide +kernel
theorem dX3_sumCut_44 : decode cX3_sumCut 44 = .ok (.iload_n 3, 1) := by decide +kernel
theorem dX3_sumCut_45 : decode cX3_sumCut 45 = .ok (.iadd, 1) := by decide +kernel
theorem dX3_sumCut_46 : decode cX3_sumCut 46 = .ok (.iload 4, 2) := by decide +kernel
theorem dX3_sumCut_48 : decode cX3_sumCut 48 = .ok (.iload_n 3, 1) := by decide +kernel
theorem dX3_sumCut_49 : decode cX3_sumCut 49 = .ok (.isub, 1) := by decide +kernel
theorem dX3_sumCut_50 : decode cX3_sumCut 50 = .ok (.iload 7, 2) := by decide +kernel
theorem dX3_sumCut_52 : decode cX3_sumCut 52 = .ok (.invokevirtual 45, 3) := by decide +kernel
theorem dX3_sumCut_55 : decode cX3_sumCut 55 = .ok (.istore 8, 2) := by decide +kernel
theorem dX3_sumCut_57 : decode cX3_sumCut 57 = .ok (.aload_n 0, 1) := by decide +kernel
theorem dX3_sumCut_58 : decode cX3_sumCut 58 = .ok (.iload_n 2, 1) := by decide +kernel
theorem dX3_sumCut_59 : decode cX3_sumCut 59 = .ok (.iload 4, 2) := by decide +kernel
theorem dX3_sumCut_61 : decode cX3_sumCut 61 = .ok (.aload_n 1, 1) := by decide +kernel
theorem dX3_sumCut_62 : decode cX3_sumCut 62 = .ok (.iload 5, 2) := by decide +kernel
theorem dX3_sumCut_64 : decode cX3_sumCut 64 = .ok (.iload 7, 2) := by decide +kernel
theorem dX3_sumCut_66 : decode cX3_sumCut 66 = .ok (.invokevirtual 60, 3) := by decide +kernel
theorem dX3_sumCut_69 : decode cX3_sumCut 69 = .ok (.iload 6, 2) := by decide +kernel
theorem dX3_sumCut_71 : decode cX3_sumCut 71 = .ok (.iload 8, 2) := by decide +kernel
theorem dX3_sumCut_73 : decode cX3_sumCut 73 = .ok (.imul, 1) := by decide +kernel
theorem dX3_sumCut_74 : decode cX3_sumCut 74 = .ok (.invokevirtual 74, 3) := by decide +kernel
theorem dX3_sumCut_77 : decode cX3_sumCut 77 = .ok (.iinc 7 1, 3) := by decide +kernel
theorem dX3_sumCut_80 : decode cX3_sumCut 80 = .ok (.goto (-47), 3) := by decide +kernel
theorem dX3_sumCut_83 : decode cX3_sumCut 83 = .ok (.iinc 5 1, 3) := by decide +kernel
theorem dX3_sumCut_86 : decode cX3_sumCut 86 = .ok (.goto (-83), 3) := by decide +kernel
theorem dX3_sumCut_89 : decode cX3_sumCut 89 = .ok (.return_, 1) := by decide +kernel
set_option maxRecDepth 20000 in
theorem ggX4_init_X6_init : GoodIn wsX4_init wsX6_init := goodIn_r _ [10, 11, 2, 3, 12, 13, 14, 15] rfl (by decide +kernel)
set_option maxRecDepth 20000 in
theorem gX4_init_X6_init : GoodIn wsX4_init (wsX6_init) := ggX4_init_X6_init
theorem dX4_init_0 : decode cX4_init 0 = .ok (.aload_n 0, 1) := by decide +kernel
theorem dX4_init_1 : decode cX4_init 1 = .ok (.invokespecial 3, 3) := by decide +kernel
theorem dX4_init_4 : decode cX4_init 4 = .ok (.aload_n 0, 1) := by decide +kernel
theorem dX4_init_5 : decode cX4_init 5 = .ok (.new 9, 3) := by decide +kernel
theorem dX4_init_8 : decode cX4_init 8 = .ok (.dup, 1) := by decide +kernel
theorem dX4_init_9 : decode cX4_init 9 = .ok (.invokespecial 11, 3) := by decide +kernel
theorem dX4_init_12 : decode cX4_init 12 = .ok (.putfield 12, 3) := by decide +kernel
theorem dX4_init_15 : decode cX4_init 15 = .ok (.return_, 1) := by decide +kernel
set_option maxRecDepth 20000 in
theorem ggX4_howMany_X6_size : GoodIn wsX4_howMany wsX6_size := goodIn_r _ [5, 6, 20, 21] rfl (by decide +kernel)
set_option maxRecDepth 20000 in
theorem gX4_howMany_X6_size : GoodIn wsX4_howMany (wsV RX4 18 RX6 yX6_size wsX6_size) := goodIn_app (goodIn_of _ (by decide +kernel)) ggX4_howMany_X6_size
set_option maxRecDepth 20000 in
theorem ggX4_howMany_X4_howManyInRows : GoodIn wsX4_howMany wsX4_howManyInRows := goodIn_r _ [10, 1, 2, 3, 4, 5, 6, 11, 12, 13, 14, 15, 16, 17, 18, 19, 20, 21] rfl (by decide +kernel)
set_option maxRecDepth 20000 in
theorem gX4_howMany_X4_howManyInRows : GoodIn wsX4_howMany (va_wsS RX4 22 yX4_howManyInRows wsX4_howManyInRows) := goodIn_app (goodIn_of _ (by decide +kernel)) ggX4_howMany_X4_howManyInRows
theorem dX4_howMany_0 : decode cX4_howMany 0 = .ok (.aload_n 1, 1) := by decide +kernel
theorem dX4_howMany_1 : decode cX4_howMany 1 = .ok (.invokevirtual 18, 3) := by decide +kernel
theorem dX4_howMany_4 : decode cX4_howMany 4 = .ok (.istore_n 2, 1) := by decide +kernel
theorem dX4_howMany_5 : decode cX4_howMany 5 = .ok (.iconst 0, 1) := by decide +kernel
theorem dX4_howMany_6 : decode cX4_howMany 6 = .ok (.istore_n 3, 1) := by decide +kernel
theorem dX4_howMany_7 : decode cX4_howMany 7 = .ok (.iconst 0, 1) := by decide +kernel
theorem dX4_howMany_8 : decode cX4_howMany 8 = .ok (.istore 4, 2) := by decide +kernel
theorem dX4_howMany_10 : decode cX4_howMany 10 = .ok (.iload 4, 2) := by decide +kernel
theorem dX4_howMany_12 : decode cX4_howMany 12 = .ok (.iload_n 2, 1) := by decide +kernel
theorem dX4_howMany_13 : decode cX4_howMany 13 = .ok (.if_icmp .ge 38, 3) := by decide +kernel
theorem dX4_howMany_16 : decode cX4_howMany 16 = .ok (.iload 4, 2) := by decide +kernel
theorem dX4_howMany_18 : decode cX4_howMany 18 = .ok (.iconst 1, 1) := by decide +kernel
theorem dX4_howMany_19 : decode cX4_howMany 19 = .ok (.iadd, 1) := by decide +kernel
theorem dX4_howMany_20 : decode cX4_howMany 20 = .ok (.istore 5, 2) := by decide +kernel
theorem dX4_howMany_22 : decode cX4_howMany 22 = .ok (.iload 5, 2) := by decide +kernel
theorem dX4_howMany_24 : decode cX4_howMany 24 = .ok (.iload_n 2, 1) := by decide +kernel
theorem dX4_howMany_25 : decode cX4_howMany 25 = .ok (.if_icmp .ge 20, 3) := by decide +kernel
theorem dX4_howMany_28 : decode cX4_howMany 28 = .ok (.iload_n 3, 1) := by decide +kernel
theorem dX4_howMany_29 : decode cX4_howMany 29 = .ok (.aload_n 1, 1) := by decide +kernel
theorem dX4_howMany_30 : decode cX4_howMany 30 = .ok (.iload 4, 2) := by decide +kernel
theorem dX4_howMany_32 : decode cX4_howMany 32 = .ok (.iload 5, 2) := by decide +kernel
theorem dX4_howMany_34 : decode cX4_howMany 34 = .ok (.invokestatic 22, 3) := by decide +kernel
theorem dX4_howMany_37 : decode cX4_howMany 37 = .ok (.iadd, 1) := by decide +kernel
theorem dX4_howMany_38 : decode cX4_howMany 38 = .ok (.istore_n 3, 1) := by decide +kernel
theorem dX4_howMany_39 : decode cX4_howMany 39 = .ok (.iinc 5 1, 3) := by decide +kernel
theorem dX4_howMany_42 : decode cX4_howMany 42 = .ok (.goto (-20), 3) := by decide +kernel
theorem dX4_howMany_45 : decode cX4_howMany 45 = .ok (.iinc 4 1, 3) := by decide +kernel
theorem dX4_howMany_48 : decode cX4_howMany 48 = .ok (.goto (-38), 3) := by decide +kernel
theorem dX4_howMany_51 : decode cX4_howMany 51 = .ok (.iload_n 3, 1) := by decide +kernel
theorem dX4_howMany_52 : decode cX4_howMany 52 = .ok (.ireturn, 1) := by decide +kernel
set_option maxRecDepth 20000 in
theorem ggX4_howManyInRows_X6_size : GoodIn wsX4_howManyInRows wsX6_size := goodIn_r _ [5, 6, 16, 17] rfl (by decide +kernel)
set_option maxRecDepth 20000 in
theorem gX4_howManyInRows_X6_size : GoodIn wsX4_howManyInRows (wsV RX4 18 RX6 yX6_size wsX6_size) := goodIn_app (goodIn_of _ (by decide +kernel)) ggX4_howManyInRows_X6_size
set_option maxRecDepth 20000 in
theorem ggX4_howManyInRows_X6_isLittleSquare : GoodIn wsX4_howManyInRows wsX6_isLittleSquare := goodIn_r _ [10, 11, 12, 13, 4, 14, 15, 16, 17] rfl (by decide +kernel)
set_option maxRecDepth 20000 in
theorem gX4_howManyInRows_X6_isLittleSquare : GoodIn wsX4_howManyInRows (wsV RX4 26 RX6 yX6_isLittleSquare wsX6_isLittleSquare) := goodIn_app (goodIn_of _ (by decide +kernel)) ggX4_howManyInRows_X6_isLittleSquare
theorem dX4_howManyInRows_0 : decode cX4_howManyInRows 0 = .ok (.aload_n 0, 1) := by decide +kernel
theorem dX4_howManyInRows_1 : decode cX4_howManyInRows 1 = .ok (.invokevirtual 18, 3) := by decide +kernel
theorem dX4_howManyInRows_4 : decode cX4_howManyInRows 4 = .ok (.istore_n 3, 1) := by decide +kernel
theorem dX4_howManyInRows_5 : decode cX4_howManyInRows 5 = .ok (.iconst 0, 1) := by decide +kernel
theorem dX4_howManyInRows_6 : decode cX4_howManyInRows 6 = .ok (.istore 4, 2) := by decide +kernel
theorem dX4_howManyInRows_8 : decode cX4_howManyInRows 8 = .ok (.iconst 0, 1) := by decide +kernel
theorem dX4_howManyInRows_9 : decode cX4_howManyInRows 9 = .ok (.istore 5, 2) := by decide +kernel
theorem dX4_howManyInRows_11 : decode cX4_howManyInRows 11 = .ok (.iload 5, 2) := by decide +kernel
theorem dX4_howManyInRows_13 : decode cX4_howManyInRows 13 = .ok (.iload_n 3, 1) := by decide +kernel
theorem dX4_howManyInRows_14 : decode cX4_howManyInRows 14 = .ok (.if_icmp .ge 43, 3) := by decide +kernel
theorem dX4_howManyInRows_17 : decode cX4_howManyInRows 17 = .ok (.iload 5, 2) := by decide +kernel
theorem dX4_howManyInRows_19 : decode cX4_howManyInRows 19 = .ok (.iconst 1, 1) := by decide +kernel
theorem dX4_howManyInRows_20 : decode cX4_howManyInRows 20 = .ok (.iadd, 1) := by decide +kernel
theorem dX4_howManyInRows_21 : decode cX4_howManyInRows 21 = .ok (.istore 6, 2) := by decide +kernel
theorem dX4_howManyInRows_23 : decode cX4_howManyInRows 23 = .ok (.iload 6, 2) := by decide +kernel
theorem dX4_howManyInRows_25 : decode cX4_howManyInRows 25 = .ok (.iload_n 3, 1) := by decide +kernel
theorem dX4_howManyInRows_26 : decode cX4_howManyInRows 26 = .ok (.if_icmp .ge 25, 3) := by decide +kernel
theorem dX4_howManyInRows_29 : decode cX4_howManyInRows 29 = .ok (.aload_n 0, 1) := by decide +kernel
theorem dX4_howManyInRows_30 : decode cX4_howManyInRows 30 = .ok (.iload_n 1, 1) := by decide +kernel
theorem dX4_howManyInRows_31 : decode cX4_howManyInRows 31 = .ok (.iload_n 2, 1) := by decide +kernel
theorem dX4_howManyInRows_32 : decode cX4_howManyInRows 32 = .ok (.iload 5, 2) := by decide +kernel
theorem dX4_howManyInRows_34 : decode cX4_howManyInRows 34 = .ok (.iload 6, 2) := by decide +kernel
theorem dX4_howManyInRows_36 : decode cX4_howManyInRows 36 = .ok (.invokevirtual 26, 3) := by decide +kernel
theorem dX4_howManyInRows_39 : decode cX4_howManyInRows 39 = .ok (.ifCond .eq 6, 3) := by decide +kernel
theorem dX4_howManyInRows_42 : decode cX4_howManyInRows 42 = .ok (.iinc 4 1, 3) := by decide +kernel
theorem dX4_howManyInRows_45 : decode cX4_howManyInRows 45 = .ok (.iinc 6 1, 3) := by decide +kernel
theorem dX4_howManyInRows_48 : decode cX4_howManyInRows 48 = .ok (.goto (-25), 3) := by decide +kernel
theorem dX4_howManyInRows_51 : decode cX4_howManyInRows 51 = .ok (.iinc 5 1, 3) := by decide +kernel
theorem dX4_howManyInRows_54 : decode cX4_howManyInRows 54 = .ok (.goto (-43), 3) := by decide +kernel
theorem dX4_howManyInRows_57 : decode cX4_howManyInRows 57 = .ok (.iload 4, 2) := by decide +kernel
theorem dX4_howManyInRows_59 : decode cX4_howManyInRows 59 = .ok (.ireturn, 1) := by decide +kernel
set_option maxRecDepth 20000 in
theorem ggX4_findBest_X6_size : GoodIn wsX4_findBest wsX6_size := goodIn_r _ [7, 8, 67, 68] rfl (by decide +kernel)
set_option maxRecDepth 20000 in
theorem gX4_findBest_X6_size : GoodIn wsX4_findBest (wsV RX4 18 RX6 yX6_size wsX6_size) := goodIn_app (goodIn_of _ (by decide +kernel)) ggX4_findBest_X6_size
set_option maxRecDepth 20000 in
theorem ggX4_findBest_X6_copyFrom : GoodIn wsX4_findBest wsX6_copyFrom := goodIn_r _ [12, 8, 13, 14, 15, 16, 17, 18, 67, 68] rfl (by decide +kernel)
set_option maxRecDepth 20000 in
theorem gX4_findBest_X6_copyFrom : GoodIn wsX4_findBest (wsV RX4 34 RX6 yX6_copyFrom wsX6_copyFrom) := goodIn_app (goodIn_of _ (by decide +kernel)) ggX4_findBest_X6_copyFrom
set_option maxRecDepth 20000 in
theorem ggX4_findBest_X4_findBestInRows : GoodIn wsX4_findBest wsX4_findBestInRows := goodIn_r _ [23, 2, 3, 4, 5, 6, 7, 8, 24, 25, 26, 27, 28, 29, 30, 31, 13, 32, 33, 34, 22, 35, 1, 36, 37, 38, 39, 40, 41, 42, 43, 44, 45, 46, 47, 48, 49, 50, 51, 17, 15, 18, 52, 53, 54, 55, 56, 57, 58, 59, 60, 61, 62, 63, 64, 65, 66, 67, 68] rfl (by decide +kernel)
set_option maxRecDepth 20000 in
theorem gX4_findBest_X4_findBestInRows : GoodIn wsX4_findBest (wsV RX4 38 RX4 yX4_findBestInRows wsX4_findBestInRows) := goodIn_app (goodIn_of _ (by decide +kernel)) ggX4_findBest_X4_findBestInRows
theorem dX4_findBest_0 : decode cX4_findBest 0 = .ok (.aload_n 1, 1) := by decide +kernel
theorem dX4_findBest_1 : decode cX4_findBest 1 = .ok (.invokevirtual 18, 3) := by decide +kernel
theorem dX4_findBest_4 : decode cX4_findBest 4 = .ok (.istore_n 2, 1) := by decide +kernel
theorem dX4_findBest_5 : decode cX4_findBest 5 = .ok (.aload_n 0, 1) := by decide +kernel
theorem dX4_findBest_6 : decode cX4_findBest 6 = .ok (.bipush (-4), 2) := by decide +kernel
theorem dX4_findBest_8 : decode cX4_findBest 8 = .ok (.putfield 30, 3) := by decide +kernel
theorem dX4_findBest_11 : decode cX4_findBest 11 = .ok (.aload_n 0, 1) := by decide +kernel
theorem dX4_findBest_12 : decode cX4_findBest 12 = .ok (.getfield 12, 3) := by decide +kernel
theorem dX4_findBest_15 : decode cX4_findBest 15 = .ok (.aload_n 1, 1) := by decide +kernel
theorem dX4_findBest_16 : decode cX4_findBest 16 = .ok (.invokevirtual 34, 3) := by decide +kernel
theorem dX4_findBest_19 : decode cX4_findBest 19 = .ok (.iconst 0, 1) := by decide +kernel
theorem dX4_findBest_20 : decode cX4_findBest 20 = .ok (.istore_n 3, 1) := by decide +kernel
theorem dX4_findBest_21 : decode cX4_findBest 21 = .ok (.iload_n 3, 1) := by decide +kernel
theorem dX4_findBest_22 : decode cX4_findBest 22 = .ok (.iload_n 2, 1) := by decide +kernel
theorem dX4_findBest_23 : decode cX4_findBest 23 = .ok (.if_icmp .ge 33, 3) := by decide +kernel
theorem dX4_findBest_26 : decode cX4_findBest 26 = .ok (.iload_n 3, 1) := by decide +kernel
theorem dX4_findBest_27 : decode cX4_findBest 27 = .ok (.iconst 1, 1) := by decide +kernel
theorem dX4_findBest_28 : decode cX4_findBest 28 = .ok (.iadd, 1) := by decide +kernel
theorem dX4_findBest_29 : decode cX4_findBest 29 = .ok (.istore 4, 2) := by decide +kernel
theorem dX4_findBest_31 : decode cX4_findBest 31 = .ok (.iload 4, 2) := by decide +kernel
theorem dX4_findBest_33 : decode cX4_findBest 33 = .ok (.iload_n 2, 1) := by decide +kernel
theorem dX4_findBest_34 : decode cX4_findBest 34 = .ok (.if_icmp .ge 16, 3) := by decide +kernel
theorem dX4_findBest_37 : decode cX4_findBest 37 = .ok (.aload_n 0, 1) := by decide +kernel
theorem dX4_findBest_38 : decode cX4_findBest 38 = .ok (.iload_n 3, 1) := by decide +kernel
theorem dX4_findBest_39 : decode cX4_findBest 39 = .ok (.iload 4, 2) := by decide +kernel
theorem dX4_findBest_41 : decode cX4_findBest 41 = .ok (.invokevirtual 38, 3) := by decide +kernel
theorem dX4_findBest_44 : decode cX4_findBest 44 = .ok (.iinc 4 1, 3) := by decide +kernel
theorem dX4_findBest_47 : decode cX4_findBest 47 = .ok (.goto (-16), 3) := by decide +kernel
theorem dX4_findBest_50 : decode cX4_findBest 50 = .ok (.iinc 3 1, 3) := by decide +kernel
theorem dX4_findBest_53 : decode cX4_findBest 53 = .ok (.goto (-32), 3) := by decide +kernel
theorem dX4_findBest_56 : decode cX4_findBest 56 = .ok (.aload_n 0, 1) := by decide +kernel
theorem dX4_findBest_57 : decode cX4_findBest 57 = .ok (.getfield 30, 3) := by decide +kernel
theorem dX4_findBest_60 : decode cX4_findBest 60 = .ok (.bipush (-4), 2) := by decide +kernel
theorem dX4_findBest_62 : decode cX4_findBest 62 = .ok (.if_icmp .eq 7, 3) := by decide +kernel
theorem dX4_findBest_65 : decode cX4_findBest 65 = .ok (.iconst 1, 1) := by decide +kernel
theorem dX4_findBest_66 : decode cX4_findBest 66 = .ok (.goto 4, 3) := by decide +kernel
theorem dX4_findBest_69 : decode cX4_findBest 69 = .ok (.iconst 0, 1) := by decide +kernel
theorem dX4_findBest_70 : decode cX4_findBest 70 = .ok (.ireturn, 1) := by decide +kernel
set_option maxRecDepth 20000 in
theorem ggX4_findBestInRows_X6_size : GoodIn wsX4_findBestInRows wsX6_size := goodIn_r _ [6, 7, 57, 58] rfl (by decide +kernel)
set_option maxRecDepth 20000 in
theorem gX4_findBestInRows_X6_size : GoodIn wsX4_findBestInRows (wsV RX4 18 RX6 yX6_size wsX6_size) := goodIn_app (goodIn_of _ (by decide +kernel)) ggX4_findBestInRows_X6_size
set_option maxRecDepth 20000 in
theorem ggX4_findBestInRows_X6_isLittleSquare : GoodIn wsX4_findBestInRows wsX6_isLittleSquare := goodIn_r _ [11, 12, 13, 14, 5, 15, 16, 57, 58] rfl (by decide +kernel)
set_option maxRecDepth 20000 in
theorem gX4_findBestInRows_X6_isLittleSquare : GoodIn wsX4_findBestInRows (wsV RX4 26 RX6 yX6_isLittleSquare wsX6_isLittleSquare) := goodIn_app (goodIn_of _ (by decide +kernel)) ggX4_findBestInRows_X6_isLittleSquare
set_option maxRecDepth 20000 in
theorem ggX4_findBestInRows_X4_tryOut : GoodIn wsX4_findBestInRows wsX4_tryOut := goodIn_r _ [21, 1, 22, 23, 24, 25, 26, 27, 28, 29, 5, 30, 31, 32, 33, 34, 12, 13, 14, 15, 16, 35, 36, 37, 38, 39, 40, 41, 42, 43, 44, 45, 46, 3, 4, 6, 7, 47, 48, 49, 50, 51, 52, 53, 54, 55, 56, 57, 58] rfl (by decide +kernel)
set_option maxRecDepth 20000 in
theorem gX4_findBestInRows_X4_tryOut : GoodIn wsX4_findBestInRows (wsV RX4 42 RX4 yX4_tryOut wsX4_tryOut) := goodIn_app (goodIn_of _ (by decide +kernel)) ggX4_findBestInRows_X4_tryOut
theorem dX4_findBestInRows_0 : decode cX4_findBestInRows 0 = .ok (.aload_n 0, 1) := by decide +kernel
theorem dX4_findBestInRows_1 : decode cX4_findBestInRows 1 = .ok (.getfield 12, 3) := by decide +kernel
theorem dX4_findBestInRows_4 : decode cX4_findBestInRows 4 = .ok (.invokevirtual 18, 3) := by decide +kernel
theorem dX4_findBestInRows_7 : decode cX4_findBestInRows 7 = .ok (.istore_n 3, 1) := by decide +kernel
theorem dX4_findBestInRows_8 : decode cX4_findBestInRows 8 = .ok (.iconst 0, 1) := by decide +kernel
theorem dX4_findBestInRows_9 : decode cX4_findBestInRows 9 = .ok (.istore 4, 2) := by decide +kernel
theorem dX4_findBestInRows_11 : decode cX4_findBestInRows 11 = .ok (.iload 4, 2) := by decide +kernel
theorem dX4_findBestInRows_13 : decode cX4_findBestInRows 13 = .ok (.iload_n 3, 1) := by decide +kernel
theorem dX4_findBestInRows_14 : decode cX4_findBestInRows 14 = .ok (.if_icmp .ge 53, 3) := by decide +kernel
theorem dX4_findBestInRows_17 : decode cX4_findBestInRows 17 = .ok (.iload 4, 2) := by decide +kernel
theorem dX4_findBestInRows_19 : decode cX4_findBestInRows 19 = .ok (.iconst 1, 1) := by decide +kernel
theorem dX4_findBestInRows_20 : decode cX4_findBestInRows 20 = .ok (.iadd, 1) := by decide +kernel
theorem dX4_findBestInRows_21 : decode cX4_findBestInRows 21 = .ok (.istore 5, 2) := by decide +kernel
theorem dX4_findBestInRows_23 : decode cX4_findBestInRows 23 = .ok (.iload 5, 2) := by decide +kernel
theorem dX4_findBestInRows_25 : decode cX4_findBestInRows 25 = .ok (.iload_n 3, 1) := by decide +kernel
theorem dX4_findBestInRows_26 : decode cX4_findBestInRows 26 = .ok (.if_icmp .ge 35, 3) := by decide +kernel
theorem dX4_findBestInRows_29 : decode cX4_findBestInRows 29 = .ok (.aload_n 0, 1) := by decide +kernel
theorem dX4_findBestInRows_30 : decode cX4_findBestInRows 30 = .ok (.getfield 12, 3) := by decide +kernel
theorem dX4_findBestInRows_33 : decode cX4_findBestInRows 33 = .ok (.iload_n 1, 1) := by decide +kernel
theorem dX4_findBestInRows_34 : decode cX4_findBestInRows 34 = .ok (.iload_n 2, 1) := by decide +kernel
theorem dX4_findBestInRows_35 : decode cX4_findBestInRows 35 = .ok (.iload 4, 2) := by decide +kernel
theorem dX4_findBestInRows_37 : decode cX4_findBestInRows 37 = .ok (.iload 5, 2) := by decide +kernel
theorem dX4_findBestInRows_39 : decode cX4_findBestInRows 39 = .ok (.invokevirtual 26, 3) := by decide +kernel
theorem dX4_findBestInRows_42 : decode cX4_findBestInRows 42 = .ok (.ifCond .eq 13, 3) := by decide +kernel
theorem dX4_findBestInRows_45 : decode cX4_findBestInRows 45 = .ok (.aload_n 0, 1) := by decide +kernel
theorem dX4_findBestInRows_46 : decode cX4_findBestInRows 46 = .ok (.iload_n 1, 1) := by decide +kernel
theorem dX4_findBestInRows_47 : decode cX4_findBestInRows 47 = .ok (.iload_n 2, 1) := by decide +kernel
theorem dX4_findBestInRows_48 : decode cX4_findBestInRows 48 = .ok (.iload 4, 2) := by decide +kernel
theorem dX4_findBestInRows_50 : decode cX4_findBestInRows 50 = .ok (.iload 5, 2) := by decide +kernel
theorem dX4_findBestInRows_52 : decode cX4_findBestInRows 52 = .ok (.invokevirtual 42, 3) := by decide +kernel
theorem dX4_findBestInRows_55 : decode cX4_findBestInRows 55 = .ok (.iinc 5 1, 3) := by decide +kernel
theorem dX4_findBestInRows_58 : decode cX4_findBestInRows 58 = .ok (.goto (-35), 3) := by decide +kernel
theorem dX4_findBestInRows_61 : decode cX4_findBestInRows 61 = .ok (.iinc 4 1, 3) := by decide +kernel
theorem dX4_findBestInRows_64 : decode cX4_findBestInRows 64 = .ok (.goto (-53), 3) := by decide +kernel
theorem dX4_findBestInRows_67 : decode cX4_findBestInRows 67 = .ok (.return_, 1) := by decide +kernel
set_option maxRecDepth 20000 in
theorem ggX4_tryOut_X6_swapSquare : GoodIn wsX4_tryOut wsX6_swapSquare := goodIn_r _ [11, 12, 13, 14, 10, 15, 16, 17, 18, 19, 20, 21, 22, 23, 24, 25, 26, 27, 47, 48] rfl (by decide +kernel)
set_option maxRecDepth 20000 in
theorem gX4_tryOut_X6_swapSquare : GoodIn wsX4_tryOut (wsV RX4 46 RX6 yX6_swapSquare wsX6_swapSquare) := goodIn_app (goodIn_of _ (by decide +kernel)) ggX4_tryOut_X6_swapSquare
set_option maxRecDepth 20000 in
theorem ggX4_tryOut_X8_associatingTriples : GoodIn wsX4_tryOut wsX8_associatingTriples := goodIn_r _ [31, 32, 33, 34, 10, 35, 36, 37, 38, 30, 39, 40, 17, 18, 19, 20, 47, 48] rfl (by decide +kernel)
set_option maxRecDepth 20000 in
theorem gX4_tryOut_X8_associatingTriples : GoodIn wsX4_tryOut (va_wsS RX4 49 yX8_associatingTriples wsX8_associatingTriples) := goodIn_app (goodIn_of _ (by decide +kernel)) ggX4_tryOut_X8_associatingTriples
theorem dX4_tryOut_0 : decode cX4_tryOut 0 = .ok (.aload_n 0, 1) := by decide +kernel
theorem dX4_tryOut_1 : decode cX4_tryOut 1 = .ok (.getfield 12, 3) := by decide +kernel
theorem dX4_tryOut_4 : decode cX4_tryOut 4 = .ok (.iload_n 1, 1) := by decide +kernel
theorem dX4_tryOut_5 : decode cX4_tryOut 5 = .ok (.iload_n 2, 1) := by decide +kernel
theorem dX4_tryOut_6 : decode cX4_tryOut 6 = .ok (.iload_n 3, 1) := by decide +kernel
theorem dX4_tryOut_7 : decode cX4_tryOut 7 = .ok (.iload 4, 2) := by decide +kernel
theorem dX4_tryOut_9 : decode cX4_tryOut 9 = .ok (.invokevirtual 46, 3) := by decide +kernel
theorem dX4_tryOut_12 : decode cX4_tryOut 12 = .ok (.aload_n 0, 1) := by decide +kernel
theorem dX4_tryOut_13 : decode cX4_tryOut 13 = .ok (.getfield 12, 3) := by decide +kernel
theorem dX4_tryOut_16 : decode cX4_tryOut 16 = .ok (.invokestatic 49, 3) := by decide +kernel
theorem dX4_tryOut_19 : decode cX4_tryOut 19 = .ok (.istore 5, 2) := by decide +kernel
theorem dX4_tryOut_21 : decode cX4_tryOut 21 = .ok (.aload_n 0, 1) := by decide +kernel
theorem dX4_tryOut_22 : decode cX4_tryOut 22 = .ok (.getfield 12, 3) := by decide +kernel
theorem dX4_tryOut_25 : decode cX4_tryOut 25 = .ok (.iload_n 1, 1) := by decide +kernel
theorem dX4_tryOut_26 : decode cX4_tryOut 26 = .ok (.iload_n 2, 1) := by decide +kernel
theorem dX4_tryOut_27 : decode cX4_tryOut 27 = .ok (.iload_n 3, 1) := by decide +kernel
theorem dX4_tryOut_28 : decode cX4_tryOut 28 = .ok (.iload 4, 2) := by decide +kernel
theorem dX4_tryOut_30 : decode cX4_tryOut 30 = .ok (.invokevirtual 46, 3) := by decide +kernel
theorem dX4_tryOut_33 : decode cX4_tryOut 33 = .ok (.iload 5, 2) := by decide +kernel
theorem dX4_tryOut_35 : decode cX4_tryOut 35 = .ok (.aload_n 0, 1) := by decide +kernel
theorem dX4_tryOut_36 : decode cX4_tryOut 36 = .ok (.getfield 30, 3) := by decide +kernel
theorem dX4_tryOut_39 : decode cX4_tryOut 39 = .ok (.if_icmp .le 30, 3) := by decide +kernel
theorem dX4_tryOut_42 : decode cX4_tryOut 42 = .ok (.aload_n 0, 1) := by decide +kernel
theorem dX4_tryOut_43 : decode cX4_tryOut 43 = .ok (.iload 5, 2) := by decide +kernel
theorem dX4_tryOut_45 : decode cX4_tryOut 45 = .ok (.putfield 30, 3) := by decide +kernel
theorem dX4_tryOut_48 : decode cX4_tryOut 48 = .ok (.aload_n 0, 1) := by decide +kernel
theorem dX4_tryOut_49 : decode cX4_tryOut 49 = .ok (.iload_n 1, 1) := by decide +kernel
theorem dX4_tryOut_50 : decode cX4_tryOut 50 = .ok (.putfield 55, 3) := by decide +kernel
theorem dX4_tryOut_53 : decode cX4_tryOut 53 = .ok (.aload_n 0, 1) := by decide +kernel
theorem dX4_tryOut_54 : decode cX4_tryOut 54 = .ok (.iload_n 2, 1) := by decide +kernel
theorem dX4_tryOut_55 : decode cX4_tryOut 55 = .ok (.putfield 58, 3) := by decide +kernel
theorem dX4_tryOut_58 : decode cX4_tryOut 58 = .ok (.aload_n 0, 1) := by decide +kernel
theorem dX4_tryOut_59 : decode cX4_tryOut 59 = .ok (.iload_n 3, 1) := by decide +kernel
theorem dX4_tryOut_60 : decode cX4_tryOut 60 = .ok (.putfield 61, 3) := by decide +kernel
theorem dX4_tryOut_63 : decode cX4_tryOut 63 = .ok (.aload_n 0, 1) := by decide +kernel
theorem dX4_tryOut_64 : decode cX4_tryOut 64 = .ok (.iload 4, 2) := by decide +kernel
theorem dX4_tryOut_66 : decode cX4_tryOut 66 = .ok (.putfield 64, 3) := by decide +kernel
theorem dX4_tryOut_69 : decode cX4_tryOut 69 = .ok (.return_, 1) := by decide +kernel
theorem dX4_tellBest_0 : decode cX4_tellBest 0 = .ok (.iload_n 1, 1) := by decide +kernel
theorem dX4_tellBest_1 : decode cX4_tellBest 1 = .ok (.tableswitch 51 0 3 #[31, 36, 41, 46], 31) := by decide +kernel
theorem dX4_tellBest_32 : decode cX4_tellBest 32 = .ok (.aload_n 0, 1) := by decide +kernel
theorem dX4_tellBest_33 : decode cX4_tellBest 33 = .ok (.getfield 55, 3) := by decide +kernel
theorem dX4_tellBest_36 : decode cX4_tellBest 36 = .ok (.ireturn, 1) := by decide +kernel
theorem dX4_tellBest_37 : decode cX4_tellBest 37 = .ok (.aload_n 0, 1) := by decide +kernel
theorem dX4_tellBest_38 : decode cX4_tellBest 38 = .ok (.getfield 58, 3) := by decide +kernel
theorem dX4_tellBest_41 : decode cX4_tellBest 41 = .ok (.ireturn, 1) := by decide +kernel
theorem dX4_tellBest_42 : decode cX4_tellBest 42 = .ok (.aload_n 0, 1) := by decide +kernel
theorem dX4_tellBest_43 : decode cX4_tellBest 43 = .ok (.getfield 61, 3) := by decide +kernel
theorem dX4_tellBest_46 : decode cX4_tellBest 46 = .ok (.ireturn, 1) := by decide +kernel
theorem dX4_tellBest_47 : decode cX4_tellBest 47 = .ok (.aload_n 0, 1) := by decide +kernel
theorem dX4_tellBest_48 : decode cX4_tellBest 48 = .ok (.getfield 64, 3) := by decide +kernel
theorem dX4_tellBest_51 : decode cX4_tellBest 51 = .ok (.ireturn, 1) := by decide +kernel
theorem dX4_tellBest_52 : decode cX4_tellBest 52 = .ok (.aload_n 0, 1) := by decide +kernel
theorem dX4_tellBest_53 : decode cX4_tellBest 53 = .ok (.getfield 30, 3) := by decide +kernel
theorem dX4_tellBest_56 : decode cX4_tellBest 56 = .ok (.ireturn, 1) := by decide +kernel
theorem dX5_init_0 : decode cX5_init 0 = .ok (.aload_n 0, 1) := by decide +kernel
theorem dX5_init_1 : decode cX5_init 1 = .ok (.invokespecial 3, 3) := by decide +kernel
theorem dX5_init_4 : decode cX5_init 4 = .ok (.aload_n 0, 1) := by decide +kernel
theorem dX5_init_5 : decode cX5_init 5 = .ok (.bipush 81, 2) := by decide +kernel
theorem dX5_init_7 : decode cX5_init 7 = .ok (.newarray .int, 2) := by decide +kernel
theorem dX5_init_9 : decode cX5_init 9 = .ok (.putfield 11, 3) := by decide +kernel
theorem dX5_init_12 : decode cX5_init 12 = .ok (.aload_n 0, 1) := by decide +kernel
theorem dX5_init_13 : decode cX5_init 13 = .ok (.bipush 81, 2) := by decide +kernel
theorem dX5_init_15 : decode cX5_init 15 = .ok (.newarray .int, 2) := by decide +kernel
theorem dX5_init_17 : decode cX5_init 17 = .ok (.putfield 15, 3) := by decide +kernel
theorem dX5_init_20 : decode cX5_init 20 = .ok (.aload_n 0, 1) := by decide +kernel
theorem dX5_init_21 : decode cX5_init 21 = .ok (.bipush 80, 2) := by decide +kernel
theorem dX5_init_23 : decode cX5_init 23 = .ok (.newarray .int, 2) := by decide +kernel
theorem dX5_init_25 : decode cX5_init 25 = .ok (.putfield 18, 3) := by decide +kernel
theorem dX5_init_28 : decode cX5_init 28 = .ok (.aload_n 0, 1) := by decide +kernel
theorem dX5_init_29 : decode cX5_init 29 = .ok (.bipush 80, 2) := by decide +kernel
theorem dX5_init_31 : decode cX5_init 31 = .ok (.newarray .int, 2) := by decide +kernel
theorem dX5_init_33 : decode cX5_init 33 = .ok (.putfield 21, 3) := by decide +kernel
theorem dX5_init_36 : decode cX5_init 36 = .ok (.aload_n 0, 1) := by decide +kernel
theorem dX5_init_37 : decode cX5_init 37 = .ok (.bipush 80, 2) := by decide +kernel
theorem dX5_init_39 : decode cX5_init 39 = .ok (.newarray .int, 2) := by decide +kernel
theorem dX5_init_41 : decode cX5_init 41 = .ok (.putfield 24, 3) := by decide +kernel
theorem dX5_init_44 : decode cX5_init 44 = .ok (.aload_n 0, 1) := by decide +kernel
theorem dX5_init_45 : decode cX5_init 45 = .ok (.bipush 80, 2) := by decide +kernel
theorem dX5_init_47 : decode cX5_init 47 = .ok (.newarray .int, 2) := by decide +kernel
theorem dX5_init_49 : decode cX5_init 49 = .ok (.putfield 27, 3) := by decide +kernel
theorem dX5_init_52 : decode cX5_init 52 = .ok (.return_, 1) := by decide +kernel
set_option maxRecDepth 20000 in
theorem ggX5_readFrom_X9_put : GoodIn wsX5_readFrom wsX9_put := goodIn_r _ [7] rfl (by decide +kernel)
set_option maxRecDepth 20000 in
theorem gX5_readFrom_X9_put_n41 : GoodIn wsX5_readFrom (wsX9_put) := ggX5_readFrom_X9_put
set_option maxRecDepth 20000 in
theorem ggX5_readFrom_X1_length : GoodIn wsX5_readFrom wsX1_length := goodIn_r _ [12, 13, 64, 65] rfl (by decide +kernel)
set_option maxRecDepth 20000 in
theorem gX5_readFrom_X1_length : GoodIn wsX5_readFrom (wsV RX5 45 RX1 yX1_length wsX1_length) := goodIn_app (goodIn_of _ (by decide +kernel)) ggX5_readFrom_X1_length
set_option maxRecDepth 20000 in
theorem ggX5_readFrom_X5_takeThing : GoodIn wsX5_readFrom wsX5_takeThing := goodIn_r _ [18, 1, 4, 3, 19, 20, 21, 11, 22, 13, 23, 5, 6, 7, 24, 25, 26, 27, 28, 29, 30, 31, 32, 33, 34, 35, 36, 37, 17, 38, 39, 2, 40, 41, 42, 43, 44, 45, 46, 47, 48, 49, 50, 55, 56, 57, 58, 59, 60, 61, 62, 63, 64, 65, 66, 67] rfl (by decide +kernel)
set_option maxRecDepth 20000 in
theorem gX5_readFrom_X5_takeThing : GoodIn wsX5_readFrom (wsV RX5 51 RX5 yX5_takeThing wsX5_takeThing) := goodIn_app (goodIn_of _ (by decide +kernel)) ggX5_readFrom_X5_takeThing
set_option maxRecDepth 20000 in
theorem ggX5_readFrom_X5_takeJoint : GoodIn wsX5_readFrom wsX5_takeJoint := goodIn_r _ [54, 43, 1, 3, 4, 19, 20, 21, 11, 22, 13, 23, 5, 6, 7, 44, 45, 35, 36, 37, 17, 38, 39, 2, 40, 41, 42, 46, 47, 48, 32, 49, 50, 55, 56, 57, 58, 59, 60, 61, 62, 63, 64, 65, 66, 67] rfl (by decide +kernel)
set_option maxRecDepth 20000 in
theorem gX5_readFrom_X5_takeJoint : GoodIn wsX5_readFrom (wsV RX5 55 RX5 yX5_takeJoint wsX5_takeJoint) := goodIn_app (goodIn_of _ (by decide +kernel)) ggX5_readFrom_X5_takeJoint
theorem dX5_readFrom_0 : decode cX5_readFrom 0 = .ok (.aload_n 0, 1) := by decide +kernel
theorem dX5_readFrom_1 : decode cX5_readFrom 1 = .ok (.iconst 0, 1) := by decide +kernel
theorem dX5_readFrom_2 : decode cX5_readFrom 2 = .ok (.putfield 30, 3) := by decide +kernel
theorem dX5_readFrom_5 : decode cX5_readFrom 5 = .ok (.aload_n 0, 1) := by decide +kernel
theorem dX5_readFrom_6 : decode cX5_readFrom 6 = .ok (.iconst 0, 1) := by decide +kernel
theorem dX5_readFrom_7 : decode cX5_readFrom 7 = .ok (.putfield 34, 3) := by decide +kernel
theorem dX5_readFrom_10 : decode cX5_readFrom 10 = .ok (.aload_n 0, 1) := by decide +kernel
theorem dX5_readFrom_11 : decode cX5_readFrom 11 = .ok (.iconst 1, 1) := by decide +kernel
theorem dX5_readFrom_12 : decode cX5_readFrom 12 = .ok (.putfield 37, 3) := by decide +kernel
theorem dX5_readFrom_15 : decode cX5_readFrom 15 = .ok (.aload_n 0, 1) := by decide +kernel
theorem dX5_readFrom_16 : decode cX5_readFrom 16 = .ok (.getfield 11, 3) := by decide +kernel
theorem dX5_readFrom_19 : decode cX5_readFrom 19 = .ok (.iconst 0, 1) := by decide +kernel
theorem dX5_readFrom_20 : decode cX5_readFrom 20 = .ok (.iconst (-1), 1) := by decide +kernel
theorem dX5_readFrom_21 : decode cX5_readFrom 21 = .ok (.invokestatic 41, 3) := by decide +kernel
theorem dX5_readFrom_24 : decode cX5_readFrom 24 = .ok (.iconst 0, 1) := by decide +kernel
theorem dX5_readFrom_25 : decode cX5_readFrom 25 = .ok (.istore_n 3, 1) := by decide +kernel
theorem dX5_readFrom_26 : decode cX5_readFrom 26 = .ok (.iload_n 3, 1) := by decide +kernel
theorem dX5_readFrom_27 : decode cX5_readFrom 27 = .ok (.aload_n 1, 1) := by decide +kernel
theorem dX5_readFrom_28 : decode cX5_readFrom 28 = .ok (.invokevirtual 45, 3) := by decide +kernel
theorem dX5_readFrom_31 : decode cX5_readFrom 31 = .ok (.if_icmp .ge 42, 3) := by decide +kernel
theorem dX5_readFrom_34 : decode cX5_readFrom 34 = .ok (.aload_n 0, 1) := by decide +kernel
theorem dX5_readFrom_35 : decode cX5_readFrom 35 = .ok (.getfield 37, 3) := by decide +kernel
theorem dX5_readFrom_38 : decode cX5_readFrom 38 = .ok (.ifCond .eq 13, 3) := by decide +kernel
theorem dX5_readFrom_41 : decode cX5_readFrom 41 = .ok (.aload_n 0, 1) := by decide +kernel
theorem dX5_readFrom_42 : decode cX5_readFrom 42 = .ok (.aload_n 1, 1) := by decide +kernel
theorem dX5_readFrom_43 : decode cX5_readFrom 43 = .ok (.iload_n 3, 1) := by decide +kernel
theorem dX5_readFrom_44 : decode cX5_readFrom 44 = .ok (.aload_n 2, 1) := by decide +kernel
theorem dX5_readFrom_45 : decode cX5_readFrom 45 = .ok (.invokevirtual 51, 3) := by decide +kernel
theorem dX5_readFrom_48 : decode cX5_readFrom 48 = .ok (.goto 10, 3) := by decide +kernel
theorem dX5_readFrom_51 : decode cX5_readFrom 51 = .ok (.aload_n 0, 1) := by decide +kernel
theorem dX5_readFrom_52 : decode cX5_readFrom 52 = .ok (.aload_n 1, 1) := by decide +kernel
theorem dX5_readFrom_53 : decode cX5_readFrom 53 = .ok (.iload_n 3, 1) := by decide +kernel
theorem dX5_readFrom_54 : decode cX5_readFrom 54 = .ok (.aload_n 2, 1) := by decide +kernel
theorem dX5_readFrom_55 : decode cX5_readFrom 55 = .ok (.invokevirtual 55, 3) := by decide +kernel
theorem dX5_readFrom_58 : decode cX5_readFrom 58 = .ok (.istore 4, 2) := by decide +kernel
theorem dX5_readFrom_60 : decode cX5_readFrom 60 = .ok (.iload 4, 2) := by decide +kernel
theorem dX5_readFrom_62 : decode cX5_readFrom 62 = .ok (.ifCond .ne 5, 3) := by decide +kernel
theorem dX5_readFrom_65 : decode cX5_readFrom 65 = .ok (.iload_n 3, 1) := by decide +kernel
theorem dX5_readFrom_66 : decode cX5_readFrom 66 = .ok (.ireturn, 1) := by decide +kernel
theorem dX5_readFrom_67 : decode cX5_readFrom 67 = .ok (.iinc 3 1, 3) := by decide +kernel
theorem dX5_readFrom_70 : decode cX5_readFrom 70 = .ok (.goto (-44), 3) := by decide +kernel
theorem dX5_readFrom_73 : decode cX5_readFrom 73 = .ok (.aload_n 0, 1) := by decide +kernel
theorem dX5_readFrom_74 : decode cX5_readFrom 74 = .ok (.getfield 37, 3) := by decide +kernel
theorem dX5_readFrom_77 : decode cX5_readFrom 77 = .ok (.ifCond .ne 10, 3) := by decide +kernel
theorem dX5_readFrom_80 : decode cX5_readFrom 80 = .ok (.aload_n 0, 1) := by decide +kernel
theorem dX5_readFrom_81 : decode cX5_readFrom 81 = .ok (.getfield 30, 3) := by decide +kernel
theorem dX5_readFrom_84 : decode cX5_readFrom 84 = .ok (.ifCond .le 10, 3) := by decide +kernel
theorem dX5_readFrom_87 : decode cX5_readFrom 87 = .ok (.aload_n 1, 1) := by decide +kernel
theorem dX5_readFrom_88 : decode cX5_readFrom 88 = .ok (.invokevirtual 45, 3) := by decide +kernel
theorem dX5_readFrom_91 : decode cX5_readFrom 91 = .ok (.goto 5, 3) := by decide +kernel
theorem dX5_readFrom_94 : decode cX5_readFrom 94 = .ok (.bipush (-4), 2) := by decide +kernel
theorem dX5_readFrom_96 : decode cX5_readFrom 96 = .ok (.ireturn, 1) := by decide +kernel
set_option maxRecDepth 20000 in
theorem ggX5_total_X9_get : GoodIn wsX5_total wsX9_get := goodIn_r _ [4] rfl (by decide +kernel)
set_option maxRecDepth 20000 in
theorem gX5_total_X9_get_n58 : GoodIn wsX5_total (wsX9_get) := ggX5_total_X9_get
theorem dX5_total_0 : decode cX5_total 0 = .ok (.aload_n 0, 1) := by decide +kernel
theorem dX5_total_1 : decode cX5_total 1 = .ok (.getfield 11, 3) := by decide +kernel
theorem dX5_total_4 : decode cX5_total 4 = .ok (.iconst 0, 1) := by decide +kernel
theorem dX5_total_5 : decode cX5_total 5 = .ok (.invokestatic 58, 3) := by decide +kernel
theorem dX5_total_8 : decode cX5_total 8 = .ok (.ireturn, 1) := by decide +kernel
set_option maxRecDepth 20000 in
theorem ggX5_stepAt_X9_get : GoodIn wsX5_stepAt wsX9_get := goodIn_r _ [8] rfl (by decide +kernel)
set_option maxRecDepth 20000 in
theorem gX5_stepAt_X9_get_n58 : GoodIn wsX5_stepAt (wsX9_get) := ggX5_stepAt_X9_get
theorem dX5_stepAt_0 : decode cX5_stepAt 0 = .ok (.iload_n 1, 1) := by decide +kernel
theorem dX5_stepAt_1 : decode cX5_stepAt 1 = .ok (.ifCond .lt 11, 3) := by decide +kernel
theorem dX5_stepAt_4 : decode cX5_stepAt 4 = .ok (.iload_n 1, 1) := by decide +kernel
theorem dX5_stepAt_5 : decode cX5_stepAt 5 = .ok (.aload_n 0, 1) := by decide +kernel
theorem dX5_stepAt_6 : decode cX5_stepAt 6 = .ok (.getfield 34, 3) := by decide +kernel
theorem dX5_stepAt_9 : decode cX5_stepAt 9 = .ok (.if_icmp .lt 6, 3) := by decide +kernel
theorem dX5_stepAt_12 : decode cX5_stepAt 12 = .ok (.bipush (-4), 2) := by decide +kernel
theorem dX5_stepAt_14 : decode cX5_stepAt 14 = .ok (.ireturn, 1) := by decide +kernel
theorem dX5_stepAt_15 : decode cX5_stepAt 15 = .ok (.iload_n 2, 1) := by decide +kernel
theorem dX5_stepAt_16 : decode cX5_stepAt 16 = .ok (.tableswitch 55 0 2 #[28, 37, 46], 28) := by decide +kernel
theorem dX5_stepAt_44 : decode cX5_stepAt 44 = .ok (.aload_n 0, 1) := by decide +kernel
theorem dX5_stepAt_45 : decode cX5_stepAt 45 = .ok (.getfield 18, 3) := by decide +kernel
theorem dX5_stepAt_48 : decode cX5_stepAt 48 = .ok (.iload_n 1, 1) := by decide +kernel
theorem dX5_stepAt_49 : decode cX5_stepAt 49 = .ok (.invokestatic 58, 3) := by decide +kernel
theorem dX5_stepAt_52 : decode cX5_stepAt 52 = .ok (.ireturn, 1) := by decide +kernel
theorem dX5_stepAt_53 : decode cX5_stepAt 53 = .ok (.aload_n 0, 1) := by decide +kernel
theorem dX5_stepAt_54 : decode cX5_stepAt 54 = .ok (.getfield 21, 3) := by decide +kernel
theorem dX5_stepAt_57 : decode cX5_stepAt 57 = .ok (.iload_n 1, 1) := by decide +kernel
theorem dX5_stepAt_58 : decode cX5_stepAt 58 = .ok (.invokestatic 58, 3) := by decide +kernel
theorem dX5_stepAt_61 : decode cX5_stepAt 61 = .ok (.ireturn, 1) := by decide +kernel
theorem dX5_stepAt_62 : decode cX5_stepAt 62 = .ok (.aload_n 0, 1) := by decide +kernel
theorem dX5_stepAt_63 : decode cX5_stepAt 63 = .ok (.getfield 24, 3) := by decide +kernel
theorem dX5_stepAt_66 : decode cX5_stepAt 66 = .ok (.iload_n 1, 1) := by decide +kernel
theorem dX5_stepAt_67 : decode cX5_stepAt 67 = .ok (.invokestatic 58, 3) := by decide +kernel
theorem dX5_stepAt_70 : decode cX5_stepAt 70 = .ok (.ireturn, 1) := by decide +kernel
theorem dX5_stepAt_71 : decode cX5_stepAt 71 = .ok (.aload_n 0, 1) := by decide +kernel
theorem dX5_stepAt_72 : decode cX5_stepAt 72 = .ok (.getfield 27, 3) := by decide +kernel
theorem dX5_stepAt_75 : decode cX5_stepAt 75 = .ok (.iload_n 1, 1) := by decide +kernel
theorem dX5_stepAt_76 : decode cX5_stepAt 76 = .ok (.invokestatic 58, 3) := by decide +kernel
theorem dX5_stepAt_79 : decode cX5_stepAt 79 = .ok (.ireturn, 1) := by decide +kernel
set_option maxRecDepth 20000 in
theorem ggX5_takeThing_X1_signAt : GoodIn wsX5_takeThing wsX1_signAt := goodIn_r _ [8, 9, 10, 52, 53] rfl (by decide +kernel)
set_option maxRecDepth 20000 in
theorem gX5_takeThing_X1_signAt : GoodIn wsX5_takeThing (wsV RX5 62 RX1 yX1_signAt wsX1_signAt) := goodIn_app (goodIn_of _ (by decide +kernel)) ggX5_takeThing_X1_signAt
set_option maxRecDepth 20000 in
theorem ggX5_takeThing_X9_put : GoodIn wsX5_takeThing wsX9_put := goodIn_r _ [13] rfl (by decide +kernel)
set_option maxRecDepth 20000 in
theorem gX5_takeThing_X9_put_n41 : GoodIn wsX5_takeThing (wsX9_put) := ggX5_takeThing_X9_put
set_option maxRecDepth 20000 in
theorem ggX5_takeThing_X1_digitAt : GoodIn wsX5_takeThing wsX1_digitAt := goodIn_r _ [17, 18, 5, 6, 7, 8, 9, 10, 52, 53] rfl (by decide +kernel)
set_option maxRecDepth 20000 in
theorem gX5_takeThing_X1_digitAt : GoodIn wsX5_takeThing (wsV RX5 66 RX1 yX1_digitAt wsX1_digitAt) := goodIn_app (goodIn_of _ (by decide +kernel)) ggX5_takeThing_X1_digitAt
set_option maxRecDepth 20000 in
theorem ggX5_takeThing_X6_has : GoodIn wsX5_takeThing wsX6_has := goodIn_r _ [23, 24, 54, 55] rfl (by decide +kernel)
set_option maxRecDepth 20000 in
theorem gX5_takeThing_X6_has : GoodIn wsX5_takeThing (wsV RX5 70 RX6 yX6_has wsX6_has) := goodIn_app (goodIn_of _ (by decide +kernel)) ggX5_takeThing_X6_has
set_option maxRecDepth 20000 in
theorem ggX5_takeThing_X5_join : GoodIn wsX5_takeThing wsX5_join := goodIn_r _ [29, 2, 1, 30, 31, 32, 33, 34, 35, 36, 12, 37, 11, 13, 38, 39, 40, 22, 41, 42, 43, 44, 45, 46, 47, 48, 49, 50, 51, 54, 55] rfl (by decide +kernel)
set_option maxRecDepth 20000 in
theorem gX5_takeThing_X5_join : GoodIn wsX5_takeThing (wsV RX5 76 RX5 yX5_join wsX5_join) := goodIn_app (goodIn_of _ (by decide +kernel)) ggX5_takeThing_X5_join
theorem dX5_takeThing_0 : decode cX5_takeThing 0 = .ok (.aload_n 1, 1) := by decide +kernel
theorem dX5_takeThing_1 : decode cX5_takeThing 1 = .ok (.iload_n 2, 1) := by decide +kernel
theorem dX5_takeThing_2 : decode cX5_takeThing 2 = .ok (.invokevirtual 62, 3) := by decide +kernel
theorem dX5_takeThing_5 : decode cX5_takeThing 5 = .ok (.bipush 40, 2) := by decide +kernel
theorem dX5_takeThing_7 : decode cX5_takeThing 7 = .ok (.if_icmp .ne 27, 3) := by decide +kernel
theorem dX5_takeThing_10 : decode cX5_takeThing 10 = .ok (.aload_n 0, 1) := by decide +kernel
theorem dX5_takeThing_11 : decode cX5_takeThing 11 = .ok (.dup, 1) := by decide +kernel
theorem dX5_takeThing_12 : decode cX5_takeThing 12 = .ok (.getfield 30, 3) := by decide +kernel
theorem dX5_takeThing_15 : decode cX5_takeThing 15 = .ok (.iconst 1, 1) := by decide +kernel
theorem dX5_takeThing_16 : decode cX5_takeThing 16 = .ok (.iadd, 1) := by decide +kernel
theorem dX5_takeThing_17 : decode cX5_takeThing 17 = .ok (.putfield 30, 3) := by decide +kernel
theorem dX5_takeThing_20 : decode cX5_takeThing 20 = .ok (.aload_n 0, 1) := by decide +kernel
theorem dX5_takeThing_21 : decode cX5_takeThing 21 = .ok (.getfield 11, 3) := by decide +kernel
theorem dX5_takeThing_24 : decode cX5_takeThing 24 = .ok (.aload_n 0, 1) := by decide +kernel
theorem dX5_takeThing_25 : decode cX5_takeThing 25 = .ok (.getfield 30, 3) := by decide +kernel
theorem dX5_takeThing_28 : decode cX5_takeThing 28 = .ok (.iconst (-1), 1) := by decide +kernel
theorem dX5_takeThing_29 : decode cX5_takeThing 29 = .ok (.invokestatic 41, 3) := by decide +kernel
theorem dX5_takeThing_32 : decode cX5_takeThing 32 = .ok (.iconst 1, 1) := by decide +kernel
theorem dX5_takeThing_33 : decode cX5_takeThing 33 = .ok (.ireturn, 1) := by decide +kernel
theorem dX5_takeThing_34 : decode cX5_takeThing 34 = .ok (.aload_n 1, 1) := by decide +kernel
theorem dX5_takeThing_35 : decode cX5_takeThing 35 = .ok (.iload_n 2, 1) := by decide +kernel
theorem dX5_takeThing_36 : decode cX5_takeThing 36 = .ok (.invokevirtual 66, 3) := by decide +kernel
theorem dX5_takeThing_39 : decode cX5_takeThing 39 = .ok (.istore 4, 2) := by decide +kernel
theorem dX5_takeThing_41 : decode cX5_takeThing 41 = .ok (.aload_n 3, 1) := by decide +kernel
theorem dX5_takeThing_42 : decode cX5_takeThing 42 = .ok (.iload 4, 2) := by decide +kernel
theorem dX5_takeThing_44 : decode cX5_takeThing 44 = .ok (.invokevirtual 70, 3) := by decide +kernel
theorem dX5_takeThing_47 : decode cX5_takeThing 47 = .ok (.ifCond .ne 5, 3) := by decide +kernel
theorem dX5_takeThing_50 : decode cX5_takeThing 50 = .ok (.iconst 0, 1) := by decide +kernel
theorem dX5_takeThing_51 : decode cX5_takeThing 51 = .ok (.ireturn, 1) := by decide +kernel
theorem dX5_takeThing_52 : decode cX5_takeThing 52 = .ok (.aload_n 0, 1) := by decide +kernel
theorem dX5_takeThing_53 : decode cX5_takeThing 53 = .ok (.iload 4, 2) := by decide +kernel
theorem dX5_takeThing_55 : decode cX5_takeThing 55 = .ok (.aload_n 3, 1) := by decide +kernel
theorem dX5_takeThing_56 : decode cX5_takeThing 56 = .ok (.invokevirtual 76, 3) := by decide +kernel
theorem dX5_takeThing_59 : decode cX5_takeThing 59 = .ok (.aload_n 0, 1) := by decide +kernel
theorem dX5_takeThing_60 : decode cX5_takeThing 60 = .ok (.iconst 0, 1) := by decide +kernel
theorem dX5_takeThing_61 : decode cX5_takeThing 61 = .ok (.putfield 37, 3) := by decide +kernel
theorem dX5_takeThing_64 : decode cX5_takeThing 64 = .ok (.iconst 1, 1) := by decide +kernel
theorem dX5_takeThing_65 : decode cX5_takeThing 65 = .ok (.ireturn, 1) := by decide +kernel
set_option maxRecDepth 20000 in
theorem ggX5_takeJoint_X1_signAt : GoodIn wsX5_takeJoint wsX1_signAt := goodIn_r _ [9, 10, 11, 42, 43] rfl (by decide +kernel)
set_option maxRecDepth 20000 in
theorem gX5_takeJoint_X1_signAt : GoodIn wsX5_takeJoint (wsV RX5 62 RX1 yX1_signAt wsX1_signAt) := goodIn_app (goodIn_of _ (by decide +kernel)) ggX5_takeJoint_X1_signAt
set_option maxRecDepth 20000 in
theorem ggX5_takeJoint_X9_put : GoodIn wsX5_takeJoint wsX9_put := goodIn_r _ [14] rfl (by decide +kernel)
set_option maxRecDepth 20000 in
theorem gX5_takeJoint_X9_put_n41 : GoodIn wsX5_takeJoint (wsX9_put) := ggX5_takeJoint_X9_put
set_option maxRecDepth 20000 in
theorem ggX5_takeJoint_X9_get : GoodIn wsX5_takeJoint wsX9_get := goodIn_r _ [16] rfl (by decide +kernel)
set_option maxRecDepth 20000 in
theorem gX5_takeJoint_X9_get_n58 : GoodIn wsX5_takeJoint (wsX9_get) := ggX5_takeJoint_X9_get
set_option maxRecDepth 20000 in
theorem ggX5_takeJoint_X5_join : GoodIn wsX5_takeJoint wsX5_join := goodIn_r _ [21, 4, 2, 22, 23, 24, 25, 26, 1, 15, 13, 16, 12, 14, 27, 28, 29, 30, 31, 32, 33, 34, 35, 36, 37, 38, 39, 40, 41, 44, 45] rfl (by decide +kernel)
set_option maxRecDepth 20000 in
theorem gX5_takeJoint_X5_join : GoodIn wsX5_takeJoint (wsV RX5 76 RX5 yX5_join wsX5_join) := goodIn_app (goodIn_of _ (by decide +kernel)) ggX5_takeJoint_X5_join
theorem dX5_takeJoint_0 : decode cX5_takeJoint 0 = .ok (.aload_n 1, 1) := by decide +kernel
theorem dX5_takeJoint_1 : decode cX5_takeJoint 1 = .ok (.iload_n 2, 1) := by decide +kernel
theorem dX5_takeJoint_2 : decode cX5_takeJoint 2 = .ok (.invokevirtual 62, 3) := by decide +kernel
theorem dX5_takeJoint_5 : decode cX5_takeJoint 5 = .ok (.istore 4, 2) := by decide +kernel
theorem dX5_takeJoint_7 : decode cX5_takeJoint 7 = .ok (.iload 4, 2) := by decide +kernel
theorem dX5_takeJoint_9 : decode cX5_takeJoint 9 = .ok (.bipush 43, 2) := by decide +kernel
theorem dX5_takeJoint_11 : decode cX5_takeJoint 11 = .ok (.if_icmp .ne 22, 3) := by decide +kernel
theorem dX5_takeJoint_14 : decode cX5_takeJoint 14 = .ok (.aload_n 0, 1) := by decide +kernel
theorem dX5_takeJoint_15 : decode cX5_takeJoint 15 = .ok (.getfield 15, 3) := by decide +kernel
theorem dX5_takeJoint_18 : decode cX5_takeJoint 18 = .ok (.aload_n 0, 1) := by decide +kernel
theorem dX5_takeJoint_19 : decode cX5_takeJoint 19 = .ok (.getfield 30, 3) := by decide +kernel
theorem dX5_takeJoint_22 : decode cX5_takeJoint 22 = .ok (.iload_n 2, 1) := by decide +kernel
theorem dX5_takeJoint_23 : decode cX5_takeJoint 23 = .ok (.invokestatic 41, 3) := by decide +kernel
theorem dX5_takeJoint_26 : decode cX5_takeJoint 26 = .ok (.aload_n 0, 1) := by decide +kernel
theorem dX5_takeJoint_27 : decode cX5_takeJoint 27 = .ok (.iconst 1, 1) := by decide +kernel
theorem dX5_takeJoint_28 : decode cX5_takeJoint 28 = .ok (.putfield 37, 3) := by decide +kernel
