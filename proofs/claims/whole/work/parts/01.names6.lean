theorem dX10_begin_31 : decode cX10_begin 31 = .ok (.invokevirtual 87, 3) := by decide +kernel
theorem dX10_begin_34 : decode cX10_begin 34 = .ok (.aload_n 0, 1) := by decide +kernel
theorem dX10_begin_35 : decode cX10_begin 35 = .ok (.iload_n 1, 1) := by decide +kernel
theorem dX10_begin_36 : decode cX10_begin 36 = .ok (.iload_n 2, 1) := by decide +kernel
theorem dX10_begin_37 : decode cX10_begin 37 = .ok (.invokevirtual 37, 3) := by decide +kernel
theorem dX10_begin_40 : decode cX10_begin 40 = .ok (.aload_n 0, 1) := by decide +kernel
theorem dX10_begin_41 : decode cX10_begin 41 = .ok (.invokevirtual 90, 3) := by decide +kernel
theorem dX10_begin_44 : decode cX10_begin 44 = .ok (.ireturn, 1) := by decide +kernel
set_option maxRecDepth 20000 in
theorem ggX10_isPair_X10_isToken : GoodIn wsX10_isPair wsX10_isToken := goodIn_r _ [5, 6, 7, 8, 4, 9, 10, 11, 12, 13, 14, 15, 16, 17, 18, 19, 20, 21, 22, 23] (by decide +kernel) (by decide +kernel)
set_option maxRecDepth 20000 in
theorem gX10_isPair_X10_isToken : GoodIn wsX10_isPair (wsV RX10 94 RX10 yX10_isToken wsX10_isToken) := goodIn_app (goodIn_of _ (by decide +kernel)) ggX10_isPair_X10_isToken
theorem dX10_isPair_0 : decode cX10_isPair 0 = .ok (.aload_n 0, 1) := by decide +kernel
theorem dX10_isPair_1 : decode cX10_isPair 1 = .ok (.iload_n 1, 1) := by decide +kernel
theorem dX10_isPair_2 : decode cX10_isPair 2 = .ok (.invokevirtual 94, 3) := by decide +kernel
theorem dX10_isPair_5 : decode cX10_isPair 5 = .ok (.ifCond .eq 20, 3) := by decide +kernel
theorem dX10_isPair_8 : decode cX10_isPair 8 = .ok (.aload_n 0, 1) := by decide +kernel
theorem dX10_isPair_9 : decode cX10_isPair 9 = .ok (.iload_n 2, 1) := by decide +kernel
theorem dX10_isPair_10 : decode cX10_isPair 10 = .ok (.invokevirtual 94, 3) := by decide +kernel
theorem dX10_isPair_13 : decode cX10_isPair 13 = .ok (.ifCond .eq 12, 3) := by decide +kernel
theorem dX10_isPair_16 : decode cX10_isPair 16 = .ok (.iload_n 1, 1) := by decide +kernel
theorem dX10_isPair_17 : decode cX10_isPair 17 = .ok (.iload_n 2, 1) := by decide +kernel
theorem dX10_isPair_18 : decode cX10_isPair 18 = .ok (.if_icmp .eq 7, 3) := by decide +kernel
theorem dX10_isPair_21 : decode cX10_isPair 21 = .ok (.iconst 1, 1) := by decide +kernel
theorem dX10_isPair_22 : decode cX10_isPair 22 = .ok (.goto 4, 3) := by decide +kernel
theorem dX10_isPair_25 : decode cX10_isPair 25 = .ok (.iconst 0, 1) := by decide +kernel
theorem dX10_isPair_26 : decode cX10_isPair 26 = .ok (.ireturn, 1) := by decide +kernel
set_option maxRecDepth 20000 in
theorem ggX10_rows_X10_isPair : GoodIn wsX10_rows wsX10_isPair := goodIn_r _ [6, 7, 8, 9, 5, 10, 1, 11, 12, 13, 32, 33, 34, 35, 36, 37, 38, 39, 40, 41, 42, 43, 44, 45] (by decide +kernel) (by decide +kernel)
set_option maxRecDepth 20000 in
theorem gX10_rows_X10_isPair : GoodIn wsX10_rows (wsV RX10 97 RX10 yX10_isPair wsX10_isPair) := goodIn_app (goodIn_of _ (by decide +kernel)) ggX10_rows_X10_isPair
set_option maxRecDepth 20000 in
theorem ggX10_rows_X10_records : GoodIn wsX10_rows wsX10_records := goodIn_r _ [17, 18, 19, 1, 20, 32, 33, 34, 35, 36, 37, 38, 39, 40, 41, 42, 43, 44, 45] (by decide +kernel) (by decide +kernel)
set_option maxRecDepth 20000 in
theorem gX10_rows_X10_records : GoodIn wsX10_rows (wsV RX10 87 RX10 yX10_records wsX10_records) := goodIn_app (goodIn_of _ (by decide +kernel)) ggX10_rows_X10_records
set_option maxRecDepth 20000 in
theorem ggX10_rows_X10_at : GoodIn wsX10_rows wsX10_at := goodIn_r _ [23] (by decide +kernel) (by decide +kernel)
set_option maxRecDepth 20000 in
theorem gX10_rows_X10_at : GoodIn wsX10_rows (va_wsS RX10 45 yX10_at wsX10_at) := goodIn_app (goodIn_of _ (by decide +kernel)) ggX10_rows_X10_at
set_option maxRecDepth 20000 in
theorem ggX10_rows_X10_exchanges : GoodIn wsX10_rows wsX10_exchanges := goodIn_r _ [27, 1, 32, 33, 34, 35, 36, 37, 38, 39, 40, 41, 42, 43, 44, 45] (by decide +kernel) (by decide +kernel)
set_option maxRecDepth 20000 in
theorem gX10_rows_X10_exchanges : GoodIn wsX10_rows (wsV RX10 80 RX10 yX10_exchanges wsX10_exchanges) := goodIn_app (goodIn_of _ (by decide +kernel)) ggX10_rows_X10_exchanges
set_option maxRecDepth 20000 in
theorem ggX10_rows_X10_others : GoodIn wsX10_rows wsX10_others := goodIn_r _ [31, 1, 20, 32, 33, 34, 35, 36, 37, 38, 39, 40, 41, 42, 43, 44, 45] (by decide +kernel) (by decide +kernel)
set_option maxRecDepth 20000 in
theorem gX10_rows_X10_others : GoodIn wsX10_rows (wsV RX10 100 RX10 yX10_others wsX10_others) := goodIn_app (goodIn_of _ (by decide +kernel)) ggX10_rows_X10_others
theorem dX10_rows_0 : decode cX10_rows 0 = .ok (.aload_n 0, 1) := by decide +kernel
theorem dX10_rows_1 : decode cX10_rows 1 = .ok (.iload_n 1, 1) := by decide +kernel
theorem dX10_rows_2 : decode cX10_rows 2 = .ok (.iload_n 2, 1) := by decide +kernel
theorem dX10_rows_3 : decode cX10_rows 3 = .ok (.invokevirtual 97, 3) := by decide +kernel
theorem dX10_rows_6 : decode cX10_rows 6 = .ok (.ifCond .ne 5, 3) := by decide +kernel
theorem dX10_rows_9 : decode cX10_rows 9 = .ok (.iconst (-1), 1) := by decide +kernel
theorem dX10_rows_10 : decode cX10_rows 10 = .ok (.ireturn, 1) := by decide +kernel
theorem dX10_rows_11 : decode cX10_rows 11 = .ok (.aload_n 0, 1) := by decide +kernel
theorem dX10_rows_12 : decode cX10_rows 12 = .ok (.invokevirtual 87, 3) := by decide +kernel
theorem dX10_rows_15 : decode cX10_rows 15 = .ok (.iconst 0, 1) := by decide +kernel
theorem dX10_rows_16 : decode cX10_rows 16 = .ok (.istore_n 3, 1) := by decide +kernel
theorem dX10_rows_17 : decode cX10_rows 17 = .ok (.iload_n 3, 1) := by decide +kernel
theorem dX10_rows_18 : decode cX10_rows 18 = .ok (.aload_n 0, 1) := by decide +kernel
theorem dX10_rows_19 : decode cX10_rows 19 = .ok (.getfield 7, 3) := by decide +kernel
theorem dX10_rows_22 : decode cX10_rows 22 = .ok (.iconst 0, 1) := by decide +kernel
theorem dX10_rows_23 : decode cX10_rows 23 = .ok (.iaload, 1) := by decide +kernel
theorem dX10_rows_24 : decode cX10_rows 24 = .ok (.if_icmp .ge 23, 3) := by decide +kernel
theorem dX10_rows_27 : decode cX10_rows 27 = .ok (.aload_n 0, 1) := by decide +kernel
theorem dX10_rows_28 : decode cX10_rows 28 = .ok (.iload_n 1, 1) := by decide +kernel
theorem dX10_rows_29 : decode cX10_rows 29 = .ok (.iload_n 3, 1) := by decide +kernel
theorem dX10_rows_30 : decode cX10_rows 30 = .ok (.invokestatic 45, 3) := by decide +kernel
theorem dX10_rows_33 : decode cX10_rows 33 = .ok (.iload_n 2, 1) := by decide +kernel
theorem dX10_rows_34 : decode cX10_rows 34 = .ok (.iload_n 3, 1) := by decide +kernel
theorem dX10_rows_35 : decode cX10_rows 35 = .ok (.invokestatic 45, 3) := by decide +kernel
theorem dX10_rows_38 : decode cX10_rows 38 = .ok (.invokevirtual 80, 3) := by decide +kernel
theorem dX10_rows_41 : decode cX10_rows 41 = .ok (.iinc 3 1, 3) := by decide +kernel
theorem dX10_rows_44 : decode cX10_rows 44 = .ok (.goto (-27), 3) := by decide +kernel
theorem dX10_rows_47 : decode cX10_rows 47 = .ok (.aload_n 0, 1) := by decide +kernel
theorem dX10_rows_48 : decode cX10_rows 48 = .ok (.invokevirtual 100, 3) := by decide +kernel
theorem dX10_rows_51 : decode cX10_rows 51 = .ok (.ireturn, 1) := by decide +kernel
set_option maxRecDepth 20000 in
theorem ggX10_columns_X10_isPair : GoodIn wsX10_columns wsX10_isPair := goodIn_r _ [6, 7, 8, 9, 5, 10, 1, 11, 12, 13, 32, 33, 34, 35, 36, 37, 38, 39, 40, 41, 42, 43, 44, 45] (by decide +kernel) (by decide +kernel)
set_option maxRecDepth 20000 in
theorem gX10_columns_X10_isPair : GoodIn wsX10_columns (wsV RX10 97 RX10 yX10_isPair wsX10_isPair) := goodIn_app (goodIn_of _ (by decide +kernel)) ggX10_columns_X10_isPair
set_option maxRecDepth 20000 in
theorem ggX10_columns_X10_records : GoodIn wsX10_columns wsX10_records := goodIn_r _ [17, 18, 19, 1, 20, 32, 33, 34, 35, 36, 37, 38, 39, 40, 41, 42, 43, 44, 45] (by decide +kernel) (by decide +kernel)
set_option maxRecDepth 20000 in
theorem gX10_columns_X10_records : GoodIn wsX10_columns (wsV RX10 87 RX10 yX10_records wsX10_records) := goodIn_app (goodIn_of _ (by decide +kernel)) ggX10_columns_X10_records
set_option maxRecDepth 20000 in
theorem ggX10_columns_X10_at : GoodIn wsX10_columns wsX10_at := goodIn_r _ [23] (by decide +kernel) (by decide +kernel)
set_option maxRecDepth 20000 in
theorem gX10_columns_X10_at : GoodIn wsX10_columns (va_wsS RX10 45 yX10_at wsX10_at) := goodIn_app (goodIn_of _ (by decide +kernel)) ggX10_columns_X10_at
set_option maxRecDepth 20000 in
theorem ggX10_columns_X10_exchanges : GoodIn wsX10_columns wsX10_exchanges := goodIn_r _ [27, 1, 32, 33, 34, 35, 36, 37, 38, 39, 40, 41, 42, 43, 44, 45] (by decide +kernel) (by decide +kernel)
set_option maxRecDepth 20000 in
theorem gX10_columns_X10_exchanges : GoodIn wsX10_columns (wsV RX10 80 RX10 yX10_exchanges wsX10_exchanges) := goodIn_app (goodIn_of _ (by decide +kernel)) ggX10_columns_X10_exchanges
set_option maxRecDepth 20000 in
theorem ggX10_columns_X10_others : GoodIn wsX10_columns wsX10_others := goodIn_r _ [31, 1, 20, 32, 33, 34, 35, 36, 37, 38, 39, 40, 41, 42, 43, 44, 45] (by decide +kernel) (by decide +kernel)
set_option maxRecDepth 20000 in
theorem gX10_columns_X10_others : GoodIn wsX10_columns (wsV RX10 100 RX10 yX10_others wsX10_others) := goodIn_app (goodIn_of _ (by decide +kernel)) ggX10_columns_X10_others
theorem dX10_columns_0 : decode cX10_columns 0 = .ok (.aload_n 0, 1) := by decide +kernel
theorem dX10_columns_1 : decode cX10_columns 1 = .ok (.iload_n 1, 1) := by decide +kernel
theorem dX10_columns_2 : decode cX10_columns 2 = .ok (.iload_n 2, 1) := by decide +kernel
theorem dX10_columns_3 : decode cX10_columns 3 = .ok (.invokevirtual 97, 3) := by decide +kernel
theorem dX10_columns_6 : decode cX10_columns 6 = .ok (.ifCond .ne 5, 3) := by decide +kernel
theorem dX10_columns_9 : decode cX10_columns 9 = .ok (.iconst (-1), 1) := by decide +kernel
theorem dX10_columns_10 : decode cX10_columns 10 = .ok (.ireturn, 1) := by decide +kernel
theorem dX10_columns_11 : decode cX10_columns 11 = .ok (.aload_n 0, 1) := by decide +kernel
theorem dX10_columns_12 : decode cX10_columns 12 = .ok (.invokevirtual 87, 3) := by decide +kernel
theorem dX10_columns_15 : decode cX10_columns 15 = .ok (.iconst 0, 1) := by decide +kernel
theorem dX10_columns_16 : decode cX10_columns 16 = .ok (.istore_n 3, 1) := by decide +kernel
theorem dX10_columns_17 : decode cX10_columns 17 = .ok (.iload_n 3, 1) := by decide +kernel
theorem dX10_columns_18 : decode cX10_columns 18 = .ok (.aload_n 0, 1) := by decide +kernel
theorem dX10_columns_19 : decode cX10_columns 19 = .ok (.getfield 7, 3) := by decide +kernel
theorem dX10_columns_22 : decode cX10_columns 22 = .ok (.iconst 0, 1) := by decide +kernel
theorem dX10_columns_23 : decode cX10_columns 23 = .ok (.iaload, 1) := by decide +kernel
theorem dX10_columns_24 : decode cX10_columns 24 = .ok (.if_icmp .ge 23, 3) := by decide +kernel
theorem dX10_columns_27 : decode cX10_columns 27 = .ok (.aload_n 0, 1) := by decide +kernel
theorem dX10_columns_28 : decode cX10_columns 28 = .ok (.iload_n 3, 1) := by decide +kernel
theorem dX10_columns_29 : decode cX10_columns 29 = .ok (.iload_n 1, 1) := by decide +kernel
theorem dX10_columns_30 : decode cX10_columns 30 = .ok (.invokestatic 45, 3) := by decide +kernel
theorem dX10_columns_33 : decode cX10_columns 33 = .ok (.iload_n 3, 1) := by decide +kernel
theorem dX10_columns_34 : decode cX10_columns 34 = .ok (.iload_n 2, 1) := by decide +kernel
theorem dX10_columns_35 : decode cX10_columns 35 = .ok (.invokestatic 45, 3) := by decide +kernel
theorem dX10_columns_38 : decode cX10_columns 38 = .ok (.invokevirtual 80, 3) := by decide +kernel
theorem dX10_columns_41 : decode cX10_columns 41 = .ok (.iinc 3 1, 3) := by decide +kernel
theorem dX10_columns_44 : decode cX10_columns 44 = .ok (.goto (-27), 3) := by decide +kernel
theorem dX10_columns_47 : decode cX10_columns 47 = .ok (.aload_n 0, 1) := by decide +kernel
theorem dX10_columns_48 : decode cX10_columns 48 = .ok (.invokevirtual 100, 3) := by decide +kernel
theorem dX10_columns_51 : decode cX10_columns 51 = .ok (.ireturn, 1) := by decide +kernel
set_option maxRecDepth 20000 in
theorem ggX10_names_X10_isPair : GoodIn wsX10_names wsX10_isPair := goodIn_r _ [6, 7, 8, 9, 5, 10, 1, 11, 12, 13, 28, 29, 30, 31, 32, 33, 34, 35, 36, 37, 38, 39, 40, 41] (by decide +kernel) (by decide +kernel)
set_option maxRecDepth 20000 in
theorem gX10_names_X10_isPair : GoodIn wsX10_names (wsV RX10 97 RX10 yX10_isPair wsX10_isPair) := goodIn_app (goodIn_of _ (by decide +kernel)) ggX10_names_X10_isPair
set_option maxRecDepth 20000 in
theorem ggX10_names_X10_records : GoodIn wsX10_names wsX10_records := goodIn_r _ [17, 18, 19, 1, 20, 28, 29, 30, 31, 32, 33, 34, 35, 36, 37, 38, 39, 40, 41] (by decide +kernel) (by decide +kernel)
set_option maxRecDepth 20000 in
theorem gX10_names_X10_records : GoodIn wsX10_names (wsV RX10 87 RX10 yX10_records wsX10_records) := goodIn_app (goodIn_of _ (by decide +kernel)) ggX10_names_X10_records
set_option maxRecDepth 20000 in
theorem ggX10_names_X10_at : GoodIn wsX10_names wsX10_at := goodIn_r _ [23] (by decide +kernel) (by decide +kernel)
set_option maxRecDepth 20000 in
theorem gX10_names_X10_at : GoodIn wsX10_names (va_wsS RX10 45 yX10_at wsX10_at) := goodIn_app (goodIn_of _ (by decide +kernel)) ggX10_names_X10_at
set_option maxRecDepth 20000 in
theorem ggX10_names_X10_others : GoodIn wsX10_names wsX10_others := goodIn_r _ [27, 1, 20, 28, 29, 30, 31, 32, 33, 34, 35, 36, 37, 38, 39, 40, 41] (by decide +kernel) (by decide +kernel)
set_option maxRecDepth 20000 in
theorem gX10_names_X10_others : GoodIn wsX10_names (wsV RX10 100 RX10 yX10_others wsX10_others) := goodIn_app (goodIn_of _ (by decide +kernel)) ggX10_names_X10_others
theorem dX10_names_0 : decode cX10_names 0 = .ok (.aload_n 0, 1) := by decide +kernel
theorem dX10_names_1 : decode cX10_names 1 = .ok (.iload_n 1, 1) := by decide +kernel
theorem dX10_names_2 : decode cX10_names 2 = .ok (.iload_n 2, 1) := by decide +kernel
theorem dX10_names_3 : decode cX10_names 3 = .ok (.invokevirtual 97, 3) := by decide +kernel
theorem dX10_names_6 : decode cX10_names 6 = .ok (.ifCond .ne 5, 3) := by decide +kernel
theorem dX10_names_9 : decode cX10_names 9 = .ok (.iconst (-1), 1) := by decide +kernel
theorem dX10_names_10 : decode cX10_names 10 = .ok (.ireturn, 1) := by decide +kernel
theorem dX10_names_11 : decode cX10_names 11 = .ok (.aload_n 0, 1) := by decide +kernel
theorem dX10_names_12 : decode cX10_names 12 = .ok (.invokevirtual 87, 3) := by decide +kernel
theorem dX10_names_15 : decode cX10_names 15 = .ok (.iconst 0, 1) := by decide +kernel
theorem dX10_names_16 : decode cX10_names 16 = .ok (.istore_n 3, 1) := by decide +kernel
theorem dX10_names_17 : decode cX10_names 17 = .ok (.iload_n 3, 1) := by decide +kernel
theorem dX10_names_18 : decode cX10_names 18 = .ok (.aload_n 0, 1) := by decide +kernel
theorem dX10_names_19 : decode cX10_names 19 = .ok (.getfield 7, 3) := by decide +kernel
theorem dX10_names_22 : decode cX10_names 22 = .ok (.iconst 0, 1) := by decide +kernel
theorem dX10_names_23 : decode cX10_names 23 = .ok (.iaload, 1) := by decide +kernel
theorem dX10_names_24 : decode cX10_names 24 = .ok (.aload_n 0, 1) := by decide +kernel
theorem dX10_names_25 : decode cX10_names 25 = .ok (.getfield 7, 3) := by decide +kernel
theorem dX10_names_28 : decode cX10_names 28 = .ok (.iconst 0, 1) := by decide +kernel
theorem dX10_names_29 : decode cX10_names 29 = .ok (.iaload, 1) := by decide +kernel
theorem dX10_names_30 : decode cX10_names 30 = .ok (.imul, 1) := by decide +kernel
theorem dX10_names_31 : decode cX10_names 31 = .ok (.if_icmp .ge 74, 3) := by decide +kernel
theorem dX10_names_34 : decode cX10_names 34 = .ok (.iload_n 3, 1) := by decide +kernel
theorem dX10_names_35 : decode cX10_names 35 = .ok (.aload_n 0, 1) := by decide +kernel
theorem dX10_names_36 : decode cX10_names 36 = .ok (.getfield 7, 3) := by decide +kernel
theorem dX10_names_39 : decode cX10_names 39 = .ok (.iconst 0, 1) := by decide +kernel
theorem dX10_names_40 : decode cX10_names 40 = .ok (.iaload, 1) := by decide +kernel
theorem dX10_names_41 : decode cX10_names 41 = .ok (.idiv, 1) := by decide +kernel
theorem dX10_names_42 : decode cX10_names 42 = .ok (.iload_n 3, 1) := by decide +kernel
theorem dX10_names_43 : decode cX10_names 43 = .ok (.aload_n 0, 1) := by decide +kernel
theorem dX10_names_44 : decode cX10_names 44 = .ok (.getfield 7, 3) := by decide +kernel
theorem dX10_names_47 : decode cX10_names 47 = .ok (.iconst 0, 1) := by decide +kernel
theorem dX10_names_48 : decode cX10_names 48 = .ok (.iaload, 1) := by decide +kernel
theorem dX10_names_49 : decode cX10_names 49 = .ok (.irem, 1) := by decide +kernel
theorem dX10_names_50 : decode cX10_names 50 = .ok (.invokestatic 45, 3) := by decide +kernel
theorem dX10_names_53 : decode cX10_names 53 = .ok (.istore 4, 2) := by decide +kernel
theorem dX10_names_55 : decode cX10_names 55 = .ok (.aload_n 0, 1) := by decide +kernel
theorem dX10_names_56 : decode cX10_names 56 = .ok (.getfield 7, 3) := by decide +kernel
theorem dX10_names_59 : decode cX10_names 59 = .ok (.iload 4, 2) := by decide +kernel
theorem dX10_names_61 : decode cX10_names 61 = .ok (.aload_n 0, 1) := by decide +kernel
theorem dX10_names_62 : decode cX10_names 62 = .ok (.getfield 7, 3) := by decide +kernel
theorem dX10_names_65 : decode cX10_names 65 = .ok (.iload 4, 2) := by decide +kernel
theorem dX10_names_67 : decode cX10_names 67 = .ok (.iaload, 1) := by decide +kernel
theorem dX10_names_68 : decode cX10_names 68 = .ok (.iload_n 1, 1) := by decide +kernel
theorem dX10_names_69 : decode cX10_names 69 = .ok (.if_icmp .ne 7, 3) := by decide +kernel
theorem dX10_names_72 : decode cX10_names 72 = .ok (.iload_n 2, 1) := by decide +kernel
theorem dX10_names_73 : decode cX10_names 73 = .ok (.goto 25, 3) := by decide +kernel
theorem dX10_names_76 : decode cX10_names 76 = .ok (.aload_n 0, 1) := by decide +kernel
theorem dX10_names_77 : decode cX10_names 77 = .ok (.getfield 7, 3) := by decide +kernel
theorem dX10_names_80 : decode cX10_names 80 = .ok (.iload 4, 2) := by decide +kernel
theorem dX10_names_82 : decode cX10_names 82 = .ok (.iaload, 1) := by decide +kernel
theorem dX10_names_83 : decode cX10_names 83 = .ok (.iload_n 2, 1) := by decide +kernel
theorem dX10_names_84 : decode cX10_names 84 = .ok (.if_icmp .ne 7, 3) := by decide +kernel
theorem dX10_names_87 : decode cX10_names 87 = .ok (.iload_n 1, 1) := by decide +kernel
theorem dX10_names_88 : decode cX10_names 88 = .ok (.goto 10, 3) := by decide +kernel
theorem dX10_names_91 : decode cX10_names 91 = .ok (.aload_n 0, 1) := by decide +kernel
theorem dX10_names_92 : decode cX10_names 92 = .ok (.getfield 7, 3) := by decide +kernel
theorem dX10_names_95 : decode cX10_names 95 = .ok (.iload 4, 2) := by decide +kernel
theorem dX10_names_97 : decode cX10_names 97 = .ok (.iaload, 1) := by decide +kernel
theorem dX10_names_98 : decode cX10_names 98 = .ok (.iastore, 1) := by decide +kernel
theorem dX10_names_99 : decode cX10_names 99 = .ok (.iinc 3 1, 3) := by decide +kernel
theorem dX10_names_102 : decode cX10_names 102 = .ok (.goto (-85), 3) := by decide +kernel
theorem dX10_names_105 : decode cX10_names 105 = .ok (.aload_n 0, 1) := by decide +kernel
theorem dX10_names_106 : decode cX10_names 106 = .ok (.invokevirtual 100, 3) := by decide +kernel
theorem dX10_names_109 : decode cX10_names 109 = .ok (.ireturn, 1) := by decide +kernel
set_option maxRecDepth 20000 in
theorem ggX10_bar_X10_isPair : GoodIn wsX10_bar wsX10_isPair := goodIn_r _ [5, 6, 7, 8, 4, 9, 10, 11, 12, 13, 25, 26, 27, 28, 29, 30, 31, 32, 33, 34, 35, 36, 37, 38] (by decide +kernel) (by decide +kernel)
set_option maxRecDepth 20000 in
theorem gX10_bar_X10_isPair : GoodIn wsX10_bar (wsV RX10 97 RX10 yX10_isPair wsX10_isPair) := goodIn_app (goodIn_of _ (by decide +kernel)) ggX10_bar_X10_isPair
set_option maxRecDepth 20000 in
theorem ggX10_bar_X10_isSquare : GoodIn wsX10_bar wsX10_isSquare := goodIn_r _ [17, 18, 19, 20, 4, 21, 10, 22, 23, 24, 25, 26, 27, 28, 29, 30, 31, 32, 33, 34, 35, 36, 37, 38] (by decide +kernel) (by decide +kernel)
set_option maxRecDepth 20000 in
theorem gX10_bar_X10_isSquare : GoodIn wsX10_bar (wsV RX10 76 RX10 yX10_isSquare wsX10_isSquare) := goodIn_app (goodIn_of _ (by decide +kernel)) ggX10_bar_X10_isSquare
theorem dX10_bar_0 : decode cX10_bar 0 = .ok (.aload_n 0, 1) := by decide +kernel
theorem dX10_bar_1 : decode cX10_bar 1 = .ok (.iload_n 1, 1) := by decide +kernel
theorem dX10_bar_2 : decode cX10_bar 2 = .ok (.iload_n 2, 1) := by decide +kernel
theorem dX10_bar_3 : decode cX10_bar 3 = .ok (.invokevirtual 97, 3) := by decide +kernel
theorem dX10_bar_6 : decode cX10_bar 6 = .ok (.ifCond .eq 13, 3) := by decide +kernel
theorem dX10_bar_9 : decode cX10_bar 9 = .ok (.aload_n 0, 1) := by decide +kernel
theorem dX10_bar_10 : decode cX10_bar 10 = .ok (.iload_n 3, 1) := by decide +kernel
theorem dX10_bar_11 : decode cX10_bar 11 = .ok (.iload 4, 2) := by decide +kernel
theorem dX10_bar_13 : decode cX10_bar 13 = .ok (.invokevirtual 97, 3) := by decide +kernel
theorem dX10_bar_16 : decode cX10_bar 16 = .ok (.ifCond .ne 7, 3) := by decide +kernel
theorem dX10_bar_19 : decode cX10_bar 19 = .ok (.iconst (-1), 1) := by decide +kernel
theorem dX10_bar_20 : decode cX10_bar 20 = .ok (.goto 21, 3) := by decide +kernel
theorem dX10_bar_23 : decode cX10_bar 23 = .ok (.aload_n 0, 1) := by decide +kernel
theorem dX10_bar_24 : decode cX10_bar 24 = .ok (.iload_n 1, 1) := by decide +kernel
theorem dX10_bar_25 : decode cX10_bar 25 = .ok (.iload_n 2, 1) := by decide +kernel
theorem dX10_bar_26 : decode cX10_bar 26 = .ok (.iload_n 3, 1) := by decide +kernel
theorem dX10_bar_27 : decode cX10_bar 27 = .ok (.iload 4, 2) := by decide +kernel
theorem dX10_bar_29 : decode cX10_bar 29 = .ok (.invokevirtual 76, 3) := by decide +kernel
theorem dX10_bar_32 : decode cX10_bar 32 = .ok (.ifCond .eq 7, 3) := by decide +kernel
theorem dX10_bar_35 : decode cX10_bar 35 = .ok (.iconst 0, 1) := by decide +kernel
theorem dX10_bar_36 : decode cX10_bar 36 = .ok (.goto 5, 3) := by decide +kernel
theorem dX10_bar_39 : decode cX10_bar 39 = .ok (.bipush (-2), 2) := by decide +kernel
theorem dX10_bar_41 : decode cX10_bar 41 = .ok (.ireturn, 1) := by decide +kernel
set_option maxRecDepth 20000 in
theorem ggX10_swap_X10_bar : GoodIn wsX10_swap wsX10_bar := goodIn_r _ [5, 6, 7, 8, 4, 9, 10, 11, 12, 13, 14, 15, 16, 17, 18, 19, 20, 21, 22, 23, 24, 25, 26, 27, 28, 56, 57, 58, 59, 60, 61, 62, 63, 64, 65, 66, 67, 68, 69] (by decide +kernel) (by decide +kernel)
set_option maxRecDepth 20000 in
theorem gX10_swap_X10_bar : GoodIn wsX10_swap (wsV RX10 103 RX10 yX10_bar wsX10_bar) := goodIn_app (goodIn_of _ (by decide +kernel)) ggX10_swap_X10_bar
set_option maxRecDepth 20000 in
theorem ggX10_swap_X10_records : GoodIn wsX10_swap wsX10_records := goodIn_r _ [32, 33, 34, 14, 35, 56, 57, 58, 59, 60, 61, 62, 63, 64, 65, 66, 67, 68, 69] (by decide +kernel) (by decide +kernel)
set_option maxRecDepth 20000 in
theorem gX10_swap_X10_records : GoodIn wsX10_swap (wsV RX10 87 RX10 yX10_records wsX10_records) := goodIn_app (goodIn_of _ (by decide +kernel)) ggX10_swap_X10_records
set_option maxRecDepth 20000 in
theorem ggX10_swap_X10_triples : GoodIn wsX10_swap wsX10_triples := goodIn_r _ [39, 14, 40, 41, 42, 4, 43, 44, 45, 46, 47, 22, 23, 24, 25, 26, 27, 28, 56, 57, 58, 59, 60, 61, 62, 63, 64, 65, 66, 67, 68, 69] (by decide +kernel) (by decide +kernel)
set_option maxRecDepth 20000 in
theorem gX10_swap_X10_triples : GoodIn wsX10_swap (wsV RX10 90 RX10 yX10_triples wsX10_triples) := goodIn_app (goodIn_of _ (by decide +kernel)) ggX10_swap_X10_triples
set_option maxRecDepth 20000 in
theorem ggX10_swap_X10_swaps : GoodIn wsX10_swap wsX10_swaps := goodIn_r _ [51, 26, 27, 4, 28, 52, 53, 54, 55, 14, 56, 57, 58, 59, 60, 61, 62, 63, 64, 65, 66, 67, 68, 69] (by decide +kernel) (by decide +kernel)
set_option maxRecDepth 20000 in
theorem gX10_swap_X10_swaps : GoodIn wsX10_swap (wsV RX10 107 RX10 yX10_swaps wsX10_swaps) := goodIn_app (goodIn_of _ (by decide +kernel)) ggX10_swap_X10_swaps
theorem dX10_swap_0 : decode cX10_swap 0 = .ok (.aload_n 0, 1) := by decide +kernel
theorem dX10_swap_1 : decode cX10_swap 1 = .ok (.iload_n 1, 1) := by decide +kernel
theorem dX10_swap_2 : decode cX10_swap 2 = .ok (.iload_n 2, 1) := by decide +kernel
theorem dX10_swap_3 : decode cX10_swap 3 = .ok (.iload_n 3, 1) := by decide +kernel
theorem dX10_swap_4 : decode cX10_swap 4 = .ok (.iload 4, 2) := by decide +kernel
theorem dX10_swap_6 : decode cX10_swap 6 = .ok (.invokevirtual 103, 3) := by decide +kernel
theorem dX10_swap_9 : decode cX10_swap 9 = .ok (.istore 5, 2) := by decide +kernel
theorem dX10_swap_11 : decode cX10_swap 11 = .ok (.iload 5, 2) := by decide +kernel
theorem dX10_swap_13 : decode cX10_swap 13 = .ok (.ifCond .eq 6, 3) := by decide +kernel
theorem dX10_swap_16 : decode cX10_swap 16 = .ok (.iload 5, 2) := by decide +kernel
theorem dX10_swap_18 : decode cX10_swap 18 = .ok (.ireturn, 1) := by decide +kernel
theorem dX10_swap_19 : decode cX10_swap 19 = .ok (.aload_n 0, 1) := by decide +kernel
theorem dX10_swap_20 : decode cX10_swap 20 = .ok (.invokevirtual 87, 3) := by decide +kernel
theorem dX10_swap_23 : decode cX10_swap 23 = .ok (.aload_n 0, 1) := by decide +kernel
theorem dX10_swap_24 : decode cX10_swap 24 = .ok (.invokevirtual 90, 3) := by decide +kernel
theorem dX10_swap_27 : decode cX10_swap 27 = .ok (.istore 6, 2) := by decide +kernel
theorem dX10_swap_29 : decode cX10_swap 29 = .ok (.aload_n 0, 1) := by decide +kernel
theorem dX10_swap_30 : decode cX10_swap 30 = .ok (.iload_n 1, 1) := by decide +kernel
theorem dX10_swap_31 : decode cX10_swap 31 = .ok (.iload_n 2, 1) := by decide +kernel
theorem dX10_swap_32 : decode cX10_swap 32 = .ok (.iload_n 3, 1) := by decide +kernel
theorem dX10_swap_33 : decode cX10_swap 33 = .ok (.iload 4, 2) := by decide +kernel
theorem dX10_swap_35 : decode cX10_swap 35 = .ok (.invokevirtual 107, 3) := by decide +kernel
theorem dX10_swap_38 : decode cX10_swap 38 = .ok (.aload_n 0, 1) := by decide +kernel
theorem dX10_swap_39 : decode cX10_swap 39 = .ok (.invokevirtual 90, 3) := by decide +kernel
theorem dX10_swap_42 : decode cX10_swap 42 = .ok (.iload 6, 2) := by decide +kernel
theorem dX10_swap_44 : decode cX10_swap 44 = .ok (.isub, 1) := by decide +kernel
theorem dX10_swap_45 : decode cX10_swap 45 = .ok (.sipush 1000, 3) := by decide +kernel
theorem dX10_swap_48 : decode cX10_swap 48 = .ok (.iadd, 1) := by decide +kernel
theorem dX10_swap_49 : decode cX10_swap 49 = .ok (.ireturn, 1) := by decide +kernel
set_option maxRecDepth 20000 in
theorem ggX10_append_X10_in : GoodIn wsX10_append wsX10_in := goodIn_r _ [6] (by decide +kernel) (by decide +kernel)
set_option maxRecDepth 20000 in
theorem gX10_append_X10_in : GoodIn wsX10_append (va_wsS RX10 41 yX10_in wsX10_in) := goodIn_app (goodIn_of _ (by decide +kernel)) ggX10_append_X10_in
theorem dX10_append_0 : decode cX10_append 0 = .ok (.iload_n 1, 1) := by decide +kernel
theorem dX10_append_1 : decode cX10_append 1 = .ok (.bipush 33, 2) := by decide +kernel
theorem dX10_append_3 : decode cX10_append 3 = .ok (.bipush 126, 2) := by decide +kernel
theorem dX10_append_5 : decode cX10_append 5 = .ok (.invokestatic 41, 3) := by decide +kernel
theorem dX10_append_8 : decode cX10_append 8 = .ok (.ifCond .ne 5, 3) := by decide +kernel
theorem dX10_append_11 : decode cX10_append 11 = .ok (.iconst (-1), 1) := by decide +kernel
theorem dX10_append_12 : decode cX10_append 12 = .ok (.ireturn, 1) := by decide +kernel
theorem dX10_append_13 : decode cX10_append 13 = .ok (.aload_n 0, 1) := by decide +kernel
theorem dX10_append_14 : decode cX10_append 14 = .ok (.getfield 111, 3) := by decide +kernel
theorem dX10_append_17 : decode cX10_append 17 = .ok (.bipush 80, 2) := by decide +kernel
theorem dX10_append_19 : decode cX10_append 19 = .ok (.if_icmp .ne 6, 3) := by decide +kernel
theorem dX10_append_22 : decode cX10_append 22 = .ok (.bipush (-3), 2) := by decide +kernel
theorem dX10_append_24 : decode cX10_append 24 = .ok (.ireturn, 1) := by decide +kernel
theorem dX10_append_25 : decode cX10_append 25 = .ok (.aload_n 0, 1) := by decide +kernel
theorem dX10_append_26 : decode cX10_append 26 = .ok (.getfield 22, 3) := by decide +kernel
theorem dX10_append_29 : decode cX10_append 29 = .ok (.aload_n 0, 1) := by decide +kernel
theorem dX10_append_30 : decode cX10_append 30 = .ok (.getfield 111, 3) := by decide +kernel
theorem dX10_append_33 : decode cX10_append 33 = .ok (.iload_n 1, 1) := by decide +kernel
theorem dX10_append_34 : decode cX10_append 34 = .ok (.iastore, 1) := by decide +kernel
theorem dX10_append_35 : decode cX10_append 35 = .ok (.aload_n 0, 1) := by decide +kernel
theorem dX10_append_36 : decode cX10_append 36 = .ok (.dup, 1) := by decide +kernel
theorem dX10_append_37 : decode cX10_append 37 = .ok (.getfield 111, 3) := by decide +kernel
theorem dX10_append_40 : decode cX10_append 40 = .ok (.iconst 1, 1) := by decide +kernel
theorem dX10_append_41 : decode cX10_append 41 = .ok (.iadd, 1) := by decide +kernel
theorem dX10_append_42 : decode cX10_append 42 = .ok (.putfield 111, 3) := by decide +kernel
theorem dX10_append_45 : decode cX10_append 45 = .ok (.aload_n 0, 1) := by decide +kernel
theorem dX10_append_46 : decode cX10_append 46 = .ok (.getfield 111, 3) := by decide +kernel
theorem dX10_append_49 : decode cX10_append 49 = .ok (.ireturn, 1) := by decide +kernel
theorem dX10_clear_0 : decode cX10_clear 0 = .ok (.aload_n 0, 1) := by decide +kernel
theorem dX10_clear_1 : decode cX10_clear 1 = .ok (.getfield 111, 3) := by decide +kernel
theorem dX10_clear_4 : decode cX10_clear 4 = .ok (.istore_n 1, 1) := by decide +kernel
theorem dX10_clear_5 : decode cX10_clear 5 = .ok (.aload_n 0, 1) := by decide +kernel
theorem dX10_clear_6 : decode cX10_clear 6 = .ok (.iconst 0, 1) := by decide +kernel
theorem dX10_clear_7 : decode cX10_clear 7 = .ok (.putfield 111, 3) := by decide +kernel
theorem dX10_clear_10 : decode cX10_clear 10 = .ok (.iload_n 1, 1) := by decide +kernel
theorem dX10_clear_11 : decode cX10_clear 11 = .ok (.ireturn, 1) := by decide +kernel
set_option maxRecDepth 20000 in
theorem ggX10_isTokenAt_X10_isToken : GoodIn wsX10_isTokenAt wsX10_isToken := goodIn_r _ [6, 7, 8, 9, 5, 10, 11, 12, 13, 14, 15, 16, 17, 18, 19, 20, 21, 22, 23, 24] (by decide +kernel) (by decide +kernel)
set_option maxRecDepth 20000 in
theorem gX10_isTokenAt_X10_isToken : GoodIn wsX10_isTokenAt (wsV RX10 94 RX10 yX10_isToken wsX10_isToken) := goodIn_app (goodIn_of _ (by decide +kernel)) ggX10_isTokenAt_X10_isToken
theorem dX10_isTokenAt_0 : decode cX10_isTokenAt 0 = .ok (.aload_n 0, 1) := by decide +kernel
theorem dX10_isTokenAt_1 : decode cX10_isTokenAt 1 = .ok (.aload_n 0, 1) := by decide +kernel
theorem dX10_isTokenAt_2 : decode cX10_isTokenAt 2 = .ok (.getfield 22, 3) := by decide +kernel
theorem dX10_isTokenAt_5 : decode cX10_isTokenAt 5 = .ok (.iload_n 1, 1) := by decide +kernel
theorem dX10_isTokenAt_6 : decode cX10_isTokenAt 6 = .ok (.iaload, 1) := by decide +kernel
theorem dX10_isTokenAt_7 : decode cX10_isTokenAt 7 = .ok (.bipush 48, 2) := by decide +kernel
theorem dX10_isTokenAt_9 : decode cX10_isTokenAt 9 = .ok (.isub, 1) := by decide +kernel
theorem dX10_isTokenAt_10 : decode cX10_isTokenAt 10 = .ok (.invokevirtual 94, 3) := by decide +kernel
theorem dX10_isTokenAt_13 : decode cX10_isTokenAt 13 = .ok (.ireturn, 1) := by decide +kernel
theorem dX10_stands_0 : decode cX10_stands 0 = .ok (.aload_n 0, 1) := by decide +kernel
theorem dX10_stands_1 : decode cX10_stands 1 = .ok (.getfield 7, 3) := by decide +kernel
theorem dX10_stands_4 : decode cX10_stands 4 = .ok (.iconst 0, 1) := by decide +kernel
theorem dX10_stands_5 : decode cX10_stands 5 = .ok (.iaload, 1) := by decide +kernel
theorem dX10_stands_6 : decode cX10_stands 6 = .ok (.iconst 1, 1) := by decide +kernel
theorem dX10_stands_7 : decode cX10_stands 7 = .ok (.iadd, 1) := by decide +kernel
theorem dX10_stands_8 : decode cX10_stands 8 = .ok (.istore_n 2, 1) := by decide +kernel
theorem dX10_stands_9 : decode cX10_stands 9 = .ok (.iconst 0, 1) := by decide +kernel
theorem dX10_stands_10 : decode cX10_stands 10 = .ok (.istore_n 3, 1) := by decide +kernel
theorem dX10_stands_11 : decode cX10_stands 11 = .ok (.iconst 0, 1) := by decide +kernel
theorem dX10_stands_12 : decode cX10_stands 12 = .ok (.istore 4, 2) := by decide +kernel
theorem dX10_stands_14 : decode cX10_stands 14 = .ok (.iload 4, 2) := by decide +kernel
theorem dX10_stands_16 : decode cX10_stands 16 = .ok (.iload_n 1, 1) := by decide +kernel
theorem dX10_stands_17 : decode cX10_stands 17 = .ok (.if_icmp .ge 67, 3) := by decide +kernel
theorem dX10_stands_20 : decode cX10_stands 20 = .ok (.iload 4, 2) := by decide +kernel
theorem dX10_stands_22 : decode cX10_stands 22 = .ok (.iload_n 2, 1) := by decide +kernel
theorem dX10_stands_23 : decode cX10_stands 23 = .ok (.idiv, 1) := by decide +kernel
theorem dX10_stands_24 : decode cX10_stands 24 = .ok (.iload_n 1, 1) := by decide +kernel
theorem dX10_stands_25 : decode cX10_stands 25 = .ok (.iload_n 2, 1) := by decide +kernel
theorem dX10_stands_26 : decode cX10_stands 26 = .ok (.idiv, 1) := by decide +kernel
theorem dX10_stands_27 : decode cX10_stands 27 = .ok (.if_icmp .eq 13, 3) := by decide +kernel
theorem dX10_stands_30 : decode cX10_stands 30 = .ok (.iload 4, 2) := by decide +kernel
theorem dX10_stands_32 : decode cX10_stands 32 = .ok (.iload_n 2, 1) := by decide +kernel
theorem dX10_stands_33 : decode cX10_stands 33 = .ok (.irem, 1) := by decide +kernel
theorem dX10_stands_34 : decode cX10_stands 34 = .ok (.iload_n 1, 1) := by decide +kernel
theorem dX10_stands_35 : decode cX10_stands 35 = .ok (.iload_n 2, 1) := by decide +kernel
theorem dX10_stands_36 : decode cX10_stands 36 = .ok (.irem, 1) := by decide +kernel
theorem dX10_stands_37 : decode cX10_stands 37 = .ok (.if_icmp .ne 7, 3) := by decide +kernel
theorem dX10_stands_40 : decode cX10_stands 40 = .ok (.iconst 1, 1) := by decide +kernel
theorem dX10_stands_41 : decode cX10_stands 41 = .ok (.goto 4, 3) := by decide +kernel
theorem dX10_stands_44 : decode cX10_stands 44 = .ok (.iconst 0, 1) := by decide +kernel
theorem dX10_stands_45 : decode cX10_stands 45 = .ok (.istore 5, 2) := by decide +kernel
theorem dX10_stands_47 : decode cX10_stands 47 = .ok (.iload_n 3, 1) := by decide +kernel
theorem dX10_stands_48 : decode cX10_stands 48 = .ok (.ifCond .ne 24, 3) := by decide +kernel
theorem dX10_stands_51 : decode cX10_stands 51 = .ok (.iload 5, 2) := by decide +kernel
theorem dX10_stands_53 : decode cX10_stands 53 = .ok (.ifCond .eq 23, 3) := by decide +kernel
theorem dX10_stands_56 : decode cX10_stands 56 = .ok (.aload_n 0, 1) := by decide +kernel
theorem dX10_stands_57 : decode cX10_stands 57 = .ok (.getfield 22, 3) := by decide +kernel
theorem dX10_stands_60 : decode cX10_stands 60 = .ok (.iload 4, 2) := by decide +kernel
theorem dX10_stands_62 : decode cX10_stands 62 = .ok (.iaload, 1) := by decide +kernel
theorem dX10_stands_63 : decode cX10_stands 63 = .ok (.aload_n 0, 1) := by decide +kernel
theorem dX10_stands_64 : decode cX10_stands 64 = .ok (.getfield 22, 3) := by decide +kernel
theorem dX10_stands_67 : decode cX10_stands 67 = .ok (.iload_n 1, 1) := by decide +kernel
theorem dX10_stands_68 : decode cX10_stands 68 = .ok (.iaload, 1) := by decide +kernel
theorem dX10_stands_69 : decode cX10_stands 69 = .ok (.if_icmp .ne 7, 3) := by decide +kernel
theorem dX10_stands_72 : decode cX10_stands 72 = .ok (.iconst 1, 1) := by decide +kernel
theorem dX10_stands_73 : decode cX10_stands 73 = .ok (.goto 4, 3) := by decide +kernel
theorem dX10_stands_76 : decode cX10_stands 76 = .ok (.iconst 0, 1) := by decide +kernel
theorem dX10_stands_77 : decode cX10_stands 77 = .ok (.istore_n 3, 1) := by decide +kernel
theorem dX10_stands_78 : decode cX10_stands 78 = .ok (.iinc 4 1, 3) := by decide +kernel
theorem dX10_stands_81 : decode cX10_stands 81 = .ok (.goto (-67), 3) := by decide +kernel
theorem dX10_stands_84 : decode cX10_stands 84 = .ok (.iload_n 3, 1) := by decide +kernel
theorem dX10_stands_85 : decode cX10_stands 85 = .ok (.ireturn, 1) := by decide +kernel
set_option maxRecDepth 20000 in
theorem ggX10_tableFault_X10_isTokenAt : GoodIn wsX10_tableFault wsX10_isTokenAt := goodIn_r _ [8, 3, 9, 10, 11, 7, 12, 1, 13, 14, 15, 20, 21, 22, 23, 24, 25, 26, 27, 28, 29, 30, 31, 32, 33] (by decide +kernel) (by decide +kernel)
set_option maxRecDepth 20000 in
theorem gX10_tableFault_X10_isTokenAt : GoodIn wsX10_tableFault (wsV RX10 114 RX10 yX10_isTokenAt wsX10_isTokenAt) := goodIn_app (goodIn_of _ (by decide +kernel)) ggX10_tableFault_X10_isTokenAt
set_option maxRecDepth 20000 in
theorem ggX10_tableFault_X10_stands : GoodIn wsX10_tableFault wsX10_stands := goodIn_r _ [19, 1, 3, 20, 21, 22, 23, 24, 25, 26, 27, 28, 29, 30, 31, 32, 33] (by decide +kernel) (by decide +kernel)
set_option maxRecDepth 20000 in
theorem gX10_tableFault_X10_stands : GoodIn wsX10_tableFault (wsV RX10 117 RX10 yX10_stands wsX10_stands) := goodIn_app (goodIn_of _ (by decide +kernel)) ggX10_tableFault_X10_stands
theorem dX10_tableFault_0 : decode cX10_tableFault 0 = .ok (.aload_n 0, 1) := by decide +kernel
theorem dX10_tableFault_1 : decode cX10_tableFault 1 = .ok (.getfield 7, 3) := by decide +kernel
theorem dX10_tableFault_4 : decode cX10_tableFault 4 = .ok (.iconst 0, 1) := by decide +kernel
theorem dX10_tableFault_5 : decode cX10_tableFault 5 = .ok (.iaload, 1) := by decide +kernel
theorem dX10_tableFault_6 : decode cX10_tableFault 6 = .ok (.iconst 1, 1) := by decide +kernel
theorem dX10_tableFault_7 : decode cX10_tableFault 7 = .ok (.iadd, 1) := by decide +kernel
theorem dX10_tableFault_8 : decode cX10_tableFault 8 = .ok (.istore_n 1, 1) := by decide +kernel
theorem dX10_tableFault_9 : decode cX10_tableFault 9 = .ok (.iload_n 1, 1) := by decide +kernel
theorem dX10_tableFault_10 : decode cX10_tableFault 10 = .ok (.aload_n 0, 1) := by decide +kernel
theorem dX10_tableFault_11 : decode cX10_tableFault 11 = .ok (.getfield 7, 3) := by decide +kernel
theorem dX10_tableFault_14 : decode cX10_tableFault 14 = .ok (.iconst 0, 1) := by decide +kernel
theorem dX10_tableFault_15 : decode cX10_tableFault 15 = .ok (.iaload, 1) := by decide +kernel
theorem dX10_tableFault_16 : decode cX10_tableFault 16 = .ok (.imul, 1) := by decide +kernel
theorem dX10_tableFault_17 : decode cX10_tableFault 17 = .ok (.iconst 1, 1) := by decide +kernel
theorem dX10_tableFault_18 : decode cX10_tableFault 18 = .ok (.isub, 1) := by decide +kernel
theorem dX10_tableFault_19 : decode cX10_tableFault 19 = .ok (.istore_n 2, 1) := by decide +kernel
theorem dX10_tableFault_20 : decode cX10_tableFault 20 = .ok (.iconst 0, 1) := by decide +kernel
theorem dX10_tableFault_21 : decode cX10_tableFault 21 = .ok (.istore_n 3, 1) := by decide +kernel
theorem dX10_tableFault_22 : decode cX10_tableFault 22 = .ok (.iload_n 3, 1) := by decide +kernel
theorem dX10_tableFault_23 : decode cX10_tableFault 23 = .ok (.aload_n 0, 1) := by decide +kernel
theorem dX10_tableFault_24 : decode cX10_tableFault 24 = .ok (.getfield 111, 3) := by decide +kernel
theorem dX10_tableFault_27 : decode cX10_tableFault 27 = .ok (.if_icmp .ge 70, 3) := by decide +kernel
theorem dX10_tableFault_30 : decode cX10_tableFault 30 = .ok (.iload_n 3, 1) := by decide +kernel
theorem dX10_tableFault_31 : decode cX10_tableFault 31 = .ok (.iload_n 2, 1) := by decide +kernel
theorem dX10_tableFault_32 : decode cX10_tableFault 32 = .ok (.if_icmp .ge 49, 3) := by decide +kernel
theorem dX10_tableFault_35 : decode cX10_tableFault 35 = .ok (.iload_n 3, 1) := by decide +kernel
theorem dX10_tableFault_36 : decode cX10_tableFault 36 = .ok (.iload_n 1, 1) := by decide +kernel
theorem dX10_tableFault_37 : decode cX10_tableFault 37 = .ok (.irem, 1) := by decide +kernel
theorem dX10_tableFault_38 : decode cX10_tableFault 38 = .ok (.aload_n 0, 1) := by decide +kernel
theorem dX10_tableFault_39 : decode cX10_tableFault 39 = .ok (.getfield 7, 3) := by decide +kernel
theorem dX10_tableFault_42 : decode cX10_tableFault 42 = .ok (.iconst 0, 1) := by decide +kernel
theorem dX10_tableFault_43 : decode cX10_tableFault 43 = .ok (.iaload, 1) := by decide +kernel
theorem dX10_tableFault_44 : decode cX10_tableFault 44 = .ok (.if_icmp .ne 17, 3) := by decide +kernel
theorem dX10_tableFault_47 : decode cX10_tableFault 47 = .ok (.aload_n 0, 1) := by decide +kernel
theorem dX10_tableFault_48 : decode cX10_tableFault 48 = .ok (.getfield 22, 3) := by decide +kernel
theorem dX10_tableFault_51 : decode cX10_tableFault 51 = .ok (.iload_n 3, 1) := by decide +kernel
theorem dX10_tableFault_52 : decode cX10_tableFault 52 = .ok (.iaload, 1) := by decide +kernel
theorem dX10_tableFault_53 : decode cX10_tableFault 53 = .ok (.bipush 47, 2) := by decide +kernel
theorem dX10_tableFault_55 : decode cX10_tableFault 55 = .ok (.if_icmp .ne 26, 3) := by decide +kernel
theorem dX10_tableFault_58 : decode cX10_tableFault 58 = .ok (.goto 19, 3) := by decide +kernel
theorem dX10_tableFault_61 : decode cX10_tableFault 61 = .ok (.aload_n 0, 1) := by decide +kernel
theorem dX10_tableFault_62 : decode cX10_tableFault 62 = .ok (.iload_n 3, 1) := by decide +kernel
theorem dX10_tableFault_63 : decode cX10_tableFault 63 = .ok (.invokevirtual 114, 3) := by decide +kernel
theorem dX10_tableFault_66 : decode cX10_tableFault 66 = .ok (.ifCond .eq 15, 3) := by decide +kernel
theorem dX10_tableFault_69 : decode cX10_tableFault 69 = .ok (.aload_n 0, 1) := by decide +kernel
theorem dX10_tableFault_70 : decode cX10_tableFault 70 = .ok (.iload_n 3, 1) := by decide +kernel
theorem dX10_tableFault_71 : decode cX10_tableFault 71 = .ok (.invokevirtual 117, 3) := by decide +kernel
theorem dX10_tableFault_74 : decode cX10_tableFault 74 = .ok (.ifCond .ne 7, 3) := by decide +kernel
theorem dX10_tableFault_77 : decode cX10_tableFault 77 = .ok (.iconst 1, 1) := by decide +kernel
theorem dX10_tableFault_78 : decode cX10_tableFault 78 = .ok (.goto 4, 3) := by decide +kernel
theorem dX10_tableFault_81 : decode cX10_tableFault 81 = .ok (.iconst 0, 1) := by decide +kernel
theorem dX10_tableFault_82 : decode cX10_tableFault 82 = .ok (.istore 4, 2) := by decide +kernel
theorem dX10_tableFault_84 : decode cX10_tableFault 84 = .ok (.iload 4, 2) := by decide +kernel
theorem dX10_tableFault_86 : decode cX10_tableFault 86 = .ok (.ifCond .ne 5, 3) := by decide +kernel
theorem dX10_tableFault_89 : decode cX10_tableFault 89 = .ok (.iload_n 3, 1) := by decide +kernel
theorem dX10_tableFault_90 : decode cX10_tableFault 90 = .ok (.ireturn, 1) := by decide +kernel
theorem dX10_tableFault_91 : decode cX10_tableFault 91 = .ok (.iinc 3 1, 3) := by decide +kernel
theorem dX10_tableFault_94 : decode cX10_tableFault 94 = .ok (.goto (-72), 3) := by decide +kernel
theorem dX10_tableFault_97 : decode cX10_tableFault 97 = .ok (.aload_n 0, 1) := by decide +kernel
theorem dX10_tableFault_98 : decode cX10_tableFault 98 = .ok (.getfield 111, 3) := by decide +kernel
theorem dX10_tableFault_101 : decode cX10_tableFault 101 = .ok (.iload_n 2, 1) := by decide +kernel
theorem dX10_tableFault_102 : decode cX10_tableFault 102 = .ok (.if_icmp .ge 10, 3) := by decide +kernel
theorem dX10_tableFault_105 : decode cX10_tableFault 105 = .ok (.aload_n 0, 1) := by decide +kernel
theorem dX10_tableFault_106 : decode cX10_tableFault 106 = .ok (.getfield 111, 3) := by decide +kernel
theorem dX10_tableFault_109 : decode cX10_tableFault 109 = .ok (.goto 4, 3) := by decide +kernel
theorem dX10_tableFault_112 : decode cX10_tableFault 112 = .ok (.iconst (-1), 1) := by decide +kernel
theorem dX10_tableFault_113 : decode cX10_tableFault 113 = .ok (.ireturn, 1) := by decide +kernel
set_option maxRecDepth 20000 in
theorem ggX10_rowFault_X10_isTokenAt : GoodIn wsX10_rowFault wsX10_isTokenAt := goodIn_r _ [6, 7, 8, 9, 10, 5, 11, 12, 13, 14, 15, 16, 17, 18, 19, 20, 21, 22, 23, 24, 25, 26, 27, 28, 29] (by decide +kernel) (by decide +kernel)
set_option maxRecDepth 20000 in
theorem gX10_rowFault_X10_isTokenAt : GoodIn wsX10_rowFault (wsV RX10 114 RX10 yX10_isTokenAt wsX10_isTokenAt) := goodIn_app (goodIn_of _ (by decide +kernel)) ggX10_rowFault_X10_isTokenAt
theorem dX10_rowFault_0 : decode cX10_rowFault 0 = .ok (.iconst 0, 1) := by decide +kernel
theorem dX10_rowFault_1 : decode cX10_rowFault 1 = .ok (.istore_n 1, 1) := by decide +kernel
theorem dX10_rowFault_2 : decode cX10_rowFault 2 = .ok (.iload_n 1, 1) := by decide +kernel
theorem dX10_rowFault_3 : decode cX10_rowFault 3 = .ok (.aload_n 0, 1) := by decide +kernel
theorem dX10_rowFault_4 : decode cX10_rowFault 4 = .ok (.getfield 111, 3) := by decide +kernel
theorem dX10_rowFault_7 : decode cX10_rowFault 7 = .ok (.if_icmp .ge 25, 3) := by decide +kernel
theorem dX10_rowFault_10 : decode cX10_rowFault 10 = .ok (.iload_n 1, 1) := by decide +kernel
theorem dX10_rowFault_11 : decode cX10_rowFault 11 = .ok (.bipush 7, 2) := by decide +kernel
theorem dX10_rowFault_13 : decode cX10_rowFault 13 = .ok (.if_icmp .eq 11, 3) := by decide +kernel
theorem dX10_rowFault_16 : decode cX10_rowFault 16 = .ok (.aload_n 0, 1) := by decide +kernel
theorem dX10_rowFault_17 : decode cX10_rowFault 17 = .ok (.iload_n 1, 1) := by decide +kernel
theorem dX10_rowFault_18 : decode cX10_rowFault 18 = .ok (.invokevirtual 114, 3) := by decide +kernel
theorem dX10_rowFault_21 : decode cX10_rowFault 21 = .ok (.ifCond .ne 5, 3) := by decide +kernel
theorem dX10_rowFault_24 : decode cX10_rowFault 24 = .ok (.iload_n 1, 1) := by decide +kernel
theorem dX10_rowFault_25 : decode cX10_rowFault 25 = .ok (.ireturn, 1) := by decide +kernel
theorem dX10_rowFault_26 : decode cX10_rowFault 26 = .ok (.iinc 1 1, 3) := by decide +kernel
theorem dX10_rowFault_29 : decode cX10_rowFault 29 = .ok (.goto (-27), 3) := by decide +kernel
theorem dX10_rowFault_32 : decode cX10_rowFault 32 = .ok (.aload_n 0, 1) := by decide +kernel
theorem dX10_rowFault_33 : decode cX10_rowFault 33 = .ok (.getfield 111, 3) := by decide +kernel
theorem dX10_rowFault_36 : decode cX10_rowFault 36 = .ok (.ifCond .ne 7, 3) := by decide +kernel
theorem dX10_rowFault_39 : decode cX10_rowFault 39 = .ok (.iconst 0, 1) := by decide +kernel
theorem dX10_rowFault_40 : decode cX10_rowFault 40 = .ok (.goto 4, 3) := by decide +kernel
theorem dX10_rowFault_43 : decode cX10_rowFault 43 = .ok (.iconst (-1), 1) := by decide +kernel
theorem dX10_rowFault_44 : decode cX10_rowFault 44 = .ok (.ireturn, 1) := by decide +kernel
set_option maxRecDepth 20000 in
theorem ggX10_comes_X10_plain : GoodIn wsX10_comes wsX10_plain := goodIn_r _ [9, 10, 11, 12, 8, 13, 14, 15, 16, 17, 18, 19, 20, 21, 22, 23, 24, 25, 26, 27] (by decide +kernel) (by decide +kernel)
set_option maxRecDepth 20000 in
theorem gX10_comes_X10_plain : GoodIn wsX10_comes (wsV RX10 53 RX10 yX10_plain wsX10_plain) := goodIn_app (goodIn_of _ (by decide +kernel)) ggX10_comes_X10_plain
theorem dX10_comes_0 : decode cX10_comes 0 = .ok (.aload_n 0, 1) := by decide +kernel
theorem dX10_comes_1 : decode cX10_comes 1 = .ok (.getfield 31, 3) := by decide +kernel
theorem dX10_comes_4 : decode cX10_comes 4 = .ok (.iload_n 1, 1) := by decide +kernel
theorem dX10_comes_5 : decode cX10_comes 5 = .ok (.iaload, 1) := by decide +kernel
theorem dX10_comes_6 : decode cX10_comes 6 = .ok (.iconst (-1), 1) := by decide +kernel
theorem dX10_comes_7 : decode cX10_comes 7 = .ok (.if_icmp .ne 11, 3) := by decide +kernel
theorem dX10_comes_10 : decode cX10_comes 10 = .ok (.aload_n 0, 1) := by decide +kernel
theorem dX10_comes_11 : decode cX10_comes 11 = .ok (.getfield 28, 3) := by decide +kernel
theorem dX10_comes_14 : decode cX10_comes 14 = .ok (.iload_n 1, 1) := by decide +kernel
theorem dX10_comes_15 : decode cX10_comes 15 = .ok (.iload_n 2, 1) := by decide +kernel
theorem dX10_comes_16 : decode cX10_comes 16 = .ok (.iastore, 1) := by decide +kernel
theorem dX10_comes_17 : decode cX10_comes 17 = .ok (.return_, 1) := by decide +kernel
theorem dX10_comes_18 : decode cX10_comes 18 = .ok (.aload_n 0, 1) := by decide +kernel
theorem dX10_comes_19 : decode cX10_comes 19 = .ok (.getfield 25, 3) := by decide +kernel
theorem dX10_comes_22 : decode cX10_comes 22 = .ok (.iconst 4, 1) := by decide +kernel
theorem dX10_comes_23 : decode cX10_comes 23 = .ok (.aload_n 0, 1) := by decide +kernel
theorem dX10_comes_24 : decode cX10_comes 24 = .ok (.getfield 120, 3) := by decide +kernel
theorem dX10_comes_27 : decode cX10_comes 27 = .ok (.imul, 1) := by decide +kernel
theorem dX10_comes_28 : decode cX10_comes 28 = .ok (.aload_n 0, 1) := by decide +kernel
theorem dX10_comes_29 : decode cX10_comes 29 = .ok (.getfield 28, 3) := by decide +kernel
theorem dX10_comes_32 : decode cX10_comes 32 = .ok (.iload_n 1, 1) := by decide +kernel
theorem dX10_comes_33 : decode cX10_comes 33 = .ok (.iaload, 1) := by decide +kernel
theorem dX10_comes_34 : decode cX10_comes 34 = .ok (.iastore, 1) := by decide +kernel
theorem dX10_comes_35 : decode cX10_comes 35 = .ok (.aload_n 0, 1) := by decide +kernel
theorem dX10_comes_36 : decode cX10_comes 36 = .ok (.getfield 25, 3) := by decide +kernel
theorem dX10_comes_39 : decode cX10_comes 39 = .ok (.iconst 4, 1) := by decide +kernel
theorem dX10_comes_40 : decode cX10_comes 40 = .ok (.aload_n 0, 1) := by decide +kernel
theorem dX10_comes_41 : decode cX10_comes 41 = .ok (.getfield 120, 3) := by decide +kernel
theorem dX10_comes_44 : decode cX10_comes 44 = .ok (.imul, 1) := by decide +kernel
theorem dX10_comes_45 : decode cX10_comes 45 = .ok (.iconst 1, 1) := by decide +kernel
theorem dX10_comes_46 : decode cX10_comes 46 = .ok (.iadd, 1) := by decide +kernel
theorem dX10_comes_47 : decode cX10_comes 47 = .ok (.iload_n 2, 1) := by decide +kernel
theorem dX10_comes_48 : decode cX10_comes 48 = .ok (.iastore, 1) := by decide +kernel
theorem dX10_comes_49 : decode cX10_comes 49 = .ok (.aload_n 0, 1) := by decide +kernel
theorem dX10_comes_50 : decode cX10_comes 50 = .ok (.getfield 25, 3) := by decide +kernel
theorem dX10_comes_53 : decode cX10_comes 53 = .ok (.iconst 4, 1) := by decide +kernel
theorem dX10_comes_54 : decode cX10_comes 54 = .ok (.aload_n 0, 1) := by decide +kernel
theorem dX10_comes_55 : decode cX10_comes 55 = .ok (.getfield 120, 3) := by decide +kernel
theorem dX10_comes_58 : decode cX10_comes 58 = .ok (.imul, 1) := by decide +kernel
theorem dX10_comes_59 : decode cX10_comes 59 = .ok (.iconst 2, 1) := by decide +kernel
theorem dX10_comes_60 : decode cX10_comes 60 = .ok (.iadd, 1) := by decide +kernel
theorem dX10_comes_61 : decode cX10_comes 61 = .ok (.aload_n 0, 1) := by decide +kernel
theorem dX10_comes_62 : decode cX10_comes 62 = .ok (.aload_n 0, 1) := by decide +kernel
theorem dX10_comes_63 : decode cX10_comes 63 = .ok (.getfield 28, 3) := by decide +kernel
theorem dX10_comes_66 : decode cX10_comes 66 = .ok (.iload_n 1, 1) := by decide +kernel
theorem dX10_comes_67 : decode cX10_comes 67 = .ok (.iaload, 1) := by decide +kernel
theorem dX10_comes_68 : decode cX10_comes 68 = .ok (.iload_n 2, 1) := by decide +kernel
theorem dX10_comes_69 : decode cX10_comes 69 = .ok (.invokevirtual 53, 3) := by decide +kernel
theorem dX10_comes_72 : decode cX10_comes 72 = .ok (.iastore, 1) := by decide +kernel
theorem dX10_comes_73 : decode cX10_comes 73 = .ok (.aload_n 0, 1) := by decide +kernel
theorem dX10_comes_74 : decode cX10_comes 74 = .ok (.getfield 25, 3) := by decide +kernel
theorem dX10_comes_77 : decode cX10_comes 77 = .ok (.iconst 4, 1) := by decide +kernel
theorem dX10_comes_78 : decode cX10_comes 78 = .ok (.aload_n 0, 1) := by decide +kernel
theorem dX10_comes_79 : decode cX10_comes 79 = .ok (.getfield 120, 3) := by decide +kernel
theorem dX10_comes_82 : decode cX10_comes 82 = .ok (.imul, 1) := by decide +kernel
theorem dX10_comes_83 : decode cX10_comes 83 = .ok (.iconst 3, 1) := by decide +kernel
theorem dX10_comes_84 : decode cX10_comes 84 = .ok (.iadd, 1) := by decide +kernel
theorem dX10_comes_85 : decode cX10_comes 85 = .ok (.aload_n 0, 1) := by decide +kernel
theorem dX10_comes_86 : decode cX10_comes 86 = .ok (.getfield 31, 3) := by decide +kernel
theorem dX10_comes_89 : decode cX10_comes 89 = .ok (.iload_n 1, 1) := by decide +kernel
theorem dX10_comes_90 : decode cX10_comes 90 = .ok (.iaload, 1) := by decide +kernel
theorem dX10_comes_91 : decode cX10_comes 91 = .ok (.iastore, 1) := by decide +kernel
theorem dX10_comes_92 : decode cX10_comes 92 = .ok (.aload_n 0, 1) := by decide +kernel
theorem dX10_comes_93 : decode cX10_comes 93 = .ok (.getfield 28, 3) := by decide +kernel
theorem dX10_comes_96 : decode cX10_comes 96 = .ok (.iload_n 1, 1) := by decide +kernel
theorem dX10_comes_97 : decode cX10_comes 97 = .ok (.aload_n 0, 1) := by decide +kernel
theorem dX10_comes_98 : decode cX10_comes 98 = .ok (.getfield 25, 3) := by decide +kernel
theorem dX10_comes_101 : decode cX10_comes 101 = .ok (.iconst 4, 1) := by decide +kernel
theorem dX10_comes_102 : decode cX10_comes 102 = .ok (.aload_n 0, 1) := by decide +kernel
theorem dX10_comes_103 : decode cX10_comes 103 = .ok (.getfield 120, 3) := by decide +kernel
theorem dX10_comes_106 : decode cX10_comes 106 = .ok (.imul, 1) := by decide +kernel
theorem dX10_comes_107 : decode cX10_comes 107 = .ok (.iconst 2, 1) := by decide +kernel
theorem dX10_comes_108 : decode cX10_comes 108 = .ok (.iadd, 1) := by decide +kernel
theorem dX10_comes_109 : decode cX10_comes 109 = .ok (.iaload, 1) := by decide +kernel
theorem dX10_comes_110 : decode cX10_comes 110 = .ok (.iastore, 1) := by decide +kernel
theorem dX10_comes_111 : decode cX10_comes 111 = .ok (.aload_n 0, 1) := by decide +kernel
theorem dX10_comes_112 : decode cX10_comes 112 = .ok (.dup, 1) := by decide +kernel
theorem dX10_comes_113 : decode cX10_comes 113 = .ok (.getfield 120, 3) := by decide +kernel
theorem dX10_comes_116 : decode cX10_comes 116 = .ok (.iconst 1, 1) := by decide +kernel
theorem dX10_comes_117 : decode cX10_comes 117 = .ok (.iadd, 1) := by decide +kernel
theorem dX10_comes_118 : decode cX10_comes 118 = .ok (.putfield 120, 3) := by decide +kernel
theorem dX10_comes_121 : decode cX10_comes 121 = .ok (.return_, 1) := by decide +kernel
set_option maxRecDepth 20000 in
theorem ggX10_sumFault_X10_isTokenAt : GoodIn wsX10_sumFault wsX10_isTokenAt := goodIn_r _ [11, 4, 12, 13, 14, 10, 15, 16, 17, 18, 19, 32, 33, 34, 35, 36, 37, 38, 39, 40, 41, 42, 43, 44, 45] (by decide +kernel) (by decide +kernel)
set_option maxRecDepth 20000 in
theorem gX10_sumFault_X10_isTokenAt : GoodIn wsX10_sumFault (wsV RX10 114 RX10 yX10_isTokenAt wsX10_isTokenAt) := goodIn_app (goodIn_of _ (by decide +kernel)) ggX10_sumFault_X10_isTokenAt
set_option maxRecDepth 20000 in
theorem ggX10_sumFault_X10_comes : GoodIn wsX10_sumFault wsX10_comes := goodIn_r _ [23, 2, 5, 24, 1, 25, 26, 27, 10, 28, 16, 29, 30, 31, 32, 33, 34, 35, 36, 37, 38, 39, 40, 41, 42, 43, 44, 45] (by decide +kernel) (by decide +kernel)
set_option maxRecDepth 20000 in
theorem gX10_sumFault_X10_comes : GoodIn wsX10_sumFault (wsV RX10 123 RX10 yX10_comes wsX10_comes) := goodIn_app (goodIn_of _ (by decide +kernel)) ggX10_sumFault_X10_comes
theorem dX10_sumFault_0 : decode cX10_sumFault 0 = .ok (.iconst 0, 1) := by decide +kernel
theorem dX10_sumFault_1 : decode cX10_sumFault 1 = .ok (.istore_n 1, 1) := by decide +kernel
theorem dX10_sumFault_2 : decode cX10_sumFault 2 = .ok (.iconst 1, 1) := by decide +kernel
theorem dX10_sumFault_3 : decode cX10_sumFault 3 = .ok (.istore_n 2, 1) := by decide +kernel
theorem dX10_sumFault_4 : decode cX10_sumFault 4 = .ok (.aload_n 0, 1) := by decide +kernel
theorem dX10_sumFault_5 : decode cX10_sumFault 5 = .ok (.iconst 0, 1) := by decide +kernel
theorem dX10_sumFault_6 : decode cX10_sumFault 6 = .ok (.putfield 120, 3) := by decide +kernel
theorem dX10_sumFault_9 : decode cX10_sumFault 9 = .ok (.aload_n 0, 1) := by decide +kernel
theorem dX10_sumFault_10 : decode cX10_sumFault 10 = .ok (.getfield 31, 3) := by decide +kernel
theorem dX10_sumFault_13 : decode cX10_sumFault 13 = .ok (.iconst 0, 1) := by decide +kernel
theorem dX10_sumFault_14 : decode cX10_sumFault 14 = .ok (.iconst (-1), 1) := by decide +kernel
theorem dX10_sumFault_15 : decode cX10_sumFault 15 = .ok (.iastore, 1) := by decide +kernel
theorem dX10_sumFault_16 : decode cX10_sumFault 16 = .ok (.iconst 0, 1) := by decide +kernel
theorem dX10_sumFault_17 : decode cX10_sumFault 17 = .ok (.istore_n 3, 1) := by decide +kernel
theorem dX10_sumFault_18 : decode cX10_sumFault 18 = .ok (.iload_n 3, 1) := by decide +kernel
theorem dX10_sumFault_19 : decode cX10_sumFault 19 = .ok (.aload_n 0, 1) := by decide +kernel
theorem dX10_sumFault_20 : decode cX10_sumFault 20 = .ok (.getfield 111, 3) := by decide +kernel
theorem dX10_sumFault_23 : decode cX10_sumFault 23 = .ok (.if_icmp .ge 135, 3) := by decide +kernel
theorem dX10_sumFault_26 : decode cX10_sumFault 26 = .ok (.iload_n 2, 1) := by decide +kernel
theorem dX10_sumFault_27 : decode cX10_sumFault 27 = .ok (.ifCond .eq 27, 3) := by decide +kernel
theorem dX10_sumFault_30 : decode cX10_sumFault 30 = .ok (.aload_n 0, 1) := by decide +kernel
theorem dX10_sumFault_31 : decode cX10_sumFault 31 = .ok (.getfield 22, 3) := by decide +kernel
theorem dX10_sumFault_34 : decode cX10_sumFault 34 = .ok (.iload_n 3, 1) := by decide +kernel
theorem dX10_sumFault_35 : decode cX10_sumFault 35 = .ok (.iaload, 1) := by decide +kernel
theorem dX10_sumFault_36 : decode cX10_sumFault 36 = .ok (.bipush 40, 2) := by decide +kernel
theorem dX10_sumFault_38 : decode cX10_sumFault 38 = .ok (.if_icmp .ne 16, 3) := by decide +kernel
theorem dX10_sumFault_41 : decode cX10_sumFault 41 = .ok (.iinc 1 1, 3) := by decide +kernel
theorem dX10_sumFault_44 : decode cX10_sumFault 44 = .ok (.aload_n 0, 1) := by decide +kernel
theorem dX10_sumFault_45 : decode cX10_sumFault 45 = .ok (.getfield 31, 3) := by decide +kernel
theorem dX10_sumFault_48 : decode cX10_sumFault 48 = .ok (.iload_n 1, 1) := by decide +kernel
theorem dX10_sumFault_49 : decode cX10_sumFault 49 = .ok (.iconst (-1), 1) := by decide +kernel
theorem dX10_sumFault_50 : decode cX10_sumFault 50 = .ok (.iastore, 1) := by decide +kernel
theorem dX10_sumFault_51 : decode cX10_sumFault 51 = .ok (.goto 101, 3) := by decide +kernel
theorem dX10_sumFault_54 : decode cX10_sumFault 54 = .ok (.iload_n 2, 1) := by decide +kernel
theorem dX10_sumFault_55 : decode cX10_sumFault 55 = .ok (.ifCond .eq 30, 3) := by decide +kernel
theorem dX10_sumFault_58 : decode cX10_sumFault 58 = .ok (.aload_n 0, 1) := by decide +kernel
theorem dX10_sumFault_59 : decode cX10_sumFault 59 = .ok (.iload_n 3, 1) := by decide +kernel
theorem dX10_sumFault_60 : decode cX10_sumFault 60 = .ok (.invokevirtual 114, 3) := by decide +kernel
theorem dX10_sumFault_63 : decode cX10_sumFault 63 = .ok (.ifCond .eq 22, 3) := by decide +kernel
theorem dX10_sumFault_66 : decode cX10_sumFault 66 = .ok (.aload_n 0, 1) := by decide +kernel
theorem dX10_sumFault_67 : decode cX10_sumFault 67 = .ok (.iload_n 1, 1) := by decide +kernel
theorem dX10_sumFault_68 : decode cX10_sumFault 68 = .ok (.aload_n 0, 1) := by decide +kernel
theorem dX10_sumFault_69 : decode cX10_sumFault 69 = .ok (.getfield 22, 3) := by decide +kernel
theorem dX10_sumFault_72 : decode cX10_sumFault 72 = .ok (.iload_n 3, 1) := by decide +kernel
theorem dX10_sumFault_73 : decode cX10_sumFault 73 = .ok (.iaload, 1) := by decide +kernel
theorem dX10_sumFault_74 : decode cX10_sumFault 74 = .ok (.bipush 48, 2) := by decide +kernel
theorem dX10_sumFault_76 : decode cX10_sumFault 76 = .ok (.isub, 1) := by decide +kernel
theorem dX10_sumFault_77 : decode cX10_sumFault 77 = .ok (.invokevirtual 123, 3) := by decide +kernel
theorem dX10_sumFault_80 : decode cX10_sumFault 80 = .ok (.iconst 0, 1) := by decide +kernel
theorem dX10_sumFault_81 : decode cX10_sumFault 81 = .ok (.istore_n 2, 1) := by decide +kernel
theorem dX10_sumFault_82 : decode cX10_sumFault 82 = .ok (.goto 70, 3) := by decide +kernel
theorem dX10_sumFault_85 : decode cX10_sumFault 85 = .ok (.iload_n 2, 1) := by decide +kernel
theorem dX10_sumFault_86 : decode cX10_sumFault 86 = .ok (.ifCond .ne 26, 3) := by decide +kernel
theorem dX10_sumFault_89 : decode cX10_sumFault 89 = .ok (.aload_n 0, 1) := by decide +kernel
theorem dX10_sumFault_90 : decode cX10_sumFault 90 = .ok (.getfield 22, 3) := by decide +kernel
theorem dX10_sumFault_93 : decode cX10_sumFault 93 = .ok (.iload_n 3, 1) := by decide +kernel
theorem dX10_sumFault_94 : decode cX10_sumFault 94 = .ok (.iaload, 1) := by decide +kernel
theorem dX10_sumFault_95 : decode cX10_sumFault 95 = .ok (.bipush 43, 2) := by decide +kernel
theorem dX10_sumFault_97 : decode cX10_sumFault 97 = .ok (.if_icmp .ne 15, 3) := by decide +kernel
theorem dX10_sumFault_100 : decode cX10_sumFault 100 = .ok (.aload_n 0, 1) := by decide +kernel
theorem dX10_sumFault_101 : decode cX10_sumFault 101 = .ok (.getfield 31, 3) := by decide +kernel
theorem dX10_sumFault_104 : decode cX10_sumFault 104 = .ok (.iload_n 1, 1) := by decide +kernel
theorem dX10_sumFault_105 : decode cX10_sumFault 105 = .ok (.iload_n 3, 1) := by decide +kernel
theorem dX10_sumFault_106 : decode cX10_sumFault 106 = .ok (.iastore, 1) := by decide +kernel
theorem dX10_sumFault_107 : decode cX10_sumFault 107 = .ok (.iconst 1, 1) := by decide +kernel
theorem dX10_sumFault_108 : decode cX10_sumFault 108 = .ok (.istore_n 2, 1) := by decide +kernel
theorem dX10_sumFault_109 : decode cX10_sumFault 109 = .ok (.goto 43, 3) := by decide +kernel
theorem dX10_sumFault_112 : decode cX10_sumFault 112 = .ok (.iload_n 2, 1) := by decide +kernel
theorem dX10_sumFault_113 : decode cX10_sumFault 113 = .ok (.ifCond .ne 37, 3) := by decide +kernel
theorem dX10_sumFault_116 : decode cX10_sumFault 116 = .ok (.aload_n 0, 1) := by decide +kernel
theorem dX10_sumFault_117 : decode cX10_sumFault 117 = .ok (.getfield 22, 3) := by decide +kernel
theorem dX10_sumFault_120 : decode cX10_sumFault 120 = .ok (.iload_n 3, 1) := by decide +kernel
theorem dX10_sumFault_121 : decode cX10_sumFault 121 = .ok (.iaload, 1) := by decide +kernel
theorem dX10_sumFault_122 : decode cX10_sumFault 122 = .ok (.bipush 41, 2) := by decide +kernel
theorem dX10_sumFault_124 : decode cX10_sumFault 124 = .ok (.if_icmp .ne 26, 3) := by decide +kernel
theorem dX10_sumFault_127 : decode cX10_sumFault 127 = .ok (.iload_n 1, 1) := by decide +kernel
theorem dX10_sumFault_128 : decode cX10_sumFault 128 = .ok (.ifCond .le 22, 3) := by decide +kernel
theorem dX10_sumFault_131 : decode cX10_sumFault 131 = .ok (.iinc 1 (-1), 3) := by decide +kernel
theorem dX10_sumFault_134 : decode cX10_sumFault 134 = .ok (.aload_n 0, 1) := by decide +kernel
theorem dX10_sumFault_135 : decode cX10_sumFault 135 = .ok (.iload_n 1, 1) := by decide +kernel
theorem dX10_sumFault_136 : decode cX10_sumFault 136 = .ok (.aload_n 0, 1) := by decide +kernel
theorem dX10_sumFault_137 : decode cX10_sumFault 137 = .ok (.getfield 28, 3) := by decide +kernel
theorem dX10_sumFault_140 : decode cX10_sumFault 140 = .ok (.iload_n 1, 1) := by decide +kernel
theorem dX10_sumFault_141 : decode cX10_sumFault 141 = .ok (.iconst 1, 1) := by decide +kernel
theorem dX10_sumFault_142 : decode cX10_sumFault 142 = .ok (.iadd, 1) := by decide +kernel
theorem dX10_sumFault_143 : decode cX10_sumFault 143 = .ok (.iaload, 1) := by decide +kernel
theorem dX10_sumFault_144 : decode cX10_sumFault 144 = .ok (.invokevirtual 123, 3) := by decide +kernel
theorem dX10_sumFault_147 : decode cX10_sumFault 147 = .ok (.goto 5, 3) := by decide +kernel
theorem dX10_sumFault_150 : decode cX10_sumFault 150 = .ok (.iload_n 3, 1) := by decide +kernel
theorem dX10_sumFault_151 : decode cX10_sumFault 151 = .ok (.ireturn, 1) := by decide +kernel
theorem dX10_sumFault_152 : decode cX10_sumFault 152 = .ok (.iinc 3 1, 3) := by decide +kernel
theorem dX10_sumFault_155 : decode cX10_sumFault 155 = .ok (.goto (-137), 3) := by decide +kernel
theorem dX10_sumFault_158 : decode cX10_sumFault 158 = .ok (.aload_n 0, 1) := by decide +kernel
theorem dX10_sumFault_159 : decode cX10_sumFault 159 = .ok (.aload_n 0, 1) := by decide +kernel
theorem dX10_sumFault_160 : decode cX10_sumFault 160 = .ok (.getfield 28, 3) := by decide +kernel
theorem dX10_sumFault_163 : decode cX10_sumFault 163 = .ok (.iconst 0, 1) := by decide +kernel
theorem dX10_sumFault_164 : decode cX10_sumFault 164 = .ok (.iaload, 1) := by decide +kernel
theorem dX10_sumFault_165 : decode cX10_sumFault 165 = .ok (.putfield 126, 3) := by decide +kernel
theorem dX10_sumFault_168 : decode cX10_sumFault 168 = .ok (.iload_n 2, 1) := by decide +kernel
theorem dX10_sumFault_169 : decode cX10_sumFault 169 = .ok (.ifCond .ne 7, 3) := by decide +kernel
theorem dX10_sumFault_172 : decode cX10_sumFault 172 = .ok (.iload_n 1, 1) := by decide +kernel
theorem dX10_sumFault_173 : decode cX10_sumFault 173 = .ok (.ifCond .le 10, 3) := by decide +kernel
theorem dX10_sumFault_176 : decode cX10_sumFault 176 = .ok (.aload_n 0, 1) := by decide +kernel
theorem dX10_sumFault_177 : decode cX10_sumFault 177 = .ok (.getfield 111, 3) := by decide +kernel
theorem dX10_sumFault_180 : decode cX10_sumFault 180 = .ok (.goto 4, 3) := by decide +kernel
theorem dX10_sumFault_183 : decode cX10_sumFault 183 = .ok (.iconst (-1), 1) := by decide +kernel
theorem dX10_sumFault_184 : decode cX10_sumFault 184 = .ok (.ireturn, 1) := by decide +kernel
set_option maxRecDepth 20000 in
theorem ggX10_fault_X10_in : GoodIn wsX10_fault wsX10_in := goodIn_r _ [4] (by decide +kernel) (by decide +kernel)
set_option maxRecDepth 20000 in
theorem gX10_fault_X10_in : GoodIn wsX10_fault (va_wsS RX10 41 yX10_in wsX10_in) := goodIn_app (goodIn_of _ (by decide +kernel)) ggX10_fault_X10_in
set_option maxRecDepth 20000 in
theorem ggX10_fault_X10_tableFault : GoodIn wsX10_fault wsX10_tableFault := goodIn_r _ [8, 9, 10, 11, 12, 13, 14, 3, 15, 16, 17, 18, 19, 1, 2, 4, 20, 21, 22, 23, 48, 49, 50, 51, 52, 53, 54, 55, 56, 57, 58, 59, 60, 61] (by decide +kernel) (by decide +kernel)
set_option maxRecDepth 20000 in
theorem gX10_fault_X10_tableFault : GoodIn wsX10_fault (wsV RX10 129 RX10 yX10_tableFault wsX10_tableFault) := goodIn_app (goodIn_of _ (by decide +kernel)) ggX10_fault_X10_tableFault
set_option maxRecDepth 20000 in
theorem ggX10_fault_X10_sumFault : GoodIn wsX10_fault wsX10_sumFault := goodIn_r _ [27, 28, 29, 10, 11, 30, 31, 12, 13, 14, 3, 15, 16, 17, 18, 19, 9, 1, 2, 4, 32, 33, 34, 35, 36, 37, 38, 39, 40, 41, 42, 43, 48, 49, 50, 51, 52, 53, 54, 55, 56, 57, 58, 59, 60, 61] (by decide +kernel) (by decide +kernel)
set_option maxRecDepth 20000 in
theorem gX10_fault_X10_sumFault : GoodIn wsX10_fault (wsV RX10 132 RX10 yX10_sumFault wsX10_sumFault) := goodIn_app (goodIn_of _ (by decide +kernel)) ggX10_fault_X10_sumFault
set_option maxRecDepth 20000 in
theorem ggX10_fault_X10_rowFault : GoodIn wsX10_fault wsX10_rowFault := goodIn_r _ [47, 10, 12, 13, 14, 3, 15, 11, 16, 17, 18, 19, 9, 1, 2, 4, 48, 49, 50, 51, 52, 53, 54, 55, 56, 57, 58, 59, 60, 61] (by decide +kernel) (by decide +kernel)
set_option maxRecDepth 20000 in
theorem gX10_fault_X10_rowFault : GoodIn wsX10_fault (wsV RX10 135 RX10 yX10_rowFault wsX10_rowFault) := goodIn_app (goodIn_of _ (by decide +kernel)) ggX10_fault_X10_rowFault
theorem dX10_fault_0 : decode cX10_fault 0 = .ok (.iload_n 1, 1) := by decide +kernel
theorem dX10_fault_1 : decode cX10_fault 1 = .ok (.iconst 0, 1) := by decide +kernel
theorem dX10_fault_2 : decode cX10_fault 2 = .ok (.iconst 2, 1) := by decide +kernel
theorem dX10_fault_3 : decode cX10_fault 3 = .ok (.invokestatic 41, 3) := by decide +kernel
theorem dX10_fault_6 : decode cX10_fault 6 = .ok (.ifCond .ne 5, 3) := by decide +kernel
theorem dX10_fault_9 : decode cX10_fault 9 = .ok (.iconst (-1), 1) := by decide +kernel
theorem dX10_fault_10 : decode cX10_fault 10 = .ok (.ireturn, 1) := by decide +kernel
theorem dX10_fault_11 : decode cX10_fault 11 = .ok (.iload_n 1, 1) := by decide +kernel
theorem dX10_fault_12 : decode cX10_fault 12 = .ok (.ifCond .ne 10, 3) := by decide +kernel
theorem dX10_fault_15 : decode cX10_fault 15 = .ok (.aload_n 0, 1) := by decide +kernel
theorem dX10_fault_16 : decode cX10_fault 16 = .ok (.invokevirtual 129, 3) := by decide +kernel
theorem dX10_fault_19 : decode cX10_fault 19 = .ok (.goto 19, 3) := by decide +kernel
theorem dX10_fault_22 : decode cX10_fault 22 = .ok (.iload_n 1, 1) := by decide +kernel
theorem dX10_fault_23 : decode cX10_fault 23 = .ok (.iconst 1, 1) := by decide +kernel
theorem dX10_fault_24 : decode cX10_fault 24 = .ok (.if_icmp .ne 10, 3) := by decide +kernel
theorem dX10_fault_27 : decode cX10_fault 27 = .ok (.aload_n 0, 1) := by decide +kernel
theorem dX10_fault_28 : decode cX10_fault 28 = .ok (.invokevirtual 132, 3) := by decide +kernel
theorem dX10_fault_31 : decode cX10_fault 31 = .ok (.goto 7, 3) := by decide +kernel
theorem dX10_fault_34 : decode cX10_fault 34 = .ok (.aload_n 0, 1) := by decide +kernel
theorem dX10_fault_35 : decode cX10_fault 35 = .ok (.invokevirtual 135, 3) := by decide +kernel
theorem dX10_fault_38 : decode cX10_fault 38 = .ok (.istore_n 2, 1) := by decide +kernel
theorem dX10_fault_39 : decode cX10_fault 39 = .ok (.iload_n 2, 1) := by decide +kernel
theorem dX10_fault_40 : decode cX10_fault 40 = .ok (.iconst (-1), 1) := by decide +kernel
theorem dX10_fault_41 : decode cX10_fault 41 = .ok (.if_icmp .ne 8, 3) := by decide +kernel
theorem dX10_fault_44 : decode cX10_fault 44 = .ok (.bipush (-4), 2) := by decide +kernel
theorem dX10_fault_46 : decode cX10_fault 46 = .ok (.goto 4, 3) := by decide +kernel
theorem dX10_fault_49 : decode cX10_fault 49 = .ok (.iload_n 2, 1) := by decide +kernel
theorem dX10_fault_50 : decode cX10_fault 50 = .ok (.ireturn, 1) := by decide +kernel
set_option maxRecDepth 20000 in
theorem ggX10_load_X10_tableFault : GoodIn wsX10_load wsX10_tableFault := goodIn_r _ [8, 1, 3, 2, 9, 10, 11, 7, 12, 13, 14, 15, 16, 17, 18, 19, 20, 21, 22, 23, 38, 39, 40, 41, 42, 43, 44, 45, 46, 47, 48, 49, 50, 51] (by decide +kernel) (by decide +kernel)
set_option maxRecDepth 20000 in
theorem gX10_load_X10_tableFault : GoodIn wsX10_load (wsV RX10 129 RX10 yX10_tableFault wsX10_tableFault) := goodIn_app (goodIn_of _ (by decide +kernel)) ggX10_load_X10_tableFault
set_option maxRecDepth 20000 in
theorem ggX10_load_X10_records : GoodIn wsX10_load wsX10_records := goodIn_r _ [27, 28, 29, 1, 30, 38, 39, 40, 41, 42, 43, 44, 45, 46, 47, 48, 49, 50, 51] (by decide +kernel) (by decide +kernel)
set_option maxRecDepth 20000 in
theorem gX10_load_X10_records : GoodIn wsX10_load (wsV RX10 87 RX10 yX10_records wsX10_records) := goodIn_app (goodIn_of _ (by decide +kernel)) ggX10_load_X10_records
set_option maxRecDepth 20000 in
theorem ggX10_load_X10_at : GoodIn wsX10_load wsX10_at := goodIn_r _ [33] (by decide +kernel) (by decide +kernel)
set_option maxRecDepth 20000 in
theorem gX10_load_X10_at : GoodIn wsX10_load (va_wsS RX10 45 yX10_at wsX10_at) := goodIn_app (goodIn_of _ (by decide +kernel)) ggX10_load_X10_at
set_option maxRecDepth 20000 in
theorem ggX10_load_X10_others : GoodIn wsX10_load wsX10_others := goodIn_r _ [37, 1, 30, 38, 39, 40, 41, 42, 43, 44, 45, 46, 47, 48, 49, 50, 51] (by decide +kernel) (by decide +kernel)
set_option maxRecDepth 20000 in
theorem gX10_load_X10_others : GoodIn wsX10_load (wsV RX10 100 RX10 yX10_others wsX10_others) := goodIn_app (goodIn_of _ (by decide +kernel)) ggX10_load_X10_others
theorem dX10_load_0 : decode cX10_load 0 = .ok (.aload_n 0, 1) := by decide +kernel
theorem dX10_load_1 : decode cX10_load 1 = .ok (.invokevirtual 129, 3) := by decide +kernel
theorem dX10_load_4 : decode cX10_load 4 = .ok (.iconst (-1), 1) := by decide +kernel
theorem dX10_load_5 : decode cX10_load 5 = .ok (.if_icmp .eq 6, 3) := by decide +kernel
theorem dX10_load_8 : decode cX10_load 8 = .ok (.bipush (-2), 2) := by decide +kernel
theorem dX10_load_10 : decode cX10_load 10 = .ok (.ireturn, 1) := by decide +kernel
theorem dX10_load_11 : decode cX10_load 11 = .ok (.aload_n 0, 1) := by decide +kernel
theorem dX10_load_12 : decode cX10_load 12 = .ok (.invokevirtual 87, 3) := by decide +kernel
theorem dX10_load_15 : decode cX10_load 15 = .ok (.iconst 0, 1) := by decide +kernel
theorem dX10_load_16 : decode cX10_load 16 = .ok (.istore_n 1, 1) := by decide +kernel
theorem dX10_load_17 : decode cX10_load 17 = .ok (.iload_n 1, 1) := by decide +kernel
theorem dX10_load_18 : decode cX10_load 18 = .ok (.aload_n 0, 1) := by decide +kernel
theorem dX10_load_19 : decode cX10_load 19 = .ok (.getfield 7, 3) := by decide +kernel
theorem dX10_load_22 : decode cX10_load 22 = .ok (.iconst 0, 1) := by decide +kernel
theorem dX10_load_23 : decode cX10_load 23 = .ok (.iaload, 1) := by decide +kernel
theorem dX10_load_24 : decode cX10_load 24 = .ok (.aload_n 0, 1) := by decide +kernel
theorem dX10_load_25 : decode cX10_load 25 = .ok (.getfield 7, 3) := by decide +kernel
theorem dX10_load_28 : decode cX10_load 28 = .ok (.iconst 0, 1) := by decide +kernel
theorem dX10_load_29 : decode cX10_load 29 = .ok (.iaload, 1) := by decide +kernel
theorem dX10_load_30 : decode cX10_load 30 = .ok (.imul, 1) := by decide +kernel
theorem dX10_load_31 : decode cX10_load 31 = .ok (.if_icmp .ge 67, 3) := by decide +kernel
theorem dX10_load_34 : decode cX10_load 34 = .ok (.aload_n 0, 1) := by decide +kernel
theorem dX10_load_35 : decode cX10_load 35 = .ok (.getfield 7, 3) := by decide +kernel
theorem dX10_load_38 : decode cX10_load 38 = .ok (.iload_n 1, 1) := by decide +kernel
theorem dX10_load_39 : decode cX10_load 39 = .ok (.aload_n 0, 1) := by decide +kernel
theorem dX10_load_40 : decode cX10_load 40 = .ok (.getfield 7, 3) := by decide +kernel
theorem dX10_load_43 : decode cX10_load 43 = .ok (.iconst 0, 1) := by decide +kernel
theorem dX10_load_44 : decode cX10_load 44 = .ok (.iaload, 1) := by decide +kernel
theorem dX10_load_45 : decode cX10_load 45 = .ok (.idiv, 1) := by decide +kernel
theorem dX10_load_46 : decode cX10_load 46 = .ok (.iload_n 1, 1) := by decide +kernel
theorem dX10_load_47 : decode cX10_load 47 = .ok (.aload_n 0, 1) := by decide +kernel
theorem dX10_load_48 : decode cX10_load 48 = .ok (.getfield 7, 3) := by decide +kernel
theorem dX10_load_51 : decode cX10_load 51 = .ok (.iconst 0, 1) := by decide +kernel
theorem dX10_load_52 : decode cX10_load 52 = .ok (.iaload, 1) := by decide +kernel
theorem dX10_load_53 : decode cX10_load 53 = .ok (.irem, 1) := by decide +kernel
theorem dX10_load_54 : decode cX10_load 54 = .ok (.invokestatic 45, 3) := by decide +kernel
theorem dX10_load_57 : decode cX10_load 57 = .ok (.aload_n 0, 1) := by decide +kernel
theorem dX10_load_58 : decode cX10_load 58 = .ok (.getfield 22, 3) := by decide +kernel
theorem dX10_load_61 : decode cX10_load 61 = .ok (.aload_n 0, 1) := by decide +kernel
theorem dX10_load_62 : decode cX10_load 62 = .ok (.getfield 7, 3) := by decide +kernel
theorem dX10_load_65 : decode cX10_load 65 = .ok (.iconst 0, 1) := by decide +kernel
theorem dX10_load_66 : decode cX10_load 66 = .ok (.iaload, 1) := by decide +kernel
theorem dX10_load_67 : decode cX10_load 67 = .ok (.iconst 1, 1) := by decide +kernel
theorem dX10_load_68 : decode cX10_load 68 = .ok (.iadd, 1) := by decide +kernel
theorem dX10_load_69 : decode cX10_load 69 = .ok (.iload_n 1, 1) := by decide +kernel
theorem dX10_load_70 : decode cX10_load 70 = .ok (.aload_n 0, 1) := by decide +kernel
theorem dX10_load_71 : decode cX10_load 71 = .ok (.getfield 7, 3) := by decide +kernel
theorem dX10_load_74 : decode cX10_load 74 = .ok (.iconst 0, 1) := by decide +kernel
theorem dX10_load_75 : decode cX10_load 75 = .ok (.iaload, 1) := by decide +kernel
theorem dX10_load_76 : decode cX10_load 76 = .ok (.idiv, 1) := by decide +kernel
theorem dX10_load_77 : decode cX10_load 77 = .ok (.imul, 1) := by decide +kernel
theorem dX10_load_78 : decode cX10_load 78 = .ok (.iload_n 1, 1) := by decide +kernel
theorem dX10_load_79 : decode cX10_load 79 = .ok (.aload_n 0, 1) := by decide +kernel
theorem dX10_load_80 : decode cX10_load 80 = .ok (.getfield 7, 3) := by decide +kernel
theorem dX10_load_83 : decode cX10_load 83 = .ok (.iconst 0, 1) := by decide +kernel
theorem dX10_load_84 : decode cX10_load 84 = .ok (.iaload, 1) := by decide +kernel
theorem dX10_load_85 : decode cX10_load 85 = .ok (.irem, 1) := by decide +kernel
theorem dX10_load_86 : decode cX10_load 86 = .ok (.iadd, 1) := by decide +kernel
theorem dX10_load_87 : decode cX10_load 87 = .ok (.iaload, 1) := by decide +kernel
theorem dX10_load_88 : decode cX10_load 88 = .ok (.bipush 48, 2) := by decide +kernel
theorem dX10_load_90 : decode cX10_load 90 = .ok (.isub, 1) := by decide +kernel
theorem dX10_load_91 : decode cX10_load 91 = .ok (.iastore, 1) := by decide +kernel
theorem dX10_load_92 : decode cX10_load 92 = .ok (.iinc 1 1, 3) := by decide +kernel
theorem dX10_load_95 : decode cX10_load 95 = .ok (.goto (-78), 3) := by decide +kernel
theorem dX10_load_98 : decode cX10_load 98 = .ok (.aload_n 0, 1) := by decide +kernel
theorem dX10_load_99 : decode cX10_load 99 = .ok (.iconst 0, 1) := by decide +kernel
theorem dX10_load_100 : decode cX10_load 100 = .ok (.putfield 111, 3) := by decide +kernel
theorem dX10_load_103 : decode cX10_load 103 = .ok (.aload_n 0, 1) := by decide +kernel
theorem dX10_load_104 : decode cX10_load 104 = .ok (.invokevirtual 100, 3) := by decide +kernel
theorem dX10_load_107 : decode cX10_load 107 = .ok (.ireturn, 1) := by decide +kernel
set_option maxRecDepth 20000 in
theorem ggX10_value_X10_sumFault : GoodIn wsX10_value wsX10_sumFault := goodIn_r _ [6, 7, 8, 9, 10, 11, 1, 12, 13, 14, 5, 15, 16, 17, 18, 19, 20, 21, 22, 23, 24, 25, 26, 27, 28, 29, 30, 31, 32, 33, 34, 35, 36, 37, 38, 39, 40, 41, 42, 43, 44, 45, 46, 47, 48, 49] (by decide +kernel) (by decide +kernel)
set_option maxRecDepth 20000 in
theorem gX10_value_X10_sumFault : GoodIn wsX10_value (wsV RX10 132 RX10 yX10_sumFault wsX10_sumFault) := goodIn_app (goodIn_of _ (by decide +kernel)) ggX10_value_X10_sumFault
theorem dX10_value_0 : decode cX10_value 0 = .ok (.aload_n 0, 1) := by decide +kernel
theorem dX10_value_1 : decode cX10_value 1 = .ok (.invokevirtual 132, 3) := by decide +kernel
theorem dX10_value_4 : decode cX10_value 4 = .ok (.iconst (-1), 1) := by decide +kernel
theorem dX10_value_5 : decode cX10_value 5 = .ok (.if_icmp .ne 10, 3) := by decide +kernel
theorem dX10_value_8 : decode cX10_value 8 = .ok (.aload_n 0, 1) := by decide +kernel
theorem dX10_value_9 : decode cX10_value 9 = .ok (.getfield 126, 3) := by decide +kernel
theorem dX10_value_12 : decode cX10_value 12 = .ok (.goto 5, 3) := by decide +kernel
theorem dX10_value_15 : decode cX10_value 15 = .ok (.bipush (-2), 2) := by decide +kernel
theorem dX10_value_17 : decode cX10_value 17 = .ok (.ireturn, 1) := by decide +kernel
set_option maxRecDepth 20000 in
theorem ggX10_step_X10_in : GoodIn wsX10_step wsX10_in := goodIn_r _ [6] (by decide +kernel) (by decide +kernel)
set_option maxRecDepth 20000 in
theorem gX10_step_X10_in : GoodIn wsX10_step (va_wsS RX10 41 yX10_in wsX10_in) := goodIn_app (goodIn_of _ (by decide +kernel)) ggX10_step_X10_in
set_option maxRecDepth 20000 in
theorem ggX10_step_X10_sumFault : GoodIn wsX10_step wsX10_sumFault := goodIn_r _ [10, 1, 11, 12, 13, 14, 15, 16, 17, 18, 5, 19, 20, 21, 22, 23, 24, 3, 4, 6, 25, 26, 27, 28, 2, 29, 30, 31, 32, 33, 34, 35, 36, 37, 38, 39, 40, 41, 42, 43, 44, 45, 46, 47, 48, 49] (by decide +kernel) (by decide +kernel)
set_option maxRecDepth 20000 in
theorem gX10_step_X10_sumFault : GoodIn wsX10_step (wsV RX10 132 RX10 yX10_sumFault wsX10_sumFault) := goodIn_app (goodIn_of _ (by decide +kernel)) ggX10_step_X10_sumFault
theorem dX10_step_0 : decode cX10_step 0 = .ok (.iload_n 1, 1) := by decide +kernel
theorem dX10_step_1 : decode cX10_step 1 = .ok (.ifCond .lt 12, 3) := by decide +kernel
theorem dX10_step_4 : decode cX10_step 4 = .ok (.iload_n 2, 1) := by decide +kernel
theorem dX10_step_5 : decode cX10_step 5 = .ok (.iconst 0, 1) := by decide +kernel
theorem dX10_step_6 : decode cX10_step 6 = .ok (.iconst 3, 1) := by decide +kernel
theorem dX10_step_7 : decode cX10_step 7 = .ok (.invokestatic 41, 3) := by decide +kernel
theorem dX10_step_10 : decode cX10_step 10 = .ok (.ifCond .ne 5, 3) := by decide +kernel
theorem dX10_step_13 : decode cX10_step 13 = .ok (.iconst (-1), 1) := by decide +kernel
theorem dX10_step_14 : decode cX10_step 14 = .ok (.ireturn, 1) := by decide +kernel
theorem dX10_step_15 : decode cX10_step 15 = .ok (.aload_n 0, 1) := by decide +kernel
theorem dX10_step_16 : decode cX10_step 16 = .ok (.invokevirtual 132, 3) := by decide +kernel
theorem dX10_step_19 : decode cX10_step 19 = .ok (.iconst (-1), 1) := by decide +kernel
theorem dX10_step_20 : decode cX10_step 20 = .ok (.if_icmp .eq 6, 3) := by decide +kernel
theorem dX10_step_23 : decode cX10_step 23 = .ok (.bipush (-2), 2) := by decide +kernel
theorem dX10_step_25 : decode cX10_step 25 = .ok (.ireturn, 1) := by decide +kernel
theorem dX10_step_26 : decode cX10_step 26 = .ok (.iload_n 1, 1) := by decide +kernel
theorem dX10_step_27 : decode cX10_step 27 = .ok (.aload_n 0, 1) := by decide +kernel
theorem dX10_step_28 : decode cX10_step 28 = .ok (.getfield 120, 3) := by decide +kernel
theorem dX10_step_31 : decode cX10_step 31 = .ok (.if_icmp .ge 16, 3) := by decide +kernel
theorem dX10_step_34 : decode cX10_step 34 = .ok (.aload_n 0, 1) := by decide +kernel
theorem dX10_step_35 : decode cX10_step 35 = .ok (.getfield 25, 3) := by decide +kernel
theorem dX10_step_38 : decode cX10_step 38 = .ok (.iconst 4, 1) := by decide +kernel
theorem dX10_step_39 : decode cX10_step 39 = .ok (.iload_n 1, 1) := by decide +kernel
theorem dX10_step_40 : decode cX10_step 40 = .ok (.imul, 1) := by decide +kernel
theorem dX10_step_41 : decode cX10_step 41 = .ok (.iload_n 2, 1) := by decide +kernel
theorem dX10_step_42 : decode cX10_step 42 = .ok (.iadd, 1) := by decide +kernel
theorem dX10_step_43 : decode cX10_step 43 = .ok (.iaload, 1) := by decide +kernel
theorem dX10_step_44 : decode cX10_step 44 = .ok (.goto 5, 3) := by decide +kernel
theorem dX10_step_47 : decode cX10_step 47 = .ok (.bipush (-4), 2) := by decide +kernel
theorem dX10_step_49 : decode cX10_step 49 = .ok (.ireturn, 1) := by decide +kernel
set_option maxRecDepth 20000 in
theorem ggX10_sum_X10_isToken : GoodIn wsX10_sum wsX10_isToken := goodIn_r _ [5, 6, 7, 8, 4, 9, 17, 18, 19, 20, 21, 22, 23, 24, 25, 26, 27, 28, 29, 30] (by decide +kernel) (by decide +kernel)
set_option maxRecDepth 20000 in
theorem gX10_sum_X10_isToken : GoodIn wsX10_sum (wsV RX10 94 RX10 yX10_isToken wsX10_isToken) := goodIn_app (goodIn_of _ (by decide +kernel)) ggX10_sum_X10_isToken
set_option maxRecDepth 20000 in
theorem ggX10_sum_X10_plain : GoodIn wsX10_sum wsX10_plain := goodIn_r _ [13, 6, 14, 15, 4, 16, 17, 18, 19, 20, 21, 22, 23, 24, 25, 26, 27, 28, 29, 30] (by decide +kernel) (by decide +kernel)
set_option maxRecDepth 20000 in
theorem gX10_sum_X10_plain : GoodIn wsX10_sum (wsV RX10 53 RX10 yX10_plain wsX10_plain) := goodIn_app (goodIn_of _ (by decide +kernel)) ggX10_sum_X10_plain
theorem dX10_sum_0 : decode cX10_sum 0 = .ok (.aload_n 0, 1) := by decide +kernel
theorem dX10_sum_1 : decode cX10_sum 1 = .ok (.iload_n 1, 1) := by decide +kernel
theorem dX10_sum_2 : decode cX10_sum 2 = .ok (.invokevirtual 94, 3) := by decide +kernel
theorem dX10_sum_5 : decode cX10_sum 5 = .ok (.ifCond .eq 20, 3) := by decide +kernel
theorem dX10_sum_8 : decode cX10_sum 8 = .ok (.aload_n 0, 1) := by decide +kernel
theorem dX10_sum_9 : decode cX10_sum 9 = .ok (.iload_n 2, 1) := by decide +kernel
theorem dX10_sum_10 : decode cX10_sum 10 = .ok (.invokevirtual 94, 3) := by decide +kernel
theorem dX10_sum_13 : decode cX10_sum 13 = .ok (.ifCond .eq 12, 3) := by decide +kernel
theorem dX10_sum_16 : decode cX10_sum 16 = .ok (.aload_n 0, 1) := by decide +kernel
theorem dX10_sum_17 : decode cX10_sum 17 = .ok (.iload_n 1, 1) := by decide +kernel
theorem dX10_sum_18 : decode cX10_sum 18 = .ok (.iload_n 2, 1) := by decide +kernel
theorem dX10_sum_19 : decode cX10_sum 19 = .ok (.invokevirtual 53, 3) := by decide +kernel
theorem dX10_sum_22 : decode cX10_sum 22 = .ok (.goto 4, 3) := by decide +kernel
theorem dX10_sum_25 : decode cX10_sum 25 = .ok (.iconst (-1), 1) := by decide +kernel
theorem dX10_sum_26 : decode cX10_sum 26 = .ok (.ireturn, 1) := by decide +kernel
set_option maxRecDepth 20000 in
theorem ggX10_between_X10_isToken : GoodIn wsX10_between wsX10_isToken := goodIn_r _ [6, 1, 7, 8, 5, 9, 17, 18, 19, 20, 21, 22, 23, 24, 25, 26, 27, 28, 29, 30] (by decide +kernel) (by decide +kernel)
set_option maxRecDepth 20000 in
theorem gX10_between_X10_isToken : GoodIn wsX10_between (wsV RX10 94 RX10 yX10_isToken wsX10_isToken) := goodIn_app (goodIn_of _ (by decide +kernel)) ggX10_between_X10_isToken
set_option maxRecDepth 20000 in
theorem ggX10_between_X10_plain : GoodIn wsX10_between wsX10_plain := goodIn_r _ [13, 1, 14, 15, 5, 16, 17, 18, 19, 20, 21, 22, 23, 24, 25, 26, 27, 28, 29, 30] (by decide +kernel) (by decide +kernel)
set_option maxRecDepth 20000 in
theorem gX10_between_X10_plain : GoodIn wsX10_between (wsV RX10 53 RX10 yX10_plain wsX10_plain) := goodIn_app (goodIn_of _ (by decide +kernel)) ggX10_between_X10_plain
theorem dX10_between_0 : decode cX10_between 0 = .ok (.aload_n 0, 1) := by decide +kernel
theorem dX10_between_1 : decode cX10_between 1 = .ok (.iload_n 1, 1) := by decide +kernel
theorem dX10_between_2 : decode cX10_between 2 = .ok (.invokevirtual 94, 3) := by decide +kernel
theorem dX10_between_5 : decode cX10_between 5 = .ok (.ifCond .eq 11, 3) := by decide +kernel
theorem dX10_between_8 : decode cX10_between 8 = .ok (.aload_n 0, 1) := by decide +kernel
theorem dX10_between_9 : decode cX10_between 9 = .ok (.iload_n 2, 1) := by decide +kernel
theorem dX10_between_10 : decode cX10_between 10 = .ok (.invokevirtual 94, 3) := by decide +kernel
theorem dX10_between_13 : decode cX10_between 13 = .ok (.ifCond .ne 5, 3) := by decide +kernel
theorem dX10_between_16 : decode cX10_between 16 = .ok (.iconst (-1), 1) := by decide +kernel
theorem dX10_between_17 : decode cX10_between 17 = .ok (.ireturn, 1) := by decide +kernel
theorem dX10_between_18 : decode cX10_between 18 = .ok (.iconst 0, 1) := by decide +kernel
theorem dX10_between_19 : decode cX10_between 19 = .ok (.istore 4, 2) := by decide +kernel
theorem dX10_between_21 : decode cX10_between 21 = .ok (.iconst 0, 1) := by decide +kernel
theorem dX10_between_22 : decode cX10_between 22 = .ok (.istore 5, 2) := by decide +kernel
theorem dX10_between_24 : decode cX10_between 24 = .ok (.iload 5, 2) := by decide +kernel
theorem dX10_between_26 : decode cX10_between 26 = .ok (.aload_n 0, 1) := by decide +kernel
theorem dX10_between_27 : decode cX10_between 27 = .ok (.getfield 7, 3) := by decide +kernel
theorem dX10_between_30 : decode cX10_between 30 = .ok (.iconst 0, 1) := by decide +kernel
theorem dX10_between_31 : decode cX10_between 31 = .ok (.iaload, 1) := by decide +kernel
theorem dX10_between_32 : decode cX10_between 32 = .ok (.if_icmp .ge 43, 3) := by decide +kernel
theorem dX10_between_35 : decode cX10_between 35 = .ok (.iload_n 3, 1) := by decide +kernel
theorem dX10_between_36 : decode cX10_between 36 = .ok (.ifCond .eq 13, 3) := by decide +kernel
theorem dX10_between_39 : decode cX10_between 39 = .ok (.aload_n 0, 1) := by decide +kernel
theorem dX10_between_40 : decode cX10_between 40 = .ok (.iload 5, 2) := by decide +kernel
theorem dX10_between_42 : decode cX10_between 42 = .ok (.iload_n 1, 1) := by decide +kernel
theorem dX10_between_43 : decode cX10_between 43 = .ok (.invokevirtual 53, 3) := by decide +kernel
theorem dX10_between_46 : decode cX10_between 46 = .ok (.goto 10, 3) := by decide +kernel
theorem dX10_between_49 : decode cX10_between 49 = .ok (.aload_n 0, 1) := by decide +kernel
theorem dX10_between_50 : decode cX10_between 50 = .ok (.iload_n 1, 1) := by decide +kernel
theorem dX10_between_51 : decode cX10_between 51 = .ok (.iload 5, 2) := by decide +kernel
theorem dX10_between_53 : decode cX10_between 53 = .ok (.invokevirtual 53, 3) := by decide +kernel
theorem dX10_between_56 : decode cX10_between 56 = .ok (.iload_n 2, 1) := by decide +kernel
theorem dX10_between_57 : decode cX10_between 57 = .ok (.if_icmp .ne 8, 3) := by decide +kernel
theorem dX10_between_60 : decode cX10_between 60 = .ok (.iload 5, 2) := by decide +kernel
theorem dX10_between_62 : decode cX10_between 62 = .ok (.goto 5, 3) := by decide +kernel
theorem dX10_between_65 : decode cX10_between 65 = .ok (.iload 4, 2) := by decide +kernel
theorem dX10_between_67 : decode cX10_between 67 = .ok (.istore 4, 2) := by decide +kernel
theorem dX10_between_69 : decode cX10_between 69 = .ok (.iinc 5 1, 3) := by decide +kernel
theorem dX10_between_72 : decode cX10_between 72 = .ok (.goto (-48), 3) := by decide +kernel
theorem dX10_between_75 : decode cX10_between 75 = .ok (.iload 4, 2) := by decide +kernel
theorem dX10_between_77 : decode cX10_between 77 = .ok (.ireturn, 1) := by decide +kernel
set_option maxRecDepth 20000 in
theorem ggX10_roundOf_X10_plain : GoodIn wsX10_roundOf wsX10_plain := goodIn_r _ [5, 6, 7, 8, 4, 9, 10, 11, 12, 13, 14, 15, 16, 17, 18, 19, 20, 21, 22, 23] (by decide +kernel) (by decide +kernel)
set_option maxRecDepth 20000 in
theorem gX10_roundOf_X10_plain : GoodIn wsX10_roundOf (wsV RX10 53 RX10 yX10_plain wsX10_plain) := goodIn_app (goodIn_of _ (by decide +kernel)) ggX10_roundOf_X10_plain
theorem dX10_roundOf_0 : decode cX10_roundOf 0 = .ok (.iload_n 1, 1) := by decide +kernel
theorem dX10_roundOf_1 : decode cX10_roundOf 1 = .ok (.istore 4, 2) := by decide +kernel
theorem dX10_roundOf_3 : decode cX10_roundOf 3 = .ok (.iconst 0, 1) := by decide +kernel
theorem dX10_roundOf_4 : decode cX10_roundOf 4 = .ok (.istore 5, 2) := by decide +kernel
theorem dX10_roundOf_6 : decode cX10_roundOf 6 = .ok (.iload_n 3, 1) := by decide +kernel
theorem dX10_roundOf_7 : decode cX10_roundOf 7 = .ok (.ifCond .eq 13, 3) := by decide +kernel
theorem dX10_roundOf_10 : decode cX10_roundOf 10 = .ok (.aload_n 0, 1) := by decide +kernel
theorem dX10_roundOf_11 : decode cX10_roundOf 11 = .ok (.iload_n 2, 1) := by decide +kernel
theorem dX10_roundOf_12 : decode cX10_roundOf 12 = .ok (.iload 4, 2) := by decide +kernel
theorem dX10_roundOf_14 : decode cX10_roundOf 14 = .ok (.invokevirtual 53, 3) := by decide +kernel
theorem dX10_roundOf_17 : decode cX10_roundOf 17 = .ok (.goto 10, 3) := by decide +kernel
theorem dX10_roundOf_20 : decode cX10_roundOf 20 = .ok (.aload_n 0, 1) := by decide +kernel
theorem dX10_roundOf_21 : decode cX10_roundOf 21 = .ok (.iload 4, 2) := by decide +kernel
theorem dX10_roundOf_23 : decode cX10_roundOf 23 = .ok (.iload_n 2, 1) := by decide +kernel
theorem dX10_roundOf_24 : decode cX10_roundOf 24 = .ok (.invokevirtual 53, 3) := by decide +kernel
theorem dX10_roundOf_27 : decode cX10_roundOf 27 = .ok (.istore 4, 2) := by decide +kernel
theorem dX10_roundOf_29 : decode cX10_roundOf 29 = .ok (.iinc 5 1, 3) := by decide +kernel
theorem dX10_roundOf_32 : decode cX10_roundOf 32 = .ok (.iload 4, 2) := by decide +kernel
theorem dX10_roundOf_34 : decode cX10_roundOf 34 = .ok (.iload_n 1, 1) := by decide +kernel
theorem dX10_roundOf_35 : decode cX10_roundOf 35 = .ok (.if_icmp .eq 10, 3) := by decide +kernel
theorem dX10_roundOf_38 : decode cX10_roundOf 38 = .ok (.iload 5, 2) := by decide +kernel
theorem dX10_roundOf_40 : decode cX10_roundOf 40 = .ok (.bipush 8, 2) := by decide +kernel
theorem dX10_roundOf_42 : decode cX10_roundOf 42 = .ok (.if_icmp .lt (-36), 3) := by decide +kernel
theorem dX10_roundOf_45 : decode cX10_roundOf 45 = .ok (.iload 5, 2) := by decide +kernel
theorem dX10_roundOf_47 : decode cX10_roundOf 47 = .ok (.ireturn, 1) := by decide +kernel
set_option maxRecDepth 20000 in
theorem ggX10_returns_X10_isToken : GoodIn wsX10_returns wsX10_isToken := goodIn_r _ [5, 6, 7, 8, 4, 9, 21, 22, 23, 24, 25, 26, 27, 28, 29, 30, 31, 32, 33, 34] (by decide +kernel) (by decide +kernel)
set_option maxRecDepth 20000 in
theorem gX10_returns_X10_isToken : GoodIn wsX10_returns (wsV RX10 94 RX10 yX10_isToken wsX10_isToken) := goodIn_app (goodIn_of _ (by decide +kernel)) ggX10_returns_X10_isToken
set_option maxRecDepth 20000 in
theorem ggX10_returns_X10_roundOf : GoodIn wsX10_returns wsX10_roundOf := goodIn_r _ [13, 14, 15, 16, 4, 17, 6, 18, 19, 20, 21, 22, 23, 24, 25, 26, 27, 28, 29, 30, 31, 32, 33, 34] (by decide +kernel) (by decide +kernel)
set_option maxRecDepth 20000 in
theorem gX10_returns_X10_roundOf : GoodIn wsX10_returns (wsV RX10 138 RX10 yX10_roundOf wsX10_roundOf) := goodIn_app (goodIn_of _ (by decide +kernel)) ggX10_returns_X10_roundOf
theorem dX10_returns_0 : decode cX10_returns 0 = .ok (.aload_n 0, 1) := by decide +kernel
theorem dX10_returns_1 : decode cX10_returns 1 = .ok (.iload_n 1, 1) := by decide +kernel
theorem dX10_returns_2 : decode cX10_returns 2 = .ok (.invokevirtual 94, 3) := by decide +kernel
theorem dX10_returns_5 : decode cX10_returns 5 = .ok (.ifCond .eq 21, 3) := by decide +kernel
theorem dX10_returns_8 : decode cX10_returns 8 = .ok (.aload_n 0, 1) := by decide +kernel
theorem dX10_returns_9 : decode cX10_returns 9 = .ok (.iload_n 2, 1) := by decide +kernel
theorem dX10_returns_10 : decode cX10_returns 10 = .ok (.invokevirtual 94, 3) := by decide +kernel
theorem dX10_returns_13 : decode cX10_returns 13 = .ok (.ifCond .eq 13, 3) := by decide +kernel
theorem dX10_returns_16 : decode cX10_returns 16 = .ok (.aload_n 0, 1) := by decide +kernel
theorem dX10_returns_17 : decode cX10_returns 17 = .ok (.iload_n 1, 1) := by decide +kernel
theorem dX10_returns_18 : decode cX10_returns 18 = .ok (.iload_n 2, 1) := by decide +kernel
theorem dX10_returns_19 : decode cX10_returns 19 = .ok (.iload_n 3, 1) := by decide +kernel
theorem dX10_returns_20 : decode cX10_returns 20 = .ok (.invokevirtual 138, 3) := by decide +kernel
theorem dX10_returns_23 : decode cX10_returns 23 = .ok (.goto 4, 3) := by decide +kernel
theorem dX10_returns_26 : decode cX10_returns 26 = .ok (.iconst (-1), 1) := by decide +kernel
theorem dX10_returns_27 : decode cX10_returns 27 = .ok (.ireturn, 1) := by decide +kernel
set_option maxRecDepth 20000 in
theorem ggX10_isIdle_X10_plain : GoodIn wsX10_isIdle wsX10_plain := goodIn_r _ [6, 1, 7, 8, 5, 9, 10, 11, 12, 13, 14, 15, 16, 17, 18, 19, 20, 21, 22, 23] (by decide +kernel) (by decide +kernel)
set_option maxRecDepth 20000 in
theorem gX10_isIdle_X10_plain : GoodIn wsX10_isIdle (wsV RX10 53 RX10 yX10_plain wsX10_plain) := goodIn_app (goodIn_of _ (by decide +kernel)) ggX10_isIdle_X10_plain
theorem dX10_isIdle_0 : decode cX10_isIdle 0 = .ok (.iconst 1, 1) := by decide +kernel
theorem dX10_isIdle_1 : decode cX10_isIdle 1 = .ok (.istore_n 3, 1) := by decide +kernel
theorem dX10_isIdle_2 : decode cX10_isIdle 2 = .ok (.iconst 0, 1) := by decide +kernel
theorem dX10_isIdle_3 : decode cX10_isIdle 3 = .ok (.istore 4, 2) := by decide +kernel
theorem dX10_isIdle_5 : decode cX10_isIdle 5 = .ok (.iload 4, 2) := by decide +kernel
theorem dX10_isIdle_7 : decode cX10_isIdle 7 = .ok (.aload_n 0, 1) := by decide +kernel
theorem dX10_isIdle_8 : decode cX10_isIdle 8 = .ok (.getfield 7, 3) := by decide +kernel
theorem dX10_isIdle_11 : decode cX10_isIdle 11 = .ok (.iconst 0, 1) := by decide +kernel
theorem dX10_isIdle_12 : decode cX10_isIdle 12 = .ok (.iaload, 1) := by decide +kernel
theorem dX10_isIdle_13 : decode cX10_isIdle 13 = .ok (.if_icmp .ge 45, 3) := by decide +kernel
theorem dX10_isIdle_16 : decode cX10_isIdle 16 = .ok (.iload_n 3, 1) := by decide +kernel
theorem dX10_isIdle_17 : decode cX10_isIdle 17 = .ok (.ifCond .eq 33, 3) := by decide +kernel
theorem dX10_isIdle_20 : decode cX10_isIdle 20 = .ok (.iload_n 2, 1) := by decide +kernel
theorem dX10_isIdle_21 : decode cX10_isIdle 21 = .ok (.ifCond .eq 13, 3) := by decide +kernel
theorem dX10_isIdle_24 : decode cX10_isIdle 24 = .ok (.aload_n 0, 1) := by decide +kernel
theorem dX10_isIdle_25 : decode cX10_isIdle 25 = .ok (.iload_n 1, 1) := by decide +kernel
theorem dX10_isIdle_26 : decode cX10_isIdle 26 = .ok (.iload 4, 2) := by decide +kernel
theorem dX10_isIdle_28 : decode cX10_isIdle 28 = .ok (.invokevirtual 53, 3) := by decide +kernel
theorem dX10_isIdle_31 : decode cX10_isIdle 31 = .ok (.goto 10, 3) := by decide +kernel
theorem dX10_isIdle_34 : decode cX10_isIdle 34 = .ok (.aload_n 0, 1) := by decide +kernel
theorem dX10_isIdle_35 : decode cX10_isIdle 35 = .ok (.iload 4, 2) := by decide +kernel
theorem dX10_isIdle_37 : decode cX10_isIdle 37 = .ok (.iload_n 1, 1) := by decide +kernel
theorem dX10_isIdle_38 : decode cX10_isIdle 38 = .ok (.invokevirtual 53, 3) := by decide +kernel
theorem dX10_isIdle_41 : decode cX10_isIdle 41 = .ok (.iload 4, 2) := by decide +kernel
theorem dX10_isIdle_43 : decode cX10_isIdle 43 = .ok (.if_icmp .ne 7, 3) := by decide +kernel
theorem dX10_isIdle_46 : decode cX10_isIdle 46 = .ok (.iconst 1, 1) := by decide +kernel
theorem dX10_isIdle_47 : decode cX10_isIdle 47 = .ok (.goto 4, 3) := by decide +kernel
theorem dX10_isIdle_50 : decode cX10_isIdle 50 = .ok (.iconst 0, 1) := by decide +kernel
theorem dX10_isIdle_51 : decode cX10_isIdle 51 = .ok (.istore_n 3, 1) := by decide +kernel
theorem dX10_isIdle_52 : decode cX10_isIdle 52 = .ok (.iinc 4 1, 3) := by decide +kernel
theorem dX10_isIdle_55 : decode cX10_isIdle 55 = .ok (.goto (-50), 3) := by decide +kernel
theorem dX10_isIdle_58 : decode cX10_isIdle 58 = .ok (.iload_n 3, 1) := by decide +kernel
theorem dX10_isIdle_59 : decode cX10_isIdle 59 = .ok (.ireturn, 1) := by decide +kernel
set_option maxRecDepth 20000 in
theorem ggX10_rounds_X10_plain : GoodIn wsX10_rounds wsX10_plain := goodIn_r _ [6, 1, 7, 8, 5, 9, 10, 11, 12, 13, 14, 15, 16, 17, 18, 19, 20, 21, 22, 23] (by decide +kernel) (by decide +kernel)
set_option maxRecDepth 20000 in
theorem gX10_rounds_X10_plain : GoodIn wsX10_rounds (wsV RX10 53 RX10 yX10_plain wsX10_plain) := goodIn_app (goodIn_of _ (by decide +kernel)) ggX10_rounds_X10_plain
theorem dX10_rounds_0 : decode cX10_rounds 0 = .ok (.iconst 0, 1) := by decide +kernel
theorem dX10_rounds_1 : decode cX10_rounds 1 = .ok (.istore_n 2, 1) := by decide +kernel
theorem dX10_rounds_2 : decode cX10_rounds 2 = .ok (.iconst 0, 1) := by decide +kernel
theorem dX10_rounds_3 : decode cX10_rounds 3 = .ok (.istore_n 3, 1) := by decide +kernel
theorem dX10_rounds_4 : decode cX10_rounds 4 = .ok (.iload_n 3, 1) := by decide +kernel
theorem dX10_rounds_5 : decode cX10_rounds 5 = .ok (.aload_n 0, 1) := by decide +kernel
theorem dX10_rounds_6 : decode cX10_rounds 6 = .ok (.getfield 7, 3) := by decide +kernel
theorem dX10_rounds_9 : decode cX10_rounds 9 = .ok (.iconst 0, 1) := by decide +kernel
theorem dX10_rounds_10 : decode cX10_rounds 10 = .ok (.iaload, 1) := by decide +kernel
theorem dX10_rounds_11 : decode cX10_rounds 11 = .ok (.if_icmp .ge 74, 3) := by decide +kernel
theorem dX10_rounds_14 : decode cX10_rounds 14 = .ok (.iload_n 3, 1) := by decide +kernel
theorem dX10_rounds_15 : decode cX10_rounds 15 = .ok (.istore 4, 2) := by decide +kernel
theorem dX10_rounds_17 : decode cX10_rounds 17 = .ok (.iload_n 3, 1) := by decide +kernel
theorem dX10_rounds_18 : decode cX10_rounds 18 = .ok (.istore 5, 2) := by decide +kernel
theorem dX10_rounds_20 : decode cX10_rounds 20 = .ok (.iconst 0, 1) := by decide +kernel
theorem dX10_rounds_21 : decode cX10_rounds 21 = .ok (.istore 6, 2) := by decide +kernel
theorem dX10_rounds_23 : decode cX10_rounds 23 = .ok (.iload 6, 2) := by decide +kernel
theorem dX10_rounds_25 : decode cX10_rounds 25 = .ok (.aload_n 0, 1) := by decide +kernel
theorem dX10_rounds_26 : decode cX10_rounds 26 = .ok (.getfield 7, 3) := by decide +kernel
theorem dX10_rounds_29 : decode cX10_rounds 29 = .ok (.iconst 0, 1) := by decide +kernel
theorem dX10_rounds_30 : decode cX10_rounds 30 = .ok (.iaload, 1) := by decide +kernel
theorem dX10_rounds_31 : decode cX10_rounds 31 = .ok (.if_icmp .ge 34, 3) := by decide +kernel
theorem dX10_rounds_34 : decode cX10_rounds 34 = .ok (.aload_n 0, 1) := by decide +kernel
theorem dX10_rounds_35 : decode cX10_rounds 35 = .ok (.iload_n 1, 1) := by decide +kernel
theorem dX10_rounds_36 : decode cX10_rounds 36 = .ok (.iload 5, 2) := by decide +kernel
theorem dX10_rounds_38 : decode cX10_rounds 38 = .ok (.invokevirtual 53, 3) := by decide +kernel
theorem dX10_rounds_41 : decode cX10_rounds 41 = .ok (.istore 5, 2) := by decide +kernel
theorem dX10_rounds_43 : decode cX10_rounds 43 = .ok (.iload 5, 2) := by decide +kernel
theorem dX10_rounds_45 : decode cX10_rounds 45 = .ok (.iload 4, 2) := by decide +kernel
theorem dX10_rounds_47 : decode cX10_rounds 47 = .ok (.if_icmp .ge 8, 3) := by decide +kernel
theorem dX10_rounds_50 : decode cX10_rounds 50 = .ok (.iload 5, 2) := by decide +kernel
theorem dX10_rounds_52 : decode cX10_rounds 52 = .ok (.goto 5, 3) := by decide +kernel
theorem dX10_rounds_55 : decode cX10_rounds 55 = .ok (.iload 4, 2) := by decide +kernel
theorem dX10_rounds_57 : decode cX10_rounds 57 = .ok (.istore 4, 2) := by decide +kernel
theorem dX10_rounds_59 : decode cX10_rounds 59 = .ok (.iinc 6 1, 3) := by decide +kernel
theorem dX10_rounds_62 : decode cX10_rounds 62 = .ok (.goto (-39), 3) := by decide +kernel
theorem dX10_rounds_65 : decode cX10_rounds 65 = .ok (.iload_n 2, 1) := by decide +kernel
theorem dX10_rounds_66 : decode cX10_rounds 66 = .ok (.iload 4, 2) := by decide +kernel
theorem dX10_rounds_68 : decode cX10_rounds 68 = .ok (.iload_n 3, 1) := by decide +kernel
theorem dX10_rounds_69 : decode cX10_rounds 69 = .ok (.if_icmp .ne 7, 3) := by decide +kernel
theorem dX10_rounds_72 : decode cX10_rounds 72 = .ok (.iconst 1, 1) := by decide +kernel
theorem dX10_rounds_73 : decode cX10_rounds 73 = .ok (.goto 4, 3) := by decide +kernel
theorem dX10_rounds_76 : decode cX10_rounds 76 = .ok (.iconst 0, 1) := by decide +kernel
theorem dX10_rounds_77 : decode cX10_rounds 77 = .ok (.iadd, 1) := by decide +kernel
theorem dX10_rounds_78 : decode cX10_rounds 78 = .ok (.istore_n 2, 1) := by decide +kernel
theorem dX10_rounds_79 : decode cX10_rounds 79 = .ok (.iinc 3 1, 3) := by decide +kernel
theorem dX10_rounds_82 : decode cX10_rounds 82 = .ok (.goto (-78), 3) := by decide +kernel
theorem dX10_rounds_85 : decode cX10_rounds 85 = .ok (.iload_n 2, 1) := by decide +kernel
theorem dX10_rounds_86 : decode cX10_rounds 86 = .ok (.ireturn, 1) := by decide +kernel
set_option maxRecDepth 20000 in
theorem ggX10_again_X10_roundOf : GoodIn wsX10_again wsX10_roundOf := goodIn_r _ [6, 7, 8, 9, 5, 10, 1, 11, 12, 13, 14, 15, 16, 17, 18, 19, 20, 21, 22, 23, 24, 25, 26, 27] (by decide +kernel) (by decide +kernel)
set_option maxRecDepth 20000 in
theorem gX10_again_X10_roundOf : GoodIn wsX10_again (wsV RX10 138 RX10 yX10_roundOf wsX10_roundOf) := goodIn_app (goodIn_of _ (by decide +kernel)) ggX10_again_X10_roundOf
theorem dX10_again_0 : decode cX10_again 0 = .ok (.iconst 1, 1) := by decide +kernel
theorem dX10_again_1 : decode cX10_again 1 = .ok (.istore_n 2, 1) := by decide +kernel
theorem dX10_again_2 : decode cX10_again 2 = .ok (.iconst 0, 1) := by decide +kernel
theorem dX10_again_3 : decode cX10_again 3 = .ok (.istore_n 3, 1) := by decide +kernel
theorem dX10_again_4 : decode cX10_again 4 = .ok (.iload_n 3, 1) := by decide +kernel
theorem dX10_again_5 : decode cX10_again 5 = .ok (.ifCond .ne 61, 3) := by decide +kernel
theorem dX10_again_8 : decode cX10_again 8 = .ok (.iload_n 2, 1) := by decide +kernel
theorem dX10_again_9 : decode cX10_again 9 = .ok (.sipush 840, 3) := by decide +kernel
theorem dX10_again_12 : decode cX10_again 12 = .ok (.if_icmp .gt 54, 3) := by decide +kernel
theorem dX10_again_15 : decode cX10_again 15 = .ok (.iconst 1, 1) := by decide +kernel
theorem dX10_again_16 : decode cX10_again 16 = .ok (.istore_n 3, 1) := by decide +kernel
theorem dX10_again_17 : decode cX10_again 17 = .ok (.iconst 0, 1) := by decide +kernel
theorem dX10_again_18 : decode cX10_again 18 = .ok (.istore 4, 2) := by decide +kernel
theorem dX10_again_20 : decode cX10_again 20 = .ok (.iload 4, 2) := by decide +kernel
theorem dX10_again_22 : decode cX10_again 22 = .ok (.aload_n 0, 1) := by decide +kernel
theorem dX10_again_23 : decode cX10_again 23 = .ok (.getfield 7, 3) := by decide +kernel
theorem dX10_again_26 : decode cX10_again 26 = .ok (.iconst 0, 1) := by decide +kernel
theorem dX10_again_27 : decode cX10_again 27 = .ok (.iaload, 1) := by decide +kernel
theorem dX10_again_28 : decode cX10_again 28 = .ok (.if_icmp .ge 32, 3) := by decide +kernel
theorem dX10_again_31 : decode cX10_again 31 = .ok (.iload_n 3, 1) := by decide +kernel
theorem dX10_again_32 : decode cX10_again 32 = .ok (.ifCond .eq 20, 3) := by decide +kernel
theorem dX10_again_35 : decode cX10_again 35 = .ok (.iload_n 2, 1) := by decide +kernel
theorem dX10_again_36 : decode cX10_again 36 = .ok (.aload_n 0, 1) := by decide +kernel
theorem dX10_again_37 : decode cX10_again 37 = .ok (.iload 4, 2) := by decide +kernel
theorem dX10_again_39 : decode cX10_again 39 = .ok (.iload_n 1, 1) := by decide +kernel
theorem dX10_again_40 : decode cX10_again 40 = .ok (.iconst 1, 1) := by decide +kernel
theorem dX10_again_41 : decode cX10_again 41 = .ok (.invokevirtual 138, 3) := by decide +kernel
theorem dX10_again_44 : decode cX10_again 44 = .ok (.irem, 1) := by decide +kernel
theorem dX10_again_45 : decode cX10_again 45 = .ok (.ifCond .ne 7, 3) := by decide +kernel
theorem dX10_again_48 : decode cX10_again 48 = .ok (.iconst 1, 1) := by decide +kernel
theorem dX10_again_49 : decode cX10_again 49 = .ok (.goto 4, 3) := by decide +kernel
theorem dX10_again_52 : decode cX10_again 52 = .ok (.iconst 0, 1) := by decide +kernel
theorem dX10_again_53 : decode cX10_again 53 = .ok (.istore_n 3, 1) := by decide +kernel
theorem dX10_again_54 : decode cX10_again 54 = .ok (.iinc 4 1, 3) := by decide +kernel
theorem dX10_again_57 : decode cX10_again 57 = .ok (.goto (-37), 3) := by decide +kernel
theorem dX10_again_60 : decode cX10_again 60 = .ok (.iinc 2 1, 3) := by decide +kernel
theorem dX10_again_63 : decode cX10_again 63 = .ok (.goto (-59), 3) := by decide +kernel
theorem dX10_again_66 : decode cX10_again 66 = .ok (.iload_n 2, 1) := by decide +kernel
theorem dX10_again_67 : decode cX10_again 67 = .ok (.iconst 1, 1) := by decide +kernel
theorem dX10_again_68 : decode cX10_again 68 = .ok (.isub, 1) := by decide +kernel
theorem dX10_again_69 : decode cX10_again 69 = .ok (.ireturn, 1) := by decide +kernel
set_option maxRecDepth 20000 in
theorem ggX10_token_X10_isToken : GoodIn wsX10_token wsX10_isToken := goodIn_r _ [5, 6, 7, 8, 4, 9, 56, 57, 58, 59, 60, 61, 62, 63, 64, 65, 66, 67, 68, 69] (by decide +kernel) (by decide +kernel)
set_option maxRecDepth 20000 in
theorem gX10_token_X10_isToken : GoodIn wsX10_token (wsV RX10 94 RX10 yX10_isToken wsX10_isToken) := goodIn_app (goodIn_of _ (by decide +kernel)) ggX10_token_X10_isToken
set_option maxRecDepth 20000 in
theorem ggX10_token_X10_commuteWith : GoodIn wsX10_token wsX10_commuteWith := goodIn_r _ [13, 6, 14, 15, 16, 4, 17, 18, 19, 20, 56, 57, 58, 59, 60, 61, 62, 63, 64, 65, 66, 67, 68, 69] (by decide +kernel) (by decide +kernel)
set_option maxRecDepth 20000 in
theorem gX10_token_X10_commuteWith : GoodIn wsX10_token (wsV RX10 63 RX10 yX10_commuteWith wsX10_commuteWith) := goodIn_app (goodIn_of _ (by decide +kernel)) ggX10_token_X10_commuteWith
set_option maxRecDepth 20000 in
theorem ggX10_token_X10_pairsOf : GoodIn wsX10_token wsX10_pairsOf := goodIn_r _ [24, 6, 25, 26, 27, 4, 28, 14, 15, 16, 17, 18, 19, 20, 56, 57, 58, 59, 60, 61, 62, 63, 64, 65, 66, 67, 68, 69] (by decide +kernel) (by decide +kernel)
set_option maxRecDepth 20000 in
theorem gX10_token_X10_pairsOf : GoodIn wsX10_token (wsV RX10 59 RX10 yX10_pairsOf wsX10_pairsOf) := goodIn_app (goodIn_of _ (by decide +kernel)) ggX10_token_X10_pairsOf
set_option maxRecDepth 20000 in
theorem ggX10_token_X10_isIdle : GoodIn wsX10_token wsX10_isIdle := goodIn_r _ [32, 6, 14, 15, 16, 4, 17, 18, 19, 20, 56, 57, 58, 59, 60, 61, 62, 63, 64, 65, 66, 67, 68, 69] (by decide +kernel) (by decide +kernel)
set_option maxRecDepth 20000 in
theorem gX10_token_X10_isIdle : GoodIn wsX10_token (wsV RX10 142 RX10 yX10_isIdle wsX10_isIdle) := goodIn_app (goodIn_of _ (by decide +kernel)) ggX10_token_X10_isIdle
set_option maxRecDepth 20000 in
theorem ggX10_token_X10_ringOf : GoodIn wsX10_token wsX10_ringOf := goodIn_r _ [36, 6, 37, 38, 4, 39, 40, 41, 42, 43, 14, 15, 16, 17, 18, 19, 20, 56, 57, 58, 59, 60, 61, 62, 63, 64, 65, 66, 67, 68, 69] (by decide +kernel) (by decide +kernel)
set_option maxRecDepth 20000 in
theorem gX10_token_X10_ringOf : GoodIn wsX10_token (wsV RX10 73 RX10 yX10_ringOf wsX10_ringOf) := goodIn_app (goodIn_of _ (by decide +kernel)) ggX10_token_X10_ringOf
set_option maxRecDepth 20000 in
theorem ggX10_token_X10_bits : GoodIn wsX10_token wsX10_bits := goodIn_r _ [39] (by decide +kernel) (by decide +kernel)
set_option maxRecDepth 20000 in
theorem gX10_token_X10_bits : GoodIn wsX10_token (va_wsS RX10 70 yX10_bits wsX10_bits) := goodIn_app (goodIn_of _ (by decide +kernel)) ggX10_token_X10_bits
set_option maxRecDepth 20000 in
theorem ggX10_token_X10_plain : GoodIn wsX10_token wsX10_plain := goodIn_r _ [17, 6, 18, 19, 4, 20, 56, 57, 58, 59, 60, 61, 62, 63, 64, 65, 66, 67, 68, 69] (by decide +kernel) (by decide +kernel)
set_option maxRecDepth 20000 in
theorem gX10_token_X10_plain : GoodIn wsX10_token (wsV RX10 53 RX10 yX10_plain wsX10_plain) := goodIn_app (goodIn_of _ (by decide +kernel)) ggX10_token_X10_plain
set_option maxRecDepth 20000 in
theorem ggX10_token_X10_rounds : GoodIn wsX10_token wsX10_rounds := goodIn_r _ [47, 6, 14, 15, 16, 4, 17, 18, 19, 20, 56, 57, 58, 59, 60, 61, 62, 63, 64, 65, 66, 67, 68, 69] (by decide +kernel) (by decide +kernel)
set_option maxRecDepth 20000 in
theorem gX10_token_X10_rounds : GoodIn wsX10_token (wsV RX10 146 RX10 yX10_rounds wsX10_rounds) := goodIn_app (goodIn_of _ (by decide +kernel)) ggX10_token_X10_rounds
set_option maxRecDepth 20000 in
theorem ggX10_token_X10_again : GoodIn wsX10_token wsX10_again := goodIn_r _ [51, 6, 52, 53, 54, 4, 55, 14, 15, 16, 17, 18, 19, 20, 56, 57, 58, 59, 60, 61, 62, 63, 64, 65, 66, 67, 68, 69] (by decide +kernel) (by decide +kernel)
set_option maxRecDepth 20000 in
theorem gX10_token_X10_again : GoodIn wsX10_token (wsV RX10 149 RX10 yX10_again wsX10_again) := goodIn_app (goodIn_of _ (by decide +kernel)) ggX10_token_X10_again
theorem dX10_token_0 : decode cX10_token 0 = .ok (.aload_n 0, 1) := by decide +kernel
theorem dX10_token_1 : decode cX10_token 1 = .ok (.iload_n 1, 1) := by decide +kernel
theorem dX10_token_2 : decode cX10_token 2 = .ok (.invokevirtual 94, 3) := by decide +kernel
theorem dX10_token_5 : decode cX10_token 5 = .ok (.ifCond .ne 5, 3) := by decide +kernel
theorem dX10_token_8 : decode cX10_token 8 = .ok (.iconst (-1), 1) := by decide +kernel
theorem dX10_token_9 : decode cX10_token 9 = .ok (.ireturn, 1) := by decide +kernel
theorem dX10_token_10 : decode cX10_token 10 = .ok (.iload_n 2, 1) := by decide +kernel
theorem dX10_token_11 : decode cX10_token 11 = .ok (.tableswitch 129 0 8 #[49, 55, 61, 76, 91, 102, 110, 117, 123], 49) := by decide +kernel
theorem dX10_token_60 : decode cX10_token 60 = .ok (.aload_n 0, 1) := by decide +kernel
theorem dX10_token_61 : decode cX10_token 61 = .ok (.iload_n 1, 1) := by decide +kernel
theorem dX10_token_62 : decode cX10_token 62 = .ok (.invokevirtual 63, 3) := by decide +kernel
theorem dX10_token_65 : decode cX10_token 65 = .ok (.ireturn, 1) := by decide +kernel
theorem dX10_token_66 : decode cX10_token 66 = .ok (.aload_n 0, 1) := by decide +kernel
theorem dX10_token_67 : decode cX10_token 67 = .ok (.iload_n 1, 1) := by decide +kernel
theorem dX10_token_68 : decode cX10_token 68 = .ok (.invokevirtual 59, 3) := by decide +kernel
theorem dX10_token_71 : decode cX10_token 71 = .ok (.ireturn, 1) := by decide +kernel
theorem dX10_token_72 : decode cX10_token 72 = .ok (.aload_n 0, 1) := by decide +kernel
theorem dX10_token_73 : decode cX10_token 73 = .ok (.iload_n 1, 1) := by decide +kernel
theorem dX10_token_74 : decode cX10_token 74 = .ok (.iconst 1, 1) := by decide +kernel
theorem dX10_token_75 : decode cX10_token 75 = .ok (.invokevirtual 142, 3) := by decide +kernel
theorem dX10_token_78 : decode cX10_token 78 = .ok (.ifCond .eq 7, 3) := by decide +kernel
theorem dX10_token_81 : decode cX10_token 81 = .ok (.iconst 1, 1) := by decide +kernel
theorem dX10_token_82 : decode cX10_token 82 = .ok (.goto 4, 3) := by decide +kernel
theorem dX10_token_85 : decode cX10_token 85 = .ok (.iconst 0, 1) := by decide +kernel
theorem dX10_token_86 : decode cX10_token 86 = .ok (.ireturn, 1) := by decide +kernel
theorem dX10_token_87 : decode cX10_token 87 = .ok (.aload_n 0, 1) := by decide +kernel
theorem dX10_token_88 : decode cX10_token 88 = .ok (.iload_n 1, 1) := by decide +kernel
theorem dX10_token_89 : decode cX10_token 89 = .ok (.iconst 0, 1) := by decide +kernel
theorem dX10_token_90 : decode cX10_token 90 = .ok (.invokevirtual 142, 3) := by decide +kernel
theorem dX10_token_93 : decode cX10_token 93 = .ok (.ifCond .eq 7, 3) := by decide +kernel
theorem dX10_token_96 : decode cX10_token 96 = .ok (.iconst 1, 1) := by decide +kernel
theorem dX10_token_97 : decode cX10_token 97 = .ok (.goto 4, 3) := by decide +kernel
theorem dX10_token_100 : decode cX10_token 100 = .ok (.iconst 0, 1) := by decide +kernel
theorem dX10_token_101 : decode cX10_token 101 = .ok (.ireturn, 1) := by decide +kernel
theorem dX10_token_102 : decode cX10_token 102 = .ok (.aload_n 0, 1) := by decide +kernel
theorem dX10_token_103 : decode cX10_token 103 = .ok (.iconst 1, 1) := by decide +kernel
theorem dX10_token_104 : decode cX10_token 104 = .ok (.iload_n 1, 1) := by decide +kernel
theorem dX10_token_105 : decode cX10_token 105 = .ok (.ishl, 1) := by decide +kernel
theorem dX10_token_106 : decode cX10_token 106 = .ok (.invokevirtual 73, 3) := by decide +kernel
theorem dX10_token_109 : decode cX10_token 109 = .ok (.invokestatic 70, 3) := by decide +kernel
theorem dX10_token_112 : decode cX10_token 112 = .ok (.ireturn, 1) := by decide +kernel
theorem dX10_token_113 : decode cX10_token 113 = .ok (.aload_n 0, 1) := by decide +kernel
theorem dX10_token_114 : decode cX10_token 114 = .ok (.iconst 1, 1) := by decide +kernel
theorem dX10_token_115 : decode cX10_token 115 = .ok (.iload_n 1, 1) := by decide +kernel
theorem dX10_token_116 : decode cX10_token 116 = .ok (.ishl, 1) := by decide +kernel
theorem dX10_token_117 : decode cX10_token 117 = .ok (.invokevirtual 73, 3) := by decide +kernel
theorem dX10_token_120 : decode cX10_token 120 = .ok (.ireturn, 1) := by decide +kernel
theorem dX10_token_121 : decode cX10_token 121 = .ok (.aload_n 0, 1) := by decide +kernel
theorem dX10_token_122 : decode cX10_token 122 = .ok (.iload_n 1, 1) := by decide +kernel
theorem dX10_token_123 : decode cX10_token 123 = .ok (.iload_n 1, 1) := by decide +kernel
theorem dX10_token_124 : decode cX10_token 124 = .ok (.invokevirtual 53, 3) := by decide +kernel
theorem dX10_token_127 : decode cX10_token 127 = .ok (.ireturn, 1) := by decide +kernel
theorem dX10_token_128 : decode cX10_token 128 = .ok (.aload_n 0, 1) := by decide +kernel
theorem dX10_token_129 : decode cX10_token 129 = .ok (.iload_n 1, 1) := by decide +kernel
theorem dX10_token_130 : decode cX10_token 130 = .ok (.invokevirtual 146, 3) := by decide +kernel
theorem dX10_token_133 : decode cX10_token 133 = .ok (.ireturn, 1) := by decide +kernel
theorem dX10_token_134 : decode cX10_token 134 = .ok (.aload_n 0, 1) := by decide +kernel
theorem dX10_token_135 : decode cX10_token 135 = .ok (.iload_n 1, 1) := by decide +kernel
theorem dX10_token_136 : decode cX10_token 136 = .ok (.invokevirtual 149, 3) := by decide +kernel
theorem dX10_token_139 : decode cX10_token 139 = .ok (.ireturn, 1) := by decide +kernel
theorem dX10_token_140 : decode cX10_token 140 = .ok (.iconst (-1), 1) := by decide +kernel
theorem dX10_token_141 : decode cX10_token 141 = .ok (.ireturn, 1) := by decide +kernel
set_option maxRecDepth 20000 in
theorem ggX10_ring_X10_in : GoodIn wsX10_ring wsX10_in := goodIn_r _ [5] (by decide +kernel) (by decide +kernel)
set_option maxRecDepth 20000 in
theorem gX10_ring_X10_in : GoodIn wsX10_ring (va_wsS RX10 41 yX10_in wsX10_in) := goodIn_app (goodIn_of _ (by decide +kernel)) ggX10_ring_X10_in
set_option maxRecDepth 20000 in
theorem ggX10_ring_X10_ringOf : GoodIn wsX10_ring wsX10_ringOf := goodIn_r _ [9, 1, 10, 11, 4, 12, 13, 14, 15, 16, 17, 18, 19, 20, 21, 22, 23, 24, 25, 26, 27, 28, 29, 30, 31, 32, 33, 34, 35, 36, 37] (by decide +kernel) (by decide +kernel)
set_option maxRecDepth 20000 in
theorem gX10_ring_X10_ringOf : GoodIn wsX10_ring (wsV RX10 73 RX10 yX10_ringOf wsX10_ringOf) := goodIn_app (goodIn_of _ (by decide +kernel)) ggX10_ring_X10_ringOf
theorem dX10_ring_0 : decode cX10_ring 0 = .ok (.iload_n 1, 1) := by decide +kernel
theorem dX10_ring_1 : decode cX10_ring 1 = .ok (.iconst 1, 1) := by decide +kernel
theorem dX10_ring_2 : decode cX10_ring 2 = .ok (.iconst 1, 1) := by decide +kernel
theorem dX10_ring_3 : decode cX10_ring 3 = .ok (.aload_n 0, 1) := by decide +kernel
theorem dX10_ring_4 : decode cX10_ring 4 = .ok (.getfield 7, 3) := by decide +kernel
theorem dX10_ring_7 : decode cX10_ring 7 = .ok (.iconst 0, 1) := by decide +kernel
theorem dX10_ring_8 : decode cX10_ring 8 = .ok (.iaload, 1) := by decide +kernel
theorem dX10_ring_9 : decode cX10_ring 9 = .ok (.ishl, 1) := by decide +kernel
theorem dX10_ring_10 : decode cX10_ring 10 = .ok (.iconst 1, 1) := by decide +kernel
theorem dX10_ring_11 : decode cX10_ring 11 = .ok (.isub, 1) := by decide +kernel
theorem dX10_ring_12 : decode cX10_ring 12 = .ok (.invokestatic 41, 3) := by decide +kernel
theorem dX10_ring_15 : decode cX10_ring 15 = .ok (.ifCond .eq 11, 3) := by decide +kernel
theorem dX10_ring_18 : decode cX10_ring 18 = .ok (.aload_n 0, 1) := by decide +kernel
theorem dX10_ring_19 : decode cX10_ring 19 = .ok (.iload_n 1, 1) := by decide +kernel
theorem dX10_ring_20 : decode cX10_ring 20 = .ok (.invokevirtual 73, 3) := by decide +kernel
theorem dX10_ring_23 : decode cX10_ring 23 = .ok (.goto 4, 3) := by decide +kernel
theorem dX10_ring_26 : decode cX10_ring 26 = .ok (.iconst (-1), 1) := by decide +kernel
theorem dX10_ring_27 : decode cX10_ring 27 = .ok (.ireturn, 1) := by decide +kernel
set_option maxRecDepth 20000 in
theorem ggX10_ringAt_X10_isRing : GoodIn wsX10_ringAt wsX10_isRing := goodIn_r _ [6, 1, 7, 8, 9, 5, 10, 11, 12, 13, 14, 15, 16, 17, 18, 19, 20, 21, 22, 23, 24, 25, 26, 27] (by decide +kernel) (by decide +kernel)
set_option maxRecDepth 20000 in
theorem gX10_ringAt_X10_isRing : GoodIn wsX10_ringAt (wsV RX10 66 RX10 yX10_isRing wsX10_isRing) := goodIn_app (goodIn_of _ (by decide +kernel)) ggX10_ringAt_X10_isRing
theorem dX10_ringAt_0 : decode cX10_ringAt 0 = .ok (.iload_n 1, 1) := by decide +kernel
theorem dX10_ringAt_1 : decode cX10_ringAt 1 = .ok (.ifCond .ge 5, 3) := by decide +kernel
theorem dX10_ringAt_4 : decode cX10_ringAt 4 = .ok (.iconst (-1), 1) := by decide +kernel
theorem dX10_ringAt_5 : decode cX10_ringAt 5 = .ok (.ireturn, 1) := by decide +kernel
theorem dX10_ringAt_6 : decode cX10_ringAt 6 = .ok (.iload_n 1, 1) := by decide +kernel
theorem dX10_ringAt_7 : decode cX10_ringAt 7 = .ok (.istore_n 2, 1) := by decide +kernel
theorem dX10_ringAt_8 : decode cX10_ringAt 8 = .ok (.iconst 1, 1) := by decide +kernel
theorem dX10_ringAt_9 : decode cX10_ringAt 9 = .ok (.istore_n 3, 1) := by decide +kernel
theorem dX10_ringAt_10 : decode cX10_ringAt 10 = .ok (.iload_n 3, 1) := by decide +kernel
theorem dX10_ringAt_11 : decode cX10_ringAt 11 = .ok (.iconst 1, 1) := by decide +kernel
theorem dX10_ringAt_12 : decode cX10_ringAt 12 = .ok (.aload_n 0, 1) := by decide +kernel
theorem dX10_ringAt_13 : decode cX10_ringAt 13 = .ok (.getfield 7, 3) := by decide +kernel
theorem dX10_ringAt_16 : decode cX10_ringAt 16 = .ok (.iconst 0, 1) := by decide +kernel
theorem dX10_ringAt_17 : decode cX10_ringAt 17 = .ok (.iaload, 1) := by decide +kernel
theorem dX10_ringAt_18 : decode cX10_ringAt 18 = .ok (.ishl, 1) := by decide +kernel
theorem dX10_ringAt_19 : decode cX10_ringAt 19 = .ok (.if_icmp .ge 26, 3) := by decide +kernel
theorem dX10_ringAt_22 : decode cX10_ringAt 22 = .ok (.aload_n 0, 1) := by decide +kernel
theorem dX10_ringAt_23 : decode cX10_ringAt 23 = .ok (.iload_n 3, 1) := by decide +kernel
theorem dX10_ringAt_24 : decode cX10_ringAt 24 = .ok (.invokevirtual 66, 3) := by decide +kernel
theorem dX10_ringAt_27 : decode cX10_ringAt 27 = .ok (.ifCond .eq 12, 3) := by decide +kernel
theorem dX10_ringAt_30 : decode cX10_ringAt 30 = .ok (.iload_n 2, 1) := by decide +kernel
theorem dX10_ringAt_31 : decode cX10_ringAt 31 = .ok (.ifCond .ne 5, 3) := by decide +kernel
theorem dX10_ringAt_34 : decode cX10_ringAt 34 = .ok (.iload_n 3, 1) := by decide +kernel
theorem dX10_ringAt_35 : decode cX10_ringAt 35 = .ok (.ireturn, 1) := by decide +kernel
theorem dX10_ringAt_36 : decode cX10_ringAt 36 = .ok (.iinc 2 (-1), 3) := by decide +kernel
theorem dX10_ringAt_39 : decode cX10_ringAt 39 = .ok (.iinc 3 1, 3) := by decide +kernel
theorem dX10_ringAt_42 : decode cX10_ringAt 42 = .ok (.goto (-32), 3) := by decide +kernel
theorem dX10_ringAt_45 : decode cX10_ringAt 45 = .ok (.bipush (-4), 2) := by decide +kernel
theorem dX10_ringAt_47 : decode cX10_ringAt 47 = .ok (.ireturn, 1) := by decide +kernel
set_option maxRecDepth 20000 in
theorem ggX10_idle_X10_isIdle : GoodIn wsX10_idle wsX10_isIdle := goodIn_r _ [6, 1, 7, 8, 9, 5, 10, 11, 12, 13, 14, 15, 16, 17, 18, 19, 20, 21, 22, 23, 24, 25, 26, 27] (by decide +kernel) (by decide +kernel)
set_option maxRecDepth 20000 in
theorem gX10_idle_X10_isIdle : GoodIn wsX10_idle (wsV RX10 142 RX10 yX10_isIdle wsX10_isIdle) := goodIn_app (goodIn_of _ (by decide +kernel)) ggX10_idle_X10_isIdle
theorem dX10_idle_0 : decode cX10_idle 0 = .ok (.bipush (-4), 2) := by decide +kernel
theorem dX10_idle_2 : decode cX10_idle 2 = .ok (.istore_n 2, 1) := by decide +kernel
theorem dX10_idle_3 : decode cX10_idle 3 = .ok (.iconst 0, 1) := by decide +kernel
theorem dX10_idle_4 : decode cX10_idle 4 = .ok (.istore_n 3, 1) := by decide +kernel
theorem dX10_idle_5 : decode cX10_idle 5 = .ok (.iload_n 3, 1) := by decide +kernel
theorem dX10_idle_6 : decode cX10_idle 6 = .ok (.aload_n 0, 1) := by decide +kernel
theorem dX10_idle_7 : decode cX10_idle 7 = .ok (.getfield 7, 3) := by decide +kernel
theorem dX10_idle_10 : decode cX10_idle 10 = .ok (.iconst 0, 1) := by decide +kernel
theorem dX10_idle_11 : decode cX10_idle 11 = .ok (.iaload, 1) := by decide +kernel
theorem dX10_idle_12 : decode cX10_idle 12 = .ok (.if_icmp .ge 24, 3) := by decide +kernel
theorem dX10_idle_15 : decode cX10_idle 15 = .ok (.aload_n 0, 1) := by decide +kernel
theorem dX10_idle_16 : decode cX10_idle 16 = .ok (.iload_n 3, 1) := by decide +kernel
theorem dX10_idle_17 : decode cX10_idle 17 = .ok (.iload_n 1, 1) := by decide +kernel
theorem dX10_idle_18 : decode cX10_idle 18 = .ok (.invokevirtual 142, 3) := by decide +kernel
theorem dX10_idle_21 : decode cX10_idle 21 = .ok (.ifCond .eq 7, 3) := by decide +kernel
theorem dX10_idle_24 : decode cX10_idle 24 = .ok (.iload_n 3, 1) := by decide +kernel
theorem dX10_idle_25 : decode cX10_idle 25 = .ok (.goto 4, 3) := by decide +kernel
theorem dX10_idle_28 : decode cX10_idle 28 = .ok (.iload_n 2, 1) := by decide +kernel
theorem dX10_idle_29 : decode cX10_idle 29 = .ok (.istore_n 2, 1) := by decide +kernel
theorem dX10_idle_30 : decode cX10_idle 30 = .ok (.iinc 3 1, 3) := by decide +kernel
theorem dX10_idle_33 : decode cX10_idle 33 = .ok (.goto (-28), 3) := by decide +kernel
theorem dX10_idle_36 : decode cX10_idle 36 = .ok (.iload_n 2, 1) := by decide +kernel
theorem dX10_idle_37 : decode cX10_idle 37 = .ok (.ireturn, 1) := by decide +kernel
set_option maxRecDepth 20000 in
theorem ggX10_alone_X10_plain : GoodIn wsX10_alone wsX10_plain := goodIn_r _ [6, 1, 7, 8, 5, 9, 10, 11, 12, 13, 14, 15, 16, 17, 18, 19, 20, 21, 22, 23] (by decide +kernel) (by decide +kernel)
set_option maxRecDepth 20000 in
theorem gX10_alone_X10_plain : GoodIn wsX10_alone (wsV RX10 53 RX10 yX10_plain wsX10_plain) := goodIn_app (goodIn_of _ (by decide +kernel)) ggX10_alone_X10_plain
theorem dX10_alone_0 : decode cX10_alone 0 = .ok (.iconst 0, 1) := by decide +kernel
theorem dX10_alone_1 : decode cX10_alone 1 = .ok (.istore_n 1, 1) := by decide +kernel
theorem dX10_alone_2 : decode cX10_alone 2 = .ok (.iconst 0, 1) := by decide +kernel
theorem dX10_alone_3 : decode cX10_alone 3 = .ok (.istore_n 2, 1) := by decide +kernel
theorem dX10_alone_4 : decode cX10_alone 4 = .ok (.iload_n 2, 1) := by decide +kernel
theorem dX10_alone_5 : decode cX10_alone 5 = .ok (.aload_n 0, 1) := by decide +kernel
theorem dX10_alone_6 : decode cX10_alone 6 = .ok (.getfield 7, 3) := by decide +kernel
theorem dX10_alone_9 : decode cX10_alone 9 = .ok (.iconst 0, 1) := by decide +kernel
theorem dX10_alone_10 : decode cX10_alone 10 = .ok (.iaload, 1) := by decide +kernel
theorem dX10_alone_11 : decode cX10_alone 11 = .ok (.if_icmp .ge 27, 3) := by decide +kernel
theorem dX10_alone_14 : decode cX10_alone 14 = .ok (.iload_n 1, 1) := by decide +kernel
theorem dX10_alone_15 : decode cX10_alone 15 = .ok (.aload_n 0, 1) := by decide +kernel
theorem dX10_alone_16 : decode cX10_alone 16 = .ok (.iload_n 2, 1) := by decide +kernel
theorem dX10_alone_17 : decode cX10_alone 17 = .ok (.iload_n 2, 1) := by decide +kernel
theorem dX10_alone_18 : decode cX10_alone 18 = .ok (.invokevirtual 53, 3) := by decide +kernel
theorem dX10_alone_21 : decode cX10_alone 21 = .ok (.iload_n 2, 1) := by decide +kernel
theorem dX10_alone_22 : decode cX10_alone 22 = .ok (.if_icmp .ne 7, 3) := by decide +kernel
theorem dX10_alone_25 : decode cX10_alone 25 = .ok (.iconst 1, 1) := by decide +kernel
theorem dX10_alone_26 : decode cX10_alone 26 = .ok (.goto 4, 3) := by decide +kernel
theorem dX10_alone_29 : decode cX10_alone 29 = .ok (.iconst 0, 1) := by decide +kernel
theorem dX10_alone_30 : decode cX10_alone 30 = .ok (.iadd, 1) := by decide +kernel
theorem dX10_alone_31 : decode cX10_alone 31 = .ok (.istore_n 1, 1) := by decide +kernel
theorem dX10_alone_32 : decode cX10_alone 32 = .ok (.iinc 2 1, 3) := by decide +kernel
theorem dX10_alone_35 : decode cX10_alone 35 = .ok (.goto (-31), 3) := by decide +kernel
theorem dX10_alone_38 : decode cX10_alone 38 = .ok (.iload_n 1, 1) := by decide +kernel
theorem dX10_alone_39 : decode cX10_alone 39 = .ok (.ireturn, 1) := by decide +kernel
set_option maxRecDepth 20000 in
theorem ggX10_count_X10_commute : GoodIn wsX10_count wsX10_commute := goodIn_r _ [8, 1, 9, 10, 11, 7, 12, 13, 14, 15, 16, 17, 18, 19, 71, 72, 73, 74, 75, 76, 77, 78, 79, 80, 81, 82, 83, 84] (by decide +kernel) (by decide +kernel)
set_option maxRecDepth 20000 in
theorem gX10_count_X10_commute : GoodIn wsX10_count (wsV RX10 152 RX10 yX10_commute wsX10_commute) := goodIn_app (goodIn_of _ (by decide +kernel)) ggX10_count_X10_commute
set_option maxRecDepth 20000 in
theorem ggX10_count_X10_triples : GoodIn wsX10_count wsX10_triples := goodIn_r _ [23, 1, 24, 25, 26, 7, 27, 28, 29, 30, 31, 13, 14, 15, 16, 17, 18, 19, 71, 72, 73, 74, 75, 76, 77, 78, 79, 80, 81, 82, 83, 84] (by decide +kernel) (by decide +kernel)
set_option maxRecDepth 20000 in
theorem gX10_count_X10_triples : GoodIn wsX10_count (wsV RX10 90 RX10 yX10_triples wsX10_triples) := goodIn_app (goodIn_of _ (by decide +kernel)) ggX10_count_X10_triples
set_option maxRecDepth 20000 in
theorem ggX10_count_X10_idle : GoodIn wsX10_count wsX10_idle := goodIn_r _ [35, 1, 36, 37, 38, 7, 39, 13, 14, 15, 16, 17, 18, 19, 71, 72, 73, 74, 75, 76, 77, 78, 79, 80, 81, 82, 83, 84] (by decide +kernel) (by decide +kernel)
set_option maxRecDepth 20000 in
theorem gX10_count_X10_idle : GoodIn wsX10_count (wsV RX10 155 RX10 yX10_idle wsX10_idle) := goodIn_app (goodIn_of _ (by decide +kernel)) ggX10_count_X10_idle
set_option maxRecDepth 20000 in
theorem ggX10_count_X10_alone : GoodIn wsX10_count wsX10_alone := goodIn_r _ [43, 1, 13, 14, 15, 7, 16, 17, 18, 19, 71, 72, 73, 74, 75, 76, 77, 78, 79, 80, 81, 82, 83, 84] (by decide +kernel) (by decide +kernel)
set_option maxRecDepth 20000 in
theorem gX10_count_X10_alone : GoodIn wsX10_count (wsV RX10 159 RX10 yX10_alone wsX10_alone) := goodIn_app (goodIn_of _ (by decide +kernel)) ggX10_count_X10_alone
set_option maxRecDepth 20000 in
theorem ggX10_count_X10_rings : GoodIn wsX10_count wsX10_rings := goodIn_r _ [47, 1, 48, 49, 50, 7, 51, 13, 14, 15, 16, 17, 18, 19, 71, 72, 73, 74, 75, 76, 77, 78, 79, 80, 81, 82, 83, 84] (by decide +kernel) (by decide +kernel)
set_option maxRecDepth 20000 in
theorem gX10_count_X10_rings : GoodIn wsX10_count (wsV RX10 162 RX10 yX10_rings wsX10_rings) := goodIn_app (goodIn_of _ (by decide +kernel)) ggX10_count_X10_rings
set_option maxRecDepth 20000 in
theorem ggX10_count_X10_fewest : GoodIn wsX10_count wsX10_fewest := goodIn_r _ [55, 1, 56, 57, 7, 58, 59, 60, 61, 62, 48, 49, 50, 51, 13, 14, 15, 16, 17, 18, 19, 71, 72, 73, 74, 75, 76, 77, 78, 79, 80, 81, 82, 83, 84] (by decide +kernel) (by decide +kernel)
set_option maxRecDepth 20000 in
theorem gX10_count_X10_fewest : GoodIn wsX10_count (wsV RX10 165 RX10 yX10_fewest wsX10_fewest) := goodIn_app (goodIn_of _ (by decide +kernel)) ggX10_count_X10_fewest
set_option maxRecDepth 20000 in
theorem ggX10_count_X10_bits : GoodIn wsX10_count wsX10_bits := goodIn_r _ [58] (by decide +kernel) (by decide +kernel)
set_option maxRecDepth 20000 in
theorem gX10_count_X10_bits : GoodIn wsX10_count (va_wsS RX10 70 yX10_bits wsX10_bits) := goodIn_app (goodIn_of _ (by decide +kernel)) ggX10_count_X10_bits
set_option maxRecDepth 20000 in
theorem ggX10_count_X10_squares : GoodIn wsX10_count wsX10_squares := goodIn_r _ [66, 1, 67, 68, 69, 7, 70, 13, 14, 15, 16, 17, 18, 19, 71, 72, 73, 74, 75, 76, 77, 78, 79, 80, 81, 82, 83, 84] (by decide +kernel) (by decide +kernel)
set_option maxRecDepth 20000 in
theorem gX10_count_X10_squares : GoodIn wsX10_count (wsV RX10 168 RX10 yX10_squares wsX10_squares) := goodIn_app (goodIn_of _ (by decide +kernel)) ggX10_count_X10_squares
theorem dX10_count_0 : decode cX10_count 0 = .ok (.iload_n 1, 1) := by decide +kernel
theorem dX10_count_1 : decode cX10_count 1 = .ok (.tableswitch 130 0 11 #[63, 70, 75, 80, 86, 92, 97, 102, 110, 115, 120, 125], 63) := by decide +kernel
theorem dX10_count_64 : decode cX10_count 64 = .ok (.aload_n 0, 1) := by decide +kernel
theorem dX10_count_65 : decode cX10_count 65 = .ok (.getfield 7, 3) := by decide +kernel
theorem dX10_count_68 : decode cX10_count 68 = .ok (.iconst 0, 1) := by decide +kernel
theorem dX10_count_69 : decode cX10_count 69 = .ok (.iaload, 1) := by decide +kernel
theorem dX10_count_70 : decode cX10_count 70 = .ok (.ireturn, 1) := by decide +kernel
theorem dX10_count_71 : decode cX10_count 71 = .ok (.aload_n 0, 1) := by decide +kernel
theorem dX10_count_72 : decode cX10_count 72 = .ok (.invokevirtual 152, 3) := by decide +kernel
theorem dX10_count_75 : decode cX10_count 75 = .ok (.ireturn, 1) := by decide +kernel
theorem dX10_count_76 : decode cX10_count 76 = .ok (.aload_n 0, 1) := by decide +kernel
theorem dX10_count_77 : decode cX10_count 77 = .ok (.invokevirtual 90, 3) := by decide +kernel
theorem dX10_count_80 : decode cX10_count 80 = .ok (.ireturn, 1) := by decide +kernel
theorem dX10_count_81 : decode cX10_count 81 = .ok (.aload_n 0, 1) := by decide +kernel
theorem dX10_count_82 : decode cX10_count 82 = .ok (.iconst 1, 1) := by decide +kernel
theorem dX10_count_83 : decode cX10_count 83 = .ok (.invokevirtual 155, 3) := by decide +kernel
theorem dX10_count_86 : decode cX10_count 86 = .ok (.ireturn, 1) := by decide +kernel
theorem dX10_count_87 : decode cX10_count 87 = .ok (.aload_n 0, 1) := by decide +kernel
theorem dX10_count_88 : decode cX10_count 88 = .ok (.iconst 0, 1) := by decide +kernel
theorem dX10_count_89 : decode cX10_count 89 = .ok (.invokevirtual 155, 3) := by decide +kernel
theorem dX10_count_92 : decode cX10_count 92 = .ok (.ireturn, 1) := by decide +kernel
theorem dX10_count_93 : decode cX10_count 93 = .ok (.aload_n 0, 1) := by decide +kernel
theorem dX10_count_94 : decode cX10_count 94 = .ok (.invokevirtual 159, 3) := by decide +kernel
theorem dX10_count_97 : decode cX10_count 97 = .ok (.ireturn, 1) := by decide +kernel
theorem dX10_count_98 : decode cX10_count 98 = .ok (.aload_n 0, 1) := by decide +kernel
theorem dX10_count_99 : decode cX10_count 99 = .ok (.invokevirtual 162, 3) := by decide +kernel
theorem dX10_count_102 : decode cX10_count 102 = .ok (.ireturn, 1) := by decide +kernel
theorem dX10_count_103 : decode cX10_count 103 = .ok (.aload_n 0, 1) := by decide +kernel
theorem dX10_count_104 : decode cX10_count 104 = .ok (.invokevirtual 165, 3) := by decide +kernel
theorem dX10_count_107 : decode cX10_count 107 = .ok (.invokestatic 70, 3) := by decide +kernel
theorem dX10_count_110 : decode cX10_count 110 = .ok (.ireturn, 1) := by decide +kernel
theorem dX10_count_111 : decode cX10_count 111 = .ok (.aload_n 0, 1) := by decide +kernel
theorem dX10_count_112 : decode cX10_count 112 = .ok (.invokevirtual 165, 3) := by decide +kernel
theorem dX10_count_115 : decode cX10_count 115 = .ok (.ireturn, 1) := by decide +kernel
theorem dX10_count_116 : decode cX10_count 116 = .ok (.aload_n 0, 1) := by decide +kernel
theorem dX10_count_117 : decode cX10_count 117 = .ok (.invokevirtual 168, 3) := by decide +kernel
theorem dX10_count_120 : decode cX10_count 120 = .ok (.ireturn, 1) := by decide +kernel
theorem dX10_count_121 : decode cX10_count 121 = .ok (.aload_n 0, 1) := by decide +kernel
theorem dX10_count_122 : decode cX10_count 122 = .ok (.getfield 111, 3) := by decide +kernel
theorem dX10_count_125 : decode cX10_count 125 = .ok (.ireturn, 1) := by decide +kernel
theorem dX10_count_126 : decode cX10_count 126 = .ok (.aload_n 0, 1) := by decide +kernel
theorem dX10_count_127 : decode cX10_count 127 = .ok (.getfield 49, 3) := by decide +kernel
theorem dX10_count_130 : decode cX10_count 130 = .ok (.ireturn, 1) := by decide +kernel
theorem dX10_count_131 : decode cX10_count 131 = .ok (.iconst (-1), 1) := by decide +kernel
theorem dX10_count_132 : decode cX10_count 132 = .ok (.ireturn, 1) := by decide +kernel
set_option maxRecDepth 20000 in
theorem ggX10_crooked_X10_triples : GoodIn wsX10_crooked wsX10_triples := goodIn_r _ [6, 1, 7, 8, 9, 5, 10, 11, 12, 13, 14, 15, 16, 17, 18, 19, 20, 21, 22, 23, 24, 25, 26, 27, 28, 29, 30, 31, 32, 33, 34, 35] (by decide +kernel) (by decide +kernel)
set_option maxRecDepth 20000 in
theorem gX10_crooked_X10_triples : GoodIn wsX10_crooked (wsV RX10 90 RX10 yX10_triples wsX10_triples) := goodIn_app (goodIn_of _ (by decide +kernel)) ggX10_crooked_X10_triples
theorem dX10_crooked_0 : decode cX10_crooked 0 = .ok (.aload_n 0, 1) := by decide +kernel
theorem dX10_crooked_1 : decode cX10_crooked 1 = .ok (.getfield 7, 3) := by decide +kernel
theorem dX10_crooked_4 : decode cX10_crooked 4 = .ok (.iconst 0, 1) := by decide +kernel
theorem dX10_crooked_5 : decode cX10_crooked 5 = .ok (.iaload, 1) := by decide +kernel
theorem dX10_crooked_6 : decode cX10_crooked 6 = .ok (.aload_n 0, 1) := by decide +kernel
theorem dX10_crooked_7 : decode cX10_crooked 7 = .ok (.getfield 7, 3) := by decide +kernel
theorem dX10_crooked_10 : decode cX10_crooked 10 = .ok (.iconst 0, 1) := by decide +kernel
theorem dX10_crooked_11 : decode cX10_crooked 11 = .ok (.iaload, 1) := by decide +kernel
theorem dX10_crooked_12 : decode cX10_crooked 12 = .ok (.imul, 1) := by decide +kernel
theorem dX10_crooked_13 : decode cX10_crooked 13 = .ok (.aload_n 0, 1) := by decide +kernel
theorem dX10_crooked_14 : decode cX10_crooked 14 = .ok (.getfield 7, 3) := by decide +kernel
theorem dX10_crooked_17 : decode cX10_crooked 17 = .ok (.iconst 0, 1) := by decide +kernel
theorem dX10_crooked_18 : decode cX10_crooked 18 = .ok (.iaload, 1) := by decide +kernel
theorem dX10_crooked_19 : decode cX10_crooked 19 = .ok (.imul, 1) := by decide +kernel
theorem dX10_crooked_20 : decode cX10_crooked 20 = .ok (.istore_n 1, 1) := by decide +kernel
theorem dX10_crooked_21 : decode cX10_crooked 21 = .ok (.iload_n 1, 1) := by decide +kernel
theorem dX10_crooked_22 : decode cX10_crooked 22 = .ok (.aload_n 0, 1) := by decide +kernel
theorem dX10_crooked_23 : decode cX10_crooked 23 = .ok (.invokevirtual 90, 3) := by decide +kernel
theorem dX10_crooked_26 : decode cX10_crooked 26 = .ok (.isub, 1) := by decide +kernel
theorem dX10_crooked_27 : decode cX10_crooked 27 = .ok (.i2d, 1) := by decide +kernel
theorem dX10_crooked_28 : decode cX10_crooked 28 = .ok (.iload_n 1, 1) := by decide +kernel
theorem dX10_crooked_29 : decode cX10_crooked 29 = .ok (.i2d, 1) := by decide +kernel
theorem dX10_crooked_30 : decode cX10_crooked 30 = .ok (.ddiv, 1) := by decide +kernel
theorem dX10_crooked_31 : decode cX10_crooked 31 = .ok (.dreturn, 1) := by decide +kernel
theorem dX10_part_0 : decode cX10_part 0 = .ok (.bipush 7, 2) := by decide +kernel
theorem dX10_part_2 : decode cX10_part 2 = .ok (.iload_n 0, 1) := by decide +kernel
theorem dX10_part_3 : decode cX10_part 3 = .ok (.imul, 1) := by decide +kernel
theorem dX10_part_4 : decode cX10_part 4 = .ok (.iload_n 1, 1) := by decide +kernel
theorem dX10_part_5 : decode cX10_part 5 = .ok (.iadd, 1) := by decide +kernel
theorem dX10_part_6 : decode cX10_part 6 = .ok (.bipush 8, 2) := by decide +kernel
theorem dX10_part_8 : decode cX10_part 8 = .ok (.imul, 1) := by decide +kernel
theorem dX10_part_9 : decode cX10_part 9 = .ok (.iload_n 2, 1) := by decide +kernel
theorem dX10_part_10 : decode cX10_part 10 = .ok (.iadd, 1) := by decide +kernel
theorem dX10_part_11 : decode cX10_part 11 = .ok (.ireturn, 1) := by decide +kernel
set_option maxRecDepth 20000 in
theorem ggX10_laysParts_X10_part : GoodIn wsX10_laysParts wsX10_part := goodIn_r _ [7] (by decide +kernel) (by decide +kernel)
set_option maxRecDepth 20000 in
theorem gX10_laysParts_X10_part : GoodIn wsX10_laysParts (va_wsS RX10 171 yX10_part wsX10_part) := goodIn_app (goodIn_of _ (by decide +kernel)) ggX10_laysParts_X10_part
set_option maxRecDepth 20000 in
theorem ggX10_laysParts_X10_adds : GoodIn wsX10_laysParts wsX10_adds := goodIn_r _ [11, 12, 1, 13, 14, 15, 6, 16, 17, 18, 19, 4, 5, 7, 20, 21, 22, 23, 24, 25, 26, 27, 28, 29, 30, 31, 32, 33] (by decide +kernel) (by decide +kernel)
set_option maxRecDepth 20000 in
theorem gX10_laysParts_X10_adds : GoodIn wsX10_laysParts (wsV RX10 175 RX10 yX10_adds wsX10_adds) := goodIn_app (goodIn_of _ (by decide +kernel)) ggX10_laysParts_X10_adds
theorem dX10_laysParts_0 : decode cX10_laysParts 0 = .ok (.iconst 0, 1) := by decide +kernel
theorem dX10_laysParts_1 : decode cX10_laysParts 1 = .ok (.istore_n 1, 1) := by decide +kernel
theorem dX10_laysParts_2 : decode cX10_laysParts 2 = .ok (.iload_n 1, 1) := by decide +kernel
theorem dX10_laysParts_3 : decode cX10_laysParts 3 = .ok (.sipush 392, 3) := by decide +kernel
theorem dX10_laysParts_6 : decode cX10_laysParts 6 = .ok (.if_icmp .ge 16, 3) := by decide +kernel
theorem dX10_laysParts_9 : decode cX10_laysParts 9 = .ok (.aload_n 0, 1) := by decide +kernel
theorem dX10_laysParts_10 : decode cX10_laysParts 10 = .ok (.getfield 34, 3) := by decide +kernel
theorem dX10_laysParts_13 : decode cX10_laysParts 13 = .ok (.iload_n 1, 1) := by decide +kernel
theorem dX10_laysParts_14 : decode cX10_laysParts 14 = .ok (.iconst 0, 1) := by decide +kernel
theorem dX10_laysParts_15 : decode cX10_laysParts 15 = .ok (.iastore, 1) := by decide +kernel
theorem dX10_laysParts_16 : decode cX10_laysParts 16 = .ok (.iinc 1 1, 3) := by decide +kernel
theorem dX10_laysParts_19 : decode cX10_laysParts 19 = .ok (.goto (-17), 3) := by decide +kernel
theorem dX10_laysParts_22 : decode cX10_laysParts 22 = .ok (.iconst 0, 1) := by decide +kernel
theorem dX10_laysParts_23 : decode cX10_laysParts 23 = .ok (.istore_n 1, 1) := by decide +kernel
theorem dX10_laysParts_24 : decode cX10_laysParts 24 = .ok (.iload_n 1, 1) := by decide +kernel
theorem dX10_laysParts_25 : decode cX10_laysParts 25 = .ok (.aload_n 0, 1) := by decide +kernel
theorem dX10_laysParts_26 : decode cX10_laysParts 26 = .ok (.getfield 111, 3) := by decide +kernel
theorem dX10_laysParts_29 : decode cX10_laysParts 29 = .ok (.if_icmp .ge 75, 3) := by decide +kernel
theorem dX10_laysParts_32 : decode cX10_laysParts 32 = .ok (.iconst 0, 1) := by decide +kernel
theorem dX10_laysParts_33 : decode cX10_laysParts 33 = .ok (.istore_n 2, 1) := by decide +kernel
theorem dX10_laysParts_34 : decode cX10_laysParts 34 = .ok (.iload_n 2, 1) := by decide +kernel
theorem dX10_laysParts_35 : decode cX10_laysParts 35 = .ok (.iload_n 1, 1) := by decide +kernel
theorem dX10_laysParts_36 : decode cX10_laysParts 36 = .ok (.iadd, 1) := by decide +kernel
theorem dX10_laysParts_37 : decode cX10_laysParts 37 = .ok (.aload_n 0, 1) := by decide +kernel
theorem dX10_laysParts_38 : decode cX10_laysParts 38 = .ok (.getfield 111, 3) := by decide +kernel
theorem dX10_laysParts_41 : decode cX10_laysParts 41 = .ok (.if_icmp .ge 57, 3) := by decide +kernel
theorem dX10_laysParts_44 : decode cX10_laysParts 44 = .ok (.iload_n 1, 1) := by decide +kernel
theorem dX10_laysParts_45 : decode cX10_laysParts 45 = .ok (.ifCond .ne 23, 3) := by decide +kernel
