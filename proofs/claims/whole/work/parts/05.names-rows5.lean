theorem dX7_least_12 : decode cX7_least 12 = .ok (.bipush (-3), 2) := by decide +kernel
theorem dX7_least_14 : decode cX7_least 14 = .ok (.ireturn, 1) := by decide +kernel
theorem dX7_least_15 : decode cX7_least 15 = .ok (.aload_n 0, 1) := by decide +kernel
theorem dX7_least_16 : decode cX7_least 16 = .ok (.invokevirtual 187, 3) := by decide +kernel
theorem dX7_least_19 : decode cX7_least 19 = .ok (.iload_n 1, 1) := by decide +kernel
theorem dX7_least_20 : decode cX7_least 20 = .ok (.iconst 3, 1) := by decide +kernel
theorem dX7_least_21 : decode cX7_least 21 = .ok (.if_icmp .ge 35, 3) := by decide +kernel
theorem dX7_least_24 : decode cX7_least 24 = .ok (.iload_n 1, 1) := by decide +kernel
theorem dX7_least_25 : decode cX7_least 25 = .ok (.ifCond .ne 10, 3) := by decide +kernel
theorem dX7_least_28 : decode cX7_least 28 = .ok (.aload_n 0, 1) := by decide +kernel
theorem dX7_least_29 : decode cX7_least 29 = .ok (.invokevirtual 192, 3) := by decide +kernel
theorem dX7_least_32 : decode cX7_least 32 = .ok (.goto 23, 3) := by decide +kernel
theorem dX7_least_35 : decode cX7_least 35 = .ok (.iload_n 1, 1) := by decide +kernel
theorem dX7_least_36 : decode cX7_least 36 = .ok (.iconst 1, 1) := by decide +kernel
theorem dX7_least_37 : decode cX7_least 37 = .ok (.if_icmp .ne 12, 3) := by decide +kernel
theorem dX7_least_40 : decode cX7_least 40 = .ok (.aload_n 0, 1) := by decide +kernel
theorem dX7_least_41 : decode cX7_least 41 = .ok (.getfield 26, 3) := by decide +kernel
theorem dX7_least_44 : decode cX7_least 44 = .ok (.iconst 0, 1) := by decide +kernel
theorem dX7_least_45 : decode cX7_least 45 = .ok (.iaload, 1) := by decide +kernel
theorem dX7_least_46 : decode cX7_least 46 = .ok (.goto 9, 3) := by decide +kernel
theorem dX7_least_49 : decode cX7_least 49 = .ok (.aload_n 0, 1) := by decide +kernel
theorem dX7_least_50 : decode cX7_least 50 = .ok (.getfield 29, 3) := by decide +kernel
theorem dX7_least_53 : decode cX7_least 53 = .ok (.iconst 0, 1) := by decide +kernel
theorem dX7_least_54 : decode cX7_least 54 = .ok (.iaload, 1) := by decide +kernel
theorem dX7_least_55 : decode cX7_least 55 = .ok (.ireturn, 1) := by decide +kernel
theorem dX7_least_56 : decode cX7_least 56 = .ok (.aload_n 0, 1) := by decide +kernel
theorem dX7_least_57 : decode cX7_least 57 = .ok (.invokevirtual 195, 3) := by decide +kernel
theorem dX7_least_60 : decode cX7_least 60 = .ok (.aload_n 0, 1) := by decide +kernel
theorem dX7_least_61 : decode cX7_least 61 = .ok (.invokevirtual 198, 3) := by decide +kernel
theorem dX7_least_64 : decode cX7_least 64 = .ok (.istore_n 2, 1) := by decide +kernel
theorem dX7_least_65 : decode cX7_least 65 = .ok (.aload_n 0, 1) := by decide +kernel
theorem dX7_least_66 : decode cX7_least 66 = .ok (.invokevirtual 195, 3) := by decide +kernel
theorem dX7_least_69 : decode cX7_least 69 = .ok (.iload_n 2, 1) := by decide +kernel
theorem dX7_least_70 : decode cX7_least 70 = .ok (.ireturn, 1) := by decide +kernel
set_option maxRecDepth 20000 in
theorem ggX7_would_X7_isSection : GoodIn wsX7_would wsX7_isSection := goodIn_r _ [7, 1, 8, 9, 6, 10, 46, 47, 48, 49, 50, 51, 52, 53, 54, 55, 56, 57, 58, 59] (by decide +kernel) (by decide +kernel)
set_option maxRecDepth 20000 in
theorem gX7_would_X7_isSection : GoodIn wsX7_would (wsV RX7 184 RX7 yX7_isSection wsX7_isSection) := goodIn_app (goodIn_of _ (by decide +kernel)) ggX7_would_X7_isSection
set_option maxRecDepth 20000 in
theorem ggX7_would_X7_isTerm : GoodIn wsX7_would wsX7_isTerm := goodIn_r _ [13, 14, 8, 9, 6, 10] (by decide +kernel) (by decide +kernel)
set_option maxRecDepth 20000 in
theorem gX7_would_X7_isTerm : GoodIn wsX7_would (va_wsS RX7 201 yX7_isTerm wsX7_isTerm) := goodIn_app (goodIn_of _ (by decide +kernel)) ggX7_would_X7_isTerm
set_option maxRecDepth 20000 in
theorem ggX7_would_X7_finds : GoodIn wsX7_would wsX7_finds := goodIn_r _ [18, 1, 2, 19, 20, 21, 22, 6, 23, 24, 25, 26, 27, 28, 29, 30, 31, 32, 33, 34, 35, 36, 37, 38, 39, 40, 41, 42, 43, 44, 45, 46, 47, 48, 49, 50, 51, 52, 53, 54, 55, 56, 57, 58, 59] (by decide +kernel) (by decide +kernel)
set_option maxRecDepth 20000 in
theorem gX7_would_X7_finds : GoodIn wsX7_would (wsV RX7 178 RX7 yX7_finds wsX7_finds) := goodIn_app (goodIn_of _ (by decide +kernel)) ggX7_would_X7_finds
theorem dX7_would_0 : decode cX7_would 0 = .ok (.aload_n 0, 1) := by decide +kernel
theorem dX7_would_1 : decode cX7_would 1 = .ok (.iload_n 1, 1) := by decide +kernel
theorem dX7_would_2 : decode cX7_would 2 = .ok (.invokevirtual 184, 3) := by decide +kernel
theorem dX7_would_5 : decode cX7_would 5 = .ok (.ifCond .eq 10, 3) := by decide +kernel
theorem dX7_would_8 : decode cX7_would 8 = .ok (.iload_n 2, 1) := by decide +kernel
theorem dX7_would_9 : decode cX7_would 9 = .ok (.invokestatic 201, 3) := by decide +kernel
theorem dX7_would_12 : decode cX7_would 12 = .ok (.ifCond .ne 6, 3) := by decide +kernel
theorem dX7_would_15 : decode cX7_would 15 = .ok (.bipush (-2), 2) := by decide +kernel
theorem dX7_would_17 : decode cX7_would 17 = .ok (.ireturn, 1) := by decide +kernel
theorem dX7_would_18 : decode cX7_would 18 = .ok (.aload_n 0, 1) := by decide +kernel
theorem dX7_would_19 : decode cX7_would 19 = .ok (.getfield 7, 3) := by decide +kernel
theorem dX7_would_22 : decode cX7_would 22 = .ok (.bipush 23, 2) := by decide +kernel
theorem dX7_would_24 : decode cX7_would 24 = .ok (.iload_n 1, 1) := by decide +kernel
theorem dX7_would_25 : decode cX7_would 25 = .ok (.iadd, 1) := by decide +kernel
theorem dX7_would_26 : decode cX7_would 26 = .ok (.iaload, 1) := by decide +kernel
theorem dX7_would_27 : decode cX7_would 27 = .ok (.istore_n 3, 1) := by decide +kernel
theorem dX7_would_28 : decode cX7_would 28 = .ok (.aload_n 0, 1) := by decide +kernel
theorem dX7_would_29 : decode cX7_would 29 = .ok (.getfield 7, 3) := by decide +kernel
theorem dX7_would_32 : decode cX7_would 32 = .ok (.bipush 23, 2) := by decide +kernel
theorem dX7_would_34 : decode cX7_would 34 = .ok (.iload_n 1, 1) := by decide +kernel
theorem dX7_would_35 : decode cX7_would 35 = .ok (.iadd, 1) := by decide +kernel
theorem dX7_would_36 : decode cX7_would 36 = .ok (.dup2, 1) := by decide +kernel
theorem dX7_would_37 : decode cX7_would 37 = .ok (.iaload, 1) := by decide +kernel
theorem dX7_would_38 : decode cX7_would 38 = .ok (.iconst 1, 1) := by decide +kernel
theorem dX7_would_39 : decode cX7_would 39 = .ok (.iload_n 2, 1) := by decide +kernel
theorem dX7_would_40 : decode cX7_would 40 = .ok (.ishl, 1) := by decide +kernel
theorem dX7_would_41 : decode cX7_would 41 = .ok (.ior, 1) := by decide +kernel
theorem dX7_would_42 : decode cX7_would 42 = .ok (.iastore, 1) := by decide +kernel
theorem dX7_would_43 : decode cX7_would 43 = .ok (.aload_n 0, 1) := by decide +kernel
theorem dX7_would_44 : decode cX7_would 44 = .ok (.invokevirtual 178, 3) := by decide +kernel
theorem dX7_would_47 : decode cX7_would 47 = .ok (.aload_n 0, 1) := by decide +kernel
theorem dX7_would_48 : decode cX7_would 48 = .ok (.getfield 7, 3) := by decide +kernel
theorem dX7_would_51 : decode cX7_would 51 = .ok (.bipush 23, 2) := by decide +kernel
theorem dX7_would_53 : decode cX7_would 53 = .ok (.iload_n 1, 1) := by decide +kernel
theorem dX7_would_54 : decode cX7_would 54 = .ok (.iadd, 1) := by decide +kernel
theorem dX7_would_55 : decode cX7_would 55 = .ok (.iload_n 3, 1) := by decide +kernel
theorem dX7_would_56 : decode cX7_would 56 = .ok (.iastore, 1) := by decide +kernel
theorem dX7_would_57 : decode cX7_would 57 = .ok (.aload_n 0, 1) := by decide +kernel
theorem dX7_would_58 : decode cX7_would 58 = .ok (.getfield 26, 3) := by decide +kernel
theorem dX7_would_61 : decode cX7_would 61 = .ok (.iconst 0, 1) := by decide +kernel
theorem dX7_would_62 : decode cX7_would 62 = .ok (.iaload, 1) := by decide +kernel
theorem dX7_would_63 : decode cX7_would 63 = .ok (.ireturn, 1) := by decide +kernel
theorem dX7_copyRow_0 : decode cX7_copyRow 0 = .ok (.iconst 0, 1) := by decide +kernel
theorem dX7_copyRow_1 : decode cX7_copyRow 1 = .ok (.istore_n 3, 1) := by decide +kernel
theorem dX7_copyRow_2 : decode cX7_copyRow 2 = .ok (.iload_n 3, 1) := by decide +kernel
theorem dX7_copyRow_3 : decode cX7_copyRow 3 = .ok (.bipush 53, 2) := by decide +kernel
theorem dX7_copyRow_5 : decode cX7_copyRow 5 = .ok (.if_icmp .ge 25, 3) := by decide +kernel
theorem dX7_copyRow_8 : decode cX7_copyRow 8 = .ok (.aload_n 0, 1) := by decide +kernel
theorem dX7_copyRow_9 : decode cX7_copyRow 9 = .ok (.getfield 7, 3) := by decide +kernel
theorem dX7_copyRow_12 : decode cX7_copyRow 12 = .ok (.iload_n 2, 1) := by decide +kernel
theorem dX7_copyRow_13 : decode cX7_copyRow 13 = .ok (.iload_n 3, 1) := by decide +kernel
theorem dX7_copyRow_14 : decode cX7_copyRow 14 = .ok (.iadd, 1) := by decide +kernel
theorem dX7_copyRow_15 : decode cX7_copyRow 15 = .ok (.aload_n 0, 1) := by decide +kernel
theorem dX7_copyRow_16 : decode cX7_copyRow 16 = .ok (.getfield 7, 3) := by decide +kernel
theorem dX7_copyRow_19 : decode cX7_copyRow 19 = .ok (.iload_n 1, 1) := by decide +kernel
theorem dX7_copyRow_20 : decode cX7_copyRow 20 = .ok (.iload_n 3, 1) := by decide +kernel
theorem dX7_copyRow_21 : decode cX7_copyRow 21 = .ok (.iadd, 1) := by decide +kernel
theorem dX7_copyRow_22 : decode cX7_copyRow 22 = .ok (.iaload, 1) := by decide +kernel
theorem dX7_copyRow_23 : decode cX7_copyRow 23 = .ok (.iastore, 1) := by decide +kernel
theorem dX7_copyRow_24 : decode cX7_copyRow 24 = .ok (.iinc 3 1, 3) := by decide +kernel
theorem dX7_copyRow_27 : decode cX7_copyRow 27 = .ok (.goto (-25), 3) := by decide +kernel
theorem dX7_copyRow_30 : decode cX7_copyRow 30 = .ok (.return_, 1) := by decide +kernel
set_option maxRecDepth 20000 in
theorem ggX7_records_X7_copyRow : GoodIn wsX7_records wsX7_copyRow := goodIn_r _ [7, 2, 8, 9, 10, 11, 12, 13, 14, 15, 16, 17, 18, 19, 20, 21] (by decide +kernel) (by decide +kernel)
set_option maxRecDepth 20000 in
theorem gX7_records_X7_copyRow : GoodIn wsX7_records (wsV RX7 204 RX7 yX7_copyRow wsX7_copyRow) := goodIn_app (goodIn_of _ (by decide +kernel)) ggX7_records_X7_copyRow
theorem dX7_records_0 : decode cX7_records 0 = .ok (.iconst 0, 1) := by decide +kernel
theorem dX7_records_1 : decode cX7_records 1 = .ok (.istore_n 1, 1) := by decide +kernel
theorem dX7_records_2 : decode cX7_records 2 = .ok (.iload_n 1, 1) := by decide +kernel
theorem dX7_records_3 : decode cX7_records 3 = .ok (.sipush 371, 3) := by decide +kernel
theorem dX7_records_6 : decode cX7_records 6 = .ok (.if_icmp .ge 36, 3) := by decide +kernel
theorem dX7_records_9 : decode cX7_records 9 = .ok (.aload_n 0, 1) := by decide +kernel
theorem dX7_records_10 : decode cX7_records 10 = .ok (.getfield 132, 3) := by decide +kernel
theorem dX7_records_13 : decode cX7_records 13 = .ok (.bipush 8, 2) := by decide +kernel
theorem dX7_records_15 : decode cX7_records 15 = .ok (.if_icmp .ne 27, 3) := by decide +kernel
theorem dX7_records_18 : decode cX7_records 18 = .ok (.aload_n 0, 1) := by decide +kernel
theorem dX7_records_19 : decode cX7_records 19 = .ok (.getfield 7, 3) := by decide +kernel
theorem dX7_records_22 : decode cX7_records 22 = .ok (.bipush 53, 2) := by decide +kernel
theorem dX7_records_24 : decode cX7_records 24 = .ok (.iload_n 1, 1) := by decide +kernel
theorem dX7_records_25 : decode cX7_records 25 = .ok (.iadd, 1) := by decide +kernel
theorem dX7_records_26 : decode cX7_records 26 = .ok (.aload_n 0, 1) := by decide +kernel
theorem dX7_records_27 : decode cX7_records 27 = .ok (.getfield 7, 3) := by decide +kernel
theorem dX7_records_30 : decode cX7_records 30 = .ok (.bipush 106, 2) := by decide +kernel
theorem dX7_records_32 : decode cX7_records 32 = .ok (.iload_n 1, 1) := by decide +kernel
theorem dX7_records_33 : decode cX7_records 33 = .ok (.iadd, 1) := by decide +kernel
theorem dX7_records_34 : decode cX7_records 34 = .ok (.iaload, 1) := by decide +kernel
theorem dX7_records_35 : decode cX7_records 35 = .ok (.iastore, 1) := by decide +kernel
theorem dX7_records_36 : decode cX7_records 36 = .ok (.iinc 1 1, 3) := by decide +kernel
theorem dX7_records_39 : decode cX7_records 39 = .ok (.goto (-37), 3) := by decide +kernel
theorem dX7_records_42 : decode cX7_records 42 = .ok (.aload_n 0, 1) := by decide +kernel
theorem dX7_records_43 : decode cX7_records 43 = .ok (.dup, 1) := by decide +kernel
theorem dX7_records_44 : decode cX7_records 44 = .ok (.getfield 132, 3) := by decide +kernel
theorem dX7_records_47 : decode cX7_records 47 = .ok (.aload_n 0, 1) := by decide +kernel
theorem dX7_records_48 : decode cX7_records 48 = .ok (.getfield 132, 3) := by decide +kernel
theorem dX7_records_51 : decode cX7_records 51 = .ok (.bipush 8, 2) := by decide +kernel
theorem dX7_records_53 : decode cX7_records 53 = .ok (.if_icmp .ne 7, 3) := by decide +kernel
theorem dX7_records_56 : decode cX7_records 56 = .ok (.iconst 1, 1) := by decide +kernel
theorem dX7_records_57 : decode cX7_records 57 = .ok (.goto 4, 3) := by decide +kernel
theorem dX7_records_60 : decode cX7_records 60 = .ok (.iconst 0, 1) := by decide +kernel
theorem dX7_records_61 : decode cX7_records 61 = .ok (.isub, 1) := by decide +kernel
theorem dX7_records_62 : decode cX7_records 62 = .ok (.putfield 132, 3) := by decide +kernel
theorem dX7_records_65 : decode cX7_records 65 = .ok (.aload_n 0, 1) := by decide +kernel
theorem dX7_records_66 : decode cX7_records 66 = .ok (.iconst 0, 1) := by decide +kernel
theorem dX7_records_67 : decode cX7_records 67 = .ok (.bipush 53, 2) := by decide +kernel
theorem dX7_records_69 : decode cX7_records 69 = .ok (.bipush 53, 2) := by decide +kernel
theorem dX7_records_71 : decode cX7_records 71 = .ok (.aload_n 0, 1) := by decide +kernel
theorem dX7_records_72 : decode cX7_records 72 = .ok (.getfield 132, 3) := by decide +kernel
theorem dX7_records_75 : decode cX7_records 75 = .ok (.imul, 1) := by decide +kernel
theorem dX7_records_76 : decode cX7_records 76 = .ok (.iadd, 1) := by decide +kernel
theorem dX7_records_77 : decode cX7_records 77 = .ok (.invokevirtual 204, 3) := by decide +kernel
theorem dX7_records_80 : decode cX7_records 80 = .ok (.aload_n 0, 1) := by decide +kernel
theorem dX7_records_81 : decode cX7_records 81 = .ok (.dup, 1) := by decide +kernel
theorem dX7_records_82 : decode cX7_records 82 = .ok (.getfield 132, 3) := by decide +kernel
theorem dX7_records_85 : decode cX7_records 85 = .ok (.iconst 1, 1) := by decide +kernel
theorem dX7_records_86 : decode cX7_records 86 = .ok (.iadd, 1) := by decide +kernel
theorem dX7_records_87 : decode cX7_records 87 = .ok (.putfield 132, 3) := by decide +kernel
theorem dX7_records_90 : decode cX7_records 90 = .ok (.return_, 1) := by decide +kernel
set_option maxRecDepth 20000 in
theorem ggX7_becomes_X7_records : GoodIn wsX7_becomes wsX7_records := goodIn_r _ [6, 7, 1, 8, 9, 10, 5, 11, 12, 13, 14, 15, 16, 17, 18, 19, 20, 21, 22, 23, 24, 25] (by decide +kernel) (by decide +kernel)
set_option maxRecDepth 20000 in
theorem gX7_becomes_X7_records : GoodIn wsX7_becomes (wsV RX7 208 RX7 yX7_records wsX7_records) := goodIn_app (goodIn_of _ (by decide +kernel)) ggX7_becomes_X7_records
theorem dX7_becomes_0 : decode cX7_becomes 0 = .ok (.aload_n 0, 1) := by decide +kernel
theorem dX7_becomes_1 : decode cX7_becomes 1 = .ok (.invokevirtual 208, 3) := by decide +kernel
theorem dX7_becomes_4 : decode cX7_becomes 4 = .ok (.aload_n 0, 1) := by decide +kernel
theorem dX7_becomes_5 : decode cX7_becomes 5 = .ok (.getfield 7, 3) := by decide +kernel
theorem dX7_becomes_8 : decode cX7_becomes 8 = .ok (.iload_n 1, 1) := by decide +kernel
theorem dX7_becomes_9 : decode cX7_becomes 9 = .ok (.iaload, 1) := by decide +kernel
theorem dX7_becomes_10 : decode cX7_becomes 10 = .ok (.istore_n 3, 1) := by decide +kernel
theorem dX7_becomes_11 : decode cX7_becomes 11 = .ok (.aload_n 0, 1) := by decide +kernel
theorem dX7_becomes_12 : decode cX7_becomes 12 = .ok (.getfield 7, 3) := by decide +kernel
theorem dX7_becomes_15 : decode cX7_becomes 15 = .ok (.iload_n 1, 1) := by decide +kernel
theorem dX7_becomes_16 : decode cX7_becomes 16 = .ok (.iload_n 2, 1) := by decide +kernel
theorem dX7_becomes_17 : decode cX7_becomes 17 = .ok (.iastore, 1) := by decide +kernel
theorem dX7_becomes_18 : decode cX7_becomes 18 = .ok (.iload_n 3, 1) := by decide +kernel
theorem dX7_becomes_19 : decode cX7_becomes 19 = .ok (.ireturn, 1) := by decide +kernel
set_option maxRecDepth 20000 in
theorem ggX7_pages_X7_isSection : GoodIn wsX7_pages wsX7_isSection := goodIn_r _ [6, 7, 8, 9, 5, 10, 24, 25, 26, 27, 28, 29, 30, 31, 32, 33, 34, 35, 36, 37] (by decide +kernel) (by decide +kernel)
set_option maxRecDepth 20000 in
theorem gX7_pages_X7_isSection : GoodIn wsX7_pages (wsV RX7 184 RX7 yX7_isSection wsX7_isSection) := goodIn_app (goodIn_of _ (by decide +kernel)) ggX7_pages_X7_isSection
set_option maxRecDepth 20000 in
theorem ggX7_pages_X7_in : GoodIn wsX7_pages wsX7_in := goodIn_r _ [10] (by decide +kernel) (by decide +kernel)
set_option maxRecDepth 20000 in
theorem gX7_pages_X7_in : GoodIn wsX7_pages (va_wsS RX7 36 yX7_in wsX7_in) := goodIn_app (goodIn_of _ (by decide +kernel)) ggX7_pages_X7_in
set_option maxRecDepth 20000 in
theorem ggX7_pages_X7_becomes : GoodIn wsX7_pages wsX7_becomes := goodIn_r _ [14, 7, 15, 16, 17, 5, 18, 19, 20, 21, 22, 23, 24, 25, 26, 27, 28, 29, 30, 31, 32, 33, 34, 35, 36, 37] (by decide +kernel) (by decide +kernel)
set_option maxRecDepth 20000 in
theorem gX7_pages_X7_becomes : GoodIn wsX7_pages (wsV RX7 213 RX7 yX7_becomes wsX7_becomes) := goodIn_app (goodIn_of _ (by decide +kernel)) ggX7_pages_X7_becomes
theorem dX7_pages_0 : decode cX7_pages 0 = .ok (.aload_n 0, 1) := by decide +kernel
theorem dX7_pages_1 : decode cX7_pages 1 = .ok (.iload_n 1, 1) := by decide +kernel
theorem dX7_pages_2 : decode cX7_pages 2 = .ok (.invokevirtual 184, 3) := by decide +kernel
theorem dX7_pages_5 : decode cX7_pages 5 = .ok (.ifCond .ne 8, 3) := by decide +kernel
theorem dX7_pages_8 : decode cX7_pages 8 = .ok (.bipush (-2), 2) := by decide +kernel
theorem dX7_pages_10 : decode cX7_pages 10 = .ok (.goto 28, 3) := by decide +kernel
theorem dX7_pages_13 : decode cX7_pages 13 = .ok (.iload_n 2, 1) := by decide +kernel
theorem dX7_pages_14 : decode cX7_pages 14 = .ok (.i2l, 1) := by decide +kernel
theorem dX7_pages_15 : decode cX7_pages 15 = .ok (.lconst 1, 1) := by decide +kernel
theorem dX7_pages_16 : decode cX7_pages 16 = .ok (.ldc2_w 211, 3) := by decide +kernel
theorem dX7_pages_19 : decode cX7_pages 19 = .ok (.invokestatic 36, 3) := by decide +kernel
theorem dX7_pages_22 : decode cX7_pages 22 = .ok (.ifCond .eq 14, 3) := by decide +kernel
theorem dX7_pages_25 : decode cX7_pages 25 = .ok (.aload_n 0, 1) := by decide +kernel
theorem dX7_pages_26 : decode cX7_pages 26 = .ok (.iconst 1, 1) := by decide +kernel
theorem dX7_pages_27 : decode cX7_pages 27 = .ok (.iload_n 1, 1) := by decide +kernel
theorem dX7_pages_28 : decode cX7_pages 28 = .ok (.iadd, 1) := by decide +kernel
theorem dX7_pages_29 : decode cX7_pages 29 = .ok (.iload_n 2, 1) := by decide +kernel
theorem dX7_pages_30 : decode cX7_pages 30 = .ok (.invokevirtual 213, 3) := by decide +kernel
theorem dX7_pages_33 : decode cX7_pages 33 = .ok (.goto 5, 3) := by decide +kernel
theorem dX7_pages_36 : decode cX7_pages 36 = .ok (.bipush (-3), 2) := by decide +kernel
theorem dX7_pages_38 : decode cX7_pages 38 = .ok (.ireturn, 1) := by decide +kernel
set_option maxRecDepth 20000 in
theorem ggX7_uses_X7_isSection : GoodIn wsX7_uses wsX7_isSection := goodIn_r _ [6, 1, 7, 8, 5, 9, 27, 28, 29, 30, 31, 32, 33, 34, 35, 36, 37, 38, 39, 40] (by decide +kernel) (by decide +kernel)
set_option maxRecDepth 20000 in
theorem gX7_uses_X7_isSection : GoodIn wsX7_uses (wsV RX7 184 RX7 yX7_isSection wsX7_isSection) := goodIn_app (goodIn_of _ (by decide +kernel)) ggX7_uses_X7_isSection
set_option maxRecDepth 20000 in
theorem ggX7_uses_X7_isTerm : GoodIn wsX7_uses wsX7_isTerm := goodIn_r _ [12, 13, 7, 8, 5, 9] (by decide +kernel) (by decide +kernel)
set_option maxRecDepth 20000 in
theorem gX7_uses_X7_isTerm : GoodIn wsX7_uses (va_wsS RX7 201 yX7_isTerm wsX7_isTerm) := goodIn_app (goodIn_of _ (by decide +kernel)) ggX7_uses_X7_isTerm
set_option maxRecDepth 20000 in
theorem ggX7_uses_X7_in : GoodIn wsX7_uses wsX7_in := goodIn_r _ [9] (by decide +kernel) (by decide +kernel)
set_option maxRecDepth 20000 in
theorem gX7_uses_X7_in : GoodIn wsX7_uses (va_wsS RX7 36 yX7_in wsX7_in) := goodIn_app (goodIn_of _ (by decide +kernel)) ggX7_uses_X7_in
set_option maxRecDepth 20000 in
theorem ggX7_uses_X7_becomes : GoodIn wsX7_uses wsX7_becomes := goodIn_r _ [17, 1, 18, 19, 20, 5, 21, 22, 23, 24, 25, 26, 27, 28, 29, 30, 31, 32, 33, 34, 35, 36, 37, 38, 39, 40] (by decide +kernel) (by decide +kernel)
set_option maxRecDepth 20000 in
theorem gX7_uses_X7_becomes : GoodIn wsX7_uses (wsV RX7 213 RX7 yX7_becomes wsX7_becomes) := goodIn_app (goodIn_of _ (by decide +kernel)) ggX7_uses_X7_becomes
theorem dX7_uses_0 : decode cX7_uses 0 = .ok (.aload_n 0, 1) := by decide +kernel
theorem dX7_uses_1 : decode cX7_uses 1 = .ok (.iload_n 1, 1) := by decide +kernel
theorem dX7_uses_2 : decode cX7_uses 2 = .ok (.invokevirtual 184, 3) := by decide +kernel
theorem dX7_uses_5 : decode cX7_uses 5 = .ok (.ifCond .eq 10, 3) := by decide +kernel
theorem dX7_uses_8 : decode cX7_uses 8 = .ok (.iload_n 2, 1) := by decide +kernel
theorem dX7_uses_9 : decode cX7_uses 9 = .ok (.invokestatic 201, 3) := by decide +kernel
theorem dX7_uses_12 : decode cX7_uses 12 = .ok (.ifCond .ne 6, 3) := by decide +kernel
theorem dX7_uses_15 : decode cX7_uses 15 = .ok (.bipush (-2), 2) := by decide +kernel
theorem dX7_uses_17 : decode cX7_uses 17 = .ok (.ireturn, 1) := by decide +kernel
theorem dX7_uses_18 : decode cX7_uses 18 = .ok (.iload_n 3, 1) := by decide +kernel
theorem dX7_uses_19 : decode cX7_uses 19 = .ok (.i2l, 1) := by decide +kernel
theorem dX7_uses_20 : decode cX7_uses 20 = .ok (.lconst 0, 1) := by decide +kernel
theorem dX7_uses_21 : decode cX7_uses 21 = .ok (.lconst 1, 1) := by decide +kernel
theorem dX7_uses_22 : decode cX7_uses 22 = .ok (.invokestatic 36, 3) := by decide +kernel
theorem dX7_uses_25 : decode cX7_uses 25 = .ok (.ifCond .ne 6, 3) := by decide +kernel
theorem dX7_uses_28 : decode cX7_uses 28 = .ok (.bipush (-3), 2) := by decide +kernel
theorem dX7_uses_30 : decode cX7_uses 30 = .ok (.ireturn, 1) := by decide +kernel
theorem dX7_uses_31 : decode cX7_uses 31 = .ok (.aload_n 0, 1) := by decide +kernel
theorem dX7_uses_32 : decode cX7_uses 32 = .ok (.getfield 7, 3) := by decide +kernel
theorem dX7_uses_35 : decode cX7_uses 35 = .ok (.bipush 23, 2) := by decide +kernel
theorem dX7_uses_37 : decode cX7_uses 37 = .ok (.iload_n 1, 1) := by decide +kernel
theorem dX7_uses_38 : decode cX7_uses 38 = .ok (.iadd, 1) := by decide +kernel
theorem dX7_uses_39 : decode cX7_uses 39 = .ok (.iaload, 1) := by decide +kernel
theorem dX7_uses_40 : decode cX7_uses 40 = .ok (.iconst 1, 1) := by decide +kernel
theorem dX7_uses_41 : decode cX7_uses 41 = .ok (.iload_n 2, 1) := by decide +kernel
theorem dX7_uses_42 : decode cX7_uses 42 = .ok (.ishl, 1) := by decide +kernel
theorem dX7_uses_43 : decode cX7_uses 43 = .ok (.iconst (-1), 1) := by decide +kernel
theorem dX7_uses_44 : decode cX7_uses 44 = .ok (.ixor, 1) := by decide +kernel
theorem dX7_uses_45 : decode cX7_uses 45 = .ok (.iand, 1) := by decide +kernel
theorem dX7_uses_46 : decode cX7_uses 46 = .ok (.iload_n 3, 1) := by decide +kernel
theorem dX7_uses_47 : decode cX7_uses 47 = .ok (.iload_n 2, 1) := by decide +kernel
theorem dX7_uses_48 : decode cX7_uses 48 = .ok (.ishl, 1) := by decide +kernel
theorem dX7_uses_49 : decode cX7_uses 49 = .ok (.ior, 1) := by decide +kernel
theorem dX7_uses_50 : decode cX7_uses 50 = .ok (.istore 4, 2) := by decide +kernel
theorem dX7_uses_52 : decode cX7_uses 52 = .ok (.aload_n 0, 1) := by decide +kernel
theorem dX7_uses_53 : decode cX7_uses 53 = .ok (.bipush 23, 2) := by decide +kernel
theorem dX7_uses_55 : decode cX7_uses 55 = .ok (.iload_n 1, 1) := by decide +kernel
theorem dX7_uses_56 : decode cX7_uses 56 = .ok (.iadd, 1) := by decide +kernel
theorem dX7_uses_57 : decode cX7_uses 57 = .ok (.iload 4, 2) := by decide +kernel
theorem dX7_uses_59 : decode cX7_uses 59 = .ok (.invokevirtual 213, 3) := by decide +kernel
theorem dX7_uses_62 : decode cX7_uses 62 = .ok (.iload 4, 2) := by decide +kernel
theorem dX7_uses_64 : decode cX7_uses 64 = .ok (.if_icmp .ne 7, 3) := by decide +kernel
theorem dX7_uses_67 : decode cX7_uses 67 = .ok (.iconst 0, 1) := by decide +kernel
theorem dX7_uses_68 : decode cX7_uses 68 = .ok (.goto 4, 3) := by decide +kernel
theorem dX7_uses_71 : decode cX7_uses 71 = .ok (.iconst 1, 1) := by decide +kernel
theorem dX7_uses_72 : decode cX7_uses 72 = .ok (.ireturn, 1) := by decide +kernel
set_option maxRecDepth 20000 in
theorem ggX7_home_X7_isTerm : GoodIn wsX7_home wsX7_isTerm := goodIn_r _ [4, 5, 6, 7, 3, 8] (by decide +kernel) (by decide +kernel)
set_option maxRecDepth 20000 in
theorem gX7_home_X7_isTerm : GoodIn wsX7_home (va_wsS RX7 201 yX7_isTerm wsX7_isTerm) := goodIn_app (goodIn_of _ (by decide +kernel)) ggX7_home_X7_isTerm
set_option maxRecDepth 20000 in
theorem ggX7_home_X7_isSection : GoodIn wsX7_home wsX7_isSection := goodIn_r _ [12, 13, 6, 7, 3, 8, 27, 28, 29, 30, 31, 32, 33, 34, 35, 36, 37, 38, 39, 40] (by decide +kernel) (by decide +kernel)
set_option maxRecDepth 20000 in
theorem gX7_home_X7_isSection : GoodIn wsX7_home (wsV RX7 184 RX7 yX7_isSection wsX7_isSection) := goodIn_app (goodIn_of _ (by decide +kernel)) ggX7_home_X7_isSection
set_option maxRecDepth 20000 in
theorem ggX7_home_X7_becomes : GoodIn wsX7_home wsX7_becomes := goodIn_r _ [17, 13, 18, 19, 20, 3, 21, 22, 23, 24, 25, 26, 27, 28, 29, 30, 31, 32, 33, 34, 35, 36, 37, 38, 39, 40] (by decide +kernel) (by decide +kernel)
set_option maxRecDepth 20000 in
theorem gX7_home_X7_becomes : GoodIn wsX7_home (wsV RX7 213 RX7 yX7_becomes wsX7_becomes) := goodIn_app (goodIn_of _ (by decide +kernel)) ggX7_home_X7_becomes
theorem dX7_home_0 : decode cX7_home 0 = .ok (.iload_n 1, 1) := by decide +kernel
theorem dX7_home_1 : decode cX7_home 1 = .ok (.invokestatic 201, 3) := by decide +kernel
theorem dX7_home_4 : decode cX7_home 4 = .ok (.ifCond .eq 16, 3) := by decide +kernel
theorem dX7_home_7 : decode cX7_home 7 = .ok (.iload_n 2, 1) := by decide +kernel
theorem dX7_home_8 : decode cX7_home 8 = .ok (.iconst (-1), 1) := by decide +kernel
theorem dX7_home_9 : decode cX7_home 9 = .ok (.if_icmp .eq 16, 3) := by decide +kernel
theorem dX7_home_12 : decode cX7_home 12 = .ok (.aload_n 0, 1) := by decide +kernel
theorem dX7_home_13 : decode cX7_home 13 = .ok (.iload_n 2, 1) := by decide +kernel
theorem dX7_home_14 : decode cX7_home 14 = .ok (.invokevirtual 184, 3) := by decide +kernel
theorem dX7_home_17 : decode cX7_home 17 = .ok (.ifCond .ne 8, 3) := by decide +kernel
theorem dX7_home_20 : decode cX7_home 20 = .ok (.bipush (-2), 2) := by decide +kernel
theorem dX7_home_22 : decode cX7_home 22 = .ok (.goto 12, 3) := by decide +kernel
theorem dX7_home_25 : decode cX7_home 25 = .ok (.aload_n 0, 1) := by decide +kernel
theorem dX7_home_26 : decode cX7_home 26 = .ok (.bipush 11, 2) := by decide +kernel
theorem dX7_home_28 : decode cX7_home 28 = .ok (.iload_n 1, 1) := by decide +kernel
theorem dX7_home_29 : decode cX7_home 29 = .ok (.iadd, 1) := by decide +kernel
theorem dX7_home_30 : decode cX7_home 30 = .ok (.iload_n 2, 1) := by decide +kernel
theorem dX7_home_31 : decode cX7_home 31 = .ok (.invokevirtual 213, 3) := by decide +kernel
theorem dX7_home_34 : decode cX7_home 34 = .ok (.ireturn, 1) := by decide +kernel
set_option maxRecDepth 20000 in
theorem ggX7_pairs_X7_ones : GoodIn wsX7_pairs wsX7_ones := goodIn_r _ [5] (by decide +kernel) (by decide +kernel)
set_option maxRecDepth 20000 in
theorem gX7_pairs_X7_ones : GoodIn wsX7_pairs (va_wsS RX7 159 yX7_ones wsX7_ones) := goodIn_app (goodIn_of _ (by decide +kernel)) ggX7_pairs_X7_ones
theorem dX7_pairs_0 : decode cX7_pairs 0 = .ok (.iconst 0, 1) := by decide +kernel
theorem dX7_pairs_1 : decode cX7_pairs 1 = .ok (.istore_n 1, 1) := by decide +kernel
theorem dX7_pairs_2 : decode cX7_pairs 2 = .ok (.iconst 0, 1) := by decide +kernel
theorem dX7_pairs_3 : decode cX7_pairs 3 = .ok (.istore_n 2, 1) := by decide +kernel
theorem dX7_pairs_4 : decode cX7_pairs 4 = .ok (.iload_n 2, 1) := by decide +kernel
theorem dX7_pairs_5 : decode cX7_pairs 5 = .ok (.aload_n 0, 1) := by decide +kernel
theorem dX7_pairs_6 : decode cX7_pairs 6 = .ok (.getfield 7, 3) := by decide +kernel
theorem dX7_pairs_9 : decode cX7_pairs 9 = .ok (.iconst 0, 1) := by decide +kernel
theorem dX7_pairs_10 : decode cX7_pairs 10 = .ok (.iaload, 1) := by decide +kernel
theorem dX7_pairs_11 : decode cX7_pairs 11 = .ok (.if_icmp .ge 24, 3) := by decide +kernel
theorem dX7_pairs_14 : decode cX7_pairs 14 = .ok (.iload_n 1, 1) := by decide +kernel
theorem dX7_pairs_15 : decode cX7_pairs 15 = .ok (.aload_n 0, 1) := by decide +kernel
theorem dX7_pairs_16 : decode cX7_pairs 16 = .ok (.getfield 7, 3) := by decide +kernel
theorem dX7_pairs_19 : decode cX7_pairs 19 = .ok (.bipush 43, 2) := by decide +kernel
theorem dX7_pairs_21 : decode cX7_pairs 21 = .ok (.iload_n 2, 1) := by decide +kernel
theorem dX7_pairs_22 : decode cX7_pairs 22 = .ok (.iadd, 1) := by decide +kernel
theorem dX7_pairs_23 : decode cX7_pairs 23 = .ok (.iaload, 1) := by decide +kernel
theorem dX7_pairs_24 : decode cX7_pairs 24 = .ok (.invokestatic 159, 3) := by decide +kernel
theorem dX7_pairs_27 : decode cX7_pairs 27 = .ok (.iadd, 1) := by decide +kernel
theorem dX7_pairs_28 : decode cX7_pairs 28 = .ok (.istore_n 1, 1) := by decide +kernel
theorem dX7_pairs_29 : decode cX7_pairs 29 = .ok (.iinc 2 1, 3) := by decide +kernel
theorem dX7_pairs_32 : decode cX7_pairs 32 = .ok (.goto (-28), 3) := by decide +kernel
theorem dX7_pairs_35 : decode cX7_pairs 35 = .ok (.iload_n 1, 1) := by decide +kernel
theorem dX7_pairs_36 : decode cX7_pairs 36 = .ok (.ireturn, 1) := by decide +kernel
set_option maxRecDepth 20000 in
theorem ggX7_canPair_X7_placeOf : GoodIn wsX7_canPair wsX7_placeOf := goodIn_r _ [6, 1, 10, 11, 12, 13, 14, 15, 16, 17, 18, 19, 20, 21, 22, 23] (by decide +kernel) (by decide +kernel)
set_option maxRecDepth 20000 in
theorem gX7_canPair_X7_placeOf : GoodIn wsX7_canPair (wsV RX7 135 RX7 yX7_placeOf wsX7_placeOf) := goodIn_app (goodIn_of _ (by decide +kernel)) ggX7_canPair_X7_placeOf
set_option maxRecDepth 20000 in
theorem ggX7_canPair_X7_has : GoodIn wsX7_canPair wsX7_has := goodIn_r _ [9] (by decide +kernel) (by decide +kernel)
set_option maxRecDepth 20000 in
theorem gX7_canPair_X7_has : GoodIn wsX7_canPair (va_wsS RX7 93 yX7_has wsX7_has) := goodIn_app (goodIn_of _ (by decide +kernel)) ggX7_canPair_X7_has
theorem dX7_canPair_0 : decode cX7_canPair 0 = .ok (.aload_n 0, 1) := by decide +kernel
theorem dX7_canPair_1 : decode cX7_canPair 1 = .ok (.iload_n 1, 1) := by decide +kernel
theorem dX7_canPair_2 : decode cX7_canPair 2 = .ok (.invokevirtual 135, 3) := by decide +kernel
theorem dX7_canPair_5 : decode cX7_canPair 5 = .ok (.aload_n 0, 1) := by decide +kernel
theorem dX7_canPair_6 : decode cX7_canPair 6 = .ok (.iload_n 2, 1) := by decide +kernel
theorem dX7_canPair_7 : decode cX7_canPair 7 = .ok (.invokevirtual 135, 3) := by decide +kernel
theorem dX7_canPair_10 : decode cX7_canPair 10 = .ok (.if_icmp .ge 23, 3) := by decide +kernel
theorem dX7_canPair_13 : decode cX7_canPair 13 = .ok (.aload_n 0, 1) := by decide +kernel
theorem dX7_canPair_14 : decode cX7_canPair 14 = .ok (.getfield 7, 3) := by decide +kernel
theorem dX7_canPair_17 : decode cX7_canPair 17 = .ok (.bipush 43, 2) := by decide +kernel
theorem dX7_canPair_19 : decode cX7_canPair 19 = .ok (.iload_n 2, 1) := by decide +kernel
theorem dX7_canPair_20 : decode cX7_canPair 20 = .ok (.iadd, 1) := by decide +kernel
theorem dX7_canPair_21 : decode cX7_canPair 21 = .ok (.iaload, 1) := by decide +kernel
theorem dX7_canPair_22 : decode cX7_canPair 22 = .ok (.iload_n 1, 1) := by decide +kernel
theorem dX7_canPair_23 : decode cX7_canPair 23 = .ok (.invokestatic 93, 3) := by decide +kernel
theorem dX7_canPair_26 : decode cX7_canPair 26 = .ok (.ifCond .ne 7, 3) := by decide +kernel
theorem dX7_canPair_29 : decode cX7_canPair 29 = .ok (.iconst 1, 1) := by decide +kernel
theorem dX7_canPair_30 : decode cX7_canPair 30 = .ok (.goto 4, 3) := by decide +kernel
theorem dX7_canPair_33 : decode cX7_canPair 33 = .ok (.iconst 0, 1) := by decide +kernel
theorem dX7_canPair_34 : decode cX7_canPair 34 = .ok (.ireturn, 1) := by decide +kernel
set_option maxRecDepth 20000 in
theorem ggX7_areTwo_X7_isSection : GoodIn wsX7_areTwo wsX7_isSection := goodIn_r _ [5, 6, 7, 8, 4, 9, 10, 11, 12, 13, 14, 15, 16, 17, 18, 19, 20, 21, 22, 23] (by decide +kernel) (by decide +kernel)
set_option maxRecDepth 20000 in
theorem gX7_areTwo_X7_isSection : GoodIn wsX7_areTwo (wsV RX7 184 RX7 yX7_isSection wsX7_isSection) := goodIn_app (goodIn_of _ (by decide +kernel)) ggX7_areTwo_X7_isSection
theorem dX7_areTwo_0 : decode cX7_areTwo 0 = .ok (.aload_n 0, 1) := by decide +kernel
theorem dX7_areTwo_1 : decode cX7_areTwo 1 = .ok (.iload_n 1, 1) := by decide +kernel
theorem dX7_areTwo_2 : decode cX7_areTwo 2 = .ok (.invokevirtual 184, 3) := by decide +kernel
theorem dX7_areTwo_5 : decode cX7_areTwo 5 = .ok (.ifCond .eq 20, 3) := by decide +kernel
theorem dX7_areTwo_8 : decode cX7_areTwo 8 = .ok (.aload_n 0, 1) := by decide +kernel
theorem dX7_areTwo_9 : decode cX7_areTwo 9 = .ok (.iload_n 2, 1) := by decide +kernel
theorem dX7_areTwo_10 : decode cX7_areTwo 10 = .ok (.invokevirtual 184, 3) := by decide +kernel
theorem dX7_areTwo_13 : decode cX7_areTwo 13 = .ok (.ifCond .eq 12, 3) := by decide +kernel
theorem dX7_areTwo_16 : decode cX7_areTwo 16 = .ok (.iload_n 1, 1) := by decide +kernel
theorem dX7_areTwo_17 : decode cX7_areTwo 17 = .ok (.iload_n 2, 1) := by decide +kernel
theorem dX7_areTwo_18 : decode cX7_areTwo 18 = .ok (.if_icmp .eq 7, 3) := by decide +kernel
theorem dX7_areTwo_21 : decode cX7_areTwo 21 = .ok (.iconst 1, 1) := by decide +kernel
theorem dX7_areTwo_22 : decode cX7_areTwo 22 = .ok (.goto 4, 3) := by decide +kernel
theorem dX7_areTwo_25 : decode cX7_areTwo 25 = .ok (.iconst 0, 1) := by decide +kernel
theorem dX7_areTwo_26 : decode cX7_areTwo 26 = .ok (.ireturn, 1) := by decide +kernel
set_option maxRecDepth 20000 in
theorem ggX7_ahead_X7_areTwo : GoodIn wsX7_ahead wsX7_areTwo := goodIn_r _ [6, 7, 8, 9, 5, 10, 1, 11, 12, 13, 45, 46, 47, 48, 49, 50, 51, 52, 53, 54, 55, 56, 57, 58] (by decide +kernel) (by decide +kernel)
set_option maxRecDepth 20000 in
theorem gX7_ahead_X7_areTwo : GoodIn wsX7_ahead (wsV RX7 216 RX7 yX7_areTwo wsX7_areTwo) := goodIn_app (goodIn_of _ (by decide +kernel)) ggX7_ahead_X7_areTwo
set_option maxRecDepth 20000 in
theorem ggX7_ahead_X7_canPair : GoodIn wsX7_ahead wsX7_canPair := goodIn_r _ [17, 1, 18, 19, 20, 5, 21, 22, 23, 24, 45, 46, 47, 48, 49, 50, 51, 52, 53, 54, 55, 56, 57, 58] (by decide +kernel) (by decide +kernel)
set_option maxRecDepth 20000 in
theorem gX7_ahead_X7_canPair : GoodIn wsX7_ahead (wsV RX7 110 RX7 yX7_canPair wsX7_canPair) := goodIn_app (goodIn_of _ (by decide +kernel)) ggX7_ahead_X7_canPair
set_option maxRecDepth 20000 in
theorem ggX7_ahead_X7_becomes : GoodIn wsX7_ahead wsX7_becomes := goodIn_r _ [28, 1, 29, 30, 31, 5, 32, 33, 34, 35, 36, 37, 45, 46, 47, 48, 49, 50, 51, 52, 53, 54, 55, 56, 57, 58] (by decide +kernel) (by decide +kernel)
set_option maxRecDepth 20000 in
theorem gX7_ahead_X7_becomes : GoodIn wsX7_ahead (wsV RX7 213 RX7 yX7_becomes wsX7_becomes) := goodIn_app (goodIn_of _ (by decide +kernel)) ggX7_ahead_X7_becomes
set_option maxRecDepth 20000 in
theorem ggX7_ahead_X7_pairs : GoodIn wsX7_ahead wsX7_pairs := goodIn_r _ [41, 1, 42, 43, 5, 44, 45, 46, 47, 48, 49, 50, 51, 52, 53, 54, 55, 56, 57, 58] (by decide +kernel) (by decide +kernel)
set_option maxRecDepth 20000 in
theorem gX7_ahead_X7_pairs : GoodIn wsX7_ahead (wsV RX7 219 RX7 yX7_pairs wsX7_pairs) := goodIn_app (goodIn_of _ (by decide +kernel)) ggX7_ahead_X7_pairs
theorem dX7_ahead_0 : decode cX7_ahead 0 = .ok (.aload_n 0, 1) := by decide +kernel
theorem dX7_ahead_1 : decode cX7_ahead 1 = .ok (.iload_n 1, 1) := by decide +kernel
theorem dX7_ahead_2 : decode cX7_ahead 2 = .ok (.iload_n 2, 1) := by decide +kernel
theorem dX7_ahead_3 : decode cX7_ahead 3 = .ok (.invokevirtual 216, 3) := by decide +kernel
theorem dX7_ahead_6 : decode cX7_ahead 6 = .ok (.ifCond .ne 6, 3) := by decide +kernel
theorem dX7_ahead_9 : decode cX7_ahead 9 = .ok (.bipush (-2), 2) := by decide +kernel
theorem dX7_ahead_11 : decode cX7_ahead 11 = .ok (.ireturn, 1) := by decide +kernel
theorem dX7_ahead_12 : decode cX7_ahead 12 = .ok (.aload_n 0, 1) := by decide +kernel
theorem dX7_ahead_13 : decode cX7_ahead 13 = .ok (.iload_n 1, 1) := by decide +kernel
theorem dX7_ahead_14 : decode cX7_ahead 14 = .ok (.iload_n 2, 1) := by decide +kernel
theorem dX7_ahead_15 : decode cX7_ahead 15 = .ok (.invokevirtual 110, 3) := by decide +kernel
theorem dX7_ahead_18 : decode cX7_ahead 18 = .ok (.ifCond .ne 6, 3) := by decide +kernel
theorem dX7_ahead_21 : decode cX7_ahead 21 = .ok (.bipush (-4), 2) := by decide +kernel
theorem dX7_ahead_23 : decode cX7_ahead 23 = .ok (.ireturn, 1) := by decide +kernel
theorem dX7_ahead_24 : decode cX7_ahead 24 = .ok (.aload_n 0, 1) := by decide +kernel
theorem dX7_ahead_25 : decode cX7_ahead 25 = .ok (.bipush 43, 2) := by decide +kernel
theorem dX7_ahead_27 : decode cX7_ahead 27 = .ok (.iload_n 2, 1) := by decide +kernel
theorem dX7_ahead_28 : decode cX7_ahead 28 = .ok (.iadd, 1) := by decide +kernel
theorem dX7_ahead_29 : decode cX7_ahead 29 = .ok (.aload_n 0, 1) := by decide +kernel
theorem dX7_ahead_30 : decode cX7_ahead 30 = .ok (.getfield 7, 3) := by decide +kernel
theorem dX7_ahead_33 : decode cX7_ahead 33 = .ok (.bipush 43, 2) := by decide +kernel
theorem dX7_ahead_35 : decode cX7_ahead 35 = .ok (.iload_n 2, 1) := by decide +kernel
theorem dX7_ahead_36 : decode cX7_ahead 36 = .ok (.iadd, 1) := by decide +kernel
theorem dX7_ahead_37 : decode cX7_ahead 37 = .ok (.iaload, 1) := by decide +kernel
theorem dX7_ahead_38 : decode cX7_ahead 38 = .ok (.iconst 1, 1) := by decide +kernel
theorem dX7_ahead_39 : decode cX7_ahead 39 = .ok (.iload_n 1, 1) := by decide +kernel
theorem dX7_ahead_40 : decode cX7_ahead 40 = .ok (.ishl, 1) := by decide +kernel
theorem dX7_ahead_41 : decode cX7_ahead 41 = .ok (.ior, 1) := by decide +kernel
theorem dX7_ahead_42 : decode cX7_ahead 42 = .ok (.invokevirtual 213, 3) := by decide +kernel
theorem dX7_ahead_45 : decode cX7_ahead 45 = .ok (.pop, 1) := by decide +kernel
theorem dX7_ahead_46 : decode cX7_ahead 46 = .ok (.aload_n 0, 1) := by decide +kernel
theorem dX7_ahead_47 : decode cX7_ahead 47 = .ok (.invokevirtual 219, 3) := by decide +kernel
theorem dX7_ahead_50 : decode cX7_ahead 50 = .ok (.ireturn, 1) := by decide +kernel
set_option maxRecDepth 20000 in
theorem ggX7_loosen_X7_isSection : GoodIn wsX7_loosen wsX7_isSection := goodIn_r _ [6, 1, 7, 8, 5, 9, 33, 34, 35, 36, 37, 38, 39, 40, 41, 42, 43, 44, 45, 46] (by decide +kernel) (by decide +kernel)
set_option maxRecDepth 20000 in
theorem gX7_loosen_X7_isSection : GoodIn wsX7_loosen (wsV RX7 184 RX7 yX7_isSection wsX7_isSection) := goodIn_app (goodIn_of _ (by decide +kernel)) ggX7_loosen_X7_isSection
set_option maxRecDepth 20000 in
theorem ggX7_loosen_X7_has : GoodIn wsX7_loosen wsX7_has := goodIn_r _ [12] (by decide +kernel) (by decide +kernel)
set_option maxRecDepth 20000 in
theorem gX7_loosen_X7_has : GoodIn wsX7_loosen (va_wsS RX7 93 yX7_has wsX7_has) := goodIn_app (goodIn_of _ (by decide +kernel)) ggX7_loosen_X7_has
set_option maxRecDepth 20000 in
theorem ggX7_loosen_X7_becomes : GoodIn wsX7_loosen wsX7_becomes := goodIn_r _ [16, 1, 17, 18, 19, 5, 20, 21, 22, 23, 24, 25, 33, 34, 35, 36, 37, 38, 39, 40, 41, 42, 43, 44, 45, 46] (by decide +kernel) (by decide +kernel)
set_option maxRecDepth 20000 in
theorem gX7_loosen_X7_becomes : GoodIn wsX7_loosen (wsV RX7 213 RX7 yX7_becomes wsX7_becomes) := goodIn_app (goodIn_of _ (by decide +kernel)) ggX7_loosen_X7_becomes
set_option maxRecDepth 20000 in
theorem ggX7_loosen_X7_pairs : GoodIn wsX7_loosen wsX7_pairs := goodIn_r _ [29, 1, 30, 31, 5, 32, 33, 34, 35, 36, 37, 38, 39, 40, 41, 42, 43, 44, 45, 46] (by decide +kernel) (by decide +kernel)
set_option maxRecDepth 20000 in
theorem gX7_loosen_X7_pairs : GoodIn wsX7_loosen (wsV RX7 219 RX7 yX7_pairs wsX7_pairs) := goodIn_app (goodIn_of _ (by decide +kernel)) ggX7_loosen_X7_pairs
theorem dX7_loosen_0 : decode cX7_loosen 0 = .ok (.aload_n 0, 1) := by decide +kernel
theorem dX7_loosen_1 : decode cX7_loosen 1 = .ok (.iload_n 1, 1) := by decide +kernel
theorem dX7_loosen_2 : decode cX7_loosen 2 = .ok (.invokevirtual 184, 3) := by decide +kernel
theorem dX7_loosen_5 : decode cX7_loosen 5 = .ok (.ifCond .eq 11, 3) := by decide +kernel
theorem dX7_loosen_8 : decode cX7_loosen 8 = .ok (.aload_n 0, 1) := by decide +kernel
theorem dX7_loosen_9 : decode cX7_loosen 9 = .ok (.iload_n 2, 1) := by decide +kernel
theorem dX7_loosen_10 : decode cX7_loosen 10 = .ok (.invokevirtual 184, 3) := by decide +kernel
theorem dX7_loosen_13 : decode cX7_loosen 13 = .ok (.ifCond .ne 6, 3) := by decide +kernel
theorem dX7_loosen_16 : decode cX7_loosen 16 = .ok (.bipush (-2), 2) := by decide +kernel
theorem dX7_loosen_18 : decode cX7_loosen 18 = .ok (.ireturn, 1) := by decide +kernel
theorem dX7_loosen_19 : decode cX7_loosen 19 = .ok (.aload_n 0, 1) := by decide +kernel
theorem dX7_loosen_20 : decode cX7_loosen 20 = .ok (.getfield 7, 3) := by decide +kernel
theorem dX7_loosen_23 : decode cX7_loosen 23 = .ok (.bipush 43, 2) := by decide +kernel
theorem dX7_loosen_25 : decode cX7_loosen 25 = .ok (.iload_n 2, 1) := by decide +kernel
theorem dX7_loosen_26 : decode cX7_loosen 26 = .ok (.iadd, 1) := by decide +kernel
theorem dX7_loosen_27 : decode cX7_loosen 27 = .ok (.iaload, 1) := by decide +kernel
theorem dX7_loosen_28 : decode cX7_loosen 28 = .ok (.iload_n 1, 1) := by decide +kernel
theorem dX7_loosen_29 : decode cX7_loosen 29 = .ok (.invokestatic 93, 3) := by decide +kernel
theorem dX7_loosen_32 : decode cX7_loosen 32 = .ok (.ifCond .ne 6, 3) := by decide +kernel
theorem dX7_loosen_35 : decode cX7_loosen 35 = .ok (.bipush (-4), 2) := by decide +kernel
theorem dX7_loosen_37 : decode cX7_loosen 37 = .ok (.ireturn, 1) := by decide +kernel
theorem dX7_loosen_38 : decode cX7_loosen 38 = .ok (.aload_n 0, 1) := by decide +kernel
theorem dX7_loosen_39 : decode cX7_loosen 39 = .ok (.bipush 43, 2) := by decide +kernel
theorem dX7_loosen_41 : decode cX7_loosen 41 = .ok (.iload_n 2, 1) := by decide +kernel
theorem dX7_loosen_42 : decode cX7_loosen 42 = .ok (.iadd, 1) := by decide +kernel
theorem dX7_loosen_43 : decode cX7_loosen 43 = .ok (.aload_n 0, 1) := by decide +kernel
theorem dX7_loosen_44 : decode cX7_loosen 44 = .ok (.getfield 7, 3) := by decide +kernel
theorem dX7_loosen_47 : decode cX7_loosen 47 = .ok (.bipush 43, 2) := by decide +kernel
theorem dX7_loosen_49 : decode cX7_loosen 49 = .ok (.iload_n 2, 1) := by decide +kernel
theorem dX7_loosen_50 : decode cX7_loosen 50 = .ok (.iadd, 1) := by decide +kernel
theorem dX7_loosen_51 : decode cX7_loosen 51 = .ok (.iaload, 1) := by decide +kernel
theorem dX7_loosen_52 : decode cX7_loosen 52 = .ok (.iconst 1, 1) := by decide +kernel
theorem dX7_loosen_53 : decode cX7_loosen 53 = .ok (.iload_n 1, 1) := by decide +kernel
theorem dX7_loosen_54 : decode cX7_loosen 54 = .ok (.ishl, 1) := by decide +kernel
theorem dX7_loosen_55 : decode cX7_loosen 55 = .ok (.iconst (-1), 1) := by decide +kernel
theorem dX7_loosen_56 : decode cX7_loosen 56 = .ok (.ixor, 1) := by decide +kernel
theorem dX7_loosen_57 : decode cX7_loosen 57 = .ok (.iand, 1) := by decide +kernel
theorem dX7_loosen_58 : decode cX7_loosen 58 = .ok (.invokevirtual 213, 3) := by decide +kernel
theorem dX7_loosen_61 : decode cX7_loosen 61 = .ok (.pop, 1) := by decide +kernel
theorem dX7_loosen_62 : decode cX7_loosen 62 = .ok (.aload_n 0, 1) := by decide +kernel
theorem dX7_loosen_63 : decode cX7_loosen 63 = .ok (.invokevirtual 219, 3) := by decide +kernel
theorem dX7_loosen_66 : decode cX7_loosen 66 = .ok (.ireturn, 1) := by decide +kernel
set_option maxRecDepth 20000 in
theorem ggX7_moves_X7_placeOf : GoodIn wsX7_moves wsX7_placeOf := goodIn_r _ [7, 1, 8, 9, 10, 11, 12, 13, 14, 15, 16, 17, 18, 19, 20, 21] (by decide +kernel) (by decide +kernel)
set_option maxRecDepth 20000 in
theorem gX7_moves_X7_placeOf : GoodIn wsX7_moves (wsV RX7 135 RX7 yX7_placeOf wsX7_placeOf) := goodIn_app (goodIn_of _ (by decide +kernel)) ggX7_moves_X7_placeOf
theorem dX7_moves_0 : decode cX7_moves 0 = .ok (.iconst 0, 1) := by decide +kernel
theorem dX7_moves_1 : decode cX7_moves 1 = .ok (.istore_n 3, 1) := by decide +kernel
theorem dX7_moves_2 : decode cX7_moves 2 = .ok (.iload_n 3, 1) := by decide +kernel
theorem dX7_moves_3 : decode cX7_moves 3 = .ok (.aload_n 0, 1) := by decide +kernel
theorem dX7_moves_4 : decode cX7_moves 4 = .ok (.getfield 7, 3) := by decide +kernel
theorem dX7_moves_7 : decode cX7_moves 7 = .ok (.iconst 0, 1) := by decide +kernel
theorem dX7_moves_8 : decode cX7_moves 8 = .ok (.iaload, 1) := by decide +kernel
theorem dX7_moves_9 : decode cX7_moves 9 = .ok (.if_icmp .ge 69, 3) := by decide +kernel
theorem dX7_moves_12 : decode cX7_moves 12 = .ok (.aload_n 0, 1) := by decide +kernel
theorem dX7_moves_13 : decode cX7_moves 13 = .ok (.getfield 7, 3) := by decide +kernel
theorem dX7_moves_16 : decode cX7_moves 16 = .ok (.bipush 33, 2) := by decide +kernel
theorem dX7_moves_18 : decode cX7_moves 18 = .ok (.iload_n 3, 1) := by decide +kernel
theorem dX7_moves_19 : decode cX7_moves 19 = .ok (.iadd, 1) := by decide +kernel
theorem dX7_moves_20 : decode cX7_moves 20 = .ok (.iaload, 1) := by decide +kernel
theorem dX7_moves_21 : decode cX7_moves 21 = .ok (.iload_n 1, 1) := by decide +kernel
theorem dX7_moves_22 : decode cX7_moves 22 = .ok (.if_icmp .eq 50, 3) := by decide +kernel
theorem dX7_moves_25 : decode cX7_moves 25 = .ok (.iload_n 3, 1) := by decide +kernel
theorem dX7_moves_26 : decode cX7_moves 26 = .ok (.aload_n 0, 1) := by decide +kernel
theorem dX7_moves_27 : decode cX7_moves 27 = .ok (.iload_n 1, 1) := by decide +kernel
theorem dX7_moves_28 : decode cX7_moves 28 = .ok (.invokevirtual 135, 3) := by decide +kernel
theorem dX7_moves_31 : decode cX7_moves 31 = .ok (.if_icmp .le 9, 3) := by decide +kernel
theorem dX7_moves_34 : decode cX7_moves 34 = .ok (.iload_n 3, 1) := by decide +kernel
theorem dX7_moves_35 : decode cX7_moves 35 = .ok (.iconst 1, 1) := by decide +kernel
theorem dX7_moves_36 : decode cX7_moves 36 = .ok (.isub, 1) := by decide +kernel
theorem dX7_moves_37 : decode cX7_moves 37 = .ok (.goto 4, 3) := by decide +kernel
theorem dX7_moves_40 : decode cX7_moves 40 = .ok (.iload_n 3, 1) := by decide +kernel
theorem dX7_moves_41 : decode cX7_moves 41 = .ok (.istore 4, 2) := by decide +kernel
theorem dX7_moves_43 : decode cX7_moves 43 = .ok (.aload_n 0, 1) := by decide +kernel
theorem dX7_moves_44 : decode cX7_moves 44 = .ok (.getfield 20, 3) := by decide +kernel
theorem dX7_moves_47 : decode cX7_moves 47 = .ok (.iload 4, 2) := by decide +kernel
theorem dX7_moves_49 : decode cX7_moves 49 = .ok (.iload_n 2, 1) := by decide +kernel
theorem dX7_moves_50 : decode cX7_moves 50 = .ok (.if_icmp .ge 8, 3) := by decide +kernel
theorem dX7_moves_53 : decode cX7_moves 53 = .ok (.iload 4, 2) := by decide +kernel
theorem dX7_moves_55 : decode cX7_moves 55 = .ok (.goto 7, 3) := by decide +kernel
theorem dX7_moves_58 : decode cX7_moves 58 = .ok (.iload 4, 2) := by decide +kernel
theorem dX7_moves_60 : decode cX7_moves 60 = .ok (.iconst 1, 1) := by decide +kernel
theorem dX7_moves_61 : decode cX7_moves 61 = .ok (.iadd, 1) := by decide +kernel
theorem dX7_moves_62 : decode cX7_moves 62 = .ok (.aload_n 0, 1) := by decide +kernel
theorem dX7_moves_63 : decode cX7_moves 63 = .ok (.getfield 7, 3) := by decide +kernel
theorem dX7_moves_66 : decode cX7_moves 66 = .ok (.bipush 33, 2) := by decide +kernel
theorem dX7_moves_68 : decode cX7_moves 68 = .ok (.iload_n 3, 1) := by decide +kernel
theorem dX7_moves_69 : decode cX7_moves 69 = .ok (.iadd, 1) := by decide +kernel
theorem dX7_moves_70 : decode cX7_moves 70 = .ok (.iaload, 1) := by decide +kernel
theorem dX7_moves_71 : decode cX7_moves 71 = .ok (.iastore, 1) := by decide +kernel
theorem dX7_moves_72 : decode cX7_moves 72 = .ok (.iinc 3 1, 3) := by decide +kernel
theorem dX7_moves_75 : decode cX7_moves 75 = .ok (.goto (-73), 3) := by decide +kernel
theorem dX7_moves_78 : decode cX7_moves 78 = .ok (.aload_n 0, 1) := by decide +kernel
theorem dX7_moves_79 : decode cX7_moves 79 = .ok (.getfield 20, 3) := by decide +kernel
theorem dX7_moves_82 : decode cX7_moves 82 = .ok (.iload_n 2, 1) := by decide +kernel
theorem dX7_moves_83 : decode cX7_moves 83 = .ok (.iload_n 1, 1) := by decide +kernel
theorem dX7_moves_84 : decode cX7_moves 84 = .ok (.iastore, 1) := by decide +kernel
theorem dX7_moves_85 : decode cX7_moves 85 = .ok (.return_, 1) := by decide +kernel
set_option maxRecDepth 20000 in
theorem ggX7_move_X7_isSection : GoodIn wsX7_move wsX7_isSection := goodIn_r _ [5, 6, 7, 8, 4, 9, 51, 52, 53, 54, 55, 56, 57, 58, 59, 60, 61, 62, 63, 64] (by decide +kernel) (by decide +kernel)
set_option maxRecDepth 20000 in
theorem gX7_move_X7_isSection : GoodIn wsX7_move (wsV RX7 184 RX7 yX7_isSection wsX7_isSection) := goodIn_app (goodIn_of _ (by decide +kernel)) ggX7_move_X7_isSection
set_option maxRecDepth 20000 in
theorem ggX7_move_X7_moves : GoodIn wsX7_move wsX7_moves := goodIn_r _ [13, 6, 14, 15, 16, 17, 4, 18, 51, 52, 53, 54, 55, 56, 57, 58, 59, 60, 61, 62, 63, 64] (by decide +kernel) (by decide +kernel)
set_option maxRecDepth 20000 in
theorem gX7_move_X7_moves : GoodIn wsX7_move (wsV RX7 222 RX7 yX7_moves wsX7_moves) := goodIn_app (goodIn_of _ (by decide +kernel)) ggX7_move_X7_moves
set_option maxRecDepth 20000 in
theorem ggX7_move_X7_isKeeping : GoodIn wsX7_move wsX7_isKeeping := goodIn_r _ [22, 6, 14, 51, 52, 53, 54, 55, 56, 57, 58, 59, 60, 61, 62, 63, 64] (by decide +kernel) (by decide +kernel)
set_option maxRecDepth 20000 in
theorem gX7_move_X7_isKeeping : GoodIn wsX7_move (wsV RX7 100 RX7 yX7_isKeeping wsX7_isKeeping) := goodIn_app (goodIn_of _ (by decide +kernel)) ggX7_move_X7_isKeeping
set_option maxRecDepth 20000 in
theorem ggX7_move_X7_records : GoodIn wsX7_move wsX7_records := goodIn_r _ [26, 27, 6, 28, 29, 30, 4, 31, 51, 52, 53, 54, 55, 56, 57, 58, 59, 60, 61, 62, 63, 64] (by decide +kernel) (by decide +kernel)
set_option maxRecDepth 20000 in
theorem gX7_move_X7_records : GoodIn wsX7_move (wsV RX7 208 RX7 yX7_records wsX7_records) := goodIn_app (goodIn_of _ (by decide +kernel)) ggX7_move_X7_records
set_option maxRecDepth 20000 in
theorem ggX7_move_X7_swapOrder : GoodIn wsX7_move wsX7_swapOrder := goodIn_r _ [35, 6, 14, 51, 52, 53, 54, 55, 56, 57, 58, 59, 60, 61, 62, 63, 64] (by decide +kernel) (by decide +kernel)
set_option maxRecDepth 20000 in
theorem gX7_move_X7_swapOrder : GoodIn wsX7_move (wsV RX7 195 RX7 yX7_swapOrder wsX7_swapOrder) := goodIn_app (goodIn_of _ (by decide +kernel)) ggX7_move_X7_swapOrder
set_option maxRecDepth 20000 in
theorem ggX7_move_X7_notesMany : GoodIn wsX7_move wsX7_notesMany := goodIn_r _ [39, 40, 41, 42, 4, 43, 6, 44, 45, 46, 47, 48, 49, 50, 15, 16, 17, 18, 51, 52, 53, 54, 55, 56, 57, 58, 59, 60, 61, 62, 63, 64] (by decide +kernel) (by decide +kernel)
set_option maxRecDepth 20000 in
theorem gX7_move_X7_notesMany : GoodIn wsX7_move (wsV RX7 225 RX7 yX7_notesMany wsX7_notesMany) := goodIn_app (goodIn_of _ (by decide +kernel)) ggX7_move_X7_notesMany
theorem dX7_move_0 : decode cX7_move 0 = .ok (.aload_n 0, 1) := by decide +kernel
theorem dX7_move_1 : decode cX7_move 1 = .ok (.iload_n 1, 1) := by decide +kernel
theorem dX7_move_2 : decode cX7_move 2 = .ok (.invokevirtual 184, 3) := by decide +kernel
theorem dX7_move_5 : decode cX7_move 5 = .ok (.ifCond .eq 11, 3) := by decide +kernel
theorem dX7_move_8 : decode cX7_move 8 = .ok (.aload_n 0, 1) := by decide +kernel
theorem dX7_move_9 : decode cX7_move 9 = .ok (.iload_n 2, 1) := by decide +kernel
theorem dX7_move_10 : decode cX7_move 10 = .ok (.invokevirtual 184, 3) := by decide +kernel
theorem dX7_move_13 : decode cX7_move 13 = .ok (.ifCond .ne 6, 3) := by decide +kernel
theorem dX7_move_16 : decode cX7_move 16 = .ok (.bipush (-2), 2) := by decide +kernel
theorem dX7_move_18 : decode cX7_move 18 = .ok (.ireturn, 1) := by decide +kernel
theorem dX7_move_19 : decode cX7_move 19 = .ok (.aload_n 0, 1) := by decide +kernel
theorem dX7_move_20 : decode cX7_move 20 = .ok (.iload_n 1, 1) := by decide +kernel
theorem dX7_move_21 : decode cX7_move 21 = .ok (.iload_n 2, 1) := by decide +kernel
theorem dX7_move_22 : decode cX7_move 22 = .ok (.invokevirtual 222, 3) := by decide +kernel
theorem dX7_move_25 : decode cX7_move 25 = .ok (.aload_n 0, 1) := by decide +kernel
theorem dX7_move_26 : decode cX7_move 26 = .ok (.invokevirtual 100, 3) := by decide +kernel
theorem dX7_move_29 : decode cX7_move 29 = .ok (.ifCond .ne 6, 3) := by decide +kernel
theorem dX7_move_32 : decode cX7_move 32 = .ok (.bipush (-4), 2) := by decide +kernel
theorem dX7_move_34 : decode cX7_move 34 = .ok (.ireturn, 1) := by decide +kernel
theorem dX7_move_35 : decode cX7_move 35 = .ok (.aload_n 0, 1) := by decide +kernel
theorem dX7_move_36 : decode cX7_move 36 = .ok (.invokevirtual 208, 3) := by decide +kernel
theorem dX7_move_39 : decode cX7_move 39 = .ok (.aload_n 0, 1) := by decide +kernel
theorem dX7_move_40 : decode cX7_move 40 = .ok (.invokevirtual 195, 3) := by decide +kernel
theorem dX7_move_43 : decode cX7_move 43 = .ok (.aload_n 0, 1) := by decide +kernel
theorem dX7_move_44 : decode cX7_move 44 = .ok (.invokevirtual 225, 3) := by decide +kernel
theorem dX7_move_47 : decode cX7_move 47 = .ok (.ireturn, 1) := by decide +kernel
set_option maxRecDepth 20000 in
theorem ggX7_after_X7_isSection : GoodIn wsX7_after wsX7_isSection := goodIn_r _ [5, 6, 7, 8, 4, 9, 42, 43, 44, 45, 46, 47, 48, 49, 50, 51, 52, 53, 54, 55] (by decide +kernel) (by decide +kernel)
set_option maxRecDepth 20000 in
theorem gX7_after_X7_isSection : GoodIn wsX7_after (wsV RX7 184 RX7 yX7_isSection wsX7_isSection) := goodIn_app (goodIn_of _ (by decide +kernel)) ggX7_after_X7_isSection
set_option maxRecDepth 20000 in
theorem ggX7_after_X7_moves : GoodIn wsX7_after wsX7_moves := goodIn_r _ [13, 6, 14, 15, 16, 17, 4, 18, 42, 43, 44, 45, 46, 47, 48, 49, 50, 51, 52, 53, 54, 55] (by decide +kernel) (by decide +kernel)
set_option maxRecDepth 20000 in
theorem gX7_after_X7_moves : GoodIn wsX7_after (wsV RX7 222 RX7 yX7_moves wsX7_moves) := goodIn_app (goodIn_of _ (by decide +kernel)) ggX7_after_X7_moves
set_option maxRecDepth 20000 in
theorem ggX7_after_X7_isKeeping : GoodIn wsX7_after wsX7_isKeeping := goodIn_r _ [22, 6, 14, 42, 43, 44, 45, 46, 47, 48, 49, 50, 51, 52, 53, 54, 55] (by decide +kernel) (by decide +kernel)
set_option maxRecDepth 20000 in
theorem gX7_after_X7_isKeeping : GoodIn wsX7_after (wsV RX7 100 RX7 yX7_isKeeping wsX7_isKeeping) := goodIn_app (goodIn_of _ (by decide +kernel)) ggX7_after_X7_isKeeping
set_option maxRecDepth 20000 in
theorem ggX7_after_X7_swapOrder : GoodIn wsX7_after wsX7_swapOrder := goodIn_r _ [26, 6, 14, 42, 43, 44, 45, 46, 47, 48, 49, 50, 51, 52, 53, 54, 55] (by decide +kernel) (by decide +kernel)
set_option maxRecDepth 20000 in
theorem gX7_after_X7_swapOrder : GoodIn wsX7_after (wsV RX7 195 RX7 yX7_swapOrder wsX7_swapOrder) := goodIn_app (goodIn_of _ (by decide +kernel)) ggX7_after_X7_swapOrder
set_option maxRecDepth 20000 in
theorem ggX7_after_X7_notesMany : GoodIn wsX7_after wsX7_notesMany := goodIn_r _ [30, 31, 32, 33, 4, 34, 6, 35, 36, 37, 38, 39, 40, 41, 15, 16, 17, 18, 42, 43, 44, 45, 46, 47, 48, 49, 50, 51, 52, 53, 54, 55] (by decide +kernel) (by decide +kernel)
set_option maxRecDepth 20000 in
theorem gX7_after_X7_notesMany : GoodIn wsX7_after (wsV RX7 225 RX7 yX7_notesMany wsX7_notesMany) := goodIn_app (goodIn_of _ (by decide +kernel)) ggX7_after_X7_notesMany
theorem dX7_after_0 : decode cX7_after 0 = .ok (.aload_n 0, 1) := by decide +kernel
theorem dX7_after_1 : decode cX7_after 1 = .ok (.iload_n 1, 1) := by decide +kernel
theorem dX7_after_2 : decode cX7_after 2 = .ok (.invokevirtual 184, 3) := by decide +kernel
theorem dX7_after_5 : decode cX7_after 5 = .ok (.ifCond .eq 11, 3) := by decide +kernel
theorem dX7_after_8 : decode cX7_after 8 = .ok (.aload_n 0, 1) := by decide +kernel
theorem dX7_after_9 : decode cX7_after 9 = .ok (.iload_n 2, 1) := by decide +kernel
theorem dX7_after_10 : decode cX7_after 10 = .ok (.invokevirtual 184, 3) := by decide +kernel
theorem dX7_after_13 : decode cX7_after 13 = .ok (.ifCond .ne 6, 3) := by decide +kernel
theorem dX7_after_16 : decode cX7_after 16 = .ok (.bipush (-2), 2) := by decide +kernel
theorem dX7_after_18 : decode cX7_after 18 = .ok (.ireturn, 1) := by decide +kernel
theorem dX7_after_19 : decode cX7_after 19 = .ok (.aload_n 0, 1) := by decide +kernel
theorem dX7_after_20 : decode cX7_after 20 = .ok (.iload_n 1, 1) := by decide +kernel
theorem dX7_after_21 : decode cX7_after 21 = .ok (.iload_n 2, 1) := by decide +kernel
theorem dX7_after_22 : decode cX7_after 22 = .ok (.invokevirtual 222, 3) := by decide +kernel
theorem dX7_after_25 : decode cX7_after 25 = .ok (.aload_n 0, 1) := by decide +kernel
theorem dX7_after_26 : decode cX7_after 26 = .ok (.invokevirtual 100, 3) := by decide +kernel
theorem dX7_after_29 : decode cX7_after 29 = .ok (.ifCond .ne 6, 3) := by decide +kernel
theorem dX7_after_32 : decode cX7_after 32 = .ok (.bipush (-4), 2) := by decide +kernel
theorem dX7_after_34 : decode cX7_after 34 = .ok (.ireturn, 1) := by decide +kernel
theorem dX7_after_35 : decode cX7_after 35 = .ok (.aload_n 0, 1) := by decide +kernel
theorem dX7_after_36 : decode cX7_after 36 = .ok (.invokevirtual 195, 3) := by decide +kernel
theorem dX7_after_39 : decode cX7_after 39 = .ok (.aload_n 0, 1) := by decide +kernel
theorem dX7_after_40 : decode cX7_after 40 = .ok (.invokevirtual 225, 3) := by decide +kernel
theorem dX7_after_43 : decode cX7_after 43 = .ok (.istore_n 3, 1) := by decide +kernel
theorem dX7_after_44 : decode cX7_after 44 = .ok (.aload_n 0, 1) := by decide +kernel
theorem dX7_after_45 : decode cX7_after 45 = .ok (.invokevirtual 195, 3) := by decide +kernel
theorem dX7_after_48 : decode cX7_after 48 = .ok (.iload_n 3, 1) := by decide +kernel
theorem dX7_after_49 : decode cX7_after 49 = .ok (.ireturn, 1) := by decide +kernel
set_option maxRecDepth 20000 in
theorem ggX7_settle_X7_lays : GoodIn wsX7_settle wsX7_lays := goodIn_r _ [6, 7, 8, 9, 10, 11, 5, 12, 13, 1, 14, 15, 16, 17, 18, 19, 20, 21, 22, 23, 24, 25, 26, 27, 28, 29, 30, 31, 32, 33, 34, 35, 36, 37, 38, 39, 40, 41, 42, 43, 57, 58, 59, 60, 61, 62, 63, 64, 65, 66, 67, 68, 69, 70] (by decide +kernel) (by decide +kernel)
set_option maxRecDepth 20000 in
theorem gX7_settle_X7_lays : GoodIn wsX7_settle (wsV RX7 187 RX7 yX7_lays wsX7_lays) := goodIn_app (goodIn_of _ (by decide +kernel)) ggX7_settle_X7_lays
set_option maxRecDepth 20000 in
theorem ggX7_settle_X7_records : GoodIn wsX7_settle wsX7_records := goodIn_r _ [47, 48, 7, 49, 50, 51, 5, 52, 57, 58, 59, 60, 61, 62, 63, 64, 65, 66, 67, 68, 69, 70] (by decide +kernel) (by decide +kernel)
set_option maxRecDepth 20000 in
theorem gX7_settle_X7_records : GoodIn wsX7_settle (wsV RX7 208 RX7 yX7_records wsX7_records) := goodIn_app (goodIn_of _ (by decide +kernel)) ggX7_settle_X7_records
set_option maxRecDepth 20000 in
theorem ggX7_settle_X7_swapOrder : GoodIn wsX7_settle wsX7_swapOrder := goodIn_r _ [56, 7, 8, 57, 58, 59, 60, 61, 62, 63, 64, 65, 66, 67, 68, 69, 70] (by decide +kernel) (by decide +kernel)
set_option maxRecDepth 20000 in
theorem gX7_settle_X7_swapOrder : GoodIn wsX7_settle (wsV RX7 195 RX7 yX7_swapOrder wsX7_swapOrder) := goodIn_app (goodIn_of _ (by decide +kernel)) ggX7_settle_X7_swapOrder
theorem dX7_settle_0 : decode cX7_settle 0 = .ok (.aload_n 0, 1) := by decide +kernel
theorem dX7_settle_1 : decode cX7_settle 1 = .ok (.invokevirtual 187, 3) := by decide +kernel
theorem dX7_settle_4 : decode cX7_settle 4 = .ok (.aload_n 0, 1) := by decide +kernel
theorem dX7_settle_5 : decode cX7_settle 5 = .ok (.getfield 29, 3) := by decide +kernel
theorem dX7_settle_8 : decode cX7_settle 8 = .ok (.iconst 0, 1) := by decide +kernel
theorem dX7_settle_9 : decode cX7_settle 9 = .ok (.iaload, 1) := by decide +kernel
theorem dX7_settle_10 : decode cX7_settle 10 = .ok (.istore_n 1, 1) := by decide +kernel
theorem dX7_settle_11 : decode cX7_settle 11 = .ok (.aload_n 0, 1) := by decide +kernel
theorem dX7_settle_12 : decode cX7_settle 12 = .ok (.invokevirtual 208, 3) := by decide +kernel
theorem dX7_settle_15 : decode cX7_settle 15 = .ok (.aload_n 0, 1) := by decide +kernel
theorem dX7_settle_16 : decode cX7_settle 16 = .ok (.invokevirtual 195, 3) := by decide +kernel
theorem dX7_settle_19 : decode cX7_settle 19 = .ok (.iload_n 1, 1) := by decide +kernel
theorem dX7_settle_20 : decode cX7_settle 20 = .ok (.ireturn, 1) := by decide +kernel
set_option maxRecDepth 20000 in
theorem ggX7_undo_X7_copyRow : GoodIn wsX7_undo wsX7_copyRow := goodIn_r _ [6, 7, 8, 9, 10, 11, 12, 13, 14, 15, 16, 17, 18, 19, 20, 21] (by decide +kernel) (by decide +kernel)
set_option maxRecDepth 20000 in
theorem gX7_undo_X7_copyRow : GoodIn wsX7_undo (wsV RX7 204 RX7 yX7_copyRow wsX7_copyRow) := goodIn_app (goodIn_of _ (by decide +kernel)) ggX7_undo_X7_copyRow
theorem dX7_undo_0 : decode cX7_undo 0 = .ok (.aload_n 0, 1) := by decide +kernel
theorem dX7_undo_1 : decode cX7_undo 1 = .ok (.getfield 132, 3) := by decide +kernel
theorem dX7_undo_4 : decode cX7_undo 4 = .ok (.ifCond .ne 6, 3) := by decide +kernel
theorem dX7_undo_7 : decode cX7_undo 7 = .ok (.bipush (-4), 2) := by decide +kernel
theorem dX7_undo_9 : decode cX7_undo 9 = .ok (.ireturn, 1) := by decide +kernel
theorem dX7_undo_10 : decode cX7_undo 10 = .ok (.aload_n 0, 1) := by decide +kernel
theorem dX7_undo_11 : decode cX7_undo 11 = .ok (.dup, 1) := by decide +kernel
theorem dX7_undo_12 : decode cX7_undo 12 = .ok (.getfield 132, 3) := by decide +kernel
theorem dX7_undo_15 : decode cX7_undo 15 = .ok (.iconst 1, 1) := by decide +kernel
theorem dX7_undo_16 : decode cX7_undo 16 = .ok (.isub, 1) := by decide +kernel
theorem dX7_undo_17 : decode cX7_undo 17 = .ok (.putfield 132, 3) := by decide +kernel
theorem dX7_undo_20 : decode cX7_undo 20 = .ok (.aload_n 0, 1) := by decide +kernel
theorem dX7_undo_21 : decode cX7_undo 21 = .ok (.bipush 53, 2) := by decide +kernel
theorem dX7_undo_23 : decode cX7_undo 23 = .ok (.bipush 53, 2) := by decide +kernel
theorem dX7_undo_25 : decode cX7_undo 25 = .ok (.aload_n 0, 1) := by decide +kernel
theorem dX7_undo_26 : decode cX7_undo 26 = .ok (.getfield 132, 3) := by decide +kernel
theorem dX7_undo_29 : decode cX7_undo 29 = .ok (.imul, 1) := by decide +kernel
theorem dX7_undo_30 : decode cX7_undo 30 = .ok (.iadd, 1) := by decide +kernel
theorem dX7_undo_31 : decode cX7_undo 31 = .ok (.iconst 0, 1) := by decide +kernel
theorem dX7_undo_32 : decode cX7_undo 32 = .ok (.invokevirtual 204, 3) := by decide +kernel
theorem dX7_undo_35 : decode cX7_undo 35 = .ok (.aload_n 0, 1) := by decide +kernel
theorem dX7_undo_36 : decode cX7_undo 36 = .ok (.getfield 132, 3) := by decide +kernel
theorem dX7_undo_39 : decode cX7_undo 39 = .ok (.ireturn, 1) := by decide +kernel
set_option maxRecDepth 20000 in
theorem ggX7_keep_X7_in : GoodIn wsX7_keep wsX7_in := goodIn_r _ [5] (by decide +kernel) (by decide +kernel)
set_option maxRecDepth 20000 in
theorem gX7_keep_X7_in : GoodIn wsX7_keep (va_wsS RX7 36 yX7_in wsX7_in) := goodIn_app (goodIn_of _ (by decide +kernel)) ggX7_keep_X7_in
set_option maxRecDepth 20000 in
theorem ggX7_keep_X7_copyRow : GoodIn wsX7_keep wsX7_copyRow := goodIn_r _ [9, 10, 30, 31, 32, 33, 34, 35, 36, 37, 38, 39, 40, 41, 42, 43] (by decide +kernel) (by decide +kernel)
set_option maxRecDepth 20000 in
theorem gX7_keep_X7_copyRow : GoodIn wsX7_keep (wsV RX7 204 RX7 yX7_copyRow wsX7_copyRow) := goodIn_app (goodIn_of _ (by decide +kernel)) ggX7_keep_X7_copyRow
set_option maxRecDepth 20000 in
theorem ggX7_keep_X7_notesMany : GoodIn wsX7_keep wsX7_notesMany := goodIn_r _ [14, 15, 16, 17, 4, 18, 10, 19, 20, 21, 22, 23, 24, 25, 26, 27, 28, 29, 30, 31, 32, 33, 34, 35, 36, 37, 38, 39, 40, 41, 42, 43] (by decide +kernel) (by decide +kernel)
set_option maxRecDepth 20000 in
theorem gX7_keep_X7_notesMany : GoodIn wsX7_keep (wsV RX7 225 RX7 yX7_notesMany wsX7_notesMany) := goodIn_app (goodIn_of _ (by decide +kernel)) ggX7_keep_X7_notesMany
theorem dX7_keep_0 : decode cX7_keep 0 = .ok (.iload_n 1, 1) := by decide +kernel
theorem dX7_keep_1 : decode cX7_keep 1 = .ok (.i2l, 1) := by decide +kernel
theorem dX7_keep_2 : decode cX7_keep 2 = .ok (.lconst 0, 1) := by decide +kernel
theorem dX7_keep_3 : decode cX7_keep 3 = .ok (.lconst 1, 1) := by decide +kernel
theorem dX7_keep_4 : decode cX7_keep 4 = .ok (.invokestatic 36, 3) := by decide +kernel
theorem dX7_keep_7 : decode cX7_keep 7 = .ok (.ifCond .ne 6, 3) := by decide +kernel
theorem dX7_keep_10 : decode cX7_keep 10 = .ok (.bipush (-3), 2) := by decide +kernel
theorem dX7_keep_12 : decode cX7_keep 12 = .ok (.ireturn, 1) := by decide +kernel
theorem dX7_keep_13 : decode cX7_keep 13 = .ok (.aload_n 0, 1) := by decide +kernel
theorem dX7_keep_14 : decode cX7_keep 14 = .ok (.iconst 0, 1) := by decide +kernel
theorem dX7_keep_15 : decode cX7_keep 15 = .ok (.sipush 477, 3) := by decide +kernel
theorem dX7_keep_18 : decode cX7_keep 18 = .ok (.bipush 53, 2) := by decide +kernel
theorem dX7_keep_20 : decode cX7_keep 20 = .ok (.iload_n 1, 1) := by decide +kernel
theorem dX7_keep_21 : decode cX7_keep 21 = .ok (.imul, 1) := by decide +kernel
theorem dX7_keep_22 : decode cX7_keep 22 = .ok (.iadd, 1) := by decide +kernel
theorem dX7_keep_23 : decode cX7_keep 23 = .ok (.invokevirtual 204, 3) := by decide +kernel
theorem dX7_keep_26 : decode cX7_keep 26 = .ok (.aload_n 0, 1) := by decide +kernel
theorem dX7_keep_27 : decode cX7_keep 27 = .ok (.getfield 13, 3) := by decide +kernel
theorem dX7_keep_30 : decode cX7_keep 30 = .ok (.iload_n 1, 1) := by decide +kernel
theorem dX7_keep_31 : decode cX7_keep 31 = .ok (.iconst 1, 1) := by decide +kernel
theorem dX7_keep_32 : decode cX7_keep 32 = .ok (.bastore, 1) := by decide +kernel
theorem dX7_keep_33 : decode cX7_keep 33 = .ok (.aload_n 0, 1) := by decide +kernel
theorem dX7_keep_34 : decode cX7_keep 34 = .ok (.invokevirtual 225, 3) := by decide +kernel
theorem dX7_keep_37 : decode cX7_keep 37 = .ok (.ireturn, 1) := by decide +kernel
set_option maxRecDepth 20000 in
theorem ggX7_back_X7_in : GoodIn wsX7_back wsX7_in := goodIn_r _ [6] (by decide +kernel) (by decide +kernel)
set_option maxRecDepth 20000 in
theorem gX7_back_X7_in : GoodIn wsX7_back (va_wsS RX7 36 yX7_in wsX7_in) := goodIn_app (goodIn_of _ (by decide +kernel)) ggX7_back_X7_in
set_option maxRecDepth 20000 in
theorem ggX7_back_X7_copyRow : GoodIn wsX7_back wsX7_copyRow := goodIn_r _ [10, 11, 31, 32, 33, 34, 35, 36, 37, 38, 39, 40, 41, 42, 43, 44] (by decide +kernel) (by decide +kernel)
set_option maxRecDepth 20000 in
theorem gX7_back_X7_copyRow : GoodIn wsX7_back (wsV RX7 204 RX7 yX7_copyRow wsX7_copyRow) := goodIn_app (goodIn_of _ (by decide +kernel)) ggX7_back_X7_copyRow
set_option maxRecDepth 20000 in
theorem ggX7_back_X7_notesMany : GoodIn wsX7_back wsX7_notesMany := goodIn_r _ [15, 16, 17, 18, 5, 19, 11, 20, 21, 22, 23, 24, 25, 26, 27, 28, 29, 30, 31, 32, 33, 34, 35, 36, 37, 38, 39, 40, 41, 42, 43, 44] (by decide +kernel) (by decide +kernel)
set_option maxRecDepth 20000 in
theorem gX7_back_X7_notesMany : GoodIn wsX7_back (wsV RX7 225 RX7 yX7_notesMany wsX7_notesMany) := goodIn_app (goodIn_of _ (by decide +kernel)) ggX7_back_X7_notesMany
theorem dX7_back_0 : decode cX7_back 0 = .ok (.iload_n 1, 1) := by decide +kernel
theorem dX7_back_1 : decode cX7_back 1 = .ok (.i2l, 1) := by decide +kernel
theorem dX7_back_2 : decode cX7_back 2 = .ok (.lconst 0, 1) := by decide +kernel
theorem dX7_back_3 : decode cX7_back 3 = .ok (.lconst 1, 1) := by decide +kernel
theorem dX7_back_4 : decode cX7_back 4 = .ok (.invokestatic 36, 3) := by decide +kernel
theorem dX7_back_7 : decode cX7_back 7 = .ok (.ifCond .ne 6, 3) := by decide +kernel
theorem dX7_back_10 : decode cX7_back 10 = .ok (.bipush (-3), 2) := by decide +kernel
theorem dX7_back_12 : decode cX7_back 12 = .ok (.ireturn, 1) := by decide +kernel
theorem dX7_back_13 : decode cX7_back 13 = .ok (.aload_n 0, 1) := by decide +kernel
theorem dX7_back_14 : decode cX7_back 14 = .ok (.getfield 13, 3) := by decide +kernel
theorem dX7_back_17 : decode cX7_back 17 = .ok (.iload_n 1, 1) := by decide +kernel
theorem dX7_back_18 : decode cX7_back 18 = .ok (.baload, 1) := by decide +kernel
theorem dX7_back_19 : decode cX7_back 19 = .ok (.ifCond .ne 6, 3) := by decide +kernel
theorem dX7_back_22 : decode cX7_back 22 = .ok (.bipush (-4), 2) := by decide +kernel
theorem dX7_back_24 : decode cX7_back 24 = .ok (.ireturn, 1) := by decide +kernel
theorem dX7_back_25 : decode cX7_back 25 = .ok (.aload_n 0, 1) := by decide +kernel
theorem dX7_back_26 : decode cX7_back 26 = .ok (.sipush 477, 3) := by decide +kernel
theorem dX7_back_29 : decode cX7_back 29 = .ok (.bipush 53, 2) := by decide +kernel
theorem dX7_back_31 : decode cX7_back 31 = .ok (.iload_n 1, 1) := by decide +kernel
theorem dX7_back_32 : decode cX7_back 32 = .ok (.imul, 1) := by decide +kernel
theorem dX7_back_33 : decode cX7_back 33 = .ok (.iadd, 1) := by decide +kernel
theorem dX7_back_34 : decode cX7_back 34 = .ok (.iconst 0, 1) := by decide +kernel
theorem dX7_back_35 : decode cX7_back 35 = .ok (.invokevirtual 204, 3) := by decide +kernel
theorem dX7_back_38 : decode cX7_back 38 = .ok (.aload_n 0, 1) := by decide +kernel
theorem dX7_back_39 : decode cX7_back 39 = .ok (.iconst 0, 1) := by decide +kernel
theorem dX7_back_40 : decode cX7_back 40 = .ok (.putfield 132, 3) := by decide +kernel
theorem dX7_back_43 : decode cX7_back 43 = .ok (.aload_n 0, 1) := by decide +kernel
theorem dX7_back_44 : decode cX7_back 44 = .ok (.invokevirtual 225, 3) := by decide +kernel
theorem dX7_back_47 : decode cX7_back 47 = .ok (.ireturn, 1) := by decide +kernel
set_option maxRecDepth 20000 in
theorem ggX7_at_X7_isSection : GoodIn wsX7_at wsX7_isSection := goodIn_r _ [6, 1, 7, 8, 5, 9, 10, 11, 12, 13, 14, 15, 16, 17, 18, 19, 20, 21, 22, 23] (by decide +kernel) (by decide +kernel)
set_option maxRecDepth 20000 in
theorem gX7_at_X7_isSection : GoodIn wsX7_at (wsV RX7 184 RX7 yX7_isSection wsX7_isSection) := goodIn_app (goodIn_of _ (by decide +kernel)) ggX7_at_X7_isSection
theorem dX7_at_0 : decode cX7_at 0 = .ok (.aload_n 0, 1) := by decide +kernel
theorem dX7_at_1 : decode cX7_at 1 = .ok (.iload_n 1, 1) := by decide +kernel
theorem dX7_at_2 : decode cX7_at 2 = .ok (.invokevirtual 184, 3) := by decide +kernel
theorem dX7_at_5 : decode cX7_at 5 = .ok (.ifCond .eq 15, 3) := by decide +kernel
theorem dX7_at_8 : decode cX7_at 8 = .ok (.aload_n 0, 1) := by decide +kernel
theorem dX7_at_9 : decode cX7_at 9 = .ok (.getfield 7, 3) := by decide +kernel
theorem dX7_at_12 : decode cX7_at 12 = .ok (.bipush 33, 2) := by decide +kernel
theorem dX7_at_14 : decode cX7_at 14 = .ok (.iload_n 1, 1) := by decide +kernel
theorem dX7_at_15 : decode cX7_at 15 = .ok (.iadd, 1) := by decide +kernel
theorem dX7_at_16 : decode cX7_at 16 = .ok (.iaload, 1) := by decide +kernel
theorem dX7_at_17 : decode cX7_at 17 = .ok (.goto 5, 3) := by decide +kernel
theorem dX7_at_20 : decode cX7_at 20 = .ok (.bipush (-2), 2) := by decide +kernel
theorem dX7_at_22 : decode cX7_at 22 = .ok (.ireturn, 1) := by decide +kernel
theorem dX7_homesIn_0 : decode cX7_homesIn 0 = .ok (.iconst 0, 1) := by decide +kernel
theorem dX7_homesIn_1 : decode cX7_homesIn 1 = .ok (.istore_n 2, 1) := by decide +kernel
theorem dX7_homesIn_2 : decode cX7_homesIn 2 = .ok (.iconst 0, 1) := by decide +kernel
theorem dX7_homesIn_3 : decode cX7_homesIn 3 = .ok (.istore_n 3, 1) := by decide +kernel
theorem dX7_homesIn_4 : decode cX7_homesIn 4 = .ok (.iload_n 3, 1) := by decide +kernel
theorem dX7_homesIn_5 : decode cX7_homesIn 5 = .ok (.bipush 12, 2) := by decide +kernel
theorem dX7_homesIn_7 : decode cX7_homesIn 7 = .ok (.if_icmp .ge 32, 3) := by decide +kernel
theorem dX7_homesIn_10 : decode cX7_homesIn 10 = .ok (.iload_n 2, 1) := by decide +kernel
theorem dX7_homesIn_11 : decode cX7_homesIn 11 = .ok (.aload_n 0, 1) := by decide +kernel
theorem dX7_homesIn_12 : decode cX7_homesIn 12 = .ok (.getfield 7, 3) := by decide +kernel
theorem dX7_homesIn_15 : decode cX7_homesIn 15 = .ok (.bipush 11, 2) := by decide +kernel
theorem dX7_homesIn_17 : decode cX7_homesIn 17 = .ok (.iload_n 3, 1) := by decide +kernel
theorem dX7_homesIn_18 : decode cX7_homesIn 18 = .ok (.iadd, 1) := by decide +kernel
theorem dX7_homesIn_19 : decode cX7_homesIn 19 = .ok (.iaload, 1) := by decide +kernel
theorem dX7_homesIn_20 : decode cX7_homesIn 20 = .ok (.iload_n 1, 1) := by decide +kernel
theorem dX7_homesIn_21 : decode cX7_homesIn 21 = .ok (.if_icmp .ne 9, 3) := by decide +kernel
theorem dX7_homesIn_24 : decode cX7_homesIn 24 = .ok (.iconst 1, 1) := by decide +kernel
theorem dX7_homesIn_25 : decode cX7_homesIn 25 = .ok (.iload_n 3, 1) := by decide +kernel
theorem dX7_homesIn_26 : decode cX7_homesIn 26 = .ok (.ishl, 1) := by decide +kernel
theorem dX7_homesIn_27 : decode cX7_homesIn 27 = .ok (.goto 4, 3) := by decide +kernel
theorem dX7_homesIn_30 : decode cX7_homesIn 30 = .ok (.iconst 0, 1) := by decide +kernel
theorem dX7_homesIn_31 : decode cX7_homesIn 31 = .ok (.ior, 1) := by decide +kernel
theorem dX7_homesIn_32 : decode cX7_homesIn 32 = .ok (.istore_n 2, 1) := by decide +kernel
theorem dX7_homesIn_33 : decode cX7_homesIn 33 = .ok (.iinc 3 1, 3) := by decide +kernel
theorem dX7_homesIn_36 : decode cX7_homesIn 36 = .ok (.goto (-32), 3) := by decide +kernel
theorem dX7_homesIn_39 : decode cX7_homesIn 39 = .ok (.iload_n 2, 1) := by decide +kernel
theorem dX7_homesIn_40 : decode cX7_homesIn 40 = .ok (.ireturn, 1) := by decide +kernel
set_option maxRecDepth 20000 in
theorem ggX7_notesIn_X7_noteOf : GoodIn wsX7_notesIn wsX7_noteOf := goodIn_r _ [5, 6, 7, 8, 9, 4, 10, 11, 12, 13, 14, 15, 16, 17, 18, 19, 20, 21, 22, 23, 24, 25, 26, 27, 28, 29, 30, 31] (by decide +kernel) (by decide +kernel)
set_option maxRecDepth 20000 in
theorem gX7_notesIn_X7_noteOf : GoodIn wsX7_notesIn (wsV RX7 141 RX7 yX7_noteOf wsX7_noteOf) := goodIn_app (goodIn_of _ (by decide +kernel)) ggX7_notesIn_X7_noteOf
theorem dX7_notesIn_0 : decode cX7_notesIn 0 = .ok (.iconst 0, 1) := by decide +kernel
theorem dX7_notesIn_1 : decode cX7_notesIn 1 = .ok (.istore_n 2, 1) := by decide +kernel
theorem dX7_notesIn_2 : decode cX7_notesIn 2 = .ok (.iconst 0, 1) := by decide +kernel
theorem dX7_notesIn_3 : decode cX7_notesIn 3 = .ok (.istore_n 3, 1) := by decide +kernel
theorem dX7_notesIn_4 : decode cX7_notesIn 4 = .ok (.iload_n 3, 1) := by decide +kernel
theorem dX7_notesIn_5 : decode cX7_notesIn 5 = .ok (.bipush 12, 2) := by decide +kernel
theorem dX7_notesIn_7 : decode cX7_notesIn 7 = .ok (.if_icmp .ge 28, 3) := by decide +kernel
theorem dX7_notesIn_10 : decode cX7_notesIn 10 = .ok (.iload_n 2, 1) := by decide +kernel
theorem dX7_notesIn_11 : decode cX7_notesIn 11 = .ok (.aload_n 0, 1) := by decide +kernel
theorem dX7_notesIn_12 : decode cX7_notesIn 12 = .ok (.iload_n 3, 1) := by decide +kernel
theorem dX7_notesIn_13 : decode cX7_notesIn 13 = .ok (.invokevirtual 141, 3) := by decide +kernel
theorem dX7_notesIn_16 : decode cX7_notesIn 16 = .ok (.iload_n 1, 1) := by decide +kernel
theorem dX7_notesIn_17 : decode cX7_notesIn 17 = .ok (.if_icmp .ne 9, 3) := by decide +kernel
theorem dX7_notesIn_20 : decode cX7_notesIn 20 = .ok (.iconst 1, 1) := by decide +kernel
theorem dX7_notesIn_21 : decode cX7_notesIn 21 = .ok (.iload_n 3, 1) := by decide +kernel
theorem dX7_notesIn_22 : decode cX7_notesIn 22 = .ok (.ishl, 1) := by decide +kernel
theorem dX7_notesIn_23 : decode cX7_notesIn 23 = .ok (.goto 4, 3) := by decide +kernel
theorem dX7_notesIn_26 : decode cX7_notesIn 26 = .ok (.iconst 0, 1) := by decide +kernel
theorem dX7_notesIn_27 : decode cX7_notesIn 27 = .ok (.ior, 1) := by decide +kernel
theorem dX7_notesIn_28 : decode cX7_notesIn 28 = .ok (.istore_n 2, 1) := by decide +kernel
theorem dX7_notesIn_29 : decode cX7_notesIn 29 = .ok (.iinc 3 1, 3) := by decide +kernel
theorem dX7_notesIn_32 : decode cX7_notesIn 32 = .ok (.goto (-28), 3) := by decide +kernel
theorem dX7_notesIn_35 : decode cX7_notesIn 35 = .ok (.iload_n 2, 1) := by decide +kernel
theorem dX7_notesIn_36 : decode cX7_notesIn 36 = .ok (.ireturn, 1) := by decide +kernel
set_option maxRecDepth 20000 in
theorem ggX7_section_X7_isSection : GoodIn wsX7_section wsX7_isSection := goodIn_r _ [6, 1, 7, 8, 5, 9, 45, 46, 47, 48, 49, 50, 51, 52, 53, 54, 55, 56, 57, 58] (by decide +kernel) (by decide +kernel)
set_option maxRecDepth 20000 in
theorem gX7_section_X7_isSection : GoodIn wsX7_section (wsV RX7 184 RX7 yX7_isSection wsX7_isSection) := goodIn_app (goodIn_of _ (by decide +kernel)) ggX7_section_X7_isSection
set_option maxRecDepth 20000 in
theorem ggX7_section_X7_placeOf : GoodIn wsX7_section wsX7_placeOf := goodIn_r _ [13, 1, 45, 46, 47, 48, 49, 50, 51, 52, 53, 54, 55, 56, 57, 58] (by decide +kernel) (by decide +kernel)
set_option maxRecDepth 20000 in
theorem gX7_section_X7_placeOf : GoodIn wsX7_section (wsV RX7 135 RX7 yX7_placeOf wsX7_placeOf) := goodIn_app (goodIn_of _ (by decide +kernel)) ggX7_section_X7_placeOf
set_option maxRecDepth 20000 in
theorem ggX7_section_X7_homesIn : GoodIn wsX7_section wsX7_homesIn := goodIn_r _ [17, 1, 45, 46, 47, 48, 49, 50, 51, 52, 53, 54, 55, 56, 57, 58] (by decide +kernel) (by decide +kernel)
set_option maxRecDepth 20000 in
theorem gX7_section_X7_homesIn : GoodIn wsX7_section (wsV RX7 228 RX7 yX7_homesIn wsX7_homesIn) := goodIn_app (goodIn_of _ (by decide +kernel)) ggX7_section_X7_homesIn
set_option maxRecDepth 20000 in
theorem ggX7_section_X7_earlyIn : GoodIn wsX7_section wsX7_earlyIn := goodIn_r _ [21, 1, 22, 23, 5, 24, 10, 11, 12, 13, 45, 46, 47, 48, 49, 50, 51, 52, 53, 54, 55, 56, 57, 58] (by decide +kernel) (by decide +kernel)
set_option maxRecDepth 20000 in
theorem gX7_section_X7_earlyIn : GoodIn wsX7_section (wsV RX7 138 RX7 yX7_earlyIn wsX7_earlyIn) := goodIn_app (goodIn_of _ (by decide +kernel)) ggX7_section_X7_earlyIn
set_option maxRecDepth 20000 in
theorem ggX7_section_X7_notesIn : GoodIn wsX7_section wsX7_notesIn := goodIn_r _ [28, 29, 30, 31, 5, 32, 1, 18, 19, 20, 21, 22, 23, 24, 10, 11, 12, 13, 45, 46, 47, 48, 49, 50, 51, 52, 53, 54, 55, 56, 57, 58] (by decide +kernel) (by decide +kernel)
set_option maxRecDepth 20000 in
theorem gX7_section_X7_notesIn : GoodIn wsX7_section (wsV RX7 231 RX7 yX7_notesIn wsX7_notesIn) := goodIn_app (goodIn_of _ (by decide +kernel)) ggX7_section_X7_notesIn
set_option maxRecDepth 20000 in
theorem ggX7_section_X7_needs : GoodIn wsX7_section wsX7_needs := goodIn_r _ [36, 1, 22, 23, 5, 24, 45, 46, 47, 48, 49, 50, 51, 52, 53, 54, 55, 56, 57, 58] (by decide +kernel) (by decide +kernel)
set_option maxRecDepth 20000 in
theorem gX7_section_X7_needs : GoodIn wsX7_section (wsV RX7 150 RX7 yX7_needs wsX7_needs) := goodIn_app (goodIn_of _ (by decide +kernel)) ggX7_section_X7_needs
set_option maxRecDepth 20000 in
theorem ggX7_section_X7_knotOf : GoodIn wsX7_section wsX7_knotOf := goodIn_r _ [40, 1, 41, 42, 43, 5, 44, 33, 34, 35, 36, 22, 23, 24, 45, 46, 47, 48, 49, 50, 51, 52, 53, 54, 55, 56, 57, 58] (by decide +kernel) (by decide +kernel)
set_option maxRecDepth 20000 in
theorem gX7_section_X7_knotOf : GoodIn wsX7_section (wsV RX7 156 RX7 yX7_knotOf wsX7_knotOf) := goodIn_app (goodIn_of _ (by decide +kernel)) ggX7_section_X7_knotOf
theorem dX7_section_0 : decode cX7_section 0 = .ok (.aload_n 0, 1) := by decide +kernel
theorem dX7_section_1 : decode cX7_section 1 = .ok (.iload_n 1, 1) := by decide +kernel
theorem dX7_section_2 : decode cX7_section 2 = .ok (.invokevirtual 184, 3) := by decide +kernel
theorem dX7_section_5 : decode cX7_section 5 = .ok (.ifCond .ne 6, 3) := by decide +kernel
theorem dX7_section_8 : decode cX7_section 8 = .ok (.bipush (-2), 2) := by decide +kernel
theorem dX7_section_10 : decode cX7_section 10 = .ok (.ireturn, 1) := by decide +kernel
theorem dX7_section_11 : decode cX7_section 11 = .ok (.iload_n 2, 1) := by decide +kernel
theorem dX7_section_12 : decode cX7_section 12 = .ok (.tableswitch 117 0 8 #[52, 58, 67, 77, 83, 89, 95, 101, 107], 52) := by decide +kernel
theorem dX7_section_64 : decode cX7_section 64 = .ok (.aload_n 0, 1) := by decide +kernel
theorem dX7_section_65 : decode cX7_section 65 = .ok (.iload_n 1, 1) := by decide +kernel
theorem dX7_section_66 : decode cX7_section 66 = .ok (.invokevirtual 135, 3) := by decide +kernel
theorem dX7_section_69 : decode cX7_section 69 = .ok (.ireturn, 1) := by decide +kernel
theorem dX7_section_70 : decode cX7_section 70 = .ok (.aload_n 0, 1) := by decide +kernel
theorem dX7_section_71 : decode cX7_section 71 = .ok (.getfield 7, 3) := by decide +kernel
theorem dX7_section_74 : decode cX7_section 74 = .ok (.iconst 1, 1) := by decide +kernel
theorem dX7_section_75 : decode cX7_section 75 = .ok (.iload_n 1, 1) := by decide +kernel
theorem dX7_section_76 : decode cX7_section 76 = .ok (.iadd, 1) := by decide +kernel
theorem dX7_section_77 : decode cX7_section 77 = .ok (.iaload, 1) := by decide +kernel
theorem dX7_section_78 : decode cX7_section 78 = .ok (.ireturn, 1) := by decide +kernel
theorem dX7_section_79 : decode cX7_section 79 = .ok (.aload_n 0, 1) := by decide +kernel
theorem dX7_section_80 : decode cX7_section 80 = .ok (.getfield 7, 3) := by decide +kernel
theorem dX7_section_83 : decode cX7_section 83 = .ok (.bipush 23, 2) := by decide +kernel
theorem dX7_section_85 : decode cX7_section 85 = .ok (.iload_n 1, 1) := by decide +kernel
theorem dX7_section_86 : decode cX7_section 86 = .ok (.iadd, 1) := by decide +kernel
theorem dX7_section_87 : decode cX7_section 87 = .ok (.iaload, 1) := by decide +kernel
theorem dX7_section_88 : decode cX7_section 88 = .ok (.ireturn, 1) := by decide +kernel
theorem dX7_section_89 : decode cX7_section 89 = .ok (.aload_n 0, 1) := by decide +kernel
theorem dX7_section_90 : decode cX7_section 90 = .ok (.iload_n 1, 1) := by decide +kernel
theorem dX7_section_91 : decode cX7_section 91 = .ok (.invokevirtual 228, 3) := by decide +kernel
theorem dX7_section_94 : decode cX7_section 94 = .ok (.ireturn, 1) := by decide +kernel
theorem dX7_section_95 : decode cX7_section 95 = .ok (.aload_n 0, 1) := by decide +kernel
theorem dX7_section_96 : decode cX7_section 96 = .ok (.iload_n 1, 1) := by decide +kernel
theorem dX7_section_97 : decode cX7_section 97 = .ok (.invokevirtual 138, 3) := by decide +kernel
theorem dX7_section_100 : decode cX7_section 100 = .ok (.ireturn, 1) := by decide +kernel
theorem dX7_section_101 : decode cX7_section 101 = .ok (.aload_n 0, 1) := by decide +kernel
theorem dX7_section_102 : decode cX7_section 102 = .ok (.iload_n 1, 1) := by decide +kernel
theorem dX7_section_103 : decode cX7_section 103 = .ok (.invokevirtual 231, 3) := by decide +kernel
theorem dX7_section_106 : decode cX7_section 106 = .ok (.ireturn, 1) := by decide +kernel
theorem dX7_section_107 : decode cX7_section 107 = .ok (.aload_n 0, 1) := by decide +kernel
theorem dX7_section_108 : decode cX7_section 108 = .ok (.iload_n 1, 1) := by decide +kernel
theorem dX7_section_109 : decode cX7_section 109 = .ok (.invokevirtual 150, 3) := by decide +kernel
theorem dX7_section_112 : decode cX7_section 112 = .ok (.ireturn, 1) := by decide +kernel
theorem dX7_section_113 : decode cX7_section 113 = .ok (.aload_n 0, 1) := by decide +kernel
theorem dX7_section_114 : decode cX7_section 114 = .ok (.iload_n 1, 1) := by decide +kernel
theorem dX7_section_115 : decode cX7_section 115 = .ok (.invokevirtual 156, 3) := by decide +kernel
theorem dX7_section_118 : decode cX7_section 118 = .ok (.ireturn, 1) := by decide +kernel
theorem dX7_section_119 : decode cX7_section 119 = .ok (.aload_n 0, 1) := by decide +kernel
theorem dX7_section_120 : decode cX7_section 120 = .ok (.getfield 7, 3) := by decide +kernel
theorem dX7_section_123 : decode cX7_section 123 = .ok (.bipush 43, 2) := by decide +kernel
theorem dX7_section_125 : decode cX7_section 125 = .ok (.iload_n 1, 1) := by decide +kernel
theorem dX7_section_126 : decode cX7_section 126 = .ok (.iadd, 1) := by decide +kernel
theorem dX7_section_127 : decode cX7_section 127 = .ok (.iaload, 1) := by decide +kernel
theorem dX7_section_128 : decode cX7_section 128 = .ok (.ireturn, 1) := by decide +kernel
theorem dX7_section_129 : decode cX7_section 129 = .ok (.bipush (-3), 2) := by decide +kernel
theorem dX7_section_131 : decode cX7_section 131 = .ok (.ireturn, 1) := by decide +kernel
set_option maxRecDepth 20000 in
theorem ggX7_term_X7_isTerm : GoodIn wsX7_term wsX7_isTerm := goodIn_r _ [5, 6, 7, 8, 4, 9] (by decide +kernel) (by decide +kernel)
set_option maxRecDepth 20000 in
theorem gX7_term_X7_isTerm : GoodIn wsX7_term (va_wsS RX7 201 yX7_isTerm wsX7_isTerm) := goodIn_app (goodIn_of _ (by decide +kernel)) ggX7_term_X7_isTerm
set_option maxRecDepth 20000 in
theorem ggX7_term_X7_usedBy : GoodIn wsX7_term wsX7_usedBy := goodIn_r _ [13, 1, 14, 15, 4, 16, 33, 34, 35, 36, 37, 38, 39, 40, 41, 42, 43, 44, 45, 46] (by decide +kernel) (by decide +kernel)
set_option maxRecDepth 20000 in
theorem gX7_term_X7_usedBy : GoodIn wsX7_term (wsV RX7 147 RX7 yX7_usedBy wsX7_usedBy) := goodIn_app (goodIn_of _ (by decide +kernel)) ggX7_term_X7_usedBy
set_option maxRecDepth 20000 in
theorem ggX7_term_X7_noteOf : GoodIn wsX7_term wsX7_noteOf := goodIn_r _ [20, 1, 21, 22, 23, 4, 24, 14, 15, 16, 25, 26, 27, 28, 33, 34, 35, 36, 37, 38, 39, 40, 41, 42, 43, 44, 45, 46] (by decide +kernel) (by decide +kernel)
set_option maxRecDepth 20000 in
theorem gX7_term_X7_noteOf : GoodIn wsX7_term (wsV RX7 141 RX7 yX7_noteOf wsX7_noteOf) := goodIn_app (goodIn_of _ (by decide +kernel)) ggX7_term_X7_noteOf
set_option maxRecDepth 20000 in
theorem ggX7_term_X7_lasts : GoodIn wsX7_term wsX7_lasts := goodIn_r _ [32, 1, 17, 18, 19, 4, 20, 21, 22, 23, 24, 14, 15, 16, 25, 26, 27, 28, 33, 34, 35, 36, 37, 38, 39, 40, 41, 42, 43, 44, 45, 46] (by decide +kernel) (by decide +kernel)
set_option maxRecDepth 20000 in
theorem gX7_term_X7_lasts : GoodIn wsX7_term (wsV RX7 144 RX7 yX7_lasts wsX7_lasts) := goodIn_app (goodIn_of _ (by decide +kernel)) ggX7_term_X7_lasts
theorem dX7_term_0 : decode cX7_term 0 = .ok (.iload_n 1, 1) := by decide +kernel
theorem dX7_term_1 : decode cX7_term 1 = .ok (.invokestatic 201, 3) := by decide +kernel
theorem dX7_term_4 : decode cX7_term 4 = .ok (.ifCond .ne 6, 3) := by decide +kernel
theorem dX7_term_7 : decode cX7_term 7 = .ok (.bipush (-2), 2) := by decide +kernel
theorem dX7_term_9 : decode cX7_term 9 = .ok (.ireturn, 1) := by decide +kernel
theorem dX7_term_10 : decode cX7_term 10 = .ok (.iload_n 2, 1) := by decide +kernel
theorem dX7_term_11 : decode cX7_term 11 = .ok (.tableswitch 88 0 4 #[33, 43, 49, 55, 61], 33) := by decide +kernel
theorem dX7_term_44 : decode cX7_term 44 = .ok (.aload_n 0, 1) := by decide +kernel
theorem dX7_term_45 : decode cX7_term 45 = .ok (.getfield 7, 3) := by decide +kernel
theorem dX7_term_48 : decode cX7_term 48 = .ok (.bipush 11, 2) := by decide +kernel
theorem dX7_term_50 : decode cX7_term 50 = .ok (.iload_n 1, 1) := by decide +kernel
theorem dX7_term_51 : decode cX7_term 51 = .ok (.iadd, 1) := by decide +kernel
theorem dX7_term_52 : decode cX7_term 52 = .ok (.iaload, 1) := by decide +kernel
theorem dX7_term_53 : decode cX7_term 53 = .ok (.ireturn, 1) := by decide +kernel
theorem dX7_term_54 : decode cX7_term 54 = .ok (.aload_n 0, 1) := by decide +kernel
theorem dX7_term_55 : decode cX7_term 55 = .ok (.iload_n 1, 1) := by decide +kernel
theorem dX7_term_56 : decode cX7_term 56 = .ok (.invokevirtual 147, 3) := by decide +kernel
theorem dX7_term_59 : decode cX7_term 59 = .ok (.ireturn, 1) := by decide +kernel
theorem dX7_term_60 : decode cX7_term 60 = .ok (.aload_n 0, 1) := by decide +kernel
theorem dX7_term_61 : decode cX7_term 61 = .ok (.iload_n 1, 1) := by decide +kernel
theorem dX7_term_62 : decode cX7_term 62 = .ok (.invokevirtual 141, 3) := by decide +kernel
theorem dX7_term_65 : decode cX7_term 65 = .ok (.ireturn, 1) := by decide +kernel
theorem dX7_term_66 : decode cX7_term 66 = .ok (.aload_n 0, 1) := by decide +kernel
theorem dX7_term_67 : decode cX7_term 67 = .ok (.iload_n 1, 1) := by decide +kernel
theorem dX7_term_68 : decode cX7_term 68 = .ok (.invokevirtual 144, 3) := by decide +kernel
theorem dX7_term_71 : decode cX7_term 71 = .ok (.ireturn, 1) := by decide +kernel
theorem dX7_term_72 : decode cX7_term 72 = .ok (.aload_n 0, 1) := by decide +kernel
theorem dX7_term_73 : decode cX7_term 73 = .ok (.getfield 7, 3) := by decide +kernel
theorem dX7_term_76 : decode cX7_term 76 = .ok (.bipush 11, 2) := by decide +kernel
theorem dX7_term_78 : decode cX7_term 78 = .ok (.iload_n 1, 1) := by decide +kernel
theorem dX7_term_79 : decode cX7_term 79 = .ok (.iadd, 1) := by decide +kernel
theorem dX7_term_80 : decode cX7_term 80 = .ok (.iaload, 1) := by decide +kernel
theorem dX7_term_81 : decode cX7_term 81 = .ok (.iconst (-1), 1) := by decide +kernel
theorem dX7_term_82 : decode cX7_term 82 = .ok (.if_icmp .ne 15, 3) := by decide +kernel
theorem dX7_term_85 : decode cX7_term 85 = .ok (.aload_n 0, 1) := by decide +kernel
theorem dX7_term_86 : decode cX7_term 86 = .ok (.iload_n 1, 1) := by decide +kernel
theorem dX7_term_87 : decode cX7_term 87 = .ok (.invokevirtual 147, 3) := by decide +kernel
theorem dX7_term_90 : decode cX7_term 90 = .ok (.ifCond .eq 7, 3) := by decide +kernel
theorem dX7_term_93 : decode cX7_term 93 = .ok (.iconst 1, 1) := by decide +kernel
theorem dX7_term_94 : decode cX7_term 94 = .ok (.goto 4, 3) := by decide +kernel
theorem dX7_term_97 : decode cX7_term 97 = .ok (.iconst 0, 1) := by decide +kernel
theorem dX7_term_98 : decode cX7_term 98 = .ok (.ireturn, 1) := by decide +kernel
theorem dX7_term_99 : decode cX7_term 99 = .ok (.bipush (-3), 2) := by decide +kernel
theorem dX7_term_101 : decode cX7_term 101 = .ok (.ireturn, 1) := by decide +kernel
theorem dX7_homesMany_0 : decode cX7_homesMany 0 = .ok (.iconst 0, 1) := by decide +kernel
theorem dX7_homesMany_1 : decode cX7_homesMany 1 = .ok (.istore_n 1, 1) := by decide +kernel
theorem dX7_homesMany_2 : decode cX7_homesMany 2 = .ok (.iconst 0, 1) := by decide +kernel
theorem dX7_homesMany_3 : decode cX7_homesMany 3 = .ok (.istore_n 2, 1) := by decide +kernel
theorem dX7_homesMany_4 : decode cX7_homesMany 4 = .ok (.iload_n 2, 1) := by decide +kernel
theorem dX7_homesMany_5 : decode cX7_homesMany 5 = .ok (.bipush 12, 2) := by decide +kernel
theorem dX7_homesMany_7 : decode cX7_homesMany 7 = .ok (.if_icmp .ge 30, 3) := by decide +kernel
theorem dX7_homesMany_10 : decode cX7_homesMany 10 = .ok (.iload_n 1, 1) := by decide +kernel
theorem dX7_homesMany_11 : decode cX7_homesMany 11 = .ok (.aload_n 0, 1) := by decide +kernel
theorem dX7_homesMany_12 : decode cX7_homesMany 12 = .ok (.getfield 7, 3) := by decide +kernel
theorem dX7_homesMany_15 : decode cX7_homesMany 15 = .ok (.bipush 11, 2) := by decide +kernel
theorem dX7_homesMany_17 : decode cX7_homesMany 17 = .ok (.iload_n 2, 1) := by decide +kernel
theorem dX7_homesMany_18 : decode cX7_homesMany 18 = .ok (.iadd, 1) := by decide +kernel
theorem dX7_homesMany_19 : decode cX7_homesMany 19 = .ok (.iaload, 1) := by decide +kernel
theorem dX7_homesMany_20 : decode cX7_homesMany 20 = .ok (.iconst (-1), 1) := by decide +kernel
theorem dX7_homesMany_21 : decode cX7_homesMany 21 = .ok (.if_icmp .eq 7, 3) := by decide +kernel
theorem dX7_homesMany_24 : decode cX7_homesMany 24 = .ok (.iconst 1, 1) := by decide +kernel
theorem dX7_homesMany_25 : decode cX7_homesMany 25 = .ok (.goto 4, 3) := by decide +kernel
theorem dX7_homesMany_28 : decode cX7_homesMany 28 = .ok (.iconst 0, 1) := by decide +kernel
theorem dX7_homesMany_29 : decode cX7_homesMany 29 = .ok (.iadd, 1) := by decide +kernel
theorem dX7_homesMany_30 : decode cX7_homesMany 30 = .ok (.istore_n 1, 1) := by decide +kernel
theorem dX7_homesMany_31 : decode cX7_homesMany 31 = .ok (.iinc 2 1, 3) := by decide +kernel
theorem dX7_homesMany_34 : decode cX7_homesMany 34 = .ok (.goto (-30), 3) := by decide +kernel
theorem dX7_homesMany_37 : decode cX7_homesMany 37 = .ok (.iload_n 1, 1) := by decide +kernel
theorem dX7_homesMany_38 : decode cX7_homesMany 38 = .ok (.ireturn, 1) := by decide +kernel
set_option maxRecDepth 20000 in
theorem ggX7_sum_X7_ones : GoodIn wsX7_sum wsX7_ones := goodIn_r _ [5] (by decide +kernel) (by decide +kernel)
set_option maxRecDepth 20000 in
theorem gX7_sum_X7_ones : GoodIn wsX7_sum (va_wsS RX7 159 yX7_ones wsX7_ones) := goodIn_app (goodIn_of _ (by decide +kernel)) ggX7_sum_X7_ones
set_option maxRecDepth 20000 in
theorem ggX7_sum_X7_earlyIn : GoodIn wsX7_sum wsX7_earlyIn := goodIn_r _ [9, 1, 10, 11, 4, 12, 13, 14, 15, 16, 17, 18, 19, 20, 21, 22, 23, 24, 25, 26, 27, 28, 29, 30] (by decide +kernel) (by decide +kernel)
set_option maxRecDepth 20000 in
theorem gX7_sum_X7_earlyIn : GoodIn wsX7_sum (wsV RX7 138 RX7 yX7_earlyIn wsX7_earlyIn) := goodIn_app (goodIn_of _ (by decide +kernel)) ggX7_sum_X7_earlyIn
theorem dX7_sum_0 : decode cX7_sum 0 = .ok (.iconst 0, 1) := by decide +kernel
theorem dX7_sum_1 : decode cX7_sum 1 = .ok (.istore_n 2, 1) := by decide +kernel
theorem dX7_sum_2 : decode cX7_sum 2 = .ok (.iconst 0, 1) := by decide +kernel
theorem dX7_sum_3 : decode cX7_sum 3 = .ok (.istore_n 3, 1) := by decide +kernel
theorem dX7_sum_4 : decode cX7_sum 4 = .ok (.iload_n 3, 1) := by decide +kernel
theorem dX7_sum_5 : decode cX7_sum 5 = .ok (.aload_n 0, 1) := by decide +kernel
theorem dX7_sum_6 : decode cX7_sum 6 = .ok (.getfield 7, 3) := by decide +kernel
theorem dX7_sum_9 : decode cX7_sum 9 = .ok (.iconst 0, 1) := by decide +kernel
theorem dX7_sum_10 : decode cX7_sum 10 = .ok (.iaload, 1) := by decide +kernel
theorem dX7_sum_11 : decode cX7_sum 11 = .ok (.if_icmp .ge 56, 3) := by decide +kernel
theorem dX7_sum_14 : decode cX7_sum 14 = .ok (.iload_n 2, 1) := by decide +kernel
theorem dX7_sum_15 : decode cX7_sum 15 = .ok (.iload_n 1, 1) := by decide +kernel
theorem dX7_sum_16 : decode cX7_sum 16 = .ok (.iconst 4, 1) := by decide +kernel
theorem dX7_sum_17 : decode cX7_sum 17 = .ok (.if_icmp .ne 18, 3) := by decide +kernel
theorem dX7_sum_20 : decode cX7_sum 20 = .ok (.aload_n 0, 1) := by decide +kernel
theorem dX7_sum_21 : decode cX7_sum 21 = .ok (.getfield 7, 3) := by decide +kernel
theorem dX7_sum_24 : decode cX7_sum 24 = .ok (.bipush 23, 2) := by decide +kernel
theorem dX7_sum_26 : decode cX7_sum 26 = .ok (.iload_n 3, 1) := by decide +kernel
theorem dX7_sum_27 : decode cX7_sum 27 = .ok (.iadd, 1) := by decide +kernel
theorem dX7_sum_28 : decode cX7_sum 28 = .ok (.iaload, 1) := by decide +kernel
theorem dX7_sum_29 : decode cX7_sum 29 = .ok (.invokestatic 159, 3) := by decide +kernel
theorem dX7_sum_32 : decode cX7_sum 32 = .ok (.goto 27, 3) := by decide +kernel
theorem dX7_sum_35 : decode cX7_sum 35 = .ok (.iload_n 1, 1) := by decide +kernel
theorem dX7_sum_36 : decode cX7_sum 36 = .ok (.iconst 5, 1) := by decide +kernel
theorem dX7_sum_37 : decode cX7_sum 37 = .ok (.if_icmp .ne 14, 3) := by decide +kernel
theorem dX7_sum_40 : decode cX7_sum 40 = .ok (.aload_n 0, 1) := by decide +kernel
theorem dX7_sum_41 : decode cX7_sum 41 = .ok (.iload_n 3, 1) := by decide +kernel
theorem dX7_sum_42 : decode cX7_sum 42 = .ok (.invokevirtual 138, 3) := by decide +kernel
theorem dX7_sum_45 : decode cX7_sum 45 = .ok (.invokestatic 159, 3) := by decide +kernel
theorem dX7_sum_48 : decode cX7_sum 48 = .ok (.goto 11, 3) := by decide +kernel
theorem dX7_sum_51 : decode cX7_sum 51 = .ok (.aload_n 0, 1) := by decide +kernel
theorem dX7_sum_52 : decode cX7_sum 52 = .ok (.getfield 7, 3) := by decide +kernel
theorem dX7_sum_55 : decode cX7_sum 55 = .ok (.iconst 1, 1) := by decide +kernel
theorem dX7_sum_56 : decode cX7_sum 56 = .ok (.iload_n 3, 1) := by decide +kernel
theorem dX7_sum_57 : decode cX7_sum 57 = .ok (.iadd, 1) := by decide +kernel
theorem dX7_sum_58 : decode cX7_sum 58 = .ok (.iaload, 1) := by decide +kernel
theorem dX7_sum_59 : decode cX7_sum 59 = .ok (.iadd, 1) := by decide +kernel
theorem dX7_sum_60 : decode cX7_sum 60 = .ok (.istore_n 2, 1) := by decide +kernel
theorem dX7_sum_61 : decode cX7_sum 61 = .ok (.iinc 3 1, 3) := by decide +kernel
theorem dX7_sum_64 : decode cX7_sum 64 = .ok (.goto (-60), 3) := by decide +kernel
theorem dX7_sum_67 : decode cX7_sum 67 = .ok (.iload_n 2, 1) := by decide +kernel
theorem dX7_sum_68 : decode cX7_sum 68 = .ok (.ireturn, 1) := by decide +kernel
set_option maxRecDepth 20000 in
theorem ggX7_count_X7_notesMany : GoodIn wsX7_count wsX7_notesMany := goodIn_r _ [8, 9, 10, 11, 7, 12, 1, 13, 14, 15, 16, 17, 18, 19, 20, 21, 22, 23, 71, 72, 73, 74, 75, 76, 77, 78, 79, 80, 81, 82, 83, 84] (by decide +kernel) (by decide +kernel)
set_option maxRecDepth 20000 in
theorem gX7_count_X7_notesMany : GoodIn wsX7_count (wsV RX7 225 RX7 yX7_notesMany wsX7_notesMany) := goodIn_app (goodIn_of _ (by decide +kernel)) ggX7_count_X7_notesMany
set_option maxRecDepth 20000 in
theorem ggX7_count_X7_loose : GoodIn wsX7_count wsX7_loose := goodIn_r _ [27, 1, 28, 29, 30, 7, 31, 17, 18, 19, 71, 72, 73, 74, 75, 76, 77, 78, 79, 80, 81, 82, 83, 84] (by decide +kernel) (by decide +kernel)
set_option maxRecDepth 20000 in
theorem gX7_count_X7_loose : GoodIn wsX7_count (wsV RX7 234 RX7 yX7_loose wsX7_loose) := goodIn_app (goodIn_of _ (by decide +kernel)) ggX7_count_X7_loose
set_option maxRecDepth 20000 in
theorem ggX7_count_X7_homesMany : GoodIn wsX7_count wsX7_homesMany := goodIn_r _ [35, 1, 71, 72, 73, 74, 75, 76, 77, 78, 79, 80, 81, 82, 83, 84] (by decide +kernel) (by decide +kernel)
set_option maxRecDepth 20000 in
theorem gX7_count_X7_homesMany : GoodIn wsX7_count (wsV RX7 237 RX7 yX7_homesMany wsX7_homesMany) := goodIn_app (goodIn_of _ (by decide +kernel)) ggX7_count_X7_homesMany
set_option maxRecDepth 20000 in
theorem ggX7_count_X7_sum : GoodIn wsX7_count wsX7_sum := goodIn_r _ [39, 1, 40, 41, 7, 42, 13, 14, 15, 16, 17, 18, 19, 20, 21, 22, 23, 71, 72, 73, 74, 75, 76, 77, 78, 79, 80, 81, 82, 83, 84] (by decide +kernel) (by decide +kernel)
set_option maxRecDepth 20000 in
theorem gX7_count_X7_sum : GoodIn wsX7_count (wsV RX7 240 RX7 yX7_sum wsX7_sum) := goodIn_app (goodIn_of _ (by decide +kernel)) ggX7_count_X7_sum
set_option maxRecDepth 20000 in
theorem ggX7_count_X7_pairs : GoodIn wsX7_count wsX7_pairs := goodIn_r _ [46, 1, 40, 41, 7, 42, 71, 72, 73, 74, 75, 76, 77, 78, 79, 80, 81, 82, 83, 84] (by decide +kernel) (by decide +kernel)
set_option maxRecDepth 20000 in
theorem gX7_count_X7_pairs : GoodIn wsX7_count (wsV RX7 219 RX7 yX7_pairs wsX7_pairs) := goodIn_app (goodIn_of _ (by decide +kernel)) ggX7_count_X7_pairs
set_option maxRecDepth 20000 in
theorem ggX7_count_X7_lastsAll : GoodIn wsX7_count wsX7_lastsAll := goodIn_r _ [50, 51, 52, 53, 7, 54, 1, 9, 10, 11, 12, 13, 14, 15, 16, 17, 18, 19, 20, 21, 22, 23, 71, 72, 73, 74, 75, 76, 77, 78, 79, 80, 81, 82, 83, 84] (by decide +kernel) (by decide +kernel)
set_option maxRecDepth 20000 in
theorem gX7_count_X7_lastsAll : GoodIn wsX7_count (wsV RX7 198 RX7 yX7_lastsAll wsX7_lastsAll) := goodIn_app (goodIn_of _ (by decide +kernel)) ggX7_count_X7_lastsAll
set_option maxRecDepth 20000 in
theorem ggX7_count_X7_knots : GoodIn wsX7_count wsX7_knots := goodIn_r _ [58, 1, 59, 60, 61, 7, 62, 63, 64, 65, 66, 67, 68, 69, 70, 17, 18, 19, 40, 41, 42, 71, 72, 73, 74, 75, 76, 77, 78, 79, 80, 81, 82, 83, 84] (by decide +kernel) (by decide +kernel)
set_option maxRecDepth 20000 in
theorem gX7_count_X7_knots : GoodIn wsX7_count (wsV RX7 243 RX7 yX7_knots wsX7_knots) := goodIn_app (goodIn_of _ (by decide +kernel)) ggX7_count_X7_knots
theorem dX7_count_0 : decode cX7_count 0 = .ok (.iload_n 1, 1) := by decide +kernel
theorem dX7_count_1 : decode cX7_count 1 = .ok (.tableswitch 116 0 11 #[63, 70, 75, 80, 85, 85, 91, 96, 101, 106, 111, 85], 63) := by decide +kernel
theorem dX7_count_64 : decode cX7_count 64 = .ok (.aload_n 0, 1) := by decide +kernel
theorem dX7_count_65 : decode cX7_count 65 = .ok (.getfield 7, 3) := by decide +kernel
theorem dX7_count_68 : decode cX7_count 68 = .ok (.iconst 0, 1) := by decide +kernel
theorem dX7_count_69 : decode cX7_count 69 = .ok (.iaload, 1) := by decide +kernel
theorem dX7_count_70 : decode cX7_count 70 = .ok (.ireturn, 1) := by decide +kernel
theorem dX7_count_71 : decode cX7_count 71 = .ok (.aload_n 0, 1) := by decide +kernel
theorem dX7_count_72 : decode cX7_count 72 = .ok (.invokevirtual 225, 3) := by decide +kernel
theorem dX7_count_75 : decode cX7_count 75 = .ok (.ireturn, 1) := by decide +kernel
theorem dX7_count_76 : decode cX7_count 76 = .ok (.aload_n 0, 1) := by decide +kernel
theorem dX7_count_77 : decode cX7_count 77 = .ok (.invokevirtual 234, 3) := by decide +kernel
theorem dX7_count_80 : decode cX7_count 80 = .ok (.ireturn, 1) := by decide +kernel
theorem dX7_count_81 : decode cX7_count 81 = .ok (.aload_n 0, 1) := by decide +kernel
theorem dX7_count_82 : decode cX7_count 82 = .ok (.invokevirtual 237, 3) := by decide +kernel
theorem dX7_count_85 : decode cX7_count 85 = .ok (.ireturn, 1) := by decide +kernel
theorem dX7_count_86 : decode cX7_count 86 = .ok (.aload_n 0, 1) := by decide +kernel
theorem dX7_count_87 : decode cX7_count 87 = .ok (.iload_n 1, 1) := by decide +kernel
theorem dX7_count_88 : decode cX7_count 88 = .ok (.invokevirtual 240, 3) := by decide +kernel
theorem dX7_count_91 : decode cX7_count 91 = .ok (.ireturn, 1) := by decide +kernel
theorem dX7_count_92 : decode cX7_count 92 = .ok (.aload_n 0, 1) := by decide +kernel
theorem dX7_count_93 : decode cX7_count 93 = .ok (.invokevirtual 219, 3) := by decide +kernel
theorem dX7_count_96 : decode cX7_count 96 = .ok (.ireturn, 1) := by decide +kernel
theorem dX7_count_97 : decode cX7_count 97 = .ok (.aload_n 0, 1) := by decide +kernel
theorem dX7_count_98 : decode cX7_count 98 = .ok (.invokevirtual 198, 3) := by decide +kernel
theorem dX7_count_101 : decode cX7_count 101 = .ok (.ireturn, 1) := by decide +kernel
theorem dX7_count_102 : decode cX7_count 102 = .ok (.aload_n 0, 1) := by decide +kernel
theorem dX7_count_103 : decode cX7_count 103 = .ok (.invokevirtual 243, 3) := by decide +kernel
theorem dX7_count_106 : decode cX7_count 106 = .ok (.ireturn, 1) := by decide +kernel
theorem dX7_count_107 : decode cX7_count 107 = .ok (.aload_n 0, 1) := by decide +kernel
theorem dX7_count_108 : decode cX7_count 108 = .ok (.getfield 132, 3) := by decide +kernel
theorem dX7_count_111 : decode cX7_count 111 = .ok (.ireturn, 1) := by decide +kernel
theorem dX7_count_112 : decode cX7_count 112 = .ok (.aload_n 0, 1) := by decide +kernel
theorem dX7_count_113 : decode cX7_count 113 = .ok (.getfield 44, 3) := by decide +kernel
theorem dX7_count_116 : decode cX7_count 116 = .ok (.ireturn, 1) := by decide +kernel
theorem dX7_count_117 : decode cX7_count 117 = .ok (.bipush (-3), 2) := by decide +kernel
theorem dX7_count_119 : decode cX7_count 119 = .ok (.ireturn, 1) := by decide +kernel
theorem dJ6_bitCount_0f7a4_0 : decode cJ6_bitCount_0f7a4 0 = .ok (.iload_n 0, 1) := by decide +kernel
theorem dJ6_bitCount_0f7a4_1 : decode cJ6_bitCount_0f7a4 1 = .ok (.iload_n 0, 1) := by decide +kernel
theorem dJ6_bitCount_0f7a4_2 : decode cJ6_bitCount_0f7a4 2 = .ok (.iconst 1, 1) := by decide +kernel
theorem dJ6_bitCount_0f7a4_3 : decode cJ6_bitCount_0f7a4 3 = .ok (.iushr, 1) := by decide +kernel
theorem dJ6_bitCount_0f7a4_4 : decode cJ6_bitCount_0f7a4 4 = .ok (.ldc_w 265, 3) := by decide +kernel
theorem dJ6_bitCount_0f7a4_7 : decode cJ6_bitCount_0f7a4 7 = .ok (.iand, 1) := by decide +kernel
theorem dJ6_bitCount_0f7a4_8 : decode cJ6_bitCount_0f7a4 8 = .ok (.isub, 1) := by decide +kernel
theorem dJ6_bitCount_0f7a4_9 : decode cJ6_bitCount_0f7a4 9 = .ok (.istore_n 0, 1) := by decide +kernel
theorem dJ6_bitCount_0f7a4_10 : decode cJ6_bitCount_0f7a4 10 = .ok (.iload_n 0, 1) := by decide +kernel
theorem dJ6_bitCount_0f7a4_11 : decode cJ6_bitCount_0f7a4 11 = .ok (.ldc_w 266, 3) := by decide +kernel
theorem dJ6_bitCount_0f7a4_14 : decode cJ6_bitCount_0f7a4 14 = .ok (.iand, 1) := by decide +kernel
theorem dJ6_bitCount_0f7a4_15 : decode cJ6_bitCount_0f7a4 15 = .ok (.iload_n 0, 1) := by decide +kernel
theorem dJ6_bitCount_0f7a4_16 : decode cJ6_bitCount_0f7a4 16 = .ok (.iconst 2, 1) := by decide +kernel
theorem dJ6_bitCount_0f7a4_17 : decode cJ6_bitCount_0f7a4 17 = .ok (.iushr, 1) := by decide +kernel
theorem dJ6_bitCount_0f7a4_18 : decode cJ6_bitCount_0f7a4 18 = .ok (.ldc_w 266, 3) := by decide +kernel
theorem dJ6_bitCount_0f7a4_21 : decode cJ6_bitCount_0f7a4 21 = .ok (.iand, 1) := by decide +kernel
theorem dJ6_bitCount_0f7a4_22 : decode cJ6_bitCount_0f7a4 22 = .ok (.iadd, 1) := by decide +kernel
theorem dJ6_bitCount_0f7a4_23 : decode cJ6_bitCount_0f7a4 23 = .ok (.istore_n 0, 1) := by decide +kernel
theorem dJ6_bitCount_0f7a4_24 : decode cJ6_bitCount_0f7a4 24 = .ok (.iload_n 0, 1) := by decide +kernel
theorem dJ6_bitCount_0f7a4_25 : decode cJ6_bitCount_0f7a4 25 = .ok (.iload_n 0, 1) := by decide +kernel
theorem dJ6_bitCount_0f7a4_26 : decode cJ6_bitCount_0f7a4 26 = .ok (.iconst 4, 1) := by decide +kernel
theorem dJ6_bitCount_0f7a4_27 : decode cJ6_bitCount_0f7a4 27 = .ok (.iushr, 1) := by decide +kernel
theorem dJ6_bitCount_0f7a4_28 : decode cJ6_bitCount_0f7a4 28 = .ok (.iadd, 1) := by decide +kernel
theorem dJ6_bitCount_0f7a4_29 : decode cJ6_bitCount_0f7a4 29 = .ok (.ldc_w 267, 3) := by decide +kernel
theorem dJ6_bitCount_0f7a4_32 : decode cJ6_bitCount_0f7a4 32 = .ok (.iand, 1) := by decide +kernel
theorem dJ6_bitCount_0f7a4_33 : decode cJ6_bitCount_0f7a4 33 = .ok (.istore_n 0, 1) := by decide +kernel
theorem dJ6_bitCount_0f7a4_34 : decode cJ6_bitCount_0f7a4 34 = .ok (.iload_n 0, 1) := by decide +kernel
theorem dJ6_bitCount_0f7a4_35 : decode cJ6_bitCount_0f7a4 35 = .ok (.iload_n 0, 1) := by decide +kernel
theorem dJ6_bitCount_0f7a4_36 : decode cJ6_bitCount_0f7a4 36 = .ok (.bipush 8, 2) := by decide +kernel
theorem dJ6_bitCount_0f7a4_38 : decode cJ6_bitCount_0f7a4 38 = .ok (.iushr, 1) := by decide +kernel
theorem dJ6_bitCount_0f7a4_39 : decode cJ6_bitCount_0f7a4 39 = .ok (.iadd, 1) := by decide +kernel
theorem dJ6_bitCount_0f7a4_40 : decode cJ6_bitCount_0f7a4 40 = .ok (.istore_n 0, 1) := by decide +kernel
theorem dJ6_bitCount_0f7a4_41 : decode cJ6_bitCount_0f7a4 41 = .ok (.iload_n 0, 1) := by decide +kernel
theorem dJ6_bitCount_0f7a4_42 : decode cJ6_bitCount_0f7a4 42 = .ok (.iload_n 0, 1) := by decide +kernel
theorem dJ6_bitCount_0f7a4_43 : decode cJ6_bitCount_0f7a4 43 = .ok (.bipush 16, 2) := by decide +kernel
theorem dJ6_bitCount_0f7a4_45 : decode cJ6_bitCount_0f7a4 45 = .ok (.iushr, 1) := by decide +kernel
theorem dJ6_bitCount_0f7a4_46 : decode cJ6_bitCount_0f7a4 46 = .ok (.iadd, 1) := by decide +kernel
theorem dJ6_bitCount_0f7a4_47 : decode cJ6_bitCount_0f7a4 47 = .ok (.istore_n 0, 1) := by decide +kernel
theorem dJ6_bitCount_0f7a4_48 : decode cJ6_bitCount_0f7a4 48 = .ok (.iload_n 0, 1) := by decide +kernel
theorem dJ6_bitCount_0f7a4_49 : decode cJ6_bitCount_0f7a4 49 = .ok (.bipush 63, 2) := by decide +kernel
theorem dJ6_bitCount_0f7a4_51 : decode cJ6_bitCount_0f7a4 51 = .ok (.iand, 1) := by decide +kernel
theorem dJ6_bitCount_0f7a4_52 : decode cJ6_bitCount_0f7a4 52 = .ok (.ireturn, 1) := by decide +kernel
theorem dJ9_min_7cf53_0 : decode cJ9_min_7cf53 0 = .ok (.iload_n 0, 1) := by decide +kernel
theorem dJ9_min_7cf53_1 : decode cJ9_min_7cf53 1 = .ok (.iload_n 1, 1) := by decide +kernel
theorem dJ9_min_7cf53_2 : decode cJ9_min_7cf53 2 = .ok (.if_icmp .gt 7, 3) := by decide +kernel
theorem dJ9_min_7cf53_5 : decode cJ9_min_7cf53 5 = .ok (.iload_n 0, 1) := by decide +kernel
theorem dJ9_min_7cf53_6 : decode cJ9_min_7cf53 6 = .ok (.goto 4, 3) := by decide +kernel
theorem dJ9_min_7cf53_9 : decode cJ9_min_7cf53 9 = .ok (.iload_n 1, 1) := by decide +kernel
theorem dJ9_min_7cf53_10 : decode cJ9_min_7cf53 10 = .ok (.ireturn, 1) := by decide +kernel
set_option maxRecDepth 20000 in
theorem ggJ0_length_8abf5_J0_coder_7d493 : GoodIn wsJ0_length_8abf5 wsJ0_coder_7d493 := goodIn_r _ [6, 7, 8] (by decide +kernel) (by decide +kernel)
set_option maxRecDepth 20000 in
theorem gJ0_length_8abf5_J0_coder_7d493 : GoodIn wsJ0_length_8abf5 (wsV RJ0 335 RJ0 yJ0_coder_7d493 wsJ0_coder_7d493) := goodIn_app (goodIn_of _ (by decide +kernel)) ggJ0_length_8abf5_J0_coder_7d493
theorem dJ0_length_8abf5_0 : decode cJ0_length_8abf5 0 = .ok (.aload_n 0, 1) := by decide +kernel
theorem dJ0_length_8abf5_1 : decode cJ0_length_8abf5 1 = .ok (.getfield 9, 3) := by decide +kernel
theorem dJ0_length_8abf5_4 : decode cJ0_length_8abf5 4 = .ok (.arraylength, 1) := by decide +kernel
theorem dJ0_length_8abf5_5 : decode cJ0_length_8abf5 5 = .ok (.aload_n 0, 1) := by decide +kernel
theorem dJ0_length_8abf5_6 : decode cJ0_length_8abf5 6 = .ok (.invokevirtual 335, 3) := by decide +kernel
theorem dJ0_length_8abf5_9 : decode cJ0_length_8abf5 9 = .ok (.ishr, 1) := by decide +kernel
theorem dJ0_length_8abf5_10 : decode cJ0_length_8abf5 10 = .ok (.ireturn, 1) := by decide +kernel
set_option maxRecDepth 20000 in
theorem ggJ0_charAt_5068e_J0_isLatin1_aae02 : GoodIn wsJ0_charAt_5068e wsJ0_isLatin1_aae02 := goodIn_r _ [6, 7, 8] (by decide +kernel) (by decide +kernel)
set_option maxRecDepth 20000 in
theorem gJ0_charAt_5068e_J0_isLatin1_aae02 : GoodIn wsJ0_charAt_5068e (wsV RJ0 492 RJ0 yJ0_isLatin1_aae02 wsJ0_isLatin1_aae02) := goodIn_app (goodIn_of _ (by decide +kernel)) ggJ0_charAt_5068e_J0_isLatin1_aae02
set_option maxRecDepth 20000 in
theorem ggJ0_charAt_5068e_J1_charAt_3b067 : GoodIn wsJ0_charAt_5068e wsJ1_charAt_3b067 := goodIn_r _ [12, 13, 14, 5, 15, 16, 17, 18, 19, 20] (by decide +kernel) (by decide +kernel)
set_option maxRecDepth 20000 in
theorem gJ0_charAt_5068e_J1_charAt_3b067 : GoodIn wsJ0_charAt_5068e (va_wsS RJ0 495 yJ1_charAt_3b067 wsJ1_charAt_3b067) := goodIn_app (goodIn_of _ (by decide +kernel)) ggJ0_charAt_5068e_J1_charAt_3b067
set_option maxRecDepth 20000 in
theorem ggJ0_charAt_5068e_J2_charAt_3b067 : GoodIn wsJ0_charAt_5068e wsJ2_charAt_3b067 := goodIn_r _ [24, 25, 26, 23, 27, 28, 29, 30, 31, 14, 5, 15, 16, 17, 18, 19, 20, 32, 33, 34, 35, 36, 37] (by decide +kernel) (by decide +kernel)
set_option maxRecDepth 20000 in
theorem gJ0_charAt_5068e_J2_charAt_3b067 : GoodIn wsJ0_charAt_5068e (va_wsS RJ0 498 yJ2_charAt_3b067 wsJ2_charAt_3b067) := goodIn_app (goodIn_of _ (by decide +kernel)) ggJ0_charAt_5068e_J2_charAt_3b067
theorem dJ0_charAt_5068e_0 : decode cJ0_charAt_5068e 0 = .ok (.aload_n 0, 1) := by decide +kernel
theorem dJ0_charAt_5068e_1 : decode cJ0_charAt_5068e 1 = .ok (.invokevirtual 492, 3) := by decide +kernel
theorem dJ0_charAt_5068e_4 : decode cJ0_charAt_5068e 4 = .ok (.ifCond .eq 12, 3) := by decide +kernel
theorem dJ0_charAt_5068e_7 : decode cJ0_charAt_5068e 7 = .ok (.aload_n 0, 1) := by decide +kernel
theorem dJ0_charAt_5068e_8 : decode cJ0_charAt_5068e 8 = .ok (.getfield 9, 3) := by decide +kernel
theorem dJ0_charAt_5068e_11 : decode cJ0_charAt_5068e 11 = .ok (.iload_n 1, 1) := by decide +kernel
theorem dJ0_charAt_5068e_12 : decode cJ0_charAt_5068e 12 = .ok (.invokestatic 495, 3) := by decide +kernel
theorem dJ0_charAt_5068e_15 : decode cJ0_charAt_5068e 15 = .ok (.ireturn, 1) := by decide +kernel
theorem dJ0_charAt_5068e_16 : decode cJ0_charAt_5068e 16 = .ok (.aload_n 0, 1) := by decide +kernel
theorem dJ0_charAt_5068e_17 : decode cJ0_charAt_5068e 17 = .ok (.getfield 9, 3) := by decide +kernel
theorem dJ0_charAt_5068e_20 : decode cJ0_charAt_5068e 20 = .ok (.iload_n 1, 1) := by decide +kernel
theorem dJ0_charAt_5068e_21 : decode cJ0_charAt_5068e 21 = .ok (.invokestatic 498, 3) := by decide +kernel
theorem dJ0_charAt_5068e_24 : decode cJ0_charAt_5068e 24 = .ok (.ireturn, 1) := by decide +kernel
theorem dJ0_coder_7d493_0 : decode cJ0_coder_7d493 0 = .ok (.getstatic 38, 3) := by decide +kernel
theorem dJ0_coder_7d493_3 : decode cJ0_coder_7d493 3 = .ok (.ifCond .eq 10, 3) := by decide +kernel
theorem dJ0_coder_7d493_6 : decode cJ0_coder_7d493 6 = .ok (.aload_n 0, 1) := by decide +kernel
theorem dJ0_coder_7d493_7 : decode cJ0_coder_7d493 7 = .ok (.getfield 15, 3) := by decide +kernel
theorem dJ0_coder_7d493_10 : decode cJ0_coder_7d493 10 = .ok (.goto 4, 3) := by decide +kernel
theorem dJ0_coder_7d493_13 : decode cJ0_coder_7d493 13 = .ok (.iconst 1, 1) := by decide +kernel
theorem dJ0_coder_7d493_14 : decode cJ0_coder_7d493 14 = .ok (.ireturn, 1) := by decide +kernel
theorem dJ0_isLatin1_aae02_0 : decode cJ0_isLatin1_aae02 0 = .ok (.getstatic 38, 3) := by decide +kernel
theorem dJ0_isLatin1_aae02_3 : decode cJ0_isLatin1_aae02 3 = .ok (.ifCond .eq 14, 3) := by decide +kernel
theorem dJ0_isLatin1_aae02_6 : decode cJ0_isLatin1_aae02 6 = .ok (.aload_n 0, 1) := by decide +kernel
theorem dJ0_isLatin1_aae02_7 : decode cJ0_isLatin1_aae02 7 = .ok (.getfield 15, 3) := by decide +kernel
theorem dJ0_isLatin1_aae02_10 : decode cJ0_isLatin1_aae02 10 = .ok (.ifCond .ne 7, 3) := by decide +kernel
theorem dJ0_isLatin1_aae02_13 : decode cJ0_isLatin1_aae02 13 = .ok (.iconst 1, 1) := by decide +kernel
theorem dJ0_isLatin1_aae02_14 : decode cJ0_isLatin1_aae02 14 = .ok (.goto 4, 3) := by decide +kernel
theorem dJ0_isLatin1_aae02_17 : decode cJ0_isLatin1_aae02 17 = .ok (.iconst 0, 1) := by decide +kernel
theorem dJ0_isLatin1_aae02_18 : decode cJ0_isLatin1_aae02 18 = .ok (.ireturn, 1) := by decide +kernel
set_option maxRecDepth 20000 in
theorem ggJ0_checkIndex_df160_J3_checkIndex_8e157 : GoodIn wsJ0_checkIndex_df160 wsJ3_checkIndex_8e157 := goodIn_r _ [5] (by decide +kernel) (by decide +kernel)
set_option maxRecDepth 20000 in
theorem gJ0_checkIndex_df160_J3_checkIndex_8e157 : GoodIn wsJ0_checkIndex_df160 (va_wsS RJ0 1059 yJ3_checkIndex_8e157 wsJ3_checkIndex_8e157) := goodIn_app (goodIn_of _ (by decide +kernel)) ggJ0_checkIndex_df160_J3_checkIndex_8e157
theorem dJ0_checkIndex_df160_0 : decode cJ0_checkIndex_df160 0 = .ok (.iload_n 0, 1) := by decide +kernel
theorem dJ0_checkIndex_df160_1 : decode cJ0_checkIndex_df160 1 = .ok (.iload_n 1, 1) := by decide +kernel
theorem dJ0_checkIndex_df160_2 : decode cJ0_checkIndex_df160 2 = .ok (.getstatic 1053, 3) := by decide +kernel
theorem dJ0_checkIndex_df160_5 : decode cJ0_checkIndex_df160 5 = .ok (.invokestatic 1059, 3) := by decide +kernel
theorem dJ0_checkIndex_df160_8 : decode cJ0_checkIndex_df160 8 = .ok (.pop, 1) := by decide +kernel
theorem dJ0_checkIndex_df160_9 : decode cJ0_checkIndex_df160 9 = .ok (.return_, 1) := by decide +kernel
set_option maxRecDepth 20000 in
theorem ggJ1_charAt_3b067_J0_checkIndex_df160 : GoodIn wsJ1_charAt_3b067 wsJ0_checkIndex_df160 := goodIn_r _ [4, 5, 6, 7, 8, 9] (by decide +kernel) (by decide +kernel)
set_option maxRecDepth 20000 in
theorem gJ1_charAt_3b067_J0_checkIndex_df160 : GoodIn wsJ1_charAt_3b067 (va_wsS RJ1 9 yJ0_checkIndex_df160 wsJ0_checkIndex_df160) := goodIn_app (goodIn_of _ (by decide +kernel)) ggJ1_charAt_3b067_J0_checkIndex_df160
theorem dJ1_charAt_3b067_0 : decode cJ1_charAt_3b067 0 = .ok (.iload_n 1, 1) := by decide +kernel
theorem dJ1_charAt_3b067_1 : decode cJ1_charAt_3b067 1 = .ok (.aload_n 0, 1) := by decide +kernel
theorem dJ1_charAt_3b067_2 : decode cJ1_charAt_3b067 2 = .ok (.arraylength, 1) := by decide +kernel
theorem dJ1_charAt_3b067_3 : decode cJ1_charAt_3b067 3 = .ok (.invokestatic 9, 3) := by decide +kernel
theorem dJ1_charAt_3b067_6 : decode cJ1_charAt_3b067 6 = .ok (.aload_n 0, 1) := by decide +kernel
theorem dJ1_charAt_3b067_7 : decode cJ1_charAt_3b067 7 = .ok (.iload_n 1, 1) := by decide +kernel
theorem dJ1_charAt_3b067_8 : decode cJ1_charAt_3b067 8 = .ok (.baload, 1) := by decide +kernel
theorem dJ1_charAt_3b067_9 : decode cJ1_charAt_3b067 9 = .ok (.sipush 255, 3) := by decide +kernel
theorem dJ1_charAt_3b067_12 : decode cJ1_charAt_3b067 12 = .ok (.iand, 1) := by decide +kernel
theorem dJ1_charAt_3b067_13 : decode cJ1_charAt_3b067 13 = .ok (.i2c, 1) := by decide +kernel
theorem dJ1_charAt_3b067_14 : decode cJ1_charAt_3b067 14 = .ok (.ireturn, 1) := by decide +kernel
set_option maxRecDepth 20000 in
theorem ggJ2_getChar_3b067_J2_length_9d52b : GoodIn wsJ2_getChar_3b067 wsJ2_length_9d52b := goodIn_r _ [7] (by decide +kernel) (by decide +kernel)
