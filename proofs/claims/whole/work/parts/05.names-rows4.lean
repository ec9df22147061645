theorem dX7_readsAll_12 : decode cX7_readsAll 12 = .ok (.putfield 122, 3) := by decide +kernel
theorem dX7_readsAll_15 : decode cX7_readsAll 15 = .ok (.aload_n 0, 1) := by decide +kernel
theorem dX7_readsAll_16 : decode cX7_readsAll 16 = .ok (.aload_n 0, 1) := by decide +kernel
theorem dX7_readsAll_17 : decode cX7_readsAll 17 = .ok (.getfield 7, 3) := by decide +kernel
theorem dX7_readsAll_20 : decode cX7_readsAll 20 = .ok (.iconst 0, 1) := by decide +kernel
theorem dX7_readsAll_21 : decode cX7_readsAll 21 = .ok (.iaload, 1) := by decide +kernel
theorem dX7_readsAll_22 : decode cX7_readsAll 22 = .ok (.putfield 72, 3) := by decide +kernel
theorem dX7_readsAll_25 : decode cX7_readsAll 25 = .ok (.aload_n 0, 1) := by decide +kernel
theorem dX7_readsAll_26 : decode cX7_readsAll 26 = .ok (.invokevirtual 69, 3) := by decide +kernel
theorem dX7_readsAll_29 : decode cX7_readsAll 29 = .ok (.aload_n 0, 1) := by decide +kernel
theorem dX7_readsAll_30 : decode cX7_readsAll 30 = .ok (.invokevirtual 125, 3) := by decide +kernel
theorem dX7_readsAll_33 : decode cX7_readsAll 33 = .ok (.istore_n 2, 1) := by decide +kernel
theorem dX7_readsAll_34 : decode cX7_readsAll 34 = .ok (.iload_n 2, 1) := by decide +kernel
theorem dX7_readsAll_35 : decode cX7_readsAll 35 = .ok (.ifCond .eq 69, 3) := by decide +kernel
theorem dX7_readsAll_38 : decode cX7_readsAll 38 = .ok (.aload_n 0, 1) := by decide +kernel
theorem dX7_readsAll_39 : decode cX7_readsAll 39 = .ok (.getfield 59, 3) := by decide +kernel
theorem dX7_readsAll_42 : decode cX7_readsAll 42 = .ok (.aload_n 0, 1) := by decide +kernel
theorem dX7_readsAll_43 : decode cX7_readsAll 43 = .ok (.getfield 44, 3) := by decide +kernel
theorem dX7_readsAll_46 : decode cX7_readsAll 46 = .ok (.if_icmp .ge 58, 3) := by decide +kernel
theorem dX7_readsAll_49 : decode cX7_readsAll 49 = .ok (.aload_n 0, 1) := by decide +kernel
theorem dX7_readsAll_50 : decode cX7_readsAll 50 = .ok (.getfield 122, 3) := by decide +kernel
theorem dX7_readsAll_53 : decode cX7_readsAll 53 = .ok (.bipush 24, 2) := by decide +kernel
theorem dX7_readsAll_55 : decode cX7_readsAll 55 = .ok (.if_icmp .ge 21, 3) := by decide +kernel
theorem dX7_readsAll_58 : decode cX7_readsAll 58 = .ok (.aload_n 0, 1) := by decide +kernel
theorem dX7_readsAll_59 : decode cX7_readsAll 59 = .ok (.getfield 17, 3) := by decide +kernel
theorem dX7_readsAll_62 : decode cX7_readsAll 62 = .ok (.aload_n 0, 1) := by decide +kernel
theorem dX7_readsAll_63 : decode cX7_readsAll 63 = .ok (.getfield 59, 3) := by decide +kernel
theorem dX7_readsAll_66 : decode cX7_readsAll 66 = .ok (.iaload, 1) := by decide +kernel
theorem dX7_readsAll_67 : decode cX7_readsAll 67 = .ok (.bipush 59, 2) := by decide +kernel
theorem dX7_readsAll_69 : decode cX7_readsAll 69 = .ok (.if_icmp .ne 7, 3) := by decide +kernel
theorem dX7_readsAll_72 : decode cX7_readsAll 72 = .ok (.iconst 1, 1) := by decide +kernel
theorem dX7_readsAll_73 : decode cX7_readsAll 73 = .ok (.goto 4, 3) := by decide +kernel
theorem dX7_readsAll_76 : decode cX7_readsAll 76 = .ok (.iconst 0, 1) := by decide +kernel
theorem dX7_readsAll_77 : decode cX7_readsAll 77 = .ok (.istore_n 2, 1) := by decide +kernel
theorem dX7_readsAll_78 : decode cX7_readsAll 78 = .ok (.iload_n 2, 1) := by decide +kernel
theorem dX7_readsAll_79 : decode cX7_readsAll 79 = .ok (.ifCond .eq (-45), 3) := by decide +kernel
theorem dX7_readsAll_82 : decode cX7_readsAll 82 = .ok (.aload_n 0, 1) := by decide +kernel
theorem dX7_readsAll_83 : decode cX7_readsAll 83 = .ok (.invokevirtual 69, 3) := by decide +kernel
theorem dX7_readsAll_86 : decode cX7_readsAll 86 = .ok (.aload_n 0, 1) := by decide +kernel
theorem dX7_readsAll_87 : decode cX7_readsAll 87 = .ok (.invokevirtual 125, 3) := by decide +kernel
theorem dX7_readsAll_90 : decode cX7_readsAll 90 = .ok (.istore_n 2, 1) := by decide +kernel
theorem dX7_readsAll_91 : decode cX7_readsAll 91 = .ok (.aload_n 0, 1) := by decide +kernel
theorem dX7_readsAll_92 : decode cX7_readsAll 92 = .ok (.dup, 1) := by decide +kernel
theorem dX7_readsAll_93 : decode cX7_readsAll 93 = .ok (.getfield 122, 3) := by decide +kernel
theorem dX7_readsAll_96 : decode cX7_readsAll 96 = .ok (.iconst 1, 1) := by decide +kernel
theorem dX7_readsAll_97 : decode cX7_readsAll 97 = .ok (.iadd, 1) := by decide +kernel
theorem dX7_readsAll_98 : decode cX7_readsAll 98 = .ok (.putfield 122, 3) := by decide +kernel
theorem dX7_readsAll_101 : decode cX7_readsAll 101 = .ok (.goto (-67), 3) := by decide +kernel
theorem dX7_readsAll_104 : decode cX7_readsAll 104 = .ok (.iload_n 2, 1) := by decide +kernel
theorem dX7_readsAll_105 : decode cX7_readsAll 105 = .ok (.ireturn, 1) := by decide +kernel
set_option maxRecDepth 20000 in
theorem ggX7_fault_X7_readsAll : GoodIn wsX7_fault wsX7_readsAll := goodIn_r _ [6, 7, 8, 9, 10, 11, 1, 12, 13, 14, 15, 16, 5, 17, 18, 19, 20, 21, 22, 23, 24, 25, 26, 27, 28, 29, 30, 31, 32, 33, 34, 35, 36, 37, 38, 39, 40, 41, 42, 43, 44, 45, 46, 47, 48, 49, 50, 51, 52, 53, 54, 55, 56, 57, 58, 59, 60, 61, 62, 63, 64, 65, 66, 67, 68, 69, 70, 71, 72, 73, 74, 75, 76, 77, 78, 79, 80, 81, 82, 83, 84, 85, 86, 87, 88, 89, 90, 91, 92, 93, 94, 95, 96, 97, 98, 99, 100, 101, 102, 103, 104, 105, 106] (by decide +kernel) (by decide +kernel)
set_option maxRecDepth 20000 in
theorem gX7_fault_X7_readsAll : GoodIn wsX7_fault (wsV RX7 128 RX7 yX7_readsAll wsX7_readsAll) := goodIn_app (goodIn_of _ (by decide +kernel)) ggX7_fault_X7_readsAll
theorem dX7_fault_0 : decode cX7_fault 0 = .ok (.aload_n 0, 1) := by decide +kernel
theorem dX7_fault_1 : decode cX7_fault 1 = .ok (.iconst 0, 1) := by decide +kernel
theorem dX7_fault_2 : decode cX7_fault 2 = .ok (.invokevirtual 128, 3) := by decide +kernel
theorem dX7_fault_5 : decode cX7_fault 5 = .ok (.ifCond .eq 7, 3) := by decide +kernel
theorem dX7_fault_8 : decode cX7_fault 8 = .ok (.iconst (-1), 1) := by decide +kernel
theorem dX7_fault_9 : decode cX7_fault 9 = .ok (.goto 7, 3) := by decide +kernel
theorem dX7_fault_12 : decode cX7_fault 12 = .ok (.aload_n 0, 1) := by decide +kernel
theorem dX7_fault_13 : decode cX7_fault 13 = .ok (.getfield 59, 3) := by decide +kernel
theorem dX7_fault_16 : decode cX7_fault 16 = .ok (.ireturn, 1) := by decide +kernel
set_option maxRecDepth 20000 in
theorem ggX7_tell_X7_readsAll : GoodIn wsX7_tell wsX7_readsAll := goodIn_r _ [8, 9, 10, 3, 11, 12, 13, 1, 14, 15, 16, 17, 7, 18, 19, 20, 21, 22, 23, 24, 25, 26, 27, 28, 29, 30, 31, 32, 33, 34, 35, 36, 37, 38, 39, 40, 41, 42, 43, 44, 45, 46, 47, 48, 49, 50, 51, 52, 53, 54, 55, 56, 57, 58, 59, 60, 61, 62, 63, 64, 65, 66, 67, 68, 69, 70, 71, 72, 73, 74, 75, 76, 77, 78, 79, 80, 81, 82, 83, 84, 85, 86, 87, 88, 89, 90, 91, 92, 93, 94, 95, 96, 97, 98, 99, 100, 101, 102, 103, 104, 105, 106, 107] (by decide +kernel) (by decide +kernel)
set_option maxRecDepth 20000 in
theorem gX7_tell_X7_readsAll : GoodIn wsX7_tell (wsV RX7 128 RX7 yX7_readsAll wsX7_readsAll) := goodIn_app (goodIn_of _ (by decide +kernel)) ggX7_tell_X7_readsAll
theorem dX7_tell_0 : decode cX7_tell 0 = .ok (.aload_n 0, 1) := by decide +kernel
theorem dX7_tell_1 : decode cX7_tell 1 = .ok (.iconst 0, 1) := by decide +kernel
theorem dX7_tell_2 : decode cX7_tell 2 = .ok (.invokevirtual 128, 3) := by decide +kernel
theorem dX7_tell_5 : decode cX7_tell 5 = .ok (.ifCond .ne 6, 3) := by decide +kernel
theorem dX7_tell_8 : decode cX7_tell 8 = .ok (.bipush (-4), 2) := by decide +kernel
theorem dX7_tell_10 : decode cX7_tell 10 = .ok (.ireturn, 1) := by decide +kernel
theorem dX7_tell_11 : decode cX7_tell 11 = .ok (.aload_n 0, 1) := by decide +kernel
theorem dX7_tell_12 : decode cX7_tell 12 = .ok (.iconst 1, 1) := by decide +kernel
theorem dX7_tell_13 : decode cX7_tell 13 = .ok (.invokevirtual 128, 3) := by decide +kernel
theorem dX7_tell_16 : decode cX7_tell 16 = .ok (.pop, 1) := by decide +kernel
theorem dX7_tell_17 : decode cX7_tell 17 = .ok (.aload_n 0, 1) := by decide +kernel
theorem dX7_tell_18 : decode cX7_tell 18 = .ok (.iconst 0, 1) := by decide +kernel
theorem dX7_tell_19 : decode cX7_tell 19 = .ok (.putfield 44, 3) := by decide +kernel
theorem dX7_tell_22 : decode cX7_tell 22 = .ok (.aload_n 0, 1) := by decide +kernel
theorem dX7_tell_23 : decode cX7_tell 23 = .ok (.iconst 0, 1) := by decide +kernel
theorem dX7_tell_24 : decode cX7_tell 24 = .ok (.putfield 132, 3) := by decide +kernel
theorem dX7_tell_27 : decode cX7_tell 27 = .ok (.aload_n 0, 1) := by decide +kernel
theorem dX7_tell_28 : decode cX7_tell 28 = .ok (.getfield 122, 3) := by decide +kernel
theorem dX7_tell_31 : decode cX7_tell 31 = .ok (.ireturn, 1) := by decide +kernel
set_option maxRecDepth 20000 in
theorem ggX7_earlyIn_X7_has : GoodIn wsX7_earlyIn wsX7_has := goodIn_r _ [5] (by decide +kernel) (by decide +kernel)
set_option maxRecDepth 20000 in
theorem gX7_earlyIn_X7_has : GoodIn wsX7_earlyIn (va_wsS RX7 93 yX7_has wsX7_has) := goodIn_app (goodIn_of _ (by decide +kernel)) ggX7_earlyIn_X7_has
set_option maxRecDepth 20000 in
theorem ggX7_earlyIn_X7_placeOf : GoodIn wsX7_earlyIn wsX7_placeOf := goodIn_r _ [9, 1, 10, 11, 12, 13, 14, 15, 16, 17, 18, 19, 20, 21, 22, 23] (by decide +kernel) (by decide +kernel)
set_option maxRecDepth 20000 in
theorem gX7_earlyIn_X7_placeOf : GoodIn wsX7_earlyIn (wsV RX7 135 RX7 yX7_placeOf wsX7_placeOf) := goodIn_app (goodIn_of _ (by decide +kernel)) ggX7_earlyIn_X7_placeOf
theorem dX7_earlyIn_0 : decode cX7_earlyIn 0 = .ok (.iconst 0, 1) := by decide +kernel
theorem dX7_earlyIn_1 : decode cX7_earlyIn 1 = .ok (.istore_n 2, 1) := by decide +kernel
theorem dX7_earlyIn_2 : decode cX7_earlyIn 2 = .ok (.iconst 0, 1) := by decide +kernel
theorem dX7_earlyIn_3 : decode cX7_earlyIn 3 = .ok (.istore_n 3, 1) := by decide +kernel
theorem dX7_earlyIn_4 : decode cX7_earlyIn 4 = .ok (.iload_n 3, 1) := by decide +kernel
theorem dX7_earlyIn_5 : decode cX7_earlyIn 5 = .ok (.bipush 12, 2) := by decide +kernel
theorem dX7_earlyIn_7 : decode cX7_earlyIn 7 = .ok (.if_icmp .ge 81, 3) := by decide +kernel
theorem dX7_earlyIn_10 : decode cX7_earlyIn 10 = .ok (.aload_n 0, 1) := by decide +kernel
theorem dX7_earlyIn_11 : decode cX7_earlyIn 11 = .ok (.getfield 7, 3) := by decide +kernel
theorem dX7_earlyIn_14 : decode cX7_earlyIn 14 = .ok (.bipush 23, 2) := by decide +kernel
theorem dX7_earlyIn_16 : decode cX7_earlyIn 16 = .ok (.iload_n 1, 1) := by decide +kernel
theorem dX7_earlyIn_17 : decode cX7_earlyIn 17 = .ok (.iadd, 1) := by decide +kernel
theorem dX7_earlyIn_18 : decode cX7_earlyIn 18 = .ok (.iaload, 1) := by decide +kernel
theorem dX7_earlyIn_19 : decode cX7_earlyIn 19 = .ok (.iload_n 3, 1) := by decide +kernel
theorem dX7_earlyIn_20 : decode cX7_earlyIn 20 = .ok (.invokestatic 93, 3) := by decide +kernel
theorem dX7_earlyIn_23 : decode cX7_earlyIn 23 = .ok (.ifCond .eq 41, 3) := by decide +kernel
theorem dX7_earlyIn_26 : decode cX7_earlyIn 26 = .ok (.aload_n 0, 1) := by decide +kernel
theorem dX7_earlyIn_27 : decode cX7_earlyIn 27 = .ok (.getfield 7, 3) := by decide +kernel
theorem dX7_earlyIn_30 : decode cX7_earlyIn 30 = .ok (.bipush 11, 2) := by decide +kernel
theorem dX7_earlyIn_32 : decode cX7_earlyIn 32 = .ok (.iload_n 3, 1) := by decide +kernel
theorem dX7_earlyIn_33 : decode cX7_earlyIn 33 = .ok (.iadd, 1) := by decide +kernel
theorem dX7_earlyIn_34 : decode cX7_earlyIn 34 = .ok (.iaload, 1) := by decide +kernel
theorem dX7_earlyIn_35 : decode cX7_earlyIn 35 = .ok (.iconst (-1), 1) := by decide +kernel
theorem dX7_earlyIn_36 : decode cX7_earlyIn 36 = .ok (.if_icmp .eq 28, 3) := by decide +kernel
theorem dX7_earlyIn_39 : decode cX7_earlyIn 39 = .ok (.aload_n 0, 1) := by decide +kernel
theorem dX7_earlyIn_40 : decode cX7_earlyIn 40 = .ok (.aload_n 0, 1) := by decide +kernel
theorem dX7_earlyIn_41 : decode cX7_earlyIn 41 = .ok (.getfield 7, 3) := by decide +kernel
theorem dX7_earlyIn_44 : decode cX7_earlyIn 44 = .ok (.bipush 11, 2) := by decide +kernel
theorem dX7_earlyIn_46 : decode cX7_earlyIn 46 = .ok (.iload_n 3, 1) := by decide +kernel
theorem dX7_earlyIn_47 : decode cX7_earlyIn 47 = .ok (.iadd, 1) := by decide +kernel
theorem dX7_earlyIn_48 : decode cX7_earlyIn 48 = .ok (.iaload, 1) := by decide +kernel
theorem dX7_earlyIn_49 : decode cX7_earlyIn 49 = .ok (.invokevirtual 135, 3) := by decide +kernel
theorem dX7_earlyIn_52 : decode cX7_earlyIn 52 = .ok (.aload_n 0, 1) := by decide +kernel
theorem dX7_earlyIn_53 : decode cX7_earlyIn 53 = .ok (.iload_n 1, 1) := by decide +kernel
theorem dX7_earlyIn_54 : decode cX7_earlyIn 54 = .ok (.invokevirtual 135, 3) := by decide +kernel
theorem dX7_earlyIn_57 : decode cX7_earlyIn 57 = .ok (.if_icmp .le 7, 3) := by decide +kernel
theorem dX7_earlyIn_60 : decode cX7_earlyIn 60 = .ok (.iconst 1, 1) := by decide +kernel
theorem dX7_earlyIn_61 : decode cX7_earlyIn 61 = .ok (.goto 4, 3) := by decide +kernel
theorem dX7_earlyIn_64 : decode cX7_earlyIn 64 = .ok (.iconst 0, 1) := by decide +kernel
theorem dX7_earlyIn_65 : decode cX7_earlyIn 65 = .ok (.istore 4, 2) := by decide +kernel
theorem dX7_earlyIn_67 : decode cX7_earlyIn 67 = .ok (.iload_n 2, 1) := by decide +kernel
theorem dX7_earlyIn_68 : decode cX7_earlyIn 68 = .ok (.iload 4, 2) := by decide +kernel
theorem dX7_earlyIn_70 : decode cX7_earlyIn 70 = .ok (.ifCond .eq 9, 3) := by decide +kernel
theorem dX7_earlyIn_73 : decode cX7_earlyIn 73 = .ok (.iconst 1, 1) := by decide +kernel
theorem dX7_earlyIn_74 : decode cX7_earlyIn 74 = .ok (.iload_n 3, 1) := by decide +kernel
theorem dX7_earlyIn_75 : decode cX7_earlyIn 75 = .ok (.ishl, 1) := by decide +kernel
theorem dX7_earlyIn_76 : decode cX7_earlyIn 76 = .ok (.goto 4, 3) := by decide +kernel
theorem dX7_earlyIn_79 : decode cX7_earlyIn 79 = .ok (.iconst 0, 1) := by decide +kernel
theorem dX7_earlyIn_80 : decode cX7_earlyIn 80 = .ok (.ior, 1) := by decide +kernel
theorem dX7_earlyIn_81 : decode cX7_earlyIn 81 = .ok (.istore_n 2, 1) := by decide +kernel
theorem dX7_earlyIn_82 : decode cX7_earlyIn 82 = .ok (.iinc 3 1, 3) := by decide +kernel
theorem dX7_earlyIn_85 : decode cX7_earlyIn 85 = .ok (.goto (-81), 3) := by decide +kernel
theorem dX7_earlyIn_88 : decode cX7_earlyIn 88 = .ok (.iload_n 2, 1) := by decide +kernel
theorem dX7_earlyIn_89 : decode cX7_earlyIn 89 = .ok (.ireturn, 1) := by decide +kernel
set_option maxRecDepth 20000 in
theorem ggX7_noteOf_X7_earlyIn : GoodIn wsX7_noteOf wsX7_earlyIn := goodIn_r _ [6, 1, 7, 8, 5, 9, 10, 11, 12, 13, 14, 15, 16, 17, 18, 19, 20, 21, 22, 23, 24, 25, 26, 27] (by decide +kernel) (by decide +kernel)
set_option maxRecDepth 20000 in
theorem gX7_noteOf_X7_earlyIn : GoodIn wsX7_noteOf (wsV RX7 138 RX7 yX7_earlyIn wsX7_earlyIn) := goodIn_app (goodIn_of _ (by decide +kernel)) ggX7_noteOf_X7_earlyIn
set_option maxRecDepth 20000 in
theorem ggX7_noteOf_X7_has : GoodIn wsX7_noteOf wsX7_has := goodIn_r _ [9] (by decide +kernel) (by decide +kernel)
set_option maxRecDepth 20000 in
theorem gX7_noteOf_X7_has : GoodIn wsX7_noteOf (va_wsS RX7 93 yX7_has wsX7_has) := goodIn_app (goodIn_of _ (by decide +kernel)) ggX7_noteOf_X7_has
theorem dX7_noteOf_0 : decode cX7_noteOf 0 = .ok (.iconst 0, 1) := by decide +kernel
theorem dX7_noteOf_1 : decode cX7_noteOf 1 = .ok (.istore_n 2, 1) := by decide +kernel
theorem dX7_noteOf_2 : decode cX7_noteOf 2 = .ok (.iload_n 2, 1) := by decide +kernel
theorem dX7_noteOf_3 : decode cX7_noteOf 3 = .ok (.aload_n 0, 1) := by decide +kernel
theorem dX7_noteOf_4 : decode cX7_noteOf 4 = .ok (.getfield 7, 3) := by decide +kernel
theorem dX7_noteOf_7 : decode cX7_noteOf 7 = .ok (.iconst 0, 1) := by decide +kernel
theorem dX7_noteOf_8 : decode cX7_noteOf 8 = .ok (.iaload, 1) := by decide +kernel
theorem dX7_noteOf_9 : decode cX7_noteOf 9 = .ok (.if_icmp .ge 39, 3) := by decide +kernel
theorem dX7_noteOf_12 : decode cX7_noteOf 12 = .ok (.aload_n 0, 1) := by decide +kernel
theorem dX7_noteOf_13 : decode cX7_noteOf 13 = .ok (.aload_n 0, 1) := by decide +kernel
theorem dX7_noteOf_14 : decode cX7_noteOf 14 = .ok (.getfield 7, 3) := by decide +kernel
theorem dX7_noteOf_17 : decode cX7_noteOf 17 = .ok (.bipush 33, 2) := by decide +kernel
theorem dX7_noteOf_19 : decode cX7_noteOf 19 = .ok (.iload_n 2, 1) := by decide +kernel
theorem dX7_noteOf_20 : decode cX7_noteOf 20 = .ok (.iadd, 1) := by decide +kernel
theorem dX7_noteOf_21 : decode cX7_noteOf 21 = .ok (.iaload, 1) := by decide +kernel
theorem dX7_noteOf_22 : decode cX7_noteOf 22 = .ok (.invokevirtual 138, 3) := by decide +kernel
theorem dX7_noteOf_25 : decode cX7_noteOf 25 = .ok (.iload_n 1, 1) := by decide +kernel
theorem dX7_noteOf_26 : decode cX7_noteOf 26 = .ok (.invokestatic 93, 3) := by decide +kernel
theorem dX7_noteOf_29 : decode cX7_noteOf 29 = .ok (.ifCond .eq 13, 3) := by decide +kernel
theorem dX7_noteOf_32 : decode cX7_noteOf 32 = .ok (.aload_n 0, 1) := by decide +kernel
theorem dX7_noteOf_33 : decode cX7_noteOf 33 = .ok (.getfield 7, 3) := by decide +kernel
theorem dX7_noteOf_36 : decode cX7_noteOf 36 = .ok (.bipush 33, 2) := by decide +kernel
theorem dX7_noteOf_38 : decode cX7_noteOf 38 = .ok (.iload_n 2, 1) := by decide +kernel
theorem dX7_noteOf_39 : decode cX7_noteOf 39 = .ok (.iadd, 1) := by decide +kernel
theorem dX7_noteOf_40 : decode cX7_noteOf 40 = .ok (.iaload, 1) := by decide +kernel
theorem dX7_noteOf_41 : decode cX7_noteOf 41 = .ok (.ireturn, 1) := by decide +kernel
theorem dX7_noteOf_42 : decode cX7_noteOf 42 = .ok (.iinc 2 1, 3) := by decide +kernel
theorem dX7_noteOf_45 : decode cX7_noteOf 45 = .ok (.goto (-43), 3) := by decide +kernel
theorem dX7_noteOf_48 : decode cX7_noteOf 48 = .ok (.iconst (-1), 1) := by decide +kernel
theorem dX7_noteOf_49 : decode cX7_noteOf 49 = .ok (.ireturn, 1) := by decide +kernel
set_option maxRecDepth 20000 in
theorem ggX7_notesMany_X7_noteOf : GoodIn wsX7_notesMany wsX7_noteOf := goodIn_r _ [5, 6, 7, 8, 9, 4, 10, 11, 12, 13, 14, 15, 16, 17, 18, 19, 20, 21, 22, 23, 24, 25, 26, 27, 28, 29, 30, 31] (by decide +kernel) (by decide +kernel)
set_option maxRecDepth 20000 in
theorem gX7_notesMany_X7_noteOf : GoodIn wsX7_notesMany (wsV RX7 141 RX7 yX7_noteOf wsX7_noteOf) := goodIn_app (goodIn_of _ (by decide +kernel)) ggX7_notesMany_X7_noteOf
theorem dX7_notesMany_0 : decode cX7_notesMany 0 = .ok (.iconst 0, 1) := by decide +kernel
theorem dX7_notesMany_1 : decode cX7_notesMany 1 = .ok (.istore_n 1, 1) := by decide +kernel
theorem dX7_notesMany_2 : decode cX7_notesMany 2 = .ok (.iconst 0, 1) := by decide +kernel
theorem dX7_notesMany_3 : decode cX7_notesMany 3 = .ok (.istore_n 2, 1) := by decide +kernel
theorem dX7_notesMany_4 : decode cX7_notesMany 4 = .ok (.iload_n 2, 1) := by decide +kernel
theorem dX7_notesMany_5 : decode cX7_notesMany 5 = .ok (.bipush 12, 2) := by decide +kernel
theorem dX7_notesMany_7 : decode cX7_notesMany 7 = .ok (.if_icmp .ge 26, 3) := by decide +kernel
theorem dX7_notesMany_10 : decode cX7_notesMany 10 = .ok (.iload_n 1, 1) := by decide +kernel
theorem dX7_notesMany_11 : decode cX7_notesMany 11 = .ok (.aload_n 0, 1) := by decide +kernel
theorem dX7_notesMany_12 : decode cX7_notesMany 12 = .ok (.iload_n 2, 1) := by decide +kernel
theorem dX7_notesMany_13 : decode cX7_notesMany 13 = .ok (.invokevirtual 141, 3) := by decide +kernel
theorem dX7_notesMany_16 : decode cX7_notesMany 16 = .ok (.iconst (-1), 1) := by decide +kernel
theorem dX7_notesMany_17 : decode cX7_notesMany 17 = .ok (.if_icmp .eq 7, 3) := by decide +kernel
theorem dX7_notesMany_20 : decode cX7_notesMany 20 = .ok (.iconst 1, 1) := by decide +kernel
theorem dX7_notesMany_21 : decode cX7_notesMany 21 = .ok (.goto 4, 3) := by decide +kernel
theorem dX7_notesMany_24 : decode cX7_notesMany 24 = .ok (.iconst 0, 1) := by decide +kernel
theorem dX7_notesMany_25 : decode cX7_notesMany 25 = .ok (.iadd, 1) := by decide +kernel
theorem dX7_notesMany_26 : decode cX7_notesMany 26 = .ok (.istore_n 1, 1) := by decide +kernel
theorem dX7_notesMany_27 : decode cX7_notesMany 27 = .ok (.iinc 2 1, 3) := by decide +kernel
theorem dX7_notesMany_30 : decode cX7_notesMany 30 = .ok (.goto (-26), 3) := by decide +kernel
theorem dX7_notesMany_33 : decode cX7_notesMany 33 = .ok (.iload_n 1, 1) := by decide +kernel
theorem dX7_notesMany_34 : decode cX7_notesMany 34 = .ok (.ireturn, 1) := by decide +kernel
set_option maxRecDepth 20000 in
theorem ggX7_lasts_X7_noteOf : GoodIn wsX7_lasts wsX7_noteOf := goodIn_r _ [6, 1, 7, 8, 9, 5, 10, 11, 12, 13, 14, 15, 16, 17, 18, 19, 20, 21, 22, 23, 24, 25, 26, 27, 28, 29, 30, 31] (by decide +kernel) (by decide +kernel)
set_option maxRecDepth 20000 in
theorem gX7_lasts_X7_noteOf : GoodIn wsX7_lasts (wsV RX7 141 RX7 yX7_noteOf wsX7_noteOf) := goodIn_app (goodIn_of _ (by decide +kernel)) ggX7_lasts_X7_noteOf
set_option maxRecDepth 20000 in
theorem ggX7_lasts_X7_placeOf : GoodIn wsX7_lasts wsX7_placeOf := goodIn_r _ [17, 1, 18, 19, 20, 21, 22, 23, 24, 25, 26, 27, 28, 29, 30, 31] (by decide +kernel) (by decide +kernel)
set_option maxRecDepth 20000 in
theorem gX7_lasts_X7_placeOf : GoodIn wsX7_lasts (wsV RX7 135 RX7 yX7_placeOf wsX7_placeOf) := goodIn_app (goodIn_of _ (by decide +kernel)) ggX7_lasts_X7_placeOf
theorem dX7_lasts_0 : decode cX7_lasts 0 = .ok (.aload_n 0, 1) := by decide +kernel
theorem dX7_lasts_1 : decode cX7_lasts 1 = .ok (.iload_n 1, 1) := by decide +kernel
theorem dX7_lasts_2 : decode cX7_lasts 2 = .ok (.invokevirtual 141, 3) := by decide +kernel
theorem dX7_lasts_5 : decode cX7_lasts 5 = .ok (.istore_n 2, 1) := by decide +kernel
theorem dX7_lasts_6 : decode cX7_lasts 6 = .ok (.iconst 0, 1) := by decide +kernel
theorem dX7_lasts_7 : decode cX7_lasts 7 = .ok (.istore_n 3, 1) := by decide +kernel
theorem dX7_lasts_8 : decode cX7_lasts 8 = .ok (.iload_n 2, 1) := by decide +kernel
theorem dX7_lasts_9 : decode cX7_lasts 9 = .ok (.iconst (-1), 1) := by decide +kernel
theorem dX7_lasts_10 : decode cX7_lasts 10 = .ok (.if_icmp .ne 12, 3) := by decide +kernel
theorem dX7_lasts_13 : decode cX7_lasts 13 = .ok (.aload_n 0, 1) := by decide +kernel
theorem dX7_lasts_14 : decode cX7_lasts 14 = .ok (.getfield 7, 3) := by decide +kernel
theorem dX7_lasts_17 : decode cX7_lasts 17 = .ok (.iconst 0, 1) := by decide +kernel
theorem dX7_lasts_18 : decode cX7_lasts 18 = .ok (.iaload, 1) := by decide +kernel
theorem dX7_lasts_19 : decode cX7_lasts 19 = .ok (.goto 8, 3) := by decide +kernel
theorem dX7_lasts_22 : decode cX7_lasts 22 = .ok (.aload_n 0, 1) := by decide +kernel
theorem dX7_lasts_23 : decode cX7_lasts 23 = .ok (.iload_n 2, 1) := by decide +kernel
theorem dX7_lasts_24 : decode cX7_lasts 24 = .ok (.invokevirtual 135, 3) := by decide +kernel
theorem dX7_lasts_27 : decode cX7_lasts 27 = .ok (.istore 4, 2) := by decide +kernel
theorem dX7_lasts_29 : decode cX7_lasts 29 = .ok (.iload 4, 2) := by decide +kernel
theorem dX7_lasts_31 : decode cX7_lasts 31 = .ok (.aload_n 0, 1) := by decide +kernel
theorem dX7_lasts_32 : decode cX7_lasts 32 = .ok (.getfield 7, 3) := by decide +kernel
theorem dX7_lasts_35 : decode cX7_lasts 35 = .ok (.iconst 0, 1) := by decide +kernel
theorem dX7_lasts_36 : decode cX7_lasts 36 = .ok (.iaload, 1) := by decide +kernel
theorem dX7_lasts_37 : decode cX7_lasts 37 = .ok (.if_icmp .ge 51, 3) := by decide +kernel
theorem dX7_lasts_40 : decode cX7_lasts 40 = .ok (.aload_n 0, 1) := by decide +kernel
theorem dX7_lasts_41 : decode cX7_lasts 41 = .ok (.getfield 7, 3) := by decide +kernel
theorem dX7_lasts_44 : decode cX7_lasts 44 = .ok (.bipush 33, 2) := by decide +kernel
theorem dX7_lasts_46 : decode cX7_lasts 46 = .ok (.iload 4, 2) := by decide +kernel
theorem dX7_lasts_48 : decode cX7_lasts 48 = .ok (.iadd, 1) := by decide +kernel
theorem dX7_lasts_49 : decode cX7_lasts 49 = .ok (.iaload, 1) := by decide +kernel
theorem dX7_lasts_50 : decode cX7_lasts 50 = .ok (.aload_n 0, 1) := by decide +kernel
theorem dX7_lasts_51 : decode cX7_lasts 51 = .ok (.getfield 7, 3) := by decide +kernel
theorem dX7_lasts_54 : decode cX7_lasts 54 = .ok (.bipush 11, 2) := by decide +kernel
theorem dX7_lasts_56 : decode cX7_lasts 56 = .ok (.iload_n 1, 1) := by decide +kernel
theorem dX7_lasts_57 : decode cX7_lasts 57 = .ok (.iadd, 1) := by decide +kernel
theorem dX7_lasts_58 : decode cX7_lasts 58 = .ok (.iaload, 1) := by decide +kernel
theorem dX7_lasts_59 : decode cX7_lasts 59 = .ok (.if_icmp .eq 29, 3) := by decide +kernel
theorem dX7_lasts_62 : decode cX7_lasts 62 = .ok (.iload_n 3, 1) := by decide +kernel
theorem dX7_lasts_63 : decode cX7_lasts 63 = .ok (.aload_n 0, 1) := by decide +kernel
theorem dX7_lasts_64 : decode cX7_lasts 64 = .ok (.getfield 7, 3) := by decide +kernel
theorem dX7_lasts_67 : decode cX7_lasts 67 = .ok (.iconst 1, 1) := by decide +kernel
theorem dX7_lasts_68 : decode cX7_lasts 68 = .ok (.aload_n 0, 1) := by decide +kernel
theorem dX7_lasts_69 : decode cX7_lasts 69 = .ok (.getfield 7, 3) := by decide +kernel
theorem dX7_lasts_72 : decode cX7_lasts 72 = .ok (.bipush 33, 2) := by decide +kernel
theorem dX7_lasts_74 : decode cX7_lasts 74 = .ok (.iload 4, 2) := by decide +kernel
theorem dX7_lasts_76 : decode cX7_lasts 76 = .ok (.iadd, 1) := by decide +kernel
theorem dX7_lasts_77 : decode cX7_lasts 77 = .ok (.iaload, 1) := by decide +kernel
theorem dX7_lasts_78 : decode cX7_lasts 78 = .ok (.iadd, 1) := by decide +kernel
theorem dX7_lasts_79 : decode cX7_lasts 79 = .ok (.iaload, 1) := by decide +kernel
theorem dX7_lasts_80 : decode cX7_lasts 80 = .ok (.iadd, 1) := by decide +kernel
theorem dX7_lasts_81 : decode cX7_lasts 81 = .ok (.istore_n 3, 1) := by decide +kernel
theorem dX7_lasts_82 : decode cX7_lasts 82 = .ok (.iinc 4 1, 3) := by decide +kernel
theorem dX7_lasts_85 : decode cX7_lasts 85 = .ok (.goto (-56), 3) := by decide +kernel
theorem dX7_lasts_88 : decode cX7_lasts 88 = .ok (.iload_n 3, 1) := by decide +kernel
theorem dX7_lasts_89 : decode cX7_lasts 89 = .ok (.ireturn, 1) := by decide +kernel
set_option maxRecDepth 20000 in
theorem ggX7_lastsAll_X7_lasts : GoodIn wsX7_lastsAll wsX7_lasts := goodIn_r _ [5, 6, 7, 8, 9, 4, 10, 11, 12, 13, 14, 15, 16, 17, 18, 19, 20, 21, 22, 23, 24, 25, 26, 27, 28, 29, 30, 31, 32, 33, 34, 35] (by decide +kernel) (by decide +kernel)
set_option maxRecDepth 20000 in
theorem gX7_lastsAll_X7_lasts : GoodIn wsX7_lastsAll (wsV RX7 144 RX7 yX7_lasts wsX7_lasts) := goodIn_app (goodIn_of _ (by decide +kernel)) ggX7_lastsAll_X7_lasts
theorem dX7_lastsAll_0 : decode cX7_lastsAll 0 = .ok (.iconst 0, 1) := by decide +kernel
theorem dX7_lastsAll_1 : decode cX7_lastsAll 1 = .ok (.istore_n 1, 1) := by decide +kernel
theorem dX7_lastsAll_2 : decode cX7_lastsAll 2 = .ok (.iconst 0, 1) := by decide +kernel
theorem dX7_lastsAll_3 : decode cX7_lastsAll 3 = .ok (.istore_n 2, 1) := by decide +kernel
theorem dX7_lastsAll_4 : decode cX7_lastsAll 4 = .ok (.iload_n 2, 1) := by decide +kernel
theorem dX7_lastsAll_5 : decode cX7_lastsAll 5 = .ok (.bipush 12, 2) := by decide +kernel
theorem dX7_lastsAll_7 : decode cX7_lastsAll 7 = .ok (.if_icmp .ge 17, 3) := by decide +kernel
theorem dX7_lastsAll_10 : decode cX7_lastsAll 10 = .ok (.iload_n 1, 1) := by decide +kernel
theorem dX7_lastsAll_11 : decode cX7_lastsAll 11 = .ok (.aload_n 0, 1) := by decide +kernel
theorem dX7_lastsAll_12 : decode cX7_lastsAll 12 = .ok (.iload_n 2, 1) := by decide +kernel
theorem dX7_lastsAll_13 : decode cX7_lastsAll 13 = .ok (.invokevirtual 144, 3) := by decide +kernel
theorem dX7_lastsAll_16 : decode cX7_lastsAll 16 = .ok (.iadd, 1) := by decide +kernel
theorem dX7_lastsAll_17 : decode cX7_lastsAll 17 = .ok (.istore_n 1, 1) := by decide +kernel
theorem dX7_lastsAll_18 : decode cX7_lastsAll 18 = .ok (.iinc 2 1, 3) := by decide +kernel
theorem dX7_lastsAll_21 : decode cX7_lastsAll 21 = .ok (.goto (-17), 3) := by decide +kernel
theorem dX7_lastsAll_24 : decode cX7_lastsAll 24 = .ok (.iload_n 1, 1) := by decide +kernel
theorem dX7_lastsAll_25 : decode cX7_lastsAll 25 = .ok (.ireturn, 1) := by decide +kernel
set_option maxRecDepth 20000 in
theorem ggX7_usedBy_X7_has : GoodIn wsX7_usedBy wsX7_has := goodIn_r _ [5] (by decide +kernel) (by decide +kernel)
set_option maxRecDepth 20000 in
theorem gX7_usedBy_X7_has : GoodIn wsX7_usedBy (va_wsS RX7 93 yX7_has wsX7_has) := goodIn_app (goodIn_of _ (by decide +kernel)) ggX7_usedBy_X7_has
theorem dX7_usedBy_0 : decode cX7_usedBy 0 = .ok (.iconst 0, 1) := by decide +kernel
theorem dX7_usedBy_1 : decode cX7_usedBy 1 = .ok (.istore_n 2, 1) := by decide +kernel
theorem dX7_usedBy_2 : decode cX7_usedBy 2 = .ok (.iconst 0, 1) := by decide +kernel
theorem dX7_usedBy_3 : decode cX7_usedBy 3 = .ok (.istore_n 3, 1) := by decide +kernel
theorem dX7_usedBy_4 : decode cX7_usedBy 4 = .ok (.iload_n 3, 1) := by decide +kernel
theorem dX7_usedBy_5 : decode cX7_usedBy 5 = .ok (.aload_n 0, 1) := by decide +kernel
theorem dX7_usedBy_6 : decode cX7_usedBy 6 = .ok (.getfield 7, 3) := by decide +kernel
theorem dX7_usedBy_9 : decode cX7_usedBy 9 = .ok (.iconst 0, 1) := by decide +kernel
theorem dX7_usedBy_10 : decode cX7_usedBy 10 = .ok (.iaload, 1) := by decide +kernel
theorem dX7_usedBy_11 : decode cX7_usedBy 11 = .ok (.if_icmp .ge 35, 3) := by decide +kernel
theorem dX7_usedBy_14 : decode cX7_usedBy 14 = .ok (.iload_n 2, 1) := by decide +kernel
theorem dX7_usedBy_15 : decode cX7_usedBy 15 = .ok (.aload_n 0, 1) := by decide +kernel
theorem dX7_usedBy_16 : decode cX7_usedBy 16 = .ok (.getfield 7, 3) := by decide +kernel
theorem dX7_usedBy_19 : decode cX7_usedBy 19 = .ok (.bipush 23, 2) := by decide +kernel
theorem dX7_usedBy_21 : decode cX7_usedBy 21 = .ok (.iload_n 3, 1) := by decide +kernel
theorem dX7_usedBy_22 : decode cX7_usedBy 22 = .ok (.iadd, 1) := by decide +kernel
theorem dX7_usedBy_23 : decode cX7_usedBy 23 = .ok (.iaload, 1) := by decide +kernel
theorem dX7_usedBy_24 : decode cX7_usedBy 24 = .ok (.iload_n 1, 1) := by decide +kernel
theorem dX7_usedBy_25 : decode cX7_usedBy 25 = .ok (.invokestatic 93, 3) := by decide +kernel
theorem dX7_usedBy_28 : decode cX7_usedBy 28 = .ok (.ifCond .eq 9, 3) := by decide +kernel
theorem dX7_usedBy_31 : decode cX7_usedBy 31 = .ok (.iconst 1, 1) := by decide +kernel
theorem dX7_usedBy_32 : decode cX7_usedBy 32 = .ok (.iload_n 3, 1) := by decide +kernel
theorem dX7_usedBy_33 : decode cX7_usedBy 33 = .ok (.ishl, 1) := by decide +kernel
theorem dX7_usedBy_34 : decode cX7_usedBy 34 = .ok (.goto 4, 3) := by decide +kernel
theorem dX7_usedBy_37 : decode cX7_usedBy 37 = .ok (.iconst 0, 1) := by decide +kernel
theorem dX7_usedBy_38 : decode cX7_usedBy 38 = .ok (.ior, 1) := by decide +kernel
theorem dX7_usedBy_39 : decode cX7_usedBy 39 = .ok (.istore_n 2, 1) := by decide +kernel
theorem dX7_usedBy_40 : decode cX7_usedBy 40 = .ok (.iinc 3 1, 3) := by decide +kernel
theorem dX7_usedBy_43 : decode cX7_usedBy 43 = .ok (.goto (-39), 3) := by decide +kernel
theorem dX7_usedBy_46 : decode cX7_usedBy 46 = .ok (.iload_n 2, 1) := by decide +kernel
theorem dX7_usedBy_47 : decode cX7_usedBy 47 = .ok (.ireturn, 1) := by decide +kernel
set_option maxRecDepth 20000 in
theorem ggX7_loose_X7_usedBy : GoodIn wsX7_loose wsX7_usedBy := goodIn_r _ [6, 1, 7, 8, 5, 9, 10, 11, 12, 13, 14, 15, 16, 17, 18, 19, 20, 21, 22, 23] (by decide +kernel) (by decide +kernel)
set_option maxRecDepth 20000 in
theorem gX7_loose_X7_usedBy : GoodIn wsX7_loose (wsV RX7 147 RX7 yX7_usedBy wsX7_usedBy) := goodIn_app (goodIn_of _ (by decide +kernel)) ggX7_loose_X7_usedBy
theorem dX7_loose_0 : decode cX7_loose 0 = .ok (.iconst 0, 1) := by decide +kernel
theorem dX7_loose_1 : decode cX7_loose 1 = .ok (.istore_n 1, 1) := by decide +kernel
theorem dX7_loose_2 : decode cX7_loose 2 = .ok (.iconst 0, 1) := by decide +kernel
theorem dX7_loose_3 : decode cX7_loose 3 = .ok (.istore_n 2, 1) := by decide +kernel
theorem dX7_loose_4 : decode cX7_loose 4 = .ok (.iload_n 2, 1) := by decide +kernel
theorem dX7_loose_5 : decode cX7_loose 5 = .ok (.bipush 12, 2) := by decide +kernel
theorem dX7_loose_7 : decode cX7_loose 7 = .ok (.if_icmp .ge 38, 3) := by decide +kernel
theorem dX7_loose_10 : decode cX7_loose 10 = .ok (.iload_n 1, 1) := by decide +kernel
theorem dX7_loose_11 : decode cX7_loose 11 = .ok (.aload_n 0, 1) := by decide +kernel
theorem dX7_loose_12 : decode cX7_loose 12 = .ok (.getfield 7, 3) := by decide +kernel
theorem dX7_loose_15 : decode cX7_loose 15 = .ok (.bipush 11, 2) := by decide +kernel
theorem dX7_loose_17 : decode cX7_loose 17 = .ok (.iload_n 2, 1) := by decide +kernel
theorem dX7_loose_18 : decode cX7_loose 18 = .ok (.iadd, 1) := by decide +kernel
theorem dX7_loose_19 : decode cX7_loose 19 = .ok (.iaload, 1) := by decide +kernel
theorem dX7_loose_20 : decode cX7_loose 20 = .ok (.iconst (-1), 1) := by decide +kernel
theorem dX7_loose_21 : decode cX7_loose 21 = .ok (.if_icmp .ne 15, 3) := by decide +kernel
theorem dX7_loose_24 : decode cX7_loose 24 = .ok (.aload_n 0, 1) := by decide +kernel
theorem dX7_loose_25 : decode cX7_loose 25 = .ok (.iload_n 2, 1) := by decide +kernel
theorem dX7_loose_26 : decode cX7_loose 26 = .ok (.invokevirtual 147, 3) := by decide +kernel
theorem dX7_loose_29 : decode cX7_loose 29 = .ok (.ifCond .eq 7, 3) := by decide +kernel
theorem dX7_loose_32 : decode cX7_loose 32 = .ok (.iconst 1, 1) := by decide +kernel
theorem dX7_loose_33 : decode cX7_loose 33 = .ok (.goto 4, 3) := by decide +kernel
theorem dX7_loose_36 : decode cX7_loose 36 = .ok (.iconst 0, 1) := by decide +kernel
theorem dX7_loose_37 : decode cX7_loose 37 = .ok (.iadd, 1) := by decide +kernel
theorem dX7_loose_38 : decode cX7_loose 38 = .ok (.istore_n 1, 1) := by decide +kernel
theorem dX7_loose_39 : decode cX7_loose 39 = .ok (.iinc 2 1, 3) := by decide +kernel
theorem dX7_loose_42 : decode cX7_loose 42 = .ok (.goto (-38), 3) := by decide +kernel
theorem dX7_loose_45 : decode cX7_loose 45 = .ok (.iload_n 1, 1) := by decide +kernel
theorem dX7_loose_46 : decode cX7_loose 46 = .ok (.ireturn, 1) := by decide +kernel
set_option maxRecDepth 20000 in
theorem ggX7_needs_X7_has : GoodIn wsX7_needs wsX7_has := goodIn_r _ [5] (by decide +kernel) (by decide +kernel)
set_option maxRecDepth 20000 in
theorem gX7_needs_X7_has : GoodIn wsX7_needs (va_wsS RX7 93 yX7_has wsX7_has) := goodIn_app (goodIn_of _ (by decide +kernel)) ggX7_needs_X7_has
theorem dX7_needs_0 : decode cX7_needs 0 = .ok (.iconst 0, 1) := by decide +kernel
theorem dX7_needs_1 : decode cX7_needs 1 = .ok (.istore_n 2, 1) := by decide +kernel
theorem dX7_needs_2 : decode cX7_needs 2 = .ok (.iconst 0, 1) := by decide +kernel
theorem dX7_needs_3 : decode cX7_needs 3 = .ok (.istore_n 3, 1) := by decide +kernel
theorem dX7_needs_4 : decode cX7_needs 4 = .ok (.iload_n 3, 1) := by decide +kernel
theorem dX7_needs_5 : decode cX7_needs 5 = .ok (.bipush 12, 2) := by decide +kernel
theorem dX7_needs_7 : decode cX7_needs 7 = .ok (.if_icmp .ge 56, 3) := by decide +kernel
theorem dX7_needs_10 : decode cX7_needs 10 = .ok (.iload_n 2, 1) := by decide +kernel
theorem dX7_needs_11 : decode cX7_needs 11 = .ok (.aload_n 0, 1) := by decide +kernel
theorem dX7_needs_12 : decode cX7_needs 12 = .ok (.getfield 7, 3) := by decide +kernel
theorem dX7_needs_15 : decode cX7_needs 15 = .ok (.bipush 23, 2) := by decide +kernel
theorem dX7_needs_17 : decode cX7_needs 17 = .ok (.iload_n 1, 1) := by decide +kernel
theorem dX7_needs_18 : decode cX7_needs 18 = .ok (.iadd, 1) := by decide +kernel
theorem dX7_needs_19 : decode cX7_needs 19 = .ok (.iaload, 1) := by decide +kernel
theorem dX7_needs_20 : decode cX7_needs 20 = .ok (.iload_n 3, 1) := by decide +kernel
theorem dX7_needs_21 : decode cX7_needs 21 = .ok (.invokestatic 93, 3) := by decide +kernel
theorem dX7_needs_24 : decode cX7_needs 24 = .ok (.ifCond .eq 30, 3) := by decide +kernel
theorem dX7_needs_27 : decode cX7_needs 27 = .ok (.aload_n 0, 1) := by decide +kernel
theorem dX7_needs_28 : decode cX7_needs 28 = .ok (.getfield 7, 3) := by decide +kernel
theorem dX7_needs_31 : decode cX7_needs 31 = .ok (.bipush 11, 2) := by decide +kernel
theorem dX7_needs_33 : decode cX7_needs 33 = .ok (.iload_n 3, 1) := by decide +kernel
theorem dX7_needs_34 : decode cX7_needs 34 = .ok (.iadd, 1) := by decide +kernel
theorem dX7_needs_35 : decode cX7_needs 35 = .ok (.iaload, 1) := by decide +kernel
theorem dX7_needs_36 : decode cX7_needs 36 = .ok (.iconst (-1), 1) := by decide +kernel
theorem dX7_needs_37 : decode cX7_needs 37 = .ok (.if_icmp .eq 17, 3) := by decide +kernel
theorem dX7_needs_40 : decode cX7_needs 40 = .ok (.iconst 1, 1) := by decide +kernel
theorem dX7_needs_41 : decode cX7_needs 41 = .ok (.aload_n 0, 1) := by decide +kernel
theorem dX7_needs_42 : decode cX7_needs 42 = .ok (.getfield 7, 3) := by decide +kernel
theorem dX7_needs_45 : decode cX7_needs 45 = .ok (.bipush 11, 2) := by decide +kernel
theorem dX7_needs_47 : decode cX7_needs 47 = .ok (.iload_n 3, 1) := by decide +kernel
theorem dX7_needs_48 : decode cX7_needs 48 = .ok (.iadd, 1) := by decide +kernel
theorem dX7_needs_49 : decode cX7_needs 49 = .ok (.iaload, 1) := by decide +kernel
theorem dX7_needs_50 : decode cX7_needs 50 = .ok (.ishl, 1) := by decide +kernel
theorem dX7_needs_51 : decode cX7_needs 51 = .ok (.goto 4, 3) := by decide +kernel
theorem dX7_needs_54 : decode cX7_needs 54 = .ok (.iconst 0, 1) := by decide +kernel
theorem dX7_needs_55 : decode cX7_needs 55 = .ok (.ior, 1) := by decide +kernel
theorem dX7_needs_56 : decode cX7_needs 56 = .ok (.istore_n 2, 1) := by decide +kernel
theorem dX7_needs_57 : decode cX7_needs 57 = .ok (.iinc 3 1, 3) := by decide +kernel
theorem dX7_needs_60 : decode cX7_needs 60 = .ok (.goto (-56), 3) := by decide +kernel
theorem dX7_needs_63 : decode cX7_needs 63 = .ok (.iload_n 2, 1) := by decide +kernel
theorem dX7_needs_64 : decode cX7_needs 64 = .ok (.iconst 1, 1) := by decide +kernel
theorem dX7_needs_65 : decode cX7_needs 65 = .ok (.iload_n 1, 1) := by decide +kernel
theorem dX7_needs_66 : decode cX7_needs 66 = .ok (.ishl, 1) := by decide +kernel
theorem dX7_needs_67 : decode cX7_needs 67 = .ok (.iconst (-1), 1) := by decide +kernel
theorem dX7_needs_68 : decode cX7_needs 68 = .ok (.ixor, 1) := by decide +kernel
theorem dX7_needs_69 : decode cX7_needs 69 = .ok (.iand, 1) := by decide +kernel
theorem dX7_needs_70 : decode cX7_needs 70 = .ok (.ireturn, 1) := by decide +kernel
set_option maxRecDepth 20000 in
theorem ggX7_leads_X7_needs : GoodIn wsX7_leads wsX7_needs := goodIn_r _ [6, 1, 7, 8, 5, 9, 10, 11, 12, 13, 14, 15, 16, 17, 18, 19, 20, 21, 22, 23] (by decide +kernel) (by decide +kernel)
set_option maxRecDepth 20000 in
theorem gX7_leads_X7_needs : GoodIn wsX7_leads (wsV RX7 150 RX7 yX7_needs wsX7_needs) := goodIn_app (goodIn_of _ (by decide +kernel)) ggX7_leads_X7_needs
set_option maxRecDepth 20000 in
theorem ggX7_leads_X7_has : GoodIn wsX7_leads wsX7_has := goodIn_r _ [9] (by decide +kernel) (by decide +kernel)
set_option maxRecDepth 20000 in
theorem gX7_leads_X7_has : GoodIn wsX7_leads (va_wsS RX7 93 yX7_has wsX7_has) := goodIn_app (goodIn_of _ (by decide +kernel)) ggX7_leads_X7_has
theorem dX7_leads_0 : decode cX7_leads 0 = .ok (.aload_n 0, 1) := by decide +kernel
theorem dX7_leads_1 : decode cX7_leads 1 = .ok (.iload_n 1, 1) := by decide +kernel
theorem dX7_leads_2 : decode cX7_leads 2 = .ok (.invokevirtual 150, 3) := by decide +kernel
theorem dX7_leads_5 : decode cX7_leads 5 = .ok (.istore_n 2, 1) := by decide +kernel
theorem dX7_leads_6 : decode cX7_leads 6 = .ok (.iconst 0, 1) := by decide +kernel
theorem dX7_leads_7 : decode cX7_leads 7 = .ok (.istore_n 3, 1) := by decide +kernel
theorem dX7_leads_8 : decode cX7_leads 8 = .ok (.iload_n 3, 1) := by decide +kernel
theorem dX7_leads_9 : decode cX7_leads 9 = .ok (.aload_n 0, 1) := by decide +kernel
theorem dX7_leads_10 : decode cX7_leads 10 = .ok (.getfield 7, 3) := by decide +kernel
theorem dX7_leads_13 : decode cX7_leads 13 = .ok (.iconst 0, 1) := by decide +kernel
theorem dX7_leads_14 : decode cX7_leads 14 = .ok (.iaload, 1) := by decide +kernel
theorem dX7_leads_15 : decode cX7_leads 15 = .ok (.if_icmp .ge 51, 3) := by decide +kernel
theorem dX7_leads_18 : decode cX7_leads 18 = .ok (.iconst 0, 1) := by decide +kernel
theorem dX7_leads_19 : decode cX7_leads 19 = .ok (.istore 4, 2) := by decide +kernel
theorem dX7_leads_21 : decode cX7_leads 21 = .ok (.iload 4, 2) := by decide +kernel
theorem dX7_leads_23 : decode cX7_leads 23 = .ok (.aload_n 0, 1) := by decide +kernel
theorem dX7_leads_24 : decode cX7_leads 24 = .ok (.getfield 7, 3) := by decide +kernel
theorem dX7_leads_27 : decode cX7_leads 27 = .ok (.iconst 0, 1) := by decide +kernel
theorem dX7_leads_28 : decode cX7_leads 28 = .ok (.iaload, 1) := by decide +kernel
theorem dX7_leads_29 : decode cX7_leads 29 = .ok (.if_icmp .ge 31, 3) := by decide +kernel
theorem dX7_leads_32 : decode cX7_leads 32 = .ok (.iload_n 2, 1) := by decide +kernel
theorem dX7_leads_33 : decode cX7_leads 33 = .ok (.iload_n 2, 1) := by decide +kernel
theorem dX7_leads_34 : decode cX7_leads 34 = .ok (.iload 4, 2) := by decide +kernel
theorem dX7_leads_36 : decode cX7_leads 36 = .ok (.invokestatic 93, 3) := by decide +kernel
theorem dX7_leads_39 : decode cX7_leads 39 = .ok (.ifCond .eq 12, 3) := by decide +kernel
theorem dX7_leads_42 : decode cX7_leads 42 = .ok (.aload_n 0, 1) := by decide +kernel
theorem dX7_leads_43 : decode cX7_leads 43 = .ok (.iload 4, 2) := by decide +kernel
theorem dX7_leads_45 : decode cX7_leads 45 = .ok (.invokevirtual 150, 3) := by decide +kernel
theorem dX7_leads_48 : decode cX7_leads 48 = .ok (.goto 4, 3) := by decide +kernel
theorem dX7_leads_51 : decode cX7_leads 51 = .ok (.iconst 0, 1) := by decide +kernel
theorem dX7_leads_52 : decode cX7_leads 52 = .ok (.ior, 1) := by decide +kernel
theorem dX7_leads_53 : decode cX7_leads 53 = .ok (.istore_n 2, 1) := by decide +kernel
theorem dX7_leads_54 : decode cX7_leads 54 = .ok (.iinc 4 1, 3) := by decide +kernel
theorem dX7_leads_57 : decode cX7_leads 57 = .ok (.goto (-36), 3) := by decide +kernel
theorem dX7_leads_60 : decode cX7_leads 60 = .ok (.iinc 3 1, 3) := by decide +kernel
theorem dX7_leads_63 : decode cX7_leads 63 = .ok (.goto (-55), 3) := by decide +kernel
theorem dX7_leads_66 : decode cX7_leads 66 = .ok (.iload_n 2, 1) := by decide +kernel
theorem dX7_leads_67 : decode cX7_leads 67 = .ok (.ireturn, 1) := by decide +kernel
set_option maxRecDepth 20000 in
theorem ggX7_knotOf_X7_leads : GoodIn wsX7_knotOf wsX7_leads := goodIn_r _ [6, 1, 7, 8, 9, 5, 10, 11, 12, 13, 14, 15, 16, 17, 18, 19, 20, 21, 22, 23, 24, 25, 26, 27] (by decide +kernel) (by decide +kernel)
set_option maxRecDepth 20000 in
theorem gX7_knotOf_X7_leads : GoodIn wsX7_knotOf (wsV RX7 153 RX7 yX7_leads wsX7_leads) := goodIn_app (goodIn_of _ (by decide +kernel)) ggX7_knotOf_X7_leads
set_option maxRecDepth 20000 in
theorem ggX7_knotOf_X7_has : GoodIn wsX7_knotOf wsX7_has := goodIn_r _ [13] (by decide +kernel) (by decide +kernel)
set_option maxRecDepth 20000 in
theorem gX7_knotOf_X7_has : GoodIn wsX7_knotOf (va_wsS RX7 93 yX7_has wsX7_has) := goodIn_app (goodIn_of _ (by decide +kernel)) ggX7_knotOf_X7_has
theorem dX7_knotOf_0 : decode cX7_knotOf 0 = .ok (.aload_n 0, 1) := by decide +kernel
theorem dX7_knotOf_1 : decode cX7_knotOf 1 = .ok (.iload_n 1, 1) := by decide +kernel
theorem dX7_knotOf_2 : decode cX7_knotOf 2 = .ok (.invokevirtual 153, 3) := by decide +kernel
theorem dX7_knotOf_5 : decode cX7_knotOf 5 = .ok (.istore_n 2, 1) := by decide +kernel
theorem dX7_knotOf_6 : decode cX7_knotOf 6 = .ok (.iconst 1, 1) := by decide +kernel
theorem dX7_knotOf_7 : decode cX7_knotOf 7 = .ok (.iload_n 1, 1) := by decide +kernel
theorem dX7_knotOf_8 : decode cX7_knotOf 8 = .ok (.ishl, 1) := by decide +kernel
theorem dX7_knotOf_9 : decode cX7_knotOf 9 = .ok (.istore_n 3, 1) := by decide +kernel
theorem dX7_knotOf_10 : decode cX7_knotOf 10 = .ok (.iconst 0, 1) := by decide +kernel
theorem dX7_knotOf_11 : decode cX7_knotOf 11 = .ok (.istore 4, 2) := by decide +kernel
theorem dX7_knotOf_13 : decode cX7_knotOf 13 = .ok (.iload 4, 2) := by decide +kernel
theorem dX7_knotOf_15 : decode cX7_knotOf 15 = .ok (.aload_n 0, 1) := by decide +kernel
theorem dX7_knotOf_16 : decode cX7_knotOf 16 = .ok (.getfield 7, 3) := by decide +kernel
theorem dX7_knotOf_19 : decode cX7_knotOf 19 = .ok (.iconst 0, 1) := by decide +kernel
theorem dX7_knotOf_20 : decode cX7_knotOf 20 = .ok (.iaload, 1) := by decide +kernel
theorem dX7_knotOf_21 : decode cX7_knotOf 21 = .ok (.if_icmp .ge 42, 3) := by decide +kernel
theorem dX7_knotOf_24 : decode cX7_knotOf 24 = .ok (.iload_n 3, 1) := by decide +kernel
theorem dX7_knotOf_25 : decode cX7_knotOf 25 = .ok (.iload_n 2, 1) := by decide +kernel
theorem dX7_knotOf_26 : decode cX7_knotOf 26 = .ok (.iload 4, 2) := by decide +kernel
theorem dX7_knotOf_28 : decode cX7_knotOf 28 = .ok (.invokestatic 93, 3) := by decide +kernel
theorem dX7_knotOf_31 : decode cX7_knotOf 31 = .ok (.ifCond .eq 23, 3) := by decide +kernel
theorem dX7_knotOf_34 : decode cX7_knotOf 34 = .ok (.aload_n 0, 1) := by decide +kernel
theorem dX7_knotOf_35 : decode cX7_knotOf 35 = .ok (.iload 4, 2) := by decide +kernel
theorem dX7_knotOf_37 : decode cX7_knotOf 37 = .ok (.invokevirtual 153, 3) := by decide +kernel
theorem dX7_knotOf_40 : decode cX7_knotOf 40 = .ok (.iload_n 1, 1) := by decide +kernel
theorem dX7_knotOf_41 : decode cX7_knotOf 41 = .ok (.invokestatic 93, 3) := by decide +kernel
theorem dX7_knotOf_44 : decode cX7_knotOf 44 = .ok (.ifCond .eq 10, 3) := by decide +kernel
theorem dX7_knotOf_47 : decode cX7_knotOf 47 = .ok (.iconst 1, 1) := by decide +kernel
theorem dX7_knotOf_48 : decode cX7_knotOf 48 = .ok (.iload 4, 2) := by decide +kernel
theorem dX7_knotOf_50 : decode cX7_knotOf 50 = .ok (.ishl, 1) := by decide +kernel
theorem dX7_knotOf_51 : decode cX7_knotOf 51 = .ok (.goto 4, 3) := by decide +kernel
theorem dX7_knotOf_54 : decode cX7_knotOf 54 = .ok (.iconst 0, 1) := by decide +kernel
theorem dX7_knotOf_55 : decode cX7_knotOf 55 = .ok (.ior, 1) := by decide +kernel
theorem dX7_knotOf_56 : decode cX7_knotOf 56 = .ok (.istore_n 3, 1) := by decide +kernel
theorem dX7_knotOf_57 : decode cX7_knotOf 57 = .ok (.iinc 4 1, 3) := by decide +kernel
theorem dX7_knotOf_60 : decode cX7_knotOf 60 = .ok (.goto (-47), 3) := by decide +kernel
theorem dX7_knotOf_63 : decode cX7_knotOf 63 = .ok (.iload_n 3, 1) := by decide +kernel
theorem dX7_knotOf_64 : decode cX7_knotOf 64 = .ok (.ireturn, 1) := by decide +kernel
set_option maxRecDepth 20000 in
theorem ggX7_knots_X7_knotOf : GoodIn wsX7_knots wsX7_knotOf := goodIn_r _ [6, 1, 7, 8, 9, 5, 10, 11, 12, 13, 14, 15, 16, 17, 21, 22, 23, 24, 25, 26, 27, 28, 29, 30, 31, 32, 33, 34] (by decide +kernel) (by decide +kernel)
set_option maxRecDepth 20000 in
theorem gX7_knots_X7_knotOf : GoodIn wsX7_knots (wsV RX7 156 RX7 yX7_knotOf wsX7_knotOf) := goodIn_app (goodIn_of _ (by decide +kernel)) ggX7_knots_X7_knotOf
set_option maxRecDepth 20000 in
theorem ggX7_knots_X7_ones : GoodIn wsX7_knots wsX7_ones := goodIn_r _ [20] (by decide +kernel) (by decide +kernel)
set_option maxRecDepth 20000 in
theorem gX7_knots_X7_ones : GoodIn wsX7_knots (va_wsS RX7 159 yX7_ones wsX7_ones) := goodIn_app (goodIn_of _ (by decide +kernel)) ggX7_knots_X7_ones
theorem dX7_knots_0 : decode cX7_knots 0 = .ok (.iconst 0, 1) := by decide +kernel
theorem dX7_knots_1 : decode cX7_knots 1 = .ok (.istore_n 1, 1) := by decide +kernel
theorem dX7_knots_2 : decode cX7_knots 2 = .ok (.iconst 0, 1) := by decide +kernel
theorem dX7_knots_3 : decode cX7_knots 3 = .ok (.istore_n 2, 1) := by decide +kernel
theorem dX7_knots_4 : decode cX7_knots 4 = .ok (.iload_n 2, 1) := by decide +kernel
theorem dX7_knots_5 : decode cX7_knots 5 = .ok (.aload_n 0, 1) := by decide +kernel
theorem dX7_knots_6 : decode cX7_knots 6 = .ok (.getfield 7, 3) := by decide +kernel
theorem dX7_knots_9 : decode cX7_knots 9 = .ok (.iconst 0, 1) := by decide +kernel
theorem dX7_knots_10 : decode cX7_knots 10 = .ok (.iaload, 1) := by decide +kernel
theorem dX7_knots_11 : decode cX7_knots 11 = .ok (.if_icmp .ge 41, 3) := by decide +kernel
theorem dX7_knots_14 : decode cX7_knots 14 = .ok (.aload_n 0, 1) := by decide +kernel
theorem dX7_knots_15 : decode cX7_knots 15 = .ok (.iload_n 2, 1) := by decide +kernel
theorem dX7_knots_16 : decode cX7_knots 16 = .ok (.invokevirtual 156, 3) := by decide +kernel
theorem dX7_knots_19 : decode cX7_knots 19 = .ok (.istore_n 3, 1) := by decide +kernel
theorem dX7_knots_20 : decode cX7_knots 20 = .ok (.iload_n 1, 1) := by decide +kernel
theorem dX7_knots_21 : decode cX7_knots 21 = .ok (.iload_n 3, 1) := by decide +kernel
theorem dX7_knots_22 : decode cX7_knots 22 = .ok (.invokestatic 159, 3) := by decide +kernel
theorem dX7_knots_25 : decode cX7_knots 25 = .ok (.iconst 1, 1) := by decide +kernel
theorem dX7_knots_26 : decode cX7_knots 26 = .ok (.if_icmp .le 17, 3) := by decide +kernel
theorem dX7_knots_29 : decode cX7_knots 29 = .ok (.iload_n 3, 1) := by decide +kernel
theorem dX7_knots_30 : decode cX7_knots 30 = .ok (.iload_n 3, 1) := by decide +kernel
theorem dX7_knots_31 : decode cX7_knots 31 = .ok (.ineg, 1) := by decide +kernel
theorem dX7_knots_32 : decode cX7_knots 32 = .ok (.iand, 1) := by decide +kernel
theorem dX7_knots_33 : decode cX7_knots 33 = .ok (.iconst 1, 1) := by decide +kernel
theorem dX7_knots_34 : decode cX7_knots 34 = .ok (.iload_n 2, 1) := by decide +kernel
theorem dX7_knots_35 : decode cX7_knots 35 = .ok (.ishl, 1) := by decide +kernel
theorem dX7_knots_36 : decode cX7_knots 36 = .ok (.if_icmp .ne 7, 3) := by decide +kernel
theorem dX7_knots_39 : decode cX7_knots 39 = .ok (.iconst 1, 1) := by decide +kernel
theorem dX7_knots_40 : decode cX7_knots 40 = .ok (.goto 4, 3) := by decide +kernel
theorem dX7_knots_43 : decode cX7_knots 43 = .ok (.iconst 0, 1) := by decide +kernel
theorem dX7_knots_44 : decode cX7_knots 44 = .ok (.iadd, 1) := by decide +kernel
theorem dX7_knots_45 : decode cX7_knots 45 = .ok (.istore_n 1, 1) := by decide +kernel
theorem dX7_knots_46 : decode cX7_knots 46 = .ok (.iinc 2 1, 3) := by decide +kernel
theorem dX7_knots_49 : decode cX7_knots 49 = .ok (.goto (-45), 3) := by decide +kernel
theorem dX7_knots_52 : decode cX7_knots 52 = .ok (.iload_n 1, 1) := by decide +kernel
theorem dX7_knots_53 : decode cX7_knots 53 = .ok (.ireturn, 1) := by decide +kernel
set_option maxRecDepth 20000 in
theorem ggX7_stepsTo_X7_needs : GoodIn wsX7_stepsTo wsX7_needs := goodIn_r _ [6, 1, 7, 8, 5, 9, 10, 11, 12, 13, 14, 15, 16, 17, 18, 19, 20, 21, 22, 23] (by decide +kernel) (by decide +kernel)
set_option maxRecDepth 20000 in
theorem gX7_stepsTo_X7_needs : GoodIn wsX7_stepsTo (wsV RX7 150 RX7 yX7_needs wsX7_needs) := goodIn_app (goodIn_of _ (by decide +kernel)) ggX7_stepsTo_X7_needs
set_option maxRecDepth 20000 in
theorem ggX7_stepsTo_X7_has : GoodIn wsX7_stepsTo wsX7_has := goodIn_r _ [9] (by decide +kernel) (by decide +kernel)
set_option maxRecDepth 20000 in
theorem gX7_stepsTo_X7_has : GoodIn wsX7_stepsTo (va_wsS RX7 93 yX7_has wsX7_has) := goodIn_app (goodIn_of _ (by decide +kernel)) ggX7_stepsTo_X7_has
theorem dX7_stepsTo_0 : decode cX7_stepsTo 0 = .ok (.aload_n 0, 1) := by decide +kernel
theorem dX7_stepsTo_1 : decode cX7_stepsTo 1 = .ok (.iload_n 1, 1) := by decide +kernel
theorem dX7_stepsTo_2 : decode cX7_stepsTo 2 = .ok (.invokevirtual 150, 3) := by decide +kernel
theorem dX7_stepsTo_5 : decode cX7_stepsTo 5 = .ok (.istore_n 3, 1) := by decide +kernel
theorem dX7_stepsTo_6 : decode cX7_stepsTo 6 = .ok (.iconst 1, 1) := by decide +kernel
theorem dX7_stepsTo_7 : decode cX7_stepsTo 7 = .ok (.istore 4, 2) := by decide +kernel
theorem dX7_stepsTo_9 : decode cX7_stepsTo 9 = .ok (.iload 4, 2) := by decide +kernel
theorem dX7_stepsTo_11 : decode cX7_stepsTo 11 = .ok (.aload_n 0, 1) := by decide +kernel
theorem dX7_stepsTo_12 : decode cX7_stepsTo 12 = .ok (.getfield 7, 3) := by decide +kernel
theorem dX7_stepsTo_15 : decode cX7_stepsTo 15 = .ok (.iconst 0, 1) := by decide +kernel
theorem dX7_stepsTo_16 : decode cX7_stepsTo 16 = .ok (.iaload, 1) := by decide +kernel
theorem dX7_stepsTo_17 : decode cX7_stepsTo 17 = .ok (.if_icmp .gt 70, 3) := by decide +kernel
theorem dX7_stepsTo_20 : decode cX7_stepsTo 20 = .ok (.iload_n 3, 1) := by decide +kernel
theorem dX7_stepsTo_21 : decode cX7_stepsTo 21 = .ok (.iload_n 2, 1) := by decide +kernel
theorem dX7_stepsTo_22 : decode cX7_stepsTo 22 = .ok (.invokestatic 93, 3) := by decide +kernel
theorem dX7_stepsTo_25 : decode cX7_stepsTo 25 = .ok (.ifCond .eq 6, 3) := by decide +kernel
theorem dX7_stepsTo_28 : decode cX7_stepsTo 28 = .ok (.iload 4, 2) := by decide +kernel
theorem dX7_stepsTo_30 : decode cX7_stepsTo 30 = .ok (.ireturn, 1) := by decide +kernel
theorem dX7_stepsTo_31 : decode cX7_stepsTo 31 = .ok (.iconst 0, 1) := by decide +kernel
theorem dX7_stepsTo_32 : decode cX7_stepsTo 32 = .ok (.istore 5, 2) := by decide +kernel
theorem dX7_stepsTo_34 : decode cX7_stepsTo 34 = .ok (.iconst 0, 1) := by decide +kernel
theorem dX7_stepsTo_35 : decode cX7_stepsTo 35 = .ok (.istore 6, 2) := by decide +kernel
theorem dX7_stepsTo_37 : decode cX7_stepsTo 37 = .ok (.iload 6, 2) := by decide +kernel
theorem dX7_stepsTo_39 : decode cX7_stepsTo 39 = .ok (.aload_n 0, 1) := by decide +kernel
theorem dX7_stepsTo_40 : decode cX7_stepsTo 40 = .ok (.getfield 7, 3) := by decide +kernel
theorem dX7_stepsTo_43 : decode cX7_stepsTo 43 = .ok (.iconst 0, 1) := by decide +kernel
theorem dX7_stepsTo_44 : decode cX7_stepsTo 44 = .ok (.iaload, 1) := by decide +kernel
theorem dX7_stepsTo_45 : decode cX7_stepsTo 45 = .ok (.if_icmp .ge 33, 3) := by decide +kernel
theorem dX7_stepsTo_48 : decode cX7_stepsTo 48 = .ok (.iload 5, 2) := by decide +kernel
theorem dX7_stepsTo_50 : decode cX7_stepsTo 50 = .ok (.iload_n 3, 1) := by decide +kernel
theorem dX7_stepsTo_51 : decode cX7_stepsTo 51 = .ok (.iload 6, 2) := by decide +kernel
theorem dX7_stepsTo_53 : decode cX7_stepsTo 53 = .ok (.invokestatic 93, 3) := by decide +kernel
theorem dX7_stepsTo_56 : decode cX7_stepsTo 56 = .ok (.ifCond .eq 12, 3) := by decide +kernel
theorem dX7_stepsTo_59 : decode cX7_stepsTo 59 = .ok (.aload_n 0, 1) := by decide +kernel
theorem dX7_stepsTo_60 : decode cX7_stepsTo 60 = .ok (.iload 6, 2) := by decide +kernel
theorem dX7_stepsTo_62 : decode cX7_stepsTo 62 = .ok (.invokevirtual 150, 3) := by decide +kernel
theorem dX7_stepsTo_65 : decode cX7_stepsTo 65 = .ok (.goto 4, 3) := by decide +kernel
theorem dX7_stepsTo_68 : decode cX7_stepsTo 68 = .ok (.iconst 0, 1) := by decide +kernel
theorem dX7_stepsTo_69 : decode cX7_stepsTo 69 = .ok (.ior, 1) := by decide +kernel
theorem dX7_stepsTo_70 : decode cX7_stepsTo 70 = .ok (.istore 5, 2) := by decide +kernel
theorem dX7_stepsTo_72 : decode cX7_stepsTo 72 = .ok (.iinc 6 1, 3) := by decide +kernel
theorem dX7_stepsTo_75 : decode cX7_stepsTo 75 = .ok (.goto (-38), 3) := by decide +kernel
theorem dX7_stepsTo_78 : decode cX7_stepsTo 78 = .ok (.iload 5, 2) := by decide +kernel
theorem dX7_stepsTo_80 : decode cX7_stepsTo 80 = .ok (.istore_n 3, 1) := by decide +kernel
theorem dX7_stepsTo_81 : decode cX7_stepsTo 81 = .ok (.iinc 4 1, 3) := by decide +kernel
theorem dX7_stepsTo_84 : decode cX7_stepsTo 84 = .ok (.goto (-75), 3) := by decide +kernel
theorem dX7_stepsTo_87 : decode cX7_stepsTo 87 = .ok (.iconst (-1), 1) := by decide +kernel
theorem dX7_stepsTo_88 : decode cX7_stepsTo 88 = .ok (.ireturn, 1) := by decide +kernel
set_option maxRecDepth 20000 in
theorem ggX7_ringMany_X7_stepsTo : GoodIn wsX7_ringMany wsX7_stepsTo := goodIn_r _ [6, 1, 7, 8, 9, 5, 10, 11, 12, 13, 14, 15, 16, 17, 18, 19, 20, 21, 22, 23, 24, 25, 26, 27] (by decide +kernel) (by decide +kernel)
set_option maxRecDepth 20000 in
theorem gX7_ringMany_X7_stepsTo : GoodIn wsX7_ringMany (wsV RX7 162 RX7 yX7_stepsTo wsX7_stepsTo) := goodIn_app (goodIn_of _ (by decide +kernel)) ggX7_ringMany_X7_stepsTo
theorem dX7_ringMany_0 : decode cX7_ringMany 0 = .ok (.iconst 0, 1) := by decide +kernel
theorem dX7_ringMany_1 : decode cX7_ringMany 1 = .ok (.istore_n 1, 1) := by decide +kernel
theorem dX7_ringMany_2 : decode cX7_ringMany 2 = .ok (.iconst 0, 1) := by decide +kernel
theorem dX7_ringMany_3 : decode cX7_ringMany 3 = .ok (.istore_n 2, 1) := by decide +kernel
theorem dX7_ringMany_4 : decode cX7_ringMany 4 = .ok (.iload_n 2, 1) := by decide +kernel
theorem dX7_ringMany_5 : decode cX7_ringMany 5 = .ok (.aload_n 0, 1) := by decide +kernel
theorem dX7_ringMany_6 : decode cX7_ringMany 6 = .ok (.getfield 7, 3) := by decide +kernel
theorem dX7_ringMany_9 : decode cX7_ringMany 9 = .ok (.iconst 0, 1) := by decide +kernel
theorem dX7_ringMany_10 : decode cX7_ringMany 10 = .ok (.iaload, 1) := by decide +kernel
theorem dX7_ringMany_11 : decode cX7_ringMany 11 = .ok (.if_icmp .ge 36, 3) := by decide +kernel
theorem dX7_ringMany_14 : decode cX7_ringMany 14 = .ok (.aload_n 0, 1) := by decide +kernel
theorem dX7_ringMany_15 : decode cX7_ringMany 15 = .ok (.iload_n 2, 1) := by decide +kernel
theorem dX7_ringMany_16 : decode cX7_ringMany 16 = .ok (.iload_n 2, 1) := by decide +kernel
theorem dX7_ringMany_17 : decode cX7_ringMany 17 = .ok (.invokevirtual 162, 3) := by decide +kernel
theorem dX7_ringMany_20 : decode cX7_ringMany 20 = .ok (.istore_n 3, 1) := by decide +kernel
theorem dX7_ringMany_21 : decode cX7_ringMany 21 = .ok (.iload_n 3, 1) := by decide +kernel
theorem dX7_ringMany_22 : decode cX7_ringMany 22 = .ok (.iconst (-1), 1) := by decide +kernel
theorem dX7_ringMany_23 : decode cX7_ringMany 23 = .ok (.if_icmp .eq 16, 3) := by decide +kernel
theorem dX7_ringMany_26 : decode cX7_ringMany 26 = .ok (.iload_n 1, 1) := by decide +kernel
theorem dX7_ringMany_27 : decode cX7_ringMany 27 = .ok (.ifCond .eq 8, 3) := by decide +kernel
theorem dX7_ringMany_30 : decode cX7_ringMany 30 = .ok (.iload_n 3, 1) := by decide +kernel
theorem dX7_ringMany_31 : decode cX7_ringMany 31 = .ok (.iload_n 1, 1) := by decide +kernel
theorem dX7_ringMany_32 : decode cX7_ringMany 32 = .ok (.if_icmp .ge 7, 3) := by decide +kernel
theorem dX7_ringMany_35 : decode cX7_ringMany 35 = .ok (.iload_n 3, 1) := by decide +kernel
theorem dX7_ringMany_36 : decode cX7_ringMany 36 = .ok (.goto 4, 3) := by decide +kernel
theorem dX7_ringMany_39 : decode cX7_ringMany 39 = .ok (.iload_n 1, 1) := by decide +kernel
theorem dX7_ringMany_40 : decode cX7_ringMany 40 = .ok (.istore_n 1, 1) := by decide +kernel
theorem dX7_ringMany_41 : decode cX7_ringMany 41 = .ok (.iinc 2 1, 3) := by decide +kernel
theorem dX7_ringMany_44 : decode cX7_ringMany 44 = .ok (.goto (-40), 3) := by decide +kernel
theorem dX7_ringMany_47 : decode cX7_ringMany 47 = .ok (.iload_n 1, 1) := by decide +kernel
theorem dX7_ringMany_48 : decode cX7_ringMany 48 = .ok (.ireturn, 1) := by decide +kernel
set_option maxRecDepth 20000 in
theorem ggX7_ring_X7_ringMany : GoodIn wsX7_ring wsX7_ringMany := goodIn_r _ [5, 6, 7, 8, 9, 4, 10, 11, 12, 13, 14, 15, 16, 17, 18, 19, 20, 21, 22, 23, 24, 25, 26, 27, 28, 29, 30, 31] (by decide +kernel) (by decide +kernel)
set_option maxRecDepth 20000 in
theorem gX7_ring_X7_ringMany : GoodIn wsX7_ring (wsV RX7 166 RX7 yX7_ringMany wsX7_ringMany) := goodIn_app (goodIn_of _ (by decide +kernel)) ggX7_ring_X7_ringMany
set_option maxRecDepth 20000 in
theorem ggX7_ring_X7_stepsTo : GoodIn wsX7_ring wsX7_stepsTo := goodIn_r _ [10, 6, 11, 12, 13, 4, 14, 15, 16, 17, 18, 19, 20, 21, 22, 23, 24, 25, 26, 27, 28, 29, 30, 31] (by decide +kernel) (by decide +kernel)
set_option maxRecDepth 20000 in
theorem gX7_ring_X7_stepsTo : GoodIn wsX7_ring (wsV RX7 162 RX7 yX7_stepsTo wsX7_stepsTo) := goodIn_app (goodIn_of _ (by decide +kernel)) ggX7_ring_X7_stepsTo
set_option maxRecDepth 20000 in
theorem ggX7_ring_X7_needs : GoodIn wsX7_ring wsX7_needs := goodIn_r _ [14, 6, 15, 16, 4, 17, 18, 19, 20, 21, 22, 23, 24, 25, 26, 27, 28, 29, 30, 31] (by decide +kernel) (by decide +kernel)
set_option maxRecDepth 20000 in
theorem gX7_ring_X7_needs : GoodIn wsX7_ring (wsV RX7 150 RX7 yX7_needs wsX7_needs) := goodIn_app (goodIn_of _ (by decide +kernel)) ggX7_ring_X7_needs
set_option maxRecDepth 20000 in
theorem ggX7_ring_X7_has : GoodIn wsX7_ring wsX7_has := goodIn_r _ [17] (by decide +kernel) (by decide +kernel)
set_option maxRecDepth 20000 in
theorem gX7_ring_X7_has : GoodIn wsX7_ring (va_wsS RX7 93 yX7_has wsX7_has) := goodIn_app (goodIn_of _ (by decide +kernel)) ggX7_ring_X7_has
theorem dX7_ring_0 : decode cX7_ring 0 = .ok (.iload_n 1, 1) := by decide +kernel
theorem dX7_ring_1 : decode cX7_ring 1 = .ok (.iconst (-1), 1) := by decide +kernel
theorem dX7_ring_2 : decode cX7_ring 2 = .ok (.if_icmp .ge 6, 3) := by decide +kernel
theorem dX7_ring_5 : decode cX7_ring 5 = .ok (.bipush (-3), 2) := by decide +kernel
theorem dX7_ring_7 : decode cX7_ring 7 = .ok (.ireturn, 1) := by decide +kernel
theorem dX7_ring_8 : decode cX7_ring 8 = .ok (.aload_n 0, 1) := by decide +kernel
theorem dX7_ring_9 : decode cX7_ring 9 = .ok (.invokevirtual 166, 3) := by decide +kernel
theorem dX7_ring_12 : decode cX7_ring 12 = .ok (.istore_n 2, 1) := by decide +kernel
theorem dX7_ring_13 : decode cX7_ring 13 = .ok (.iload_n 1, 1) := by decide +kernel
theorem dX7_ring_14 : decode cX7_ring 14 = .ok (.iconst (-1), 1) := by decide +kernel
theorem dX7_ring_15 : decode cX7_ring 15 = .ok (.if_icmp .ne 5, 3) := by decide +kernel
theorem dX7_ring_18 : decode cX7_ring 18 = .ok (.iload_n 2, 1) := by decide +kernel
theorem dX7_ring_19 : decode cX7_ring 19 = .ok (.ireturn, 1) := by decide +kernel
theorem dX7_ring_20 : decode cX7_ring 20 = .ok (.iload_n 1, 1) := by decide +kernel
theorem dX7_ring_21 : decode cX7_ring 21 = .ok (.iload_n 2, 1) := by decide +kernel
theorem dX7_ring_22 : decode cX7_ring 22 = .ok (.if_icmp .lt 5, 3) := by decide +kernel
theorem dX7_ring_25 : decode cX7_ring 25 = .ok (.iconst (-1), 1) := by decide +kernel
theorem dX7_ring_26 : decode cX7_ring 26 = .ok (.ireturn, 1) := by decide +kernel
theorem dX7_ring_27 : decode cX7_ring 27 = .ok (.iconst 0, 1) := by decide +kernel
theorem dX7_ring_28 : decode cX7_ring 28 = .ok (.istore_n 3, 1) := by decide +kernel
theorem dX7_ring_29 : decode cX7_ring 29 = .ok (.aload_n 0, 1) := by decide +kernel
theorem dX7_ring_30 : decode cX7_ring 30 = .ok (.iload_n 3, 1) := by decide +kernel
theorem dX7_ring_31 : decode cX7_ring 31 = .ok (.iload_n 3, 1) := by decide +kernel
theorem dX7_ring_32 : decode cX7_ring 32 = .ok (.invokevirtual 162, 3) := by decide +kernel
theorem dX7_ring_35 : decode cX7_ring 35 = .ok (.iload_n 2, 1) := by decide +kernel
theorem dX7_ring_36 : decode cX7_ring 36 = .ok (.if_icmp .eq 9, 3) := by decide +kernel
theorem dX7_ring_39 : decode cX7_ring 39 = .ok (.iinc 3 1, 3) := by decide +kernel
theorem dX7_ring_42 : decode cX7_ring 42 = .ok (.goto (-13), 3) := by decide +kernel
theorem dX7_ring_45 : decode cX7_ring 45 = .ok (.iload_n 3, 1) := by decide +kernel
theorem dX7_ring_46 : decode cX7_ring 46 = .ok (.istore 4, 2) := by decide +kernel
theorem dX7_ring_48 : decode cX7_ring 48 = .ok (.iload_n 2, 1) := by decide +kernel
theorem dX7_ring_49 : decode cX7_ring 49 = .ok (.iconst 1, 1) := by decide +kernel
theorem dX7_ring_50 : decode cX7_ring 50 = .ok (.isub, 1) := by decide +kernel
theorem dX7_ring_51 : decode cX7_ring 51 = .ok (.istore 5, 2) := by decide +kernel
theorem dX7_ring_53 : decode cX7_ring 53 = .ok (.iload 5, 2) := by decide +kernel
theorem dX7_ring_55 : decode cX7_ring 55 = .ok (.iload_n 2, 1) := by decide +kernel
theorem dX7_ring_56 : decode cX7_ring 56 = .ok (.iload_n 1, 1) := by decide +kernel
theorem dX7_ring_57 : decode cX7_ring 57 = .ok (.isub, 1) := by decide +kernel
theorem dX7_ring_58 : decode cX7_ring 58 = .ok (.if_icmp .lt 48, 3) := by decide +kernel
theorem dX7_ring_61 : decode cX7_ring 61 = .ok (.iconst 0, 1) := by decide +kernel
theorem dX7_ring_62 : decode cX7_ring 62 = .ok (.istore 6, 2) := by decide +kernel
theorem dX7_ring_64 : decode cX7_ring 64 = .ok (.aload_n 0, 1) := by decide +kernel
theorem dX7_ring_65 : decode cX7_ring 65 = .ok (.iload 4, 2) := by decide +kernel
theorem dX7_ring_67 : decode cX7_ring 67 = .ok (.invokevirtual 150, 3) := by decide +kernel
theorem dX7_ring_70 : decode cX7_ring 70 = .ok (.iload 6, 2) := by decide +kernel
theorem dX7_ring_72 : decode cX7_ring 72 = .ok (.invokestatic 93, 3) := by decide +kernel
theorem dX7_ring_75 : decode cX7_ring 75 = .ok (.ifCond .eq 15, 3) := by decide +kernel
theorem dX7_ring_78 : decode cX7_ring 78 = .ok (.aload_n 0, 1) := by decide +kernel
theorem dX7_ring_79 : decode cX7_ring 79 = .ok (.iload 6, 2) := by decide +kernel
theorem dX7_ring_81 : decode cX7_ring 81 = .ok (.iload_n 3, 1) := by decide +kernel
theorem dX7_ring_82 : decode cX7_ring 82 = .ok (.invokevirtual 162, 3) := by decide +kernel
theorem dX7_ring_85 : decode cX7_ring 85 = .ok (.iload 5, 2) := by decide +kernel
theorem dX7_ring_87 : decode cX7_ring 87 = .ok (.if_icmp .eq 9, 3) := by decide +kernel
theorem dX7_ring_90 : decode cX7_ring 90 = .ok (.iinc 6 1, 3) := by decide +kernel
theorem dX7_ring_93 : decode cX7_ring 93 = .ok (.goto (-29), 3) := by decide +kernel
theorem dX7_ring_96 : decode cX7_ring 96 = .ok (.iload 6, 2) := by decide +kernel
theorem dX7_ring_98 : decode cX7_ring 98 = .ok (.istore 4, 2) := by decide +kernel
theorem dX7_ring_100 : decode cX7_ring 100 = .ok (.iinc 5 (-1), 3) := by decide +kernel
theorem dX7_ring_103 : decode cX7_ring 103 = .ok (.goto (-50), 3) := by decide +kernel
theorem dX7_ring_106 : decode cX7_ring 106 = .ok (.iload 4, 2) := by decide +kernel
theorem dX7_ring_108 : decode cX7_ring 108 = .ok (.ireturn, 1) := by decide +kernel
set_option maxRecDepth 20000 in
theorem ggX7_noted_X7_usedBy : GoodIn wsX7_noted wsX7_usedBy := goodIn_r _ [6, 1, 7, 8, 5, 9, 10, 11, 12, 13, 14, 15, 16, 17, 18, 19, 20, 21, 22, 23] (by decide +kernel) (by decide +kernel)
set_option maxRecDepth 20000 in
theorem gX7_noted_X7_usedBy : GoodIn wsX7_noted (wsV RX7 147 RX7 yX7_usedBy wsX7_usedBy) := goodIn_app (goodIn_of _ (by decide +kernel)) ggX7_noted_X7_usedBy
theorem dX7_noted_0 : decode cX7_noted 0 = .ok (.iconst 0, 1) := by decide +kernel
theorem dX7_noted_1 : decode cX7_noted 1 = .ok (.istore_n 3, 1) := by decide +kernel
theorem dX7_noted_2 : decode cX7_noted 2 = .ok (.iconst 0, 1) := by decide +kernel
theorem dX7_noted_3 : decode cX7_noted 3 = .ok (.istore 4, 2) := by decide +kernel
theorem dX7_noted_5 : decode cX7_noted 5 = .ok (.iload 4, 2) := by decide +kernel
theorem dX7_noted_7 : decode cX7_noted 7 = .ok (.bipush 12, 2) := by decide +kernel
theorem dX7_noted_9 : decode cX7_noted 9 = .ok (.if_icmp .ge 45, 3) := by decide +kernel
theorem dX7_noted_12 : decode cX7_noted 12 = .ok (.iload_n 3, 1) := by decide +kernel
theorem dX7_noted_13 : decode cX7_noted 13 = .ok (.aload_n 0, 1) := by decide +kernel
theorem dX7_noted_14 : decode cX7_noted 14 = .ok (.getfield 7, 3) := by decide +kernel
theorem dX7_noted_17 : decode cX7_noted 17 = .ok (.bipush 11, 2) := by decide +kernel
theorem dX7_noted_19 : decode cX7_noted 19 = .ok (.iload 4, 2) := by decide +kernel
theorem dX7_noted_21 : decode cX7_noted 21 = .ok (.iadd, 1) := by decide +kernel
theorem dX7_noted_22 : decode cX7_noted 22 = .ok (.iaload, 1) := by decide +kernel
theorem dX7_noted_23 : decode cX7_noted 23 = .ok (.iload_n 1, 1) := by decide +kernel
theorem dX7_noted_24 : decode cX7_noted 24 = .ok (.if_icmp .ne 21, 3) := by decide +kernel
theorem dX7_noted_27 : decode cX7_noted 27 = .ok (.aload_n 0, 1) := by decide +kernel
theorem dX7_noted_28 : decode cX7_noted 28 = .ok (.iload 4, 2) := by decide +kernel
theorem dX7_noted_30 : decode cX7_noted 30 = .ok (.invokevirtual 147, 3) := by decide +kernel
theorem dX7_noted_33 : decode cX7_noted 33 = .ok (.iload_n 2, 1) := by decide +kernel
theorem dX7_noted_34 : decode cX7_noted 34 = .ok (.iand, 1) := by decide +kernel
theorem dX7_noted_35 : decode cX7_noted 35 = .ok (.ifCond .eq 10, 3) := by decide +kernel
theorem dX7_noted_38 : decode cX7_noted 38 = .ok (.iconst 1, 1) := by decide +kernel
theorem dX7_noted_39 : decode cX7_noted 39 = .ok (.iload 4, 2) := by decide +kernel
theorem dX7_noted_41 : decode cX7_noted 41 = .ok (.ishl, 1) := by decide +kernel
theorem dX7_noted_42 : decode cX7_noted 42 = .ok (.goto 4, 3) := by decide +kernel
theorem dX7_noted_45 : decode cX7_noted 45 = .ok (.iconst 0, 1) := by decide +kernel
theorem dX7_noted_46 : decode cX7_noted 46 = .ok (.ior, 1) := by decide +kernel
theorem dX7_noted_47 : decode cX7_noted 47 = .ok (.istore_n 3, 1) := by decide +kernel
theorem dX7_noted_48 : decode cX7_noted 48 = .ok (.iinc 4 1, 3) := by decide +kernel
theorem dX7_noted_51 : decode cX7_noted 51 = .ok (.goto (-46), 3) := by decide +kernel
theorem dX7_noted_54 : decode cX7_noted 54 = .ok (.iload_n 3, 1) := by decide +kernel
theorem dX7_noted_55 : decode cX7_noted 55 = .ok (.ireturn, 1) := by decide +kernel
set_option maxRecDepth 20000 in
theorem ggX7_turned_X7_placeOf : GoodIn wsX7_turned wsX7_placeOf := goodIn_r _ [6, 1, 10, 11, 12, 13, 14, 15, 16, 17, 18, 19, 20, 21, 22, 23] (by decide +kernel) (by decide +kernel)
set_option maxRecDepth 20000 in
theorem gX7_turned_X7_placeOf : GoodIn wsX7_turned (wsV RX7 135 RX7 yX7_placeOf wsX7_placeOf) := goodIn_app (goodIn_of _ (by decide +kernel)) ggX7_turned_X7_placeOf
set_option maxRecDepth 20000 in
theorem ggX7_turned_X7_has : GoodIn wsX7_turned wsX7_has := goodIn_r _ [9] (by decide +kernel) (by decide +kernel)
set_option maxRecDepth 20000 in
theorem gX7_turned_X7_has : GoodIn wsX7_turned (va_wsS RX7 93 yX7_has wsX7_has) := goodIn_app (goodIn_of _ (by decide +kernel)) ggX7_turned_X7_has
theorem dX7_turned_0 : decode cX7_turned 0 = .ok (.iconst 0, 1) := by decide +kernel
theorem dX7_turned_1 : decode cX7_turned 1 = .ok (.istore_n 3, 1) := by decide +kernel
theorem dX7_turned_2 : decode cX7_turned 2 = .ok (.iconst 0, 1) := by decide +kernel
theorem dX7_turned_3 : decode cX7_turned 3 = .ok (.istore 4, 2) := by decide +kernel
theorem dX7_turned_5 : decode cX7_turned 5 = .ok (.iload 4, 2) := by decide +kernel
theorem dX7_turned_7 : decode cX7_turned 7 = .ok (.aload_n 0, 1) := by decide +kernel
theorem dX7_turned_8 : decode cX7_turned 8 = .ok (.iload_n 1, 1) := by decide +kernel
theorem dX7_turned_9 : decode cX7_turned 9 = .ok (.invokevirtual 135, 3) := by decide +kernel
theorem dX7_turned_12 : decode cX7_turned 12 = .ok (.if_icmp .ge 34, 3) := by decide +kernel
theorem dX7_turned_15 : decode cX7_turned 15 = .ok (.iload_n 3, 1) := by decide +kernel
theorem dX7_turned_16 : decode cX7_turned 16 = .ok (.iload_n 2, 1) := by decide +kernel
theorem dX7_turned_17 : decode cX7_turned 17 = .ok (.aload_n 0, 1) := by decide +kernel
theorem dX7_turned_18 : decode cX7_turned 18 = .ok (.getfield 7, 3) := by decide +kernel
theorem dX7_turned_21 : decode cX7_turned 21 = .ok (.bipush 33, 2) := by decide +kernel
theorem dX7_turned_23 : decode cX7_turned 23 = .ok (.iload 4, 2) := by decide +kernel
theorem dX7_turned_25 : decode cX7_turned 25 = .ok (.iadd, 1) := by decide +kernel
theorem dX7_turned_26 : decode cX7_turned 26 = .ok (.iaload, 1) := by decide +kernel
theorem dX7_turned_27 : decode cX7_turned 27 = .ok (.invokestatic 93, 3) := by decide +kernel
theorem dX7_turned_30 : decode cX7_turned 30 = .ok (.ifCond .eq 7, 3) := by decide +kernel
theorem dX7_turned_33 : decode cX7_turned 33 = .ok (.iconst 0, 1) := by decide +kernel
theorem dX7_turned_34 : decode cX7_turned 34 = .ok (.goto 4, 3) := by decide +kernel
theorem dX7_turned_37 : decode cX7_turned 37 = .ok (.iconst 1, 1) := by decide +kernel
theorem dX7_turned_38 : decode cX7_turned 38 = .ok (.iadd, 1) := by decide +kernel
theorem dX7_turned_39 : decode cX7_turned 39 = .ok (.istore_n 3, 1) := by decide +kernel
theorem dX7_turned_40 : decode cX7_turned 40 = .ok (.iinc 4 1, 3) := by decide +kernel
theorem dX7_turned_43 : decode cX7_turned 43 = .ok (.goto (-38), 3) := by decide +kernel
theorem dX7_turned_46 : decode cX7_turned 46 = .ok (.iload_n 3, 1) := by decide +kernel
theorem dX7_turned_47 : decode cX7_turned 47 = .ok (.ireturn, 1) := by decide +kernel
set_option maxRecDepth 20000 in
theorem ggX7_canStand_X7_has : GoodIn wsX7_canStand wsX7_has := goodIn_r _ [5] (by decide +kernel) (by decide +kernel)
set_option maxRecDepth 20000 in
theorem gX7_canStand_X7_has : GoodIn wsX7_canStand (va_wsS RX7 93 yX7_has wsX7_has) := goodIn_app (goodIn_of _ (by decide +kernel)) ggX7_canStand_X7_has
theorem dX7_canStand_0 : decode cX7_canStand 0 = .ok (.iload_n 2, 1) := by decide +kernel
theorem dX7_canStand_1 : decode cX7_canStand 1 = .ok (.iload_n 1, 1) := by decide +kernel
theorem dX7_canStand_2 : decode cX7_canStand 2 = .ok (.invokestatic 93, 3) := by decide +kernel
theorem dX7_canStand_5 : decode cX7_canStand 5 = .ok (.ifCond .ne 23, 3) := by decide +kernel
theorem dX7_canStand_8 : decode cX7_canStand 8 = .ok (.aload_n 0, 1) := by decide +kernel
theorem dX7_canStand_9 : decode cX7_canStand 9 = .ok (.getfield 7, 3) := by decide +kernel
theorem dX7_canStand_12 : decode cX7_canStand 12 = .ok (.bipush 43, 2) := by decide +kernel
theorem dX7_canStand_14 : decode cX7_canStand 14 = .ok (.iload_n 1, 1) := by decide +kernel
theorem dX7_canStand_15 : decode cX7_canStand 15 = .ok (.iadd, 1) := by decide +kernel
theorem dX7_canStand_16 : decode cX7_canStand 16 = .ok (.iaload, 1) := by decide +kernel
theorem dX7_canStand_17 : decode cX7_canStand 17 = .ok (.iload_n 2, 1) := by decide +kernel
theorem dX7_canStand_18 : decode cX7_canStand 18 = .ok (.iconst (-1), 1) := by decide +kernel
theorem dX7_canStand_19 : decode cX7_canStand 19 = .ok (.ixor, 1) := by decide +kernel
theorem dX7_canStand_20 : decode cX7_canStand 20 = .ok (.iand, 1) := by decide +kernel
theorem dX7_canStand_21 : decode cX7_canStand 21 = .ok (.ifCond .ne 7, 3) := by decide +kernel
theorem dX7_canStand_24 : decode cX7_canStand 24 = .ok (.iconst 1, 1) := by decide +kernel
theorem dX7_canStand_25 : decode cX7_canStand 25 = .ok (.goto 4, 3) := by decide +kernel
theorem dX7_canStand_28 : decode cX7_canStand 28 = .ok (.iconst 0, 1) := by decide +kernel
theorem dX7_canStand_29 : decode cX7_canStand 29 = .ok (.ireturn, 1) := by decide +kernel
set_option maxRecDepth 20000 in
theorem ggX7_finds_X7_canStand : GoodIn wsX7_finds wsX7_canStand := goodIn_r _ [8, 1, 9, 10, 7, 11, 31, 32, 33, 34, 35, 36, 37, 38, 39, 40, 41, 42, 43, 44] (by decide +kernel) (by decide +kernel)
set_option maxRecDepth 20000 in
theorem gX7_finds_X7_canStand : GoodIn wsX7_finds (wsV RX7 169 RX7 yX7_canStand wsX7_canStand) := goodIn_app (goodIn_of _ (by decide +kernel)) ggX7_finds_X7_canStand
set_option maxRecDepth 20000 in
theorem ggX7_finds_X7_noted : GoodIn wsX7_finds wsX7_noted := goodIn_r _ [15, 1, 16, 17, 18, 7, 19, 9, 10, 11, 31, 32, 33, 34, 35, 36, 37, 38, 39, 40, 41, 42, 43, 44] (by decide +kernel) (by decide +kernel)
set_option maxRecDepth 20000 in
theorem gX7_finds_X7_noted : GoodIn wsX7_finds (wsV RX7 172 RX7 yX7_noted wsX7_noted) := goodIn_app (goodIn_of _ (by decide +kernel)) ggX7_finds_X7_noted
set_option maxRecDepth 20000 in
theorem ggX7_finds_X7_ones : GoodIn wsX7_finds wsX7_ones := goodIn_r _ [22] (by decide +kernel) (by decide +kernel)
set_option maxRecDepth 20000 in
theorem gX7_finds_X7_ones : GoodIn wsX7_finds (va_wsS RX7 159 yX7_ones wsX7_ones) := goodIn_app (goodIn_of _ (by decide +kernel)) ggX7_finds_X7_ones
set_option maxRecDepth 20000 in
theorem ggX7_finds_X7_turned : GoodIn wsX7_finds wsX7_turned := goodIn_r _ [26, 1, 27, 28, 29, 7, 30, 9, 10, 11, 31, 32, 33, 34, 35, 36, 37, 38, 39, 40, 41, 42, 43, 44] (by decide +kernel) (by decide +kernel)
set_option maxRecDepth 20000 in
theorem gX7_finds_X7_turned : GoodIn wsX7_finds (wsV RX7 175 RX7 yX7_turned wsX7_turned) := goodIn_app (goodIn_of _ (by decide +kernel)) ggX7_finds_X7_turned
theorem dX7_finds_0 : decode cX7_finds 0 = .ok (.iconst 1, 1) := by decide +kernel
theorem dX7_finds_1 : decode cX7_finds 1 = .ok (.aload_n 0, 1) := by decide +kernel
theorem dX7_finds_2 : decode cX7_finds 2 = .ok (.getfield 7, 3) := by decide +kernel
theorem dX7_finds_5 : decode cX7_finds 5 = .ok (.iconst 0, 1) := by decide +kernel
theorem dX7_finds_6 : decode cX7_finds 6 = .ok (.iaload, 1) := by decide +kernel
theorem dX7_finds_7 : decode cX7_finds 7 = .ok (.ishl, 1) := by decide +kernel
theorem dX7_finds_8 : decode cX7_finds 8 = .ok (.iconst 1, 1) := by decide +kernel
theorem dX7_finds_9 : decode cX7_finds 9 = .ok (.isub, 1) := by decide +kernel
theorem dX7_finds_10 : decode cX7_finds 10 = .ok (.istore_n 1, 1) := by decide +kernel
theorem dX7_finds_11 : decode cX7_finds 11 = .ok (.aload_n 0, 1) := by decide +kernel
theorem dX7_finds_12 : decode cX7_finds 12 = .ok (.getfield 26, 3) := by decide +kernel
theorem dX7_finds_15 : decode cX7_finds 15 = .ok (.iload_n 1, 1) := by decide +kernel
theorem dX7_finds_16 : decode cX7_finds 16 = .ok (.iconst 0, 1) := by decide +kernel
theorem dX7_finds_17 : decode cX7_finds 17 = .ok (.iastore, 1) := by decide +kernel
theorem dX7_finds_18 : decode cX7_finds 18 = .ok (.aload_n 0, 1) := by decide +kernel
theorem dX7_finds_19 : decode cX7_finds 19 = .ok (.getfield 29, 3) := by decide +kernel
theorem dX7_finds_22 : decode cX7_finds 22 = .ok (.iload_n 1, 1) := by decide +kernel
theorem dX7_finds_23 : decode cX7_finds 23 = .ok (.iconst 0, 1) := by decide +kernel
theorem dX7_finds_24 : decode cX7_finds 24 = .ok (.iastore, 1) := by decide +kernel
theorem dX7_finds_25 : decode cX7_finds 25 = .ok (.iload_n 1, 1) := by decide +kernel
theorem dX7_finds_26 : decode cX7_finds 26 = .ok (.iconst 1, 1) := by decide +kernel
theorem dX7_finds_27 : decode cX7_finds 27 = .ok (.isub, 1) := by decide +kernel
theorem dX7_finds_28 : decode cX7_finds 28 = .ok (.istore_n 2, 1) := by decide +kernel
theorem dX7_finds_29 : decode cX7_finds 29 = .ok (.iload_n 2, 1) := by decide +kernel
theorem dX7_finds_30 : decode cX7_finds 30 = .ok (.ifCond .lt 179, 3) := by decide +kernel
theorem dX7_finds_33 : decode cX7_finds 33 = .ok (.aload_n 0, 1) := by decide +kernel
theorem dX7_finds_34 : decode cX7_finds 34 = .ok (.getfield 26, 3) := by decide +kernel
theorem dX7_finds_37 : decode cX7_finds 37 = .ok (.iload_n 2, 1) := by decide +kernel
theorem dX7_finds_38 : decode cX7_finds 38 = .ok (.sipush 1000, 3) := by decide +kernel
theorem dX7_finds_41 : decode cX7_finds 41 = .ok (.iastore, 1) := by decide +kernel
theorem dX7_finds_42 : decode cX7_finds 42 = .ok (.aload_n 0, 1) := by decide +kernel
theorem dX7_finds_43 : decode cX7_finds 43 = .ok (.getfield 29, 3) := by decide +kernel
theorem dX7_finds_46 : decode cX7_finds 46 = .ok (.iload_n 2, 1) := by decide +kernel
theorem dX7_finds_47 : decode cX7_finds 47 = .ok (.sipush 1000, 3) := by decide +kernel
theorem dX7_finds_50 : decode cX7_finds 50 = .ok (.iastore, 1) := by decide +kernel
theorem dX7_finds_51 : decode cX7_finds 51 = .ok (.iconst 0, 1) := by decide +kernel
theorem dX7_finds_52 : decode cX7_finds 52 = .ok (.istore_n 3, 1) := by decide +kernel
theorem dX7_finds_53 : decode cX7_finds 53 = .ok (.iload_n 3, 1) := by decide +kernel
theorem dX7_finds_54 : decode cX7_finds 54 = .ok (.aload_n 0, 1) := by decide +kernel
theorem dX7_finds_55 : decode cX7_finds 55 = .ok (.getfield 7, 3) := by decide +kernel
theorem dX7_finds_58 : decode cX7_finds 58 = .ok (.iconst 0, 1) := by decide +kernel
theorem dX7_finds_59 : decode cX7_finds 59 = .ok (.iaload, 1) := by decide +kernel
theorem dX7_finds_60 : decode cX7_finds 60 = .ok (.if_icmp .ge 143, 3) := by decide +kernel
theorem dX7_finds_63 : decode cX7_finds 63 = .ok (.aload_n 0, 1) := by decide +kernel
theorem dX7_finds_64 : decode cX7_finds 64 = .ok (.iload_n 3, 1) := by decide +kernel
theorem dX7_finds_65 : decode cX7_finds 65 = .ok (.iload_n 2, 1) := by decide +kernel
theorem dX7_finds_66 : decode cX7_finds 66 = .ok (.invokevirtual 169, 3) := by decide +kernel
theorem dX7_finds_69 : decode cX7_finds 69 = .ok (.ifCond .eq 128, 3) := by decide +kernel
theorem dX7_finds_72 : decode cX7_finds 72 = .ok (.aload_n 0, 1) := by decide +kernel
theorem dX7_finds_73 : decode cX7_finds 73 = .ok (.iload_n 3, 1) := by decide +kernel
theorem dX7_finds_74 : decode cX7_finds 74 = .ok (.iload_n 2, 1) := by decide +kernel
theorem dX7_finds_75 : decode cX7_finds 75 = .ok (.invokevirtual 172, 3) := by decide +kernel
theorem dX7_finds_78 : decode cX7_finds 78 = .ok (.invokestatic 159, 3) := by decide +kernel
theorem dX7_finds_81 : decode cX7_finds 81 = .ok (.aload_n 0, 1) := by decide +kernel
theorem dX7_finds_82 : decode cX7_finds 82 = .ok (.getfield 26, 3) := by decide +kernel
theorem dX7_finds_85 : decode cX7_finds 85 = .ok (.iload_n 2, 1) := by decide +kernel
theorem dX7_finds_86 : decode cX7_finds 86 = .ok (.iconst 1, 1) := by decide +kernel
theorem dX7_finds_87 : decode cX7_finds 87 = .ok (.iload_n 3, 1) := by decide +kernel
theorem dX7_finds_88 : decode cX7_finds 88 = .ok (.ishl, 1) := by decide +kernel
theorem dX7_finds_89 : decode cX7_finds 89 = .ok (.ior, 1) := by decide +kernel
theorem dX7_finds_90 : decode cX7_finds 90 = .ok (.iaload, 1) := by decide +kernel
theorem dX7_finds_91 : decode cX7_finds 91 = .ok (.iadd, 1) := by decide +kernel
theorem dX7_finds_92 : decode cX7_finds 92 = .ok (.istore 4, 2) := by decide +kernel
theorem dX7_finds_94 : decode cX7_finds 94 = .ok (.aload_n 0, 1) := by decide +kernel
theorem dX7_finds_95 : decode cX7_finds 95 = .ok (.iload_n 3, 1) := by decide +kernel
theorem dX7_finds_96 : decode cX7_finds 96 = .ok (.iload_n 2, 1) := by decide +kernel
theorem dX7_finds_97 : decode cX7_finds 97 = .ok (.invokevirtual 175, 3) := by decide +kernel
theorem dX7_finds_100 : decode cX7_finds 100 = .ok (.aload_n 0, 1) := by decide +kernel
theorem dX7_finds_101 : decode cX7_finds 101 = .ok (.getfield 29, 3) := by decide +kernel
theorem dX7_finds_104 : decode cX7_finds 104 = .ok (.iload_n 2, 1) := by decide +kernel
theorem dX7_finds_105 : decode cX7_finds 105 = .ok (.iconst 1, 1) := by decide +kernel
theorem dX7_finds_106 : decode cX7_finds 106 = .ok (.iload_n 3, 1) := by decide +kernel
theorem dX7_finds_107 : decode cX7_finds 107 = .ok (.ishl, 1) := by decide +kernel
theorem dX7_finds_108 : decode cX7_finds 108 = .ok (.ior, 1) := by decide +kernel
theorem dX7_finds_109 : decode cX7_finds 109 = .ok (.iaload, 1) := by decide +kernel
theorem dX7_finds_110 : decode cX7_finds 110 = .ok (.iadd, 1) := by decide +kernel
theorem dX7_finds_111 : decode cX7_finds 111 = .ok (.istore 5, 2) := by decide +kernel
theorem dX7_finds_113 : decode cX7_finds 113 = .ok (.iload 4, 2) := by decide +kernel
theorem dX7_finds_115 : decode cX7_finds 115 = .ok (.aload_n 0, 1) := by decide +kernel
theorem dX7_finds_116 : decode cX7_finds 116 = .ok (.getfield 26, 3) := by decide +kernel
theorem dX7_finds_119 : decode cX7_finds 119 = .ok (.iload_n 2, 1) := by decide +kernel
theorem dX7_finds_120 : decode cX7_finds 120 = .ok (.iaload, 1) := by decide +kernel
theorem dX7_finds_121 : decode cX7_finds 121 = .ok (.if_icmp .lt 25, 3) := by decide +kernel
theorem dX7_finds_124 : decode cX7_finds 124 = .ok (.iload 4, 2) := by decide +kernel
theorem dX7_finds_126 : decode cX7_finds 126 = .ok (.aload_n 0, 1) := by decide +kernel
theorem dX7_finds_127 : decode cX7_finds 127 = .ok (.getfield 26, 3) := by decide +kernel
theorem dX7_finds_130 : decode cX7_finds 130 = .ok (.iload_n 2, 1) := by decide +kernel
theorem dX7_finds_131 : decode cX7_finds 131 = .ok (.iaload, 1) := by decide +kernel
theorem dX7_finds_132 : decode cX7_finds 132 = .ok (.if_icmp .ne 18, 3) := by decide +kernel
theorem dX7_finds_135 : decode cX7_finds 135 = .ok (.iload 5, 2) := by decide +kernel
theorem dX7_finds_137 : decode cX7_finds 137 = .ok (.aload_n 0, 1) := by decide +kernel
theorem dX7_finds_138 : decode cX7_finds 138 = .ok (.getfield 29, 3) := by decide +kernel
theorem dX7_finds_141 : decode cX7_finds 141 = .ok (.iload_n 2, 1) := by decide +kernel
theorem dX7_finds_142 : decode cX7_finds 142 = .ok (.iaload, 1) := by decide +kernel
theorem dX7_finds_143 : decode cX7_finds 143 = .ok (.if_icmp .ge 7, 3) := by decide +kernel
theorem dX7_finds_146 : decode cX7_finds 146 = .ok (.iconst 1, 1) := by decide +kernel
theorem dX7_finds_147 : decode cX7_finds 147 = .ok (.goto 4, 3) := by decide +kernel
theorem dX7_finds_150 : decode cX7_finds 150 = .ok (.iconst 0, 1) := by decide +kernel
theorem dX7_finds_151 : decode cX7_finds 151 = .ok (.istore 6, 2) := by decide +kernel
theorem dX7_finds_153 : decode cX7_finds 153 = .ok (.aload_n 0, 1) := by decide +kernel
theorem dX7_finds_154 : decode cX7_finds 154 = .ok (.getfield 26, 3) := by decide +kernel
theorem dX7_finds_157 : decode cX7_finds 157 = .ok (.iload_n 2, 1) := by decide +kernel
theorem dX7_finds_158 : decode cX7_finds 158 = .ok (.iload 6, 2) := by decide +kernel
theorem dX7_finds_160 : decode cX7_finds 160 = .ok (.ifCond .eq 8, 3) := by decide +kernel
theorem dX7_finds_163 : decode cX7_finds 163 = .ok (.iload 4, 2) := by decide +kernel
theorem dX7_finds_165 : decode cX7_finds 165 = .ok (.goto 9, 3) := by decide +kernel
theorem dX7_finds_168 : decode cX7_finds 168 = .ok (.aload_n 0, 1) := by decide +kernel
theorem dX7_finds_169 : decode cX7_finds 169 = .ok (.getfield 26, 3) := by decide +kernel
theorem dX7_finds_172 : decode cX7_finds 172 = .ok (.iload_n 2, 1) := by decide +kernel
theorem dX7_finds_173 : decode cX7_finds 173 = .ok (.iaload, 1) := by decide +kernel
theorem dX7_finds_174 : decode cX7_finds 174 = .ok (.iastore, 1) := by decide +kernel
theorem dX7_finds_175 : decode cX7_finds 175 = .ok (.aload_n 0, 1) := by decide +kernel
theorem dX7_finds_176 : decode cX7_finds 176 = .ok (.getfield 29, 3) := by decide +kernel
theorem dX7_finds_179 : decode cX7_finds 179 = .ok (.iload_n 2, 1) := by decide +kernel
theorem dX7_finds_180 : decode cX7_finds 180 = .ok (.iload 6, 2) := by decide +kernel
theorem dX7_finds_182 : decode cX7_finds 182 = .ok (.ifCond .eq 8, 3) := by decide +kernel
theorem dX7_finds_185 : decode cX7_finds 185 = .ok (.iload 5, 2) := by decide +kernel
theorem dX7_finds_187 : decode cX7_finds 187 = .ok (.goto 9, 3) := by decide +kernel
theorem dX7_finds_190 : decode cX7_finds 190 = .ok (.aload_n 0, 1) := by decide +kernel
theorem dX7_finds_191 : decode cX7_finds 191 = .ok (.getfield 29, 3) := by decide +kernel
theorem dX7_finds_194 : decode cX7_finds 194 = .ok (.iload_n 2, 1) := by decide +kernel
theorem dX7_finds_195 : decode cX7_finds 195 = .ok (.iaload, 1) := by decide +kernel
theorem dX7_finds_196 : decode cX7_finds 196 = .ok (.iastore, 1) := by decide +kernel
theorem dX7_finds_197 : decode cX7_finds 197 = .ok (.iinc 3 1, 3) := by decide +kernel
theorem dX7_finds_200 : decode cX7_finds 200 = .ok (.goto (-147), 3) := by decide +kernel
theorem dX7_finds_203 : decode cX7_finds 203 = .ok (.iinc 2 (-1), 3) := by decide +kernel
theorem dX7_finds_206 : decode cX7_finds 206 = .ok (.goto (-177), 3) := by decide +kernel
theorem dX7_finds_209 : decode cX7_finds 209 = .ok (.return_, 1) := by decide +kernel
set_option maxRecDepth 20000 in
theorem ggX7_lays_X7_finds : GoodIn wsX7_lays wsX7_finds := goodIn_r _ [7, 1, 8, 9, 10, 11, 12, 6, 13, 14, 15, 16, 17, 18, 19, 20, 21, 22, 23, 24, 25, 26, 27, 28, 29, 30, 31, 32, 33, 34, 35, 40, 41, 42, 43, 44, 45, 46, 47, 48, 49, 50, 51, 52, 53] (by decide +kernel) (by decide +kernel)
set_option maxRecDepth 20000 in
theorem gX7_lays_X7_finds : GoodIn wsX7_lays (wsV RX7 178 RX7 yX7_finds wsX7_finds) := goodIn_app (goodIn_of _ (by decide +kernel)) ggX7_lays_X7_finds
set_option maxRecDepth 20000 in
theorem ggX7_lays_X7_isNext : GoodIn wsX7_lays wsX7_isNext := goodIn_r _ [39, 8, 9, 10, 11, 12, 6, 13, 1, 14, 15, 16, 17, 18, 19, 20, 21, 22, 23, 24, 25, 26, 27, 28, 29, 30, 31, 32, 33, 34, 35, 40, 41, 42, 43, 44, 45, 46, 47, 48, 49, 50, 51, 52, 53] (by decide +kernel) (by decide +kernel)
set_option maxRecDepth 20000 in
theorem gX7_lays_X7_isNext : GoodIn wsX7_lays (wsV RX7 181 RX7 yX7_isNext wsX7_isNext) := goodIn_app (goodIn_of _ (by decide +kernel)) ggX7_lays_X7_isNext
theorem dX7_lays_0 : decode cX7_lays 0 = .ok (.aload_n 0, 1) := by decide +kernel
theorem dX7_lays_1 : decode cX7_lays 1 = .ok (.invokevirtual 178, 3) := by decide +kernel
theorem dX7_lays_4 : decode cX7_lays 4 = .ok (.iconst 0, 1) := by decide +kernel
theorem dX7_lays_5 : decode cX7_lays 5 = .ok (.istore_n 1, 1) := by decide +kernel
theorem dX7_lays_6 : decode cX7_lays 6 = .ok (.iconst 0, 1) := by decide +kernel
theorem dX7_lays_7 : decode cX7_lays 7 = .ok (.istore_n 2, 1) := by decide +kernel
theorem dX7_lays_8 : decode cX7_lays 8 = .ok (.iload_n 2, 1) := by decide +kernel
theorem dX7_lays_9 : decode cX7_lays 9 = .ok (.aload_n 0, 1) := by decide +kernel
theorem dX7_lays_10 : decode cX7_lays 10 = .ok (.getfield 7, 3) := by decide +kernel
theorem dX7_lays_13 : decode cX7_lays 13 = .ok (.iconst 0, 1) := by decide +kernel
theorem dX7_lays_14 : decode cX7_lays 14 = .ok (.iaload, 1) := by decide +kernel
theorem dX7_lays_15 : decode cX7_lays 15 = .ok (.if_icmp .ge 60, 3) := by decide +kernel
theorem dX7_lays_18 : decode cX7_lays 18 = .ok (.iconst 0, 1) := by decide +kernel
theorem dX7_lays_19 : decode cX7_lays 19 = .ok (.istore_n 3, 1) := by decide +kernel
theorem dX7_lays_20 : decode cX7_lays 20 = .ok (.aload_n 0, 1) := by decide +kernel
theorem dX7_lays_21 : decode cX7_lays 21 = .ok (.aload_n 0, 1) := by decide +kernel
theorem dX7_lays_22 : decode cX7_lays 22 = .ok (.getfield 7, 3) := by decide +kernel
theorem dX7_lays_25 : decode cX7_lays 25 = .ok (.bipush 33, 2) := by decide +kernel
theorem dX7_lays_27 : decode cX7_lays 27 = .ok (.iload_n 3, 1) := by decide +kernel
theorem dX7_lays_28 : decode cX7_lays 28 = .ok (.iadd, 1) := by decide +kernel
theorem dX7_lays_29 : decode cX7_lays 29 = .ok (.iaload, 1) := by decide +kernel
theorem dX7_lays_30 : decode cX7_lays 30 = .ok (.iload_n 1, 1) := by decide +kernel
theorem dX7_lays_31 : decode cX7_lays 31 = .ok (.invokevirtual 181, 3) := by decide +kernel
theorem dX7_lays_34 : decode cX7_lays 34 = .ok (.ifCond .ne 9, 3) := by decide +kernel
theorem dX7_lays_37 : decode cX7_lays 37 = .ok (.iinc 3 1, 3) := by decide +kernel
theorem dX7_lays_40 : decode cX7_lays 40 = .ok (.goto (-20), 3) := by decide +kernel
theorem dX7_lays_43 : decode cX7_lays 43 = .ok (.aload_n 0, 1) := by decide +kernel
theorem dX7_lays_44 : decode cX7_lays 44 = .ok (.getfield 20, 3) := by decide +kernel
theorem dX7_lays_47 : decode cX7_lays 47 = .ok (.iload_n 2, 1) := by decide +kernel
theorem dX7_lays_48 : decode cX7_lays 48 = .ok (.aload_n 0, 1) := by decide +kernel
theorem dX7_lays_49 : decode cX7_lays 49 = .ok (.getfield 7, 3) := by decide +kernel
theorem dX7_lays_52 : decode cX7_lays 52 = .ok (.bipush 33, 2) := by decide +kernel
theorem dX7_lays_54 : decode cX7_lays 54 = .ok (.iload_n 3, 1) := by decide +kernel
theorem dX7_lays_55 : decode cX7_lays 55 = .ok (.iadd, 1) := by decide +kernel
theorem dX7_lays_56 : decode cX7_lays 56 = .ok (.iaload, 1) := by decide +kernel
theorem dX7_lays_57 : decode cX7_lays 57 = .ok (.iastore, 1) := by decide +kernel
theorem dX7_lays_58 : decode cX7_lays 58 = .ok (.iload_n 1, 1) := by decide +kernel
theorem dX7_lays_59 : decode cX7_lays 59 = .ok (.iconst 1, 1) := by decide +kernel
theorem dX7_lays_60 : decode cX7_lays 60 = .ok (.aload_n 0, 1) := by decide +kernel
theorem dX7_lays_61 : decode cX7_lays 61 = .ok (.getfield 20, 3) := by decide +kernel
theorem dX7_lays_64 : decode cX7_lays 64 = .ok (.iload_n 2, 1) := by decide +kernel
theorem dX7_lays_65 : decode cX7_lays 65 = .ok (.iaload, 1) := by decide +kernel
theorem dX7_lays_66 : decode cX7_lays 66 = .ok (.ishl, 1) := by decide +kernel
theorem dX7_lays_67 : decode cX7_lays 67 = .ok (.ior, 1) := by decide +kernel
theorem dX7_lays_68 : decode cX7_lays 68 = .ok (.istore_n 1, 1) := by decide +kernel
theorem dX7_lays_69 : decode cX7_lays 69 = .ok (.iinc 2 1, 3) := by decide +kernel
theorem dX7_lays_72 : decode cX7_lays 72 = .ok (.goto (-64), 3) := by decide +kernel
theorem dX7_lays_75 : decode cX7_lays 75 = .ok (.return_, 1) := by decide +kernel
set_option maxRecDepth 20000 in
theorem ggX7_isNext_X7_canStand : GoodIn wsX7_isNext wsX7_canStand := goodIn_r _ [7, 8, 9, 10, 6, 11, 31, 32, 33, 34, 35, 36, 37, 38, 39, 40, 41, 42, 43, 44] (by decide +kernel) (by decide +kernel)
set_option maxRecDepth 20000 in
theorem gX7_isNext_X7_canStand : GoodIn wsX7_isNext (wsV RX7 169 RX7 yX7_canStand wsX7_canStand) := goodIn_app (goodIn_of _ (by decide +kernel)) ggX7_isNext_X7_canStand
set_option maxRecDepth 20000 in
theorem ggX7_isNext_X7_noted : GoodIn wsX7_isNext wsX7_noted := goodIn_r _ [15, 8, 16, 17, 18, 6, 19, 9, 10, 11, 31, 32, 33, 34, 35, 36, 37, 38, 39, 40, 41, 42, 43, 44] (by decide +kernel) (by decide +kernel)
set_option maxRecDepth 20000 in
theorem gX7_isNext_X7_noted : GoodIn wsX7_isNext (wsV RX7 172 RX7 yX7_noted wsX7_noted) := goodIn_app (goodIn_of _ (by decide +kernel)) ggX7_isNext_X7_noted
set_option maxRecDepth 20000 in
theorem ggX7_isNext_X7_ones : GoodIn wsX7_isNext wsX7_ones := goodIn_r _ [22] (by decide +kernel) (by decide +kernel)
set_option maxRecDepth 20000 in
theorem gX7_isNext_X7_ones : GoodIn wsX7_isNext (va_wsS RX7 159 yX7_ones wsX7_ones) := goodIn_app (goodIn_of _ (by decide +kernel)) ggX7_isNext_X7_ones
set_option maxRecDepth 20000 in
theorem ggX7_isNext_X7_turned : GoodIn wsX7_isNext wsX7_turned := goodIn_r _ [26, 8, 27, 28, 29, 6, 30, 9, 10, 11, 31, 32, 33, 34, 35, 36, 37, 38, 39, 40, 41, 42, 43, 44] (by decide +kernel) (by decide +kernel)
set_option maxRecDepth 20000 in
theorem gX7_isNext_X7_turned : GoodIn wsX7_isNext (wsV RX7 175 RX7 yX7_turned wsX7_turned) := goodIn_app (goodIn_of _ (by decide +kernel)) ggX7_isNext_X7_turned
theorem dX7_isNext_0 : decode cX7_isNext 0 = .ok (.aload_n 0, 1) := by decide +kernel
theorem dX7_isNext_1 : decode cX7_isNext 1 = .ok (.iload_n 1, 1) := by decide +kernel
theorem dX7_isNext_2 : decode cX7_isNext 2 = .ok (.iload_n 2, 1) := by decide +kernel
theorem dX7_isNext_3 : decode cX7_isNext 3 = .ok (.invokevirtual 169, 3) := by decide +kernel
theorem dX7_isNext_6 : decode cX7_isNext 6 = .ok (.ifCond .eq 62, 3) := by decide +kernel
theorem dX7_isNext_9 : decode cX7_isNext 9 = .ok (.aload_n 0, 1) := by decide +kernel
theorem dX7_isNext_10 : decode cX7_isNext 10 = .ok (.iload_n 1, 1) := by decide +kernel
theorem dX7_isNext_11 : decode cX7_isNext 11 = .ok (.iload_n 2, 1) := by decide +kernel
theorem dX7_isNext_12 : decode cX7_isNext 12 = .ok (.invokevirtual 172, 3) := by decide +kernel
theorem dX7_isNext_15 : decode cX7_isNext 15 = .ok (.invokestatic 159, 3) := by decide +kernel
theorem dX7_isNext_18 : decode cX7_isNext 18 = .ok (.aload_n 0, 1) := by decide +kernel
theorem dX7_isNext_19 : decode cX7_isNext 19 = .ok (.getfield 26, 3) := by decide +kernel
theorem dX7_isNext_22 : decode cX7_isNext 22 = .ok (.iload_n 2, 1) := by decide +kernel
theorem dX7_isNext_23 : decode cX7_isNext 23 = .ok (.iconst 1, 1) := by decide +kernel
theorem dX7_isNext_24 : decode cX7_isNext 24 = .ok (.iload_n 1, 1) := by decide +kernel
theorem dX7_isNext_25 : decode cX7_isNext 25 = .ok (.ishl, 1) := by decide +kernel
theorem dX7_isNext_26 : decode cX7_isNext 26 = .ok (.ior, 1) := by decide +kernel
theorem dX7_isNext_27 : decode cX7_isNext 27 = .ok (.iaload, 1) := by decide +kernel
theorem dX7_isNext_28 : decode cX7_isNext 28 = .ok (.iadd, 1) := by decide +kernel
theorem dX7_isNext_29 : decode cX7_isNext 29 = .ok (.aload_n 0, 1) := by decide +kernel
theorem dX7_isNext_30 : decode cX7_isNext 30 = .ok (.getfield 26, 3) := by decide +kernel
theorem dX7_isNext_33 : decode cX7_isNext 33 = .ok (.iload_n 2, 1) := by decide +kernel
theorem dX7_isNext_34 : decode cX7_isNext 34 = .ok (.iaload, 1) := by decide +kernel
theorem dX7_isNext_35 : decode cX7_isNext 35 = .ok (.if_icmp .ne 33, 3) := by decide +kernel
theorem dX7_isNext_38 : decode cX7_isNext 38 = .ok (.aload_n 0, 1) := by decide +kernel
theorem dX7_isNext_39 : decode cX7_isNext 39 = .ok (.iload_n 1, 1) := by decide +kernel
theorem dX7_isNext_40 : decode cX7_isNext 40 = .ok (.iload_n 2, 1) := by decide +kernel
theorem dX7_isNext_41 : decode cX7_isNext 41 = .ok (.invokevirtual 175, 3) := by decide +kernel
theorem dX7_isNext_44 : decode cX7_isNext 44 = .ok (.aload_n 0, 1) := by decide +kernel
theorem dX7_isNext_45 : decode cX7_isNext 45 = .ok (.getfield 29, 3) := by decide +kernel
theorem dX7_isNext_48 : decode cX7_isNext 48 = .ok (.iload_n 2, 1) := by decide +kernel
theorem dX7_isNext_49 : decode cX7_isNext 49 = .ok (.iconst 1, 1) := by decide +kernel
theorem dX7_isNext_50 : decode cX7_isNext 50 = .ok (.iload_n 1, 1) := by decide +kernel
theorem dX7_isNext_51 : decode cX7_isNext 51 = .ok (.ishl, 1) := by decide +kernel
theorem dX7_isNext_52 : decode cX7_isNext 52 = .ok (.ior, 1) := by decide +kernel
theorem dX7_isNext_53 : decode cX7_isNext 53 = .ok (.iaload, 1) := by decide +kernel
theorem dX7_isNext_54 : decode cX7_isNext 54 = .ok (.iadd, 1) := by decide +kernel
theorem dX7_isNext_55 : decode cX7_isNext 55 = .ok (.aload_n 0, 1) := by decide +kernel
theorem dX7_isNext_56 : decode cX7_isNext 56 = .ok (.getfield 29, 3) := by decide +kernel
theorem dX7_isNext_59 : decode cX7_isNext 59 = .ok (.iload_n 2, 1) := by decide +kernel
theorem dX7_isNext_60 : decode cX7_isNext 60 = .ok (.iaload, 1) := by decide +kernel
theorem dX7_isNext_61 : decode cX7_isNext 61 = .ok (.if_icmp .ne 7, 3) := by decide +kernel
theorem dX7_isNext_64 : decode cX7_isNext 64 = .ok (.iconst 1, 1) := by decide +kernel
theorem dX7_isNext_65 : decode cX7_isNext 65 = .ok (.goto 4, 3) := by decide +kernel
theorem dX7_isNext_68 : decode cX7_isNext 68 = .ok (.iconst 0, 1) := by decide +kernel
theorem dX7_isNext_69 : decode cX7_isNext 69 = .ok (.ireturn, 1) := by decide +kernel
set_option maxRecDepth 20000 in
theorem ggX7_best_X7_isSection : GoodIn wsX7_best wsX7_isSection := goodIn_r _ [6, 7, 8, 9, 5, 10, 51, 52, 53, 54, 55, 56, 57, 58, 59, 60, 61, 62, 63, 64] (by decide +kernel) (by decide +kernel)
set_option maxRecDepth 20000 in
theorem gX7_best_X7_isSection : GoodIn wsX7_best (wsV RX7 184 RX7 yX7_isSection wsX7_isSection) := goodIn_app (goodIn_of _ (by decide +kernel)) ggX7_best_X7_isSection
set_option maxRecDepth 20000 in
theorem ggX7_best_X7_lays : GoodIn wsX7_best wsX7_lays := goodIn_r _ [14, 7, 1, 15, 16, 17, 5, 18, 19, 20, 21, 22, 23, 24, 25, 26, 27, 28, 29, 30, 31, 32, 33, 34, 35, 36, 37, 38, 39, 40, 41, 42, 43, 44, 45, 46, 47, 48, 49, 50, 51, 52, 53, 54, 55, 56, 57, 58, 59, 60, 61, 62, 63, 64] (by decide +kernel) (by decide +kernel)
set_option maxRecDepth 20000 in
theorem gX7_best_X7_lays : GoodIn wsX7_best (wsV RX7 187 RX7 yX7_lays wsX7_lays) := goodIn_app (goodIn_of _ (by decide +kernel)) ggX7_best_X7_lays
theorem dX7_best_0 : decode cX7_best 0 = .ok (.aload_n 0, 1) := by decide +kernel
theorem dX7_best_1 : decode cX7_best 1 = .ok (.iload_n 1, 1) := by decide +kernel
theorem dX7_best_2 : decode cX7_best 2 = .ok (.invokevirtual 184, 3) := by decide +kernel
theorem dX7_best_5 : decode cX7_best 5 = .ok (.ifCond .ne 6, 3) := by decide +kernel
theorem dX7_best_8 : decode cX7_best 8 = .ok (.bipush (-2), 2) := by decide +kernel
theorem dX7_best_10 : decode cX7_best 10 = .ok (.ireturn, 1) := by decide +kernel
theorem dX7_best_11 : decode cX7_best 11 = .ok (.aload_n 0, 1) := by decide +kernel
theorem dX7_best_12 : decode cX7_best 12 = .ok (.invokevirtual 187, 3) := by decide +kernel
theorem dX7_best_15 : decode cX7_best 15 = .ok (.aload_n 0, 1) := by decide +kernel
theorem dX7_best_16 : decode cX7_best 16 = .ok (.getfield 20, 3) := by decide +kernel
theorem dX7_best_19 : decode cX7_best 19 = .ok (.iload_n 1, 1) := by decide +kernel
theorem dX7_best_20 : decode cX7_best 20 = .ok (.iaload, 1) := by decide +kernel
theorem dX7_best_21 : decode cX7_best 21 = .ok (.ireturn, 1) := by decide +kernel
set_option maxRecDepth 20000 in
theorem ggX7_leastNotes_X7_noted : GoodIn wsX7_leastNotes wsX7_noted := goodIn_r _ [7, 1, 8, 9, 10, 6, 11, 12, 13, 14, 15, 16, 17, 18, 19, 20, 21, 22, 23, 24, 25, 26, 27, 28] (by decide +kernel) (by decide +kernel)
set_option maxRecDepth 20000 in
theorem gX7_leastNotes_X7_noted : GoodIn wsX7_leastNotes (wsV RX7 172 RX7 yX7_noted wsX7_noted) := goodIn_app (goodIn_of _ (by decide +kernel)) ggX7_leastNotes_X7_noted
theorem dX7_leastNotes_0 : decode cX7_leastNotes 0 = .ok (.iconst 0, 1) := by decide +kernel
theorem dX7_leastNotes_1 : decode cX7_leastNotes 1 = .ok (.istore_n 1, 1) := by decide +kernel
theorem dX7_leastNotes_2 : decode cX7_leastNotes 2 = .ok (.iconst 0, 1) := by decide +kernel
theorem dX7_leastNotes_3 : decode cX7_leastNotes 3 = .ok (.istore_n 2, 1) := by decide +kernel
theorem dX7_leastNotes_4 : decode cX7_leastNotes 4 = .ok (.iconst 0, 1) := by decide +kernel
theorem dX7_leastNotes_5 : decode cX7_leastNotes 5 = .ok (.istore_n 3, 1) := by decide +kernel
theorem dX7_leastNotes_6 : decode cX7_leastNotes 6 = .ok (.iload_n 3, 1) := by decide +kernel
theorem dX7_leastNotes_7 : decode cX7_leastNotes 7 = .ok (.aload_n 0, 1) := by decide +kernel
theorem dX7_leastNotes_8 : decode cX7_leastNotes 8 = .ok (.getfield 7, 3) := by decide +kernel
theorem dX7_leastNotes_11 : decode cX7_leastNotes 11 = .ok (.iconst 0, 1) := by decide +kernel
theorem dX7_leastNotes_12 : decode cX7_leastNotes 12 = .ok (.iaload, 1) := by decide +kernel
theorem dX7_leastNotes_13 : decode cX7_leastNotes 13 = .ok (.if_icmp .ge 34, 3) := by decide +kernel
theorem dX7_leastNotes_16 : decode cX7_leastNotes 16 = .ok (.iload_n 2, 1) := by decide +kernel
theorem dX7_leastNotes_17 : decode cX7_leastNotes 17 = .ok (.aload_n 0, 1) := by decide +kernel
theorem dX7_leastNotes_18 : decode cX7_leastNotes 18 = .ok (.aload_n 0, 1) := by decide +kernel
theorem dX7_leastNotes_19 : decode cX7_leastNotes 19 = .ok (.getfield 20, 3) := by decide +kernel
theorem dX7_leastNotes_22 : decode cX7_leastNotes 22 = .ok (.iload_n 3, 1) := by decide +kernel
theorem dX7_leastNotes_23 : decode cX7_leastNotes 23 = .ok (.iaload, 1) := by decide +kernel
theorem dX7_leastNotes_24 : decode cX7_leastNotes 24 = .ok (.iload_n 1, 1) := by decide +kernel
theorem dX7_leastNotes_25 : decode cX7_leastNotes 25 = .ok (.invokevirtual 172, 3) := by decide +kernel
theorem dX7_leastNotes_28 : decode cX7_leastNotes 28 = .ok (.ior, 1) := by decide +kernel
theorem dX7_leastNotes_29 : decode cX7_leastNotes 29 = .ok (.istore_n 2, 1) := by decide +kernel
theorem dX7_leastNotes_30 : decode cX7_leastNotes 30 = .ok (.iload_n 1, 1) := by decide +kernel
theorem dX7_leastNotes_31 : decode cX7_leastNotes 31 = .ok (.iconst 1, 1) := by decide +kernel
theorem dX7_leastNotes_32 : decode cX7_leastNotes 32 = .ok (.aload_n 0, 1) := by decide +kernel
theorem dX7_leastNotes_33 : decode cX7_leastNotes 33 = .ok (.getfield 20, 3) := by decide +kernel
theorem dX7_leastNotes_36 : decode cX7_leastNotes 36 = .ok (.iload_n 3, 1) := by decide +kernel
theorem dX7_leastNotes_37 : decode cX7_leastNotes 37 = .ok (.iaload, 1) := by decide +kernel
theorem dX7_leastNotes_38 : decode cX7_leastNotes 38 = .ok (.ishl, 1) := by decide +kernel
theorem dX7_leastNotes_39 : decode cX7_leastNotes 39 = .ok (.ior, 1) := by decide +kernel
theorem dX7_leastNotes_40 : decode cX7_leastNotes 40 = .ok (.istore_n 1, 1) := by decide +kernel
theorem dX7_leastNotes_41 : decode cX7_leastNotes 41 = .ok (.iinc 3 1, 3) := by decide +kernel
theorem dX7_leastNotes_44 : decode cX7_leastNotes 44 = .ok (.goto (-38), 3) := by decide +kernel
theorem dX7_leastNotes_47 : decode cX7_leastNotes 47 = .ok (.iload_n 2, 1) := by decide +kernel
theorem dX7_leastNotes_48 : decode cX7_leastNotes 48 = .ok (.ireturn, 1) := by decide +kernel
theorem dX7_swapOrder_0 : decode cX7_swapOrder 0 = .ok (.iconst 0, 1) := by decide +kernel
theorem dX7_swapOrder_1 : decode cX7_swapOrder 1 = .ok (.istore_n 1, 1) := by decide +kernel
theorem dX7_swapOrder_2 : decode cX7_swapOrder 2 = .ok (.iload_n 1, 1) := by decide +kernel
theorem dX7_swapOrder_3 : decode cX7_swapOrder 3 = .ok (.aload_n 0, 1) := by decide +kernel
theorem dX7_swapOrder_4 : decode cX7_swapOrder 4 = .ok (.getfield 7, 3) := by decide +kernel
theorem dX7_swapOrder_7 : decode cX7_swapOrder 7 = .ok (.iconst 0, 1) := by decide +kernel
theorem dX7_swapOrder_8 : decode cX7_swapOrder 8 = .ok (.iaload, 1) := by decide +kernel
theorem dX7_swapOrder_9 : decode cX7_swapOrder 9 = .ok (.if_icmp .ge 41, 3) := by decide +kernel
theorem dX7_swapOrder_12 : decode cX7_swapOrder 12 = .ok (.aload_n 0, 1) := by decide +kernel
theorem dX7_swapOrder_13 : decode cX7_swapOrder 13 = .ok (.getfield 7, 3) := by decide +kernel
theorem dX7_swapOrder_16 : decode cX7_swapOrder 16 = .ok (.bipush 33, 2) := by decide +kernel
theorem dX7_swapOrder_18 : decode cX7_swapOrder 18 = .ok (.iload_n 1, 1) := by decide +kernel
theorem dX7_swapOrder_19 : decode cX7_swapOrder 19 = .ok (.iadd, 1) := by decide +kernel
theorem dX7_swapOrder_20 : decode cX7_swapOrder 20 = .ok (.iaload, 1) := by decide +kernel
theorem dX7_swapOrder_21 : decode cX7_swapOrder 21 = .ok (.istore_n 2, 1) := by decide +kernel
theorem dX7_swapOrder_22 : decode cX7_swapOrder 22 = .ok (.aload_n 0, 1) := by decide +kernel
theorem dX7_swapOrder_23 : decode cX7_swapOrder 23 = .ok (.getfield 7, 3) := by decide +kernel
theorem dX7_swapOrder_26 : decode cX7_swapOrder 26 = .ok (.bipush 33, 2) := by decide +kernel
theorem dX7_swapOrder_28 : decode cX7_swapOrder 28 = .ok (.iload_n 1, 1) := by decide +kernel
theorem dX7_swapOrder_29 : decode cX7_swapOrder 29 = .ok (.iadd, 1) := by decide +kernel
theorem dX7_swapOrder_30 : decode cX7_swapOrder 30 = .ok (.aload_n 0, 1) := by decide +kernel
theorem dX7_swapOrder_31 : decode cX7_swapOrder 31 = .ok (.getfield 20, 3) := by decide +kernel
theorem dX7_swapOrder_34 : decode cX7_swapOrder 34 = .ok (.iload_n 1, 1) := by decide +kernel
theorem dX7_swapOrder_35 : decode cX7_swapOrder 35 = .ok (.iaload, 1) := by decide +kernel
theorem dX7_swapOrder_36 : decode cX7_swapOrder 36 = .ok (.iastore, 1) := by decide +kernel
theorem dX7_swapOrder_37 : decode cX7_swapOrder 37 = .ok (.aload_n 0, 1) := by decide +kernel
theorem dX7_swapOrder_38 : decode cX7_swapOrder 38 = .ok (.getfield 20, 3) := by decide +kernel
theorem dX7_swapOrder_41 : decode cX7_swapOrder 41 = .ok (.iload_n 1, 1) := by decide +kernel
theorem dX7_swapOrder_42 : decode cX7_swapOrder 42 = .ok (.iload_n 2, 1) := by decide +kernel
theorem dX7_swapOrder_43 : decode cX7_swapOrder 43 = .ok (.iastore, 1) := by decide +kernel
theorem dX7_swapOrder_44 : decode cX7_swapOrder 44 = .ok (.iinc 1 1, 3) := by decide +kernel
theorem dX7_swapOrder_47 : decode cX7_swapOrder 47 = .ok (.goto (-45), 3) := by decide +kernel
theorem dX7_swapOrder_50 : decode cX7_swapOrder 50 = .ok (.return_, 1) := by decide +kernel
set_option maxRecDepth 20000 in
theorem ggX7_least_X7_in : GoodIn wsX7_least wsX7_in := goodIn_r _ [7] (by decide +kernel) (by decide +kernel)
set_option maxRecDepth 20000 in
theorem gX7_least_X7_in : GoodIn wsX7_least (va_wsS RX7 36 yX7_in wsX7_in) := goodIn_app (goodIn_of _ (by decide +kernel)) ggX7_least_X7_in
set_option maxRecDepth 20000 in
theorem ggX7_least_X7_lays : GoodIn wsX7_least wsX7_lays := goodIn_r _ [11, 12, 13, 14, 15, 16, 6, 17, 2, 3, 18, 19, 20, 21, 22, 23, 24, 25, 26, 27, 28, 29, 30, 31, 32, 33, 34, 35, 36, 37, 38, 39, 40, 41, 42, 43, 44, 45, 46, 47, 72, 73, 74, 75, 76, 77, 78, 79, 80, 81, 82, 83, 84, 85] (by decide +kernel) (by decide +kernel)
set_option maxRecDepth 20000 in
theorem gX7_least_X7_lays : GoodIn wsX7_least (wsV RX7 187 RX7 yX7_lays wsX7_lays) := goodIn_app (goodIn_of _ (by decide +kernel)) ggX7_least_X7_lays
set_option maxRecDepth 20000 in
theorem ggX7_least_X7_leastNotes : GoodIn wsX7_least wsX7_leastNotes := goodIn_r _ [51, 12, 13, 25, 26, 27, 6, 28, 29, 30, 31, 32, 22, 23, 24, 72, 73, 74, 75, 76, 77, 78, 79, 80, 81, 82, 83, 84, 85] (by decide +kernel) (by decide +kernel)
set_option maxRecDepth 20000 in
theorem gX7_least_X7_leastNotes : GoodIn wsX7_least (wsV RX7 192 RX7 yX7_leastNotes wsX7_leastNotes) := goodIn_app (goodIn_of _ (by decide +kernel)) ggX7_least_X7_leastNotes
set_option maxRecDepth 20000 in
theorem ggX7_least_X7_swapOrder : GoodIn wsX7_least wsX7_swapOrder := goodIn_r _ [55, 12, 13, 72, 73, 74, 75, 76, 77, 78, 79, 80, 81, 82, 83, 84, 85] (by decide +kernel) (by decide +kernel)
set_option maxRecDepth 20000 in
theorem gX7_least_X7_swapOrder : GoodIn wsX7_least (wsV RX7 195 RX7 yX7_swapOrder wsX7_swapOrder) := goodIn_app (goodIn_of _ (by decide +kernel)) ggX7_least_X7_swapOrder
set_option maxRecDepth 20000 in
theorem ggX7_least_X7_lastsAll : GoodIn wsX7_least wsX7_lastsAll := goodIn_r _ [59, 60, 61, 62, 6, 63, 12, 64, 65, 66, 67, 68, 69, 70, 71, 22, 23, 24, 40, 41, 42, 43, 72, 73, 74, 75, 76, 77, 78, 79, 80, 81, 82, 83, 84, 85] (by decide +kernel) (by decide +kernel)
set_option maxRecDepth 20000 in
theorem gX7_least_X7_lastsAll : GoodIn wsX7_least (wsV RX7 198 RX7 yX7_lastsAll wsX7_lastsAll) := goodIn_app (goodIn_of _ (by decide +kernel)) ggX7_least_X7_lastsAll
theorem dX7_least_0 : decode cX7_least 0 = .ok (.iload_n 1, 1) := by decide +kernel
theorem dX7_least_1 : decode cX7_least 1 = .ok (.i2l, 1) := by decide +kernel
theorem dX7_least_2 : decode cX7_least 2 = .ok (.lconst 0, 1) := by decide +kernel
theorem dX7_least_3 : decode cX7_least 3 = .ok (.ldc2_w 190, 3) := by decide +kernel
theorem dX7_least_6 : decode cX7_least 6 = .ok (.invokestatic 36, 3) := by decide +kernel
theorem dX7_least_9 : decode cX7_least 9 = .ok (.ifCond .ne 6, 3) := by decide +kernel
