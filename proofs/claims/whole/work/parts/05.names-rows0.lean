set_option maxRecDepth 20000 in
theorem ggX0_init_X3_init : GoodIn wsX0_init wsX3_init := goodIn_r _ [19, 20, 2, 3, 6, 21, 22, 23, 24, 25, 26, 27, 28, 10, 29, 30, 40, 41, 42, 43, 44, 45] (by decide +kernel) (by decide +kernel)
set_option maxRecDepth 20000 in
theorem gX0_init_X3_init : GoodIn wsX0_init (wsX3_init) := ggX0_init_X3_init
theorem dX0_init_0 : decode cX0_init 0 = .ok (.aload_n 0, 1) := by decide +kernel
theorem dX0_init_1 : decode cX0_init 1 = .ok (.invokespecial 3, 3) := by decide +kernel
theorem dX0_init_4 : decode cX0_init 4 = .ok (.aload_n 0, 1) := by decide +kernel
theorem dX0_init_5 : decode cX0_init 5 = .ok (.iconst 0, 1) := by decide +kernel
theorem dX0_init_6 : decode cX0_init 6 = .ok (.putfield 9, 3) := by decide +kernel
theorem dX0_init_9 : decode cX0_init 9 = .ok (.aload_n 0, 1) := by decide +kernel
theorem dX0_init_10 : decode cX0_init 10 = .ok (.iconst 0, 1) := by decide +kernel
theorem dX0_init_11 : decode cX0_init 11 = .ok (.putfield 15, 3) := by decide +kernel
theorem dX0_init_14 : decode cX0_init 14 = .ok (.aload_n 0, 1) := by decide +kernel
theorem dX0_init_15 : decode cX0_init 15 = .ok (.bipush 10, 2) := by decide +kernel
theorem dX0_init_17 : decode cX0_init 17 = .ok (.newarray .int, 2) := by decide +kernel
theorem dX0_init_19 : decode cX0_init 19 = .ok (.putfield 18, 3) := by decide +kernel
theorem dX0_init_22 : decode cX0_init 22 = .ok (.aload_n 0, 1) := by decide +kernel
theorem dX0_init_23 : decode cX0_init 23 = .ok (.new 22, 3) := by decide +kernel
theorem dX0_init_26 : decode cX0_init 26 = .ok (.dup, 1) := by decide +kernel
theorem dX0_init_27 : decode cX0_init 27 = .ok (.invokespecial 24, 3) := by decide +kernel
theorem dX0_init_30 : decode cX0_init 30 = .ok (.putfield 25, 3) := by decide +kernel
theorem dX0_init_33 : decode cX0_init 33 = .ok (.aload_n 0, 1) := by decide +kernel
theorem dX0_init_34 : decode cX0_init 34 = .ok (.iconst 0, 1) := by decide +kernel
theorem dX0_init_35 : decode cX0_init 35 = .ok (.putfield 29, 3) := by decide +kernel
theorem dX0_init_38 : decode cX0_init 38 = .ok (.aload_n 0, 1) := by decide +kernel
theorem dX0_init_39 : decode cX0_init 39 = .ok (.bipush 10, 2) := by decide +kernel
theorem dX0_init_41 : decode cX0_init 41 = .ok (.newarray .int, 2) := by decide +kernel
theorem dX0_init_43 : decode cX0_init 43 = .ok (.putfield 33, 3) := by decide +kernel
theorem dX0_init_46 : decode cX0_init 46 = .ok (.aload_n 0, 1) := by decide +kernel
theorem dX0_init_47 : decode cX0_init 47 = .ok (.sipush 1024, 3) := by decide +kernel
theorem dX0_init_50 : decode cX0_init 50 = .ok (.newarray .int, 2) := by decide +kernel
theorem dX0_init_52 : decode cX0_init 52 = .ok (.putfield 36, 3) := by decide +kernel
theorem dX0_init_55 : decode cX0_init 55 = .ok (.aload_n 0, 1) := by decide +kernel
theorem dX0_init_56 : decode cX0_init 56 = .ok (.sipush 1024, 3) := by decide +kernel
theorem dX0_init_59 : decode cX0_init 59 = .ok (.newarray .int, 2) := by decide +kernel
theorem dX0_init_61 : decode cX0_init 61 = .ok (.putfield 39, 3) := by decide +kernel
theorem dX0_init_64 : decode cX0_init 64 = .ok (.aload_n 0, 1) := by decide +kernel
theorem dX0_init_65 : decode cX0_init 65 = .ok (.sipush 1024, 3) := by decide +kernel
theorem dX0_init_68 : decode cX0_init 68 = .ok (.newarray .int, 2) := by decide +kernel
theorem dX0_init_70 : decode cX0_init 70 = .ok (.putfield 42, 3) := by decide +kernel
theorem dX0_init_73 : decode cX0_init 73 = .ok (.return_, 1) := by decide +kernel
set_option maxRecDepth 20000 in
theorem ggX0_find_X3_isSame : GoodIn wsX0_find wsX3_isSame := goodIn_r _ [11, 12, 13, 14, 15, 16, 17, 72, 73, 74, 75, 76, 77] (by decide +kernel) (by decide +kernel)
set_option maxRecDepth 20000 in
theorem gX0_find_X3_isSame : GoodIn wsX0_find (wsV RX0 45 RX3 yX3_isSame wsX3_isSame) := goodIn_app (goodIn_of _ (by decide +kernel)) ggX0_find_X3_isSame
set_option maxRecDepth 20000 in
theorem ggX0_find_X3_become : GoodIn wsX0_find wsX3_become := goodIn_r _ [21, 12, 13, 14, 15, 16, 17, 72, 73, 74, 75, 76, 77] (by decide +kernel) (by decide +kernel)
set_option maxRecDepth 20000 in
theorem gX0_find_X3_become : GoodIn wsX0_find (wsV RX0 49 RX3 yX3_become wsX3_become) := goodIn_app (goodIn_of _ (by decide +kernel)) ggX0_find_X3_become
set_option maxRecDepth 20000 in
theorem ggX0_find_X0_gatherTerms : GoodIn wsX0_find wsX0_gatherTerms := goodIn_r _ [26, 27, 2, 3, 28, 29, 30, 31, 32, 10, 33, 17, 34, 35, 36, 63, 64, 65, 66, 67, 68, 69, 70, 71, 72, 73, 74, 75, 76, 77] (by decide +kernel) (by decide +kernel)
set_option maxRecDepth 20000 in
theorem gX0_find_X0_gatherTerms : GoodIn wsX0_find (wsV RX0 53 RX0 yX0_gatherTerms wsX0_gatherTerms) := goodIn_app (goodIn_of _ (by decide +kernel)) ggX0_find_X0_gatherTerms
set_option maxRecDepth 20000 in
theorem ggX0_find_X0_choose : GoodIn wsX0_find wsX0_choose := goodIn_r _ [40, 41, 2, 3, 42, 43, 4, 44, 45, 35, 46, 47, 48, 49, 25, 50, 28, 27, 51, 52, 53, 54, 55, 56, 57, 34, 36, 63, 64, 65, 66, 67, 68, 69, 70, 71, 72, 73, 74, 75, 76, 77] (by decide +kernel) (by decide +kernel)
set_option maxRecDepth 20000 in
theorem gX0_find_X0_choose : GoodIn wsX0_find (wsV RX0 59 RX0 yX0_choose wsX0_choose) := goodIn_app (goodIn_of _ (by decide +kernel)) ggX0_find_X0_choose
set_option maxRecDepth 20000 in
theorem ggX0_find_X0_writeOrder : GoodIn wsX0_find wsX0_writeOrder := goodIn_r _ [61, 2, 3, 62, 44, 34, 35, 36, 63, 64, 65, 66, 67, 68, 69, 70, 71, 72, 73, 74, 75, 76, 77] (by decide +kernel) (by decide +kernel)
set_option maxRecDepth 20000 in
theorem gX0_find_X0_writeOrder : GoodIn wsX0_find (wsV RX0 63 RX0 yX0_writeOrder wsX0_writeOrder) := goodIn_app (goodIn_of _ (by decide +kernel)) ggX0_find_X0_writeOrder
theorem dX0_find_0 : decode cX0_find 0 = .ok (.aload_n 0, 1) := by decide +kernel
theorem dX0_find_1 : decode cX0_find 1 = .ok (.getfield 29, 3) := by decide +kernel
theorem dX0_find_4 : decode cX0_find 4 = .ok (.ifCond .eq 15, 3) := by decide +kernel
theorem dX0_find_7 : decode cX0_find 7 = .ok (.aload_n 0, 1) := by decide +kernel
theorem dX0_find_8 : decode cX0_find 8 = .ok (.getfield 25, 3) := by decide +kernel
theorem dX0_find_11 : decode cX0_find 11 = .ok (.aload_n 1, 1) := by decide +kernel
theorem dX0_find_12 : decode cX0_find 12 = .ok (.invokevirtual 45, 3) := by decide +kernel
theorem dX0_find_15 : decode cX0_find 15 = .ok (.ifCond .eq 4, 3) := by decide +kernel
theorem dX0_find_18 : decode cX0_find 18 = .ok (.return_, 1) := by decide +kernel
theorem dX0_find_19 : decode cX0_find 19 = .ok (.aload_n 0, 1) := by decide +kernel
theorem dX0_find_20 : decode cX0_find 20 = .ok (.getfield 25, 3) := by decide +kernel
theorem dX0_find_23 : decode cX0_find 23 = .ok (.aload_n 1, 1) := by decide +kernel
theorem dX0_find_24 : decode cX0_find 24 = .ok (.invokevirtual 49, 3) := by decide +kernel
theorem dX0_find_27 : decode cX0_find 27 = .ok (.aload_n 0, 1) := by decide +kernel
theorem dX0_find_28 : decode cX0_find 28 = .ok (.iconst 1, 1) := by decide +kernel
theorem dX0_find_29 : decode cX0_find 29 = .ok (.putfield 29, 3) := by decide +kernel
theorem dX0_find_32 : decode cX0_find 32 = .ok (.aload_n 0, 1) := by decide +kernel
theorem dX0_find_33 : decode cX0_find 33 = .ok (.invokevirtual 53, 3) := by decide +kernel
theorem dX0_find_36 : decode cX0_find 36 = .ok (.iconst 1, 1) := by decide +kernel
theorem dX0_find_37 : decode cX0_find 37 = .ok (.aload_n 0, 1) := by decide +kernel
theorem dX0_find_38 : decode cX0_find 38 = .ok (.getfield 25, 3) := by decide +kernel
theorem dX0_find_41 : decode cX0_find 41 = .ok (.getfield 56, 3) := by decide +kernel
theorem dX0_find_44 : decode cX0_find 44 = .ok (.ishl, 1) := by decide +kernel
theorem dX0_find_45 : decode cX0_find 45 = .ok (.iconst 1, 1) := by decide +kernel
theorem dX0_find_46 : decode cX0_find 46 = .ok (.isub, 1) := by decide +kernel
theorem dX0_find_47 : decode cX0_find 47 = .ok (.istore_n 2, 1) := by decide +kernel
theorem dX0_find_48 : decode cX0_find 48 = .ok (.aload_n 0, 1) := by decide +kernel
theorem dX0_find_49 : decode cX0_find 49 = .ok (.getfield 39, 3) := by decide +kernel
theorem dX0_find_52 : decode cX0_find 52 = .ok (.iload_n 2, 1) := by decide +kernel
theorem dX0_find_53 : decode cX0_find 53 = .ok (.iconst 0, 1) := by decide +kernel
theorem dX0_find_54 : decode cX0_find 54 = .ok (.iastore, 1) := by decide +kernel
theorem dX0_find_55 : decode cX0_find 55 = .ok (.iload_n 2, 1) := by decide +kernel
theorem dX0_find_56 : decode cX0_find 56 = .ok (.iconst 1, 1) := by decide +kernel
theorem dX0_find_57 : decode cX0_find 57 = .ok (.isub, 1) := by decide +kernel
theorem dX0_find_58 : decode cX0_find 58 = .ok (.istore_n 3, 1) := by decide +kernel
theorem dX0_find_59 : decode cX0_find 59 = .ok (.iload_n 3, 1) := by decide +kernel
theorem dX0_find_60 : decode cX0_find 60 = .ok (.ifCond .lt 14, 3) := by decide +kernel
theorem dX0_find_63 : decode cX0_find 63 = .ok (.aload_n 0, 1) := by decide +kernel
theorem dX0_find_64 : decode cX0_find 64 = .ok (.iload_n 3, 1) := by decide +kernel
theorem dX0_find_65 : decode cX0_find 65 = .ok (.invokevirtual 59, 3) := by decide +kernel
theorem dX0_find_68 : decode cX0_find 68 = .ok (.iinc 3 (-1), 3) := by decide +kernel
theorem dX0_find_71 : decode cX0_find 71 = .ok (.goto (-12), 3) := by decide +kernel
theorem dX0_find_74 : decode cX0_find 74 = .ok (.aload_n 0, 1) := by decide +kernel
theorem dX0_find_75 : decode cX0_find 75 = .ok (.aload_n 0, 1) := by decide +kernel
theorem dX0_find_76 : decode cX0_find 76 = .ok (.getfield 39, 3) := by decide +kernel
theorem dX0_find_79 : decode cX0_find 79 = .ok (.iconst 0, 1) := by decide +kernel
theorem dX0_find_80 : decode cX0_find 80 = .ok (.iaload, 1) := by decide +kernel
theorem dX0_find_81 : decode cX0_find 81 = .ok (.bipush 64, 2) := by decide +kernel
theorem dX0_find_83 : decode cX0_find 83 = .ok (.idiv, 1) := by decide +kernel
theorem dX0_find_84 : decode cX0_find 84 = .ok (.putfield 9, 3) := by decide +kernel
theorem dX0_find_87 : decode cX0_find 87 = .ok (.aload_n 0, 1) := by decide +kernel
theorem dX0_find_88 : decode cX0_find 88 = .ok (.aload_n 0, 1) := by decide +kernel
theorem dX0_find_89 : decode cX0_find 89 = .ok (.getfield 39, 3) := by decide +kernel
theorem dX0_find_92 : decode cX0_find 92 = .ok (.iconst 0, 1) := by decide +kernel
theorem dX0_find_93 : decode cX0_find 93 = .ok (.iaload, 1) := by decide +kernel
theorem dX0_find_94 : decode cX0_find 94 = .ok (.bipush 64, 2) := by decide +kernel
theorem dX0_find_96 : decode cX0_find 96 = .ok (.irem, 1) := by decide +kernel
theorem dX0_find_97 : decode cX0_find 97 = .ok (.putfield 15, 3) := by decide +kernel
theorem dX0_find_100 : decode cX0_find 100 = .ok (.aload_n 0, 1) := by decide +kernel
theorem dX0_find_101 : decode cX0_find 101 = .ok (.invokevirtual 63, 3) := by decide +kernel
theorem dX0_find_104 : decode cX0_find 104 = .ok (.return_, 1) := by decide +kernel
set_option maxRecDepth 20000 in
theorem ggX0_gatherTerms_X3_termsAtHome : GoodIn wsX0_gatherTerms wsX3_termsAtHome := goodIn_r _ [10, 11, 12, 13, 14, 24, 25, 26, 27, 28, 29] (by decide +kernel) (by decide +kernel)
set_option maxRecDepth 20000 in
theorem gX0_gatherTerms_X3_termsAtHome : GoodIn wsX0_gatherTerms (wsV RX0 66 RX3 yX3_termsAtHome wsX3_termsAtHome) := goodIn_app (goodIn_of _ (by decide +kernel)) ggX0_gatherTerms_X3_termsAtHome
set_option maxRecDepth 20000 in
theorem ggX0_gatherTerms_X6_with : GoodIn wsX0_gatherTerms wsX6_with := goodIn_r _ [14] (by decide +kernel) (by decide +kernel)
set_option maxRecDepth 20000 in
theorem gX0_gatherTerms_X6_with_n70 : GoodIn wsX0_gatherTerms (wsX6_with) := ggX0_gatherTerms_X6_with
theorem dX0_gatherTerms_0 : decode cX0_gatherTerms 0 = .ok (.aload_n 0, 1) := by decide +kernel
theorem dX0_gatherTerms_1 : decode cX0_gatherTerms 1 = .ok (.getfield 36, 3) := by decide +kernel
theorem dX0_gatherTerms_4 : decode cX0_gatherTerms 4 = .ok (.iconst 0, 1) := by decide +kernel
theorem dX0_gatherTerms_5 : decode cX0_gatherTerms 5 = .ok (.iconst 0, 1) := by decide +kernel
theorem dX0_gatherTerms_6 : decode cX0_gatherTerms 6 = .ok (.iastore, 1) := by decide +kernel
theorem dX0_gatherTerms_7 : decode cX0_gatherTerms 7 = .ok (.iconst 0, 1) := by decide +kernel
theorem dX0_gatherTerms_8 : decode cX0_gatherTerms 8 = .ok (.istore_n 1, 1) := by decide +kernel
theorem dX0_gatherTerms_9 : decode cX0_gatherTerms 9 = .ok (.iload_n 1, 1) := by decide +kernel
theorem dX0_gatherTerms_10 : decode cX0_gatherTerms 10 = .ok (.aload_n 0, 1) := by decide +kernel
theorem dX0_gatherTerms_11 : decode cX0_gatherTerms 11 = .ok (.getfield 25, 3) := by decide +kernel
theorem dX0_gatherTerms_14 : decode cX0_gatherTerms 14 = .ok (.getfield 56, 3) := by decide +kernel
theorem dX0_gatherTerms_17 : decode cX0_gatherTerms 17 = .ok (.if_icmp .ge 64, 3) := by decide +kernel
theorem dX0_gatherTerms_20 : decode cX0_gatherTerms 20 = .ok (.aload_n 0, 1) := by decide +kernel
theorem dX0_gatherTerms_21 : decode cX0_gatherTerms 21 = .ok (.getfield 33, 3) := by decide +kernel
theorem dX0_gatherTerms_24 : decode cX0_gatherTerms 24 = .ok (.iload_n 1, 1) := by decide +kernel
theorem dX0_gatherTerms_25 : decode cX0_gatherTerms 25 = .ok (.aload_n 0, 1) := by decide +kernel
theorem dX0_gatherTerms_26 : decode cX0_gatherTerms 26 = .ok (.getfield 25, 3) := by decide +kernel
theorem dX0_gatherTerms_29 : decode cX0_gatherTerms 29 = .ok (.iload_n 1, 1) := by decide +kernel
theorem dX0_gatherTerms_30 : decode cX0_gatherTerms 30 = .ok (.invokevirtual 66, 3) := by decide +kernel
theorem dX0_gatherTerms_33 : decode cX0_gatherTerms 33 = .ok (.iastore, 1) := by decide +kernel
theorem dX0_gatherTerms_34 : decode cX0_gatherTerms 34 = .ok (.iconst 0, 1) := by decide +kernel
theorem dX0_gatherTerms_35 : decode cX0_gatherTerms 35 = .ok (.istore_n 2, 1) := by decide +kernel
theorem dX0_gatherTerms_36 : decode cX0_gatherTerms 36 = .ok (.iload_n 2, 1) := by decide +kernel
theorem dX0_gatherTerms_37 : decode cX0_gatherTerms 37 = .ok (.iconst 1, 1) := by decide +kernel
theorem dX0_gatherTerms_38 : decode cX0_gatherTerms 38 = .ok (.iload_n 1, 1) := by decide +kernel
theorem dX0_gatherTerms_39 : decode cX0_gatherTerms 39 = .ok (.ishl, 1) := by decide +kernel
theorem dX0_gatherTerms_40 : decode cX0_gatherTerms 40 = .ok (.if_icmp .ge 35, 3) := by decide +kernel
theorem dX0_gatherTerms_43 : decode cX0_gatherTerms 43 = .ok (.aload_n 0, 1) := by decide +kernel
theorem dX0_gatherTerms_44 : decode cX0_gatherTerms 44 = .ok (.getfield 36, 3) := by decide +kernel
theorem dX0_gatherTerms_47 : decode cX0_gatherTerms 47 = .ok (.iload_n 2, 1) := by decide +kernel
theorem dX0_gatherTerms_48 : decode cX0_gatherTerms 48 = .ok (.iload_n 1, 1) := by decide +kernel
theorem dX0_gatherTerms_49 : decode cX0_gatherTerms 49 = .ok (.invokestatic 70, 3) := by decide +kernel
theorem dX0_gatherTerms_52 : decode cX0_gatherTerms 52 = .ok (.aload_n 0, 1) := by decide +kernel
theorem dX0_gatherTerms_53 : decode cX0_gatherTerms 53 = .ok (.getfield 36, 3) := by decide +kernel
theorem dX0_gatherTerms_56 : decode cX0_gatherTerms 56 = .ok (.iload_n 2, 1) := by decide +kernel
theorem dX0_gatherTerms_57 : decode cX0_gatherTerms 57 = .ok (.iaload, 1) := by decide +kernel
theorem dX0_gatherTerms_58 : decode cX0_gatherTerms 58 = .ok (.aload_n 0, 1) := by decide +kernel
theorem dX0_gatherTerms_59 : decode cX0_gatherTerms 59 = .ok (.getfield 25, 3) := by decide +kernel
theorem dX0_gatherTerms_62 : decode cX0_gatherTerms 62 = .ok (.getfield 74, 3) := by decide +kernel
theorem dX0_gatherTerms_65 : decode cX0_gatherTerms 65 = .ok (.iload_n 1, 1) := by decide +kernel
theorem dX0_gatherTerms_66 : decode cX0_gatherTerms 66 = .ok (.iaload, 1) := by decide +kernel
theorem dX0_gatherTerms_67 : decode cX0_gatherTerms 67 = .ok (.ior, 1) := by decide +kernel
theorem dX0_gatherTerms_68 : decode cX0_gatherTerms 68 = .ok (.iastore, 1) := by decide +kernel
theorem dX0_gatherTerms_69 : decode cX0_gatherTerms 69 = .ok (.iinc 2 1, 3) := by decide +kernel
theorem dX0_gatherTerms_72 : decode cX0_gatherTerms 72 = .ok (.goto (-36), 3) := by decide +kernel
theorem dX0_gatherTerms_75 : decode cX0_gatherTerms 75 = .ok (.iinc 1 1, 3) := by decide +kernel
theorem dX0_gatherTerms_78 : decode cX0_gatherTerms 78 = .ok (.goto (-69), 3) := by decide +kernel
theorem dX0_gatherTerms_81 : decode cX0_gatherTerms 81 = .ok (.return_, 1) := by decide +kernel
set_option maxRecDepth 20000 in
theorem ggX0_choose_X6_has : GoodIn wsX0_choose wsX6_has := goodIn_r _ [10] (by decide +kernel) (by decide +kernel)
set_option maxRecDepth 20000 in
theorem gX0_choose_X6_has_n79 : GoodIn wsX0_choose (wsX6_has) := ggX0_choose_X6_has
set_option maxRecDepth 20000 in
theorem ggX0_choose_X0_noteCost : GoodIn wsX0_choose wsX0_noteCost := goodIn_r _ [15, 16, 17, 18, 19, 20, 21, 22, 23, 24, 27, 28, 29, 30, 31, 32, 33, 34, 35] (by decide +kernel) (by decide +kernel)
set_option maxRecDepth 20000 in
theorem gX0_choose_X0_noteCost : GoodIn wsX0_choose (wsV RX0 86 RX0 yX0_noteCost wsX0_noteCost) := goodIn_app (goodIn_of _ (by decide +kernel)) ggX0_choose_X0_noteCost
set_option maxRecDepth 20000 in
theorem ggX0_choose_X6_with : GoodIn wsX0_choose wsX6_with := goodIn_r _ [26] (by decide +kernel) (by decide +kernel)
set_option maxRecDepth 20000 in
theorem gX0_choose_X6_with_n70 : GoodIn wsX0_choose (wsX6_with) := ggX0_choose_X6_with
theorem dX0_choose_0 : decode cX0_choose 0 = .ok (.ldc 77, 2) := by decide +kernel
theorem dX0_choose_2 : decode cX0_choose 2 = .ok (.istore_n 2, 1) := by decide +kernel
theorem dX0_choose_3 : decode cX0_choose 3 = .ok (.iconst 0, 1) := by decide +kernel
theorem dX0_choose_4 : decode cX0_choose 4 = .ok (.istore_n 3, 1) := by decide +kernel
theorem dX0_choose_5 : decode cX0_choose 5 = .ok (.iconst 0, 1) := by decide +kernel
theorem dX0_choose_6 : decode cX0_choose 6 = .ok (.istore 4, 2) := by decide +kernel
theorem dX0_choose_8 : decode cX0_choose 8 = .ok (.aload_n 0, 1) := by decide +kernel
theorem dX0_choose_9 : decode cX0_choose 9 = .ok (.getfield 25, 3) := by decide +kernel
theorem dX0_choose_12 : decode cX0_choose 12 = .ok (.getfield 56, 3) := by decide +kernel
theorem dX0_choose_15 : decode cX0_choose 15 = .ok (.iconst 1, 1) := by decide +kernel
theorem dX0_choose_16 : decode cX0_choose 16 = .ok (.isub, 1) := by decide +kernel
theorem dX0_choose_17 : decode cX0_choose 17 = .ok (.istore 5, 2) := by decide +kernel
theorem dX0_choose_19 : decode cX0_choose 19 = .ok (.iload 5, 2) := by decide +kernel
theorem dX0_choose_21 : decode cX0_choose 21 = .ok (.ifCond .lt 89, 3) := by decide +kernel
theorem dX0_choose_24 : decode cX0_choose 24 = .ok (.aload_n 0, 1) := by decide +kernel
theorem dX0_choose_25 : decode cX0_choose 25 = .ok (.getfield 25, 3) := by decide +kernel
theorem dX0_choose_28 : decode cX0_choose 28 = .ok (.getfield 78, 3) := by decide +kernel
theorem dX0_choose_31 : decode cX0_choose 31 = .ok (.iload 5, 2) := by decide +kernel
theorem dX0_choose_33 : decode cX0_choose 33 = .ok (.iaload, 1) := by decide +kernel
theorem dX0_choose_34 : decode cX0_choose 34 = .ok (.istore 6, 2) := by decide +kernel
theorem dX0_choose_36 : decode cX0_choose 36 = .ok (.iload_n 1, 1) := by decide +kernel
theorem dX0_choose_37 : decode cX0_choose 37 = .ok (.iload 6, 2) := by decide +kernel
theorem dX0_choose_39 : decode cX0_choose 39 = .ok (.invokestatic 79, 3) := by decide +kernel
theorem dX0_choose_42 : decode cX0_choose 42 = .ok (.ifCond .eq 9, 3) := by decide +kernel
theorem dX0_choose_45 : decode cX0_choose 45 = .ok (.iinc 4 1, 3) := by decide +kernel
theorem dX0_choose_48 : decode cX0_choose 48 = .ok (.goto 56, 3) := by decide +kernel
theorem dX0_choose_51 : decode cX0_choose 51 = .ok (.aload_n 0, 1) := by decide +kernel
theorem dX0_choose_52 : decode cX0_choose 52 = .ok (.getfield 25, 3) := by decide +kernel
theorem dX0_choose_55 : decode cX0_choose 55 = .ok (.getfield 83, 3) := by decide +kernel
theorem dX0_choose_58 : decode cX0_choose 58 = .ok (.iload 6, 2) := by decide +kernel
theorem dX0_choose_60 : decode cX0_choose 60 = .ok (.iaload, 1) := by decide +kernel
theorem dX0_choose_61 : decode cX0_choose 61 = .ok (.iload_n 1, 1) := by decide +kernel
theorem dX0_choose_62 : decode cX0_choose 62 = .ok (.iconst (-1), 1) := by decide +kernel
theorem dX0_choose_63 : decode cX0_choose 63 = .ok (.ixor, 1) := by decide +kernel
theorem dX0_choose_64 : decode cX0_choose 64 = .ok (.iand, 1) := by decide +kernel
theorem dX0_choose_65 : decode cX0_choose 65 = .ok (.ifCond .ne 39, 3) := by decide +kernel
theorem dX0_choose_68 : decode cX0_choose 68 = .ok (.aload_n 0, 1) := by decide +kernel
theorem dX0_choose_69 : decode cX0_choose 69 = .ok (.iload_n 1, 1) := by decide +kernel
theorem dX0_choose_70 : decode cX0_choose 70 = .ok (.iload 6, 2) := by decide +kernel
theorem dX0_choose_72 : decode cX0_choose 72 = .ok (.invokevirtual 86, 3) := by decide +kernel
theorem dX0_choose_75 : decode cX0_choose 75 = .ok (.iload 4, 2) := by decide +kernel
theorem dX0_choose_77 : decode cX0_choose 77 = .ok (.iadd, 1) := by decide +kernel
theorem dX0_choose_78 : decode cX0_choose 78 = .ok (.aload_n 0, 1) := by decide +kernel
theorem dX0_choose_79 : decode cX0_choose 79 = .ok (.getfield 39, 3) := by decide +kernel
theorem dX0_choose_82 : decode cX0_choose 82 = .ok (.iload_n 1, 1) := by decide +kernel
theorem dX0_choose_83 : decode cX0_choose 83 = .ok (.iload 6, 2) := by decide +kernel
theorem dX0_choose_85 : decode cX0_choose 85 = .ok (.invokestatic 70, 3) := by decide +kernel
theorem dX0_choose_88 : decode cX0_choose 88 = .ok (.iaload, 1) := by decide +kernel
theorem dX0_choose_89 : decode cX0_choose 89 = .ok (.iadd, 1) := by decide +kernel
theorem dX0_choose_90 : decode cX0_choose 90 = .ok (.istore 7, 2) := by decide +kernel
theorem dX0_choose_92 : decode cX0_choose 92 = .ok (.iload 7, 2) := by decide +kernel
theorem dX0_choose_94 : decode cX0_choose 94 = .ok (.iload_n 2, 1) := by decide +kernel
theorem dX0_choose_95 : decode cX0_choose 95 = .ok (.if_icmp .gt 9, 3) := by decide +kernel
theorem dX0_choose_98 : decode cX0_choose 98 = .ok (.iload 7, 2) := by decide +kernel
theorem dX0_choose_100 : decode cX0_choose 100 = .ok (.istore_n 2, 1) := by decide +kernel
theorem dX0_choose_101 : decode cX0_choose 101 = .ok (.iload 6, 2) := by decide +kernel
theorem dX0_choose_103 : decode cX0_choose 103 = .ok (.istore_n 3, 1) := by decide +kernel
theorem dX0_choose_104 : decode cX0_choose 104 = .ok (.iinc 5 (-1), 3) := by decide +kernel
theorem dX0_choose_107 : decode cX0_choose 107 = .ok (.goto (-88), 3) := by decide +kernel
theorem dX0_choose_110 : decode cX0_choose 110 = .ok (.aload_n 0, 1) := by decide +kernel
theorem dX0_choose_111 : decode cX0_choose 111 = .ok (.getfield 39, 3) := by decide +kernel
theorem dX0_choose_114 : decode cX0_choose 114 = .ok (.iload_n 1, 1) := by decide +kernel
theorem dX0_choose_115 : decode cX0_choose 115 = .ok (.iload_n 2, 1) := by decide +kernel
theorem dX0_choose_116 : decode cX0_choose 116 = .ok (.iastore, 1) := by decide +kernel
theorem dX0_choose_117 : decode cX0_choose 117 = .ok (.aload_n 0, 1) := by decide +kernel
theorem dX0_choose_118 : decode cX0_choose 118 = .ok (.getfield 42, 3) := by decide +kernel
theorem dX0_choose_121 : decode cX0_choose 121 = .ok (.iload_n 1, 1) := by decide +kernel
theorem dX0_choose_122 : decode cX0_choose 122 = .ok (.iload_n 3, 1) := by decide +kernel
theorem dX0_choose_123 : decode cX0_choose 123 = .ok (.iastore, 1) := by decide +kernel
theorem dX0_choose_124 : decode cX0_choose 124 = .ok (.return_, 1) := by decide +kernel
set_option maxRecDepth 20000 in
theorem ggX0_noteCost_J6_bitCount_0f7a4 : GoodIn wsX0_noteCost wsJ6_bitCount_0f7a4 := goodIn_r _ [6, 7, 8, 9] (by decide +kernel) (by decide +kernel)
set_option maxRecDepth 20000 in
theorem gX0_noteCost_J6_bitCount_0f7a4 : GoodIn wsX0_noteCost (va_wsS RX0 89 yJ6_bitCount_0f7a4 wsJ6_bitCount_0f7a4) := goodIn_app (goodIn_of _ (by decide +kernel)) ggX0_noteCost_J6_bitCount_0f7a4
theorem dX0_noteCost_0 : decode cX0_noteCost 0 = .ok (.aload_n 0, 1) := by decide +kernel
theorem dX0_noteCost_1 : decode cX0_noteCost 1 = .ok (.getfield 33, 3) := by decide +kernel
theorem dX0_noteCost_4 : decode cX0_noteCost 4 = .ok (.iload_n 2, 1) := by decide +kernel
theorem dX0_noteCost_5 : decode cX0_noteCost 5 = .ok (.iaload, 1) := by decide +kernel
theorem dX0_noteCost_6 : decode cX0_noteCost 6 = .ok (.aload_n 0, 1) := by decide +kernel
theorem dX0_noteCost_7 : decode cX0_noteCost 7 = .ok (.getfield 36, 3) := by decide +kernel
theorem dX0_noteCost_10 : decode cX0_noteCost 10 = .ok (.iload_n 1, 1) := by decide +kernel
theorem dX0_noteCost_11 : decode cX0_noteCost 11 = .ok (.iaload, 1) := by decide +kernel
theorem dX0_noteCost_12 : decode cX0_noteCost 12 = .ok (.iand, 1) := by decide +kernel
theorem dX0_noteCost_13 : decode cX0_noteCost 13 = .ok (.istore_n 3, 1) := by decide +kernel
theorem dX0_noteCost_14 : decode cX0_noteCost 14 = .ok (.iload_n 3, 1) := by decide +kernel
theorem dX0_noteCost_15 : decode cX0_noteCost 15 = .ok (.ifCond .ne 7, 3) := by decide +kernel
theorem dX0_noteCost_18 : decode cX0_noteCost 18 = .ok (.iconst 0, 1) := by decide +kernel
theorem dX0_noteCost_19 : decode cX0_noteCost 19 = .ok (.goto 10, 3) := by decide +kernel
theorem dX0_noteCost_22 : decode cX0_noteCost 22 = .ok (.iload_n 3, 1) := by decide +kernel
theorem dX0_noteCost_23 : decode cX0_noteCost 23 = .ok (.invokestatic 89, 3) := by decide +kernel
theorem dX0_noteCost_26 : decode cX0_noteCost 26 = .ok (.bipush 64, 2) := by decide +kernel
theorem dX0_noteCost_28 : decode cX0_noteCost 28 = .ok (.imul, 1) := by decide +kernel
theorem dX0_noteCost_29 : decode cX0_noteCost 29 = .ok (.ireturn, 1) := by decide +kernel
set_option maxRecDepth 20000 in
theorem ggX0_writeOrder_X6_with : GoodIn wsX0_writeOrder wsX6_with := goodIn_r _ [7] (by decide +kernel) (by decide +kernel)
set_option maxRecDepth 20000 in
theorem gX0_writeOrder_X6_with_n70 : GoodIn wsX0_writeOrder (wsX6_with) := ggX0_writeOrder_X6_with
theorem dX0_writeOrder_0 : decode cX0_writeOrder 0 = .ok (.iconst 0, 1) := by decide +kernel
theorem dX0_writeOrder_1 : decode cX0_writeOrder 1 = .ok (.istore_n 1, 1) := by decide +kernel
theorem dX0_writeOrder_2 : decode cX0_writeOrder 2 = .ok (.iconst 0, 1) := by decide +kernel
theorem dX0_writeOrder_3 : decode cX0_writeOrder 3 = .ok (.istore_n 2, 1) := by decide +kernel
theorem dX0_writeOrder_4 : decode cX0_writeOrder 4 = .ok (.iload_n 2, 1) := by decide +kernel
theorem dX0_writeOrder_5 : decode cX0_writeOrder 5 = .ok (.aload_n 0, 1) := by decide +kernel
theorem dX0_writeOrder_6 : decode cX0_writeOrder 6 = .ok (.getfield 25, 3) := by decide +kernel
theorem dX0_writeOrder_9 : decode cX0_writeOrder 9 = .ok (.getfield 56, 3) := by decide +kernel
theorem dX0_writeOrder_12 : decode cX0_writeOrder 12 = .ok (.if_icmp .ge 32, 3) := by decide +kernel
theorem dX0_writeOrder_15 : decode cX0_writeOrder 15 = .ok (.aload_n 0, 1) := by decide +kernel
theorem dX0_writeOrder_16 : decode cX0_writeOrder 16 = .ok (.getfield 18, 3) := by decide +kernel
theorem dX0_writeOrder_19 : decode cX0_writeOrder 19 = .ok (.iload_n 2, 1) := by decide +kernel
theorem dX0_writeOrder_20 : decode cX0_writeOrder 20 = .ok (.aload_n 0, 1) := by decide +kernel
theorem dX0_writeOrder_21 : decode cX0_writeOrder 21 = .ok (.getfield 42, 3) := by decide +kernel
theorem dX0_writeOrder_24 : decode cX0_writeOrder 24 = .ok (.iload_n 1, 1) := by decide +kernel
theorem dX0_writeOrder_25 : decode cX0_writeOrder 25 = .ok (.iaload, 1) := by decide +kernel
theorem dX0_writeOrder_26 : decode cX0_writeOrder 26 = .ok (.iastore, 1) := by decide +kernel
theorem dX0_writeOrder_27 : decode cX0_writeOrder 27 = .ok (.iload_n 1, 1) := by decide +kernel
theorem dX0_writeOrder_28 : decode cX0_writeOrder 28 = .ok (.aload_n 0, 1) := by decide +kernel
theorem dX0_writeOrder_29 : decode cX0_writeOrder 29 = .ok (.getfield 18, 3) := by decide +kernel
theorem dX0_writeOrder_32 : decode cX0_writeOrder 32 = .ok (.iload_n 2, 1) := by decide +kernel
theorem dX0_writeOrder_33 : decode cX0_writeOrder 33 = .ok (.iaload, 1) := by decide +kernel
theorem dX0_writeOrder_34 : decode cX0_writeOrder 34 = .ok (.invokestatic 70, 3) := by decide +kernel
theorem dX0_writeOrder_37 : decode cX0_writeOrder 37 = .ok (.istore_n 1, 1) := by decide +kernel
theorem dX0_writeOrder_38 : decode cX0_writeOrder 38 = .ok (.iinc 2 1, 3) := by decide +kernel
theorem dX0_writeOrder_41 : decode cX0_writeOrder 41 = .ok (.goto (-37), 3) := by decide +kernel
theorem dX0_writeOrder_44 : decode cX0_writeOrder 44 = .ok (.return_, 1) := by decide +kernel
theorem dX1_init_0 : decode cX1_init 0 = .ok (.aload_n 0, 1) := by decide +kernel
theorem dX1_init_1 : decode cX1_init 1 = .ok (.invokespecial 3, 3) := by decide +kernel
theorem dX1_init_4 : decode cX1_init 4 = .ok (.aload_n 0, 1) := by decide +kernel
theorem dX1_init_5 : decode cX1_init 5 = .ok (.iconst 0, 1) := by decide +kernel
theorem dX1_init_6 : decode cX1_init 6 = .ok (.putfield 9, 3) := by decide +kernel
theorem dX1_init_9 : decode cX1_init 9 = .ok (.aload_n 0, 1) := by decide +kernel
theorem dX1_init_10 : decode cX1_init 10 = .ok (.bipush 10, 2) := by decide +kernel
theorem dX1_init_12 : decode cX1_init 12 = .ok (.newarray .int, 2) := by decide +kernel
theorem dX1_init_14 : decode cX1_init 14 = .ok (.putfield 15, 3) := by decide +kernel
theorem dX1_init_17 : decode cX1_init 17 = .ok (.aload_n 0, 1) := by decide +kernel
theorem dX1_init_18 : decode cX1_init 18 = .ok (.aload_n 1, 1) := by decide +kernel
theorem dX1_init_19 : decode cX1_init 19 = .ok (.putfield 19, 3) := by decide +kernel
theorem dX1_init_22 : decode cX1_init 22 = .ok (.return_, 1) := by decide +kernel
set_option maxRecDepth 20000 in
theorem ggX1_carryOut_X5_rewind : GoodIn wsX1_carryOut wsX5_rewind := goodIn_r _ [8, 9, 174, 175, 176, 177, 178] (by decide +kernel) (by decide +kernel)
set_option maxRecDepth 20000 in
theorem gX1_carryOut_X5_rewind : GoodIn wsX1_carryOut (wsV RX1 23 RX5 yX5_rewind wsX5_rewind) := goodIn_app (goodIn_of _ (by decide +kernel)) ggX1_carryOut_X5_rewind
set_option maxRecDepth 20000 in
theorem ggX1_carryOut_X5_take : GoodIn wsX1_carryOut wsX5_take := goodIn_r _ [13, 9, 14, 15, 16, 17, 18, 19, 7, 20, 174, 175, 176, 177, 178] (by decide +kernel) (by decide +kernel)
set_option maxRecDepth 20000 in
theorem gX1_carryOut_X5_take : GoodIn wsX1_carryOut (wsV RX1 28 RX5 yX5_take wsX5_take) := goodIn_app (goodIn_of _ (by decide +kernel)) ggX1_carryOut_X5_take
set_option maxRecDepth 20000 in
theorem ggX1_carryOut_X1_readClause : GoodIn wsX1_carryOut wsX1_readClause := goodIn_r _ [25, 1, 26, 27, 28, 7, 29, 17, 9, 16, 15, 30, 31, 32, 33, 34, 35, 36, 37, 38, 39, 40, 41, 42, 43, 44, 45, 46, 47, 48, 49, 50, 51, 52, 53, 54, 55, 56, 57, 58, 59, 60, 61, 62, 63, 64, 65, 66, 67, 68, 69, 70, 71, 72, 73, 74, 75, 76, 77, 78, 79, 80, 81, 24, 82, 83, 84, 85, 86, 10, 11, 12, 13, 14, 18, 19, 20, 87, 88, 89, 90, 91, 92, 93, 94, 95, 96, 97, 98, 99, 100, 101, 102, 103, 104, 105, 106, 107, 108, 109, 110, 111, 112, 113, 114, 115, 116, 117, 118, 119, 120, 121, 122, 123, 124, 125, 126, 127, 128, 129, 130, 131, 132, 133, 134, 135, 136, 137, 138, 139, 140, 141, 142, 143, 144, 145, 146, 147, 148, 149, 150, 151, 152, 153, 154, 155, 156, 157, 158, 159, 160, 161, 162, 171, 172, 173, 174, 175, 176, 177, 178, 179, 180, 181, 182, 183, 184] (by decide +kernel) (by decide +kernel)
set_option maxRecDepth 20000 in
theorem gX1_carryOut_X1_readClause : GoodIn wsX1_carryOut (wsV RX1 31 RX1 yX1_readClause wsX1_readClause) := goodIn_app (goodIn_of _ (by decide +kernel)) ggX1_carryOut_X1_readClause
set_option maxRecDepth 20000 in
theorem ggX1_carryOut_X5_isEnd : GoodIn wsX1_carryOut wsX5_isEnd := goodIn_r _ [166, 17, 174, 175, 176, 177, 178] (by decide +kernel) (by decide +kernel)
set_option maxRecDepth 20000 in
theorem gX1_carryOut_X5_isEnd : GoodIn wsX1_carryOut (wsV RX1 38 RX5 yX5_isEnd wsX5_isEnd) := goodIn_app (goodIn_of _ (by decide +kernel)) ggX1_carryOut_X5_isEnd
set_option maxRecDepth 20000 in
theorem ggX1_carryOut_X5_isSemicolon : GoodIn wsX1_carryOut wsX5_isSemicolon := goodIn_r _ [170, 17, 15, 16, 174, 175, 176, 177, 178] (by decide +kernel) (by decide +kernel)
set_option maxRecDepth 20000 in
theorem gX1_carryOut_X5_isSemicolon : GoodIn wsX1_carryOut (wsV RX1 42 RX5 yX5_isSemicolon wsX5_isSemicolon) := goodIn_app (goodIn_of _ (by decide +kernel)) ggX1_carryOut_X5_isSemicolon
theorem dX1_carryOut_0 : decode cX1_carryOut 0 = .ok (.aload_n 0, 1) := by decide +kernel
theorem dX1_carryOut_1 : decode cX1_carryOut 1 = .ok (.getfield 19, 3) := by decide +kernel
theorem dX1_carryOut_4 : decode cX1_carryOut 4 = .ok (.invokevirtual 23, 3) := by decide +kernel
theorem dX1_carryOut_7 : decode cX1_carryOut 7 = .ok (.iconst 1, 1) := by decide +kernel
theorem dX1_carryOut_8 : decode cX1_carryOut 8 = .ok (.istore_n 2, 1) := by decide +kernel
theorem dX1_carryOut_9 : decode cX1_carryOut 9 = .ok (.iload_n 2, 1) := by decide +kernel
theorem dX1_carryOut_10 : decode cX1_carryOut 10 = .ok (.bipush 24, 2) := by decide +kernel
theorem dX1_carryOut_12 : decode cX1_carryOut 12 = .ok (.if_icmp .gt 74, 3) := by decide +kernel
theorem dX1_carryOut_15 : decode cX1_carryOut 15 = .ok (.aload_n 0, 1) := by decide +kernel
theorem dX1_carryOut_16 : decode cX1_carryOut 16 = .ok (.getfield 19, 3) := by decide +kernel
theorem dX1_carryOut_19 : decode cX1_carryOut 19 = .ok (.invokevirtual 28, 3) := by decide +kernel
theorem dX1_carryOut_22 : decode cX1_carryOut 22 = .ok (.aload_n 0, 1) := by decide +kernel
theorem dX1_carryOut_23 : decode cX1_carryOut 23 = .ok (.aload_n 1, 1) := by decide +kernel
theorem dX1_carryOut_24 : decode cX1_carryOut 24 = .ok (.invokevirtual 31, 3) := by decide +kernel
theorem dX1_carryOut_27 : decode cX1_carryOut 27 = .ok (.ifCond .ne 11, 3) := by decide +kernel
theorem dX1_carryOut_30 : decode cX1_carryOut 30 = .ok (.aload_n 0, 1) := by decide +kernel
theorem dX1_carryOut_31 : decode cX1_carryOut 31 = .ok (.getfield 19, 3) := by decide +kernel
theorem dX1_carryOut_34 : decode cX1_carryOut 34 = .ok (.getfield 35, 3) := by decide +kernel
theorem dX1_carryOut_37 : decode cX1_carryOut 37 = .ok (.ireturn, 1) := by decide +kernel
theorem dX1_carryOut_38 : decode cX1_carryOut 38 = .ok (.aload_n 0, 1) := by decide +kernel
theorem dX1_carryOut_39 : decode cX1_carryOut 39 = .ok (.iload_n 2, 1) := by decide +kernel
theorem dX1_carryOut_40 : decode cX1_carryOut 40 = .ok (.putfield 9, 3) := by decide +kernel
theorem dX1_carryOut_43 : decode cX1_carryOut 43 = .ok (.aload_n 0, 1) := by decide +kernel
theorem dX1_carryOut_44 : decode cX1_carryOut 44 = .ok (.getfield 19, 3) := by decide +kernel
theorem dX1_carryOut_47 : decode cX1_carryOut 47 = .ok (.invokevirtual 28, 3) := by decide +kernel
theorem dX1_carryOut_50 : decode cX1_carryOut 50 = .ok (.aload_n 0, 1) := by decide +kernel
theorem dX1_carryOut_51 : decode cX1_carryOut 51 = .ok (.getfield 19, 3) := by decide +kernel
theorem dX1_carryOut_54 : decode cX1_carryOut 54 = .ok (.invokevirtual 38, 3) := by decide +kernel
theorem dX1_carryOut_57 : decode cX1_carryOut 57 = .ok (.ifCond .eq 5, 3) := by decide +kernel
theorem dX1_carryOut_60 : decode cX1_carryOut 60 = .ok (.iconst (-1), 1) := by decide +kernel
theorem dX1_carryOut_61 : decode cX1_carryOut 61 = .ok (.ireturn, 1) := by decide +kernel
theorem dX1_carryOut_62 : decode cX1_carryOut 62 = .ok (.aload_n 0, 1) := by decide +kernel
theorem dX1_carryOut_63 : decode cX1_carryOut 63 = .ok (.getfield 19, 3) := by decide +kernel
theorem dX1_carryOut_66 : decode cX1_carryOut 66 = .ok (.invokevirtual 42, 3) := by decide +kernel
theorem dX1_carryOut_69 : decode cX1_carryOut 69 = .ok (.ifCond .ne 11, 3) := by decide +kernel
theorem dX1_carryOut_72 : decode cX1_carryOut 72 = .ok (.aload_n 0, 1) := by decide +kernel
theorem dX1_carryOut_73 : decode cX1_carryOut 73 = .ok (.getfield 19, 3) := by decide +kernel
theorem dX1_carryOut_76 : decode cX1_carryOut 76 = .ok (.getfield 35, 3) := by decide +kernel
theorem dX1_carryOut_79 : decode cX1_carryOut 79 = .ok (.ireturn, 1) := by decide +kernel
theorem dX1_carryOut_80 : decode cX1_carryOut 80 = .ok (.iinc 2 1, 3) := by decide +kernel
theorem dX1_carryOut_83 : decode cX1_carryOut 83 = .ok (.goto (-74), 3) := by decide +kernel
theorem dX1_carryOut_86 : decode cX1_carryOut 86 = .ok (.aload_n 0, 1) := by decide +kernel
theorem dX1_carryOut_87 : decode cX1_carryOut 87 = .ok (.getfield 19, 3) := by decide +kernel
theorem dX1_carryOut_90 : decode cX1_carryOut 90 = .ok (.getfield 35, 3) := by decide +kernel
theorem dX1_carryOut_93 : decode cX1_carryOut 93 = .ok (.ireturn, 1) := by decide +kernel
set_option maxRecDepth 20000 in
theorem ggX1_readClause_X5_isWord : GoodIn wsX1_readClause wsX5_isWord := goodIn_r _ [6, 7, 8, 9, 10, 11, 12, 13, 14, 15, 16, 17, 18, 19, 20, 21, 22, 23, 24, 25, 26, 27, 28, 29, 30, 31, 32, 33, 34, 35, 36, 37, 38, 39, 40, 41, 42, 43, 44, 45, 46, 47, 48, 49, 50, 51, 52, 53, 54, 55, 56, 57, 58, 59, 156, 157, 158, 159, 160] (by decide +kernel) (by decide +kernel)
set_option maxRecDepth 20000 in
theorem gX1_readClause_X5_isWord : GoodIn wsX1_readClause (wsV RX1 47 RX5 yX5_isWord wsX5_isWord) := goodIn_app (goodIn_of _ (by decide +kernel)) ggX1_readClause_X5_isWord
set_option maxRecDepth 20000 in
theorem ggX1_readClause_X1_readSections : GoodIn wsX1_readClause wsX1_readSections := goodIn_r _ [64, 65, 66, 67, 63, 68, 1, 69, 70, 71, 5, 72, 8, 73, 10, 9, 7, 74, 75, 76, 77, 78, 79, 80, 81, 82, 83, 84, 85, 86, 87, 88, 89, 90, 91, 153, 154, 155, 156, 157, 158, 159, 160, 161, 162, 163, 164, 165, 166] (by decide +kernel) (by decide +kernel)
set_option maxRecDepth 20000 in
theorem gX1_readClause_X1_readSections : GoodIn wsX1_readClause (wsV RX1 51 RX1 yX1_readSections wsX1_readSections) := goodIn_app (goodIn_of _ (by decide +kernel)) ggX1_readClause_X1_readSections
set_option maxRecDepth 20000 in
theorem ggX1_readClause_X1_readPages : GoodIn wsX1_readClause wsX1_readPages := goodIn_r _ [95, 96, 97, 98, 99, 63, 100, 1, 101, 69, 70, 71, 5, 72, 8, 73, 10, 9, 7, 74, 75, 76, 77, 78, 79, 80, 65, 66, 67, 68, 161, 162, 163, 164, 165, 166, 153, 154, 155, 156, 157, 158, 159, 160] (by decide +kernel) (by decide +kernel)
set_option maxRecDepth 20000 in
theorem gX1_readClause_X1_readPages : GoodIn wsX1_readClause (wsV RX1 56 RX1 yX1_readPages wsX1_readPages) := goodIn_app (goodIn_of _ (by decide +kernel)) ggX1_readClause_X1_readPages
set_option maxRecDepth 20000 in
theorem ggX1_readClause_X1_readHome : GoodIn wsX1_readClause wsX1_readHome := goodIn_r _ [105, 1, 106, 69, 70, 71, 5, 72, 8, 73, 10, 9, 7, 74, 75, 76, 107, 108, 109, 110, 111, 112, 113, 97, 98, 99, 63, 100, 101, 77, 78, 79, 80, 153, 154, 155, 161, 162, 163, 164, 165, 166, 156, 157, 158, 159, 160] (by decide +kernel) (by decide +kernel)
set_option maxRecDepth 20000 in
theorem gX1_readClause_X1_readHome : GoodIn wsX1_readClause (wsV RX1 61 RX1 yX1_readHome wsX1_readHome) := goodIn_app (goodIn_of _ (by decide +kernel)) ggX1_readClause_X1_readHome
set_option maxRecDepth 20000 in
theorem ggX1_readClause_X1_readUses : GoodIn wsX1_readClause wsX1_readUses := goodIn_r _ [117, 1, 118, 97, 98, 99, 63, 100, 101, 69, 70, 71, 5, 72, 8, 73, 10, 9, 7, 74, 75, 76, 77, 78, 79, 80, 119, 120, 121, 122, 111, 112, 113, 123, 124, 153, 154, 155, 161, 162, 163, 164, 165, 166, 156, 157, 158, 159, 160] (by decide +kernel) (by decide +kernel)
set_option maxRecDepth 20000 in
theorem gX1_readClause_X1_readUses : GoodIn wsX1_readClause (wsV RX1 66 RX1 yX1_readUses wsX1_readUses) := goodIn_app (goodIn_of _ (by decide +kernel)) ggX1_readClause_X1_readUses
set_option maxRecDepth 20000 in
theorem ggX1_readClause_X1_readAhead : GoodIn wsX1_readClause wsX1_readAhead := goodIn_r _ [128, 129, 97, 98, 99, 63, 100, 1, 101, 69, 70, 71, 5, 72, 8, 73, 10, 9, 7, 74, 75, 76, 77, 78, 79, 80, 130, 131, 132, 84, 133, 90, 134, 135, 136, 137, 86, 89, 138, 112, 139, 123, 124, 161, 162, 163, 164, 165, 166, 153, 154, 155, 156, 157, 158, 159, 160] (by decide +kernel) (by decide +kernel)
set_option maxRecDepth 20000 in
theorem gX1_readClause_X1_readAhead : GoodIn wsX1_readClause (wsV RX1 71 RX1 yX1_readAhead wsX1_readAhead) := goodIn_app (goodIn_of _ (by decide +kernel)) ggX1_readClause_X1_readAhead
set_option maxRecDepth 20000 in
theorem ggX1_readClause_X1_readOrder : GoodIn wsX1_readClause wsX1_readOrder := goodIn_r _ [143, 101, 144, 97, 98, 99, 63, 100, 1, 69, 70, 71, 5, 72, 8, 73, 10, 9, 7, 74, 75, 76, 77, 78, 79, 80, 138, 112, 139, 123, 124, 145, 146, 147, 84, 148, 86, 90, 149, 150, 151, 152, 89, 161, 162, 163, 164, 165, 166, 153, 154, 155, 156, 157, 158, 159, 160] (by decide +kernel) (by decide +kernel)
set_option maxRecDepth 20000 in
theorem gX1_readClause_X1_readOrder : GoodIn wsX1_readClause (wsV RX1 76 RX1 yX1_readOrder wsX1_readOrder) := goodIn_app (goodIn_of _ (by decide +kernel)) ggX1_readClause_X1_readOrder
theorem dX1_readClause_0 : decode cX1_readClause 0 = .ok (.aload_n 0, 1) := by decide +kernel
theorem dX1_readClause_1 : decode cX1_readClause 1 = .ok (.getfield 19, 3) := by decide +kernel
theorem dX1_readClause_4 : decode cX1_readClause 4 = .ok (.ldc 45, 2) := by decide +kernel
theorem dX1_readClause_6 : decode cX1_readClause 6 = .ok (.invokevirtual 47, 3) := by decide +kernel
theorem dX1_readClause_9 : decode cX1_readClause 9 = .ok (.ifCond .eq 9, 3) := by decide +kernel
theorem dX1_readClause_12 : decode cX1_readClause 12 = .ok (.aload_n 0, 1) := by decide +kernel
theorem dX1_readClause_13 : decode cX1_readClause 13 = .ok (.aload_n 1, 1) := by decide +kernel
theorem dX1_readClause_14 : decode cX1_readClause 14 = .ok (.invokevirtual 51, 3) := by decide +kernel
theorem dX1_readClause_17 : decode cX1_readClause 17 = .ok (.ireturn, 1) := by decide +kernel
theorem dX1_readClause_18 : decode cX1_readClause 18 = .ok (.aload_n 0, 1) := by decide +kernel
theorem dX1_readClause_19 : decode cX1_readClause 19 = .ok (.getfield 19, 3) := by decide +kernel
theorem dX1_readClause_22 : decode cX1_readClause 22 = .ok (.ldc 54, 2) := by decide +kernel
theorem dX1_readClause_24 : decode cX1_readClause 24 = .ok (.invokevirtual 47, 3) := by decide +kernel
theorem dX1_readClause_27 : decode cX1_readClause 27 = .ok (.ifCond .eq 9, 3) := by decide +kernel
theorem dX1_readClause_30 : decode cX1_readClause 30 = .ok (.aload_n 0, 1) := by decide +kernel
theorem dX1_readClause_31 : decode cX1_readClause 31 = .ok (.aload_n 1, 1) := by decide +kernel
theorem dX1_readClause_32 : decode cX1_readClause 32 = .ok (.invokevirtual 56, 3) := by decide +kernel
theorem dX1_readClause_35 : decode cX1_readClause 35 = .ok (.ireturn, 1) := by decide +kernel
theorem dX1_readClause_36 : decode cX1_readClause 36 = .ok (.aload_n 0, 1) := by decide +kernel
theorem dX1_readClause_37 : decode cX1_readClause 37 = .ok (.getfield 19, 3) := by decide +kernel
theorem dX1_readClause_40 : decode cX1_readClause 40 = .ok (.ldc 59, 2) := by decide +kernel
theorem dX1_readClause_42 : decode cX1_readClause 42 = .ok (.invokevirtual 47, 3) := by decide +kernel
theorem dX1_readClause_45 : decode cX1_readClause 45 = .ok (.ifCond .eq 9, 3) := by decide +kernel
theorem dX1_readClause_48 : decode cX1_readClause 48 = .ok (.aload_n 0, 1) := by decide +kernel
theorem dX1_readClause_49 : decode cX1_readClause 49 = .ok (.aload_n 1, 1) := by decide +kernel
theorem dX1_readClause_50 : decode cX1_readClause 50 = .ok (.invokevirtual 61, 3) := by decide +kernel
theorem dX1_readClause_53 : decode cX1_readClause 53 = .ok (.ireturn, 1) := by decide +kernel
theorem dX1_readClause_54 : decode cX1_readClause 54 = .ok (.aload_n 0, 1) := by decide +kernel
theorem dX1_readClause_55 : decode cX1_readClause 55 = .ok (.getfield 19, 3) := by decide +kernel
theorem dX1_readClause_58 : decode cX1_readClause 58 = .ok (.ldc 64, 2) := by decide +kernel
theorem dX1_readClause_60 : decode cX1_readClause 60 = .ok (.invokevirtual 47, 3) := by decide +kernel
theorem dX1_readClause_63 : decode cX1_readClause 63 = .ok (.ifCond .eq 9, 3) := by decide +kernel
theorem dX1_readClause_66 : decode cX1_readClause 66 = .ok (.aload_n 0, 1) := by decide +kernel
theorem dX1_readClause_67 : decode cX1_readClause 67 = .ok (.aload_n 1, 1) := by decide +kernel
theorem dX1_readClause_68 : decode cX1_readClause 68 = .ok (.invokevirtual 66, 3) := by decide +kernel
theorem dX1_readClause_71 : decode cX1_readClause 71 = .ok (.ireturn, 1) := by decide +kernel
theorem dX1_readClause_72 : decode cX1_readClause 72 = .ok (.aload_n 0, 1) := by decide +kernel
theorem dX1_readClause_73 : decode cX1_readClause 73 = .ok (.getfield 19, 3) := by decide +kernel
theorem dX1_readClause_76 : decode cX1_readClause 76 = .ok (.ldc 69, 2) := by decide +kernel
theorem dX1_readClause_78 : decode cX1_readClause 78 = .ok (.invokevirtual 47, 3) := by decide +kernel
theorem dX1_readClause_81 : decode cX1_readClause 81 = .ok (.ifCond .eq 9, 3) := by decide +kernel
theorem dX1_readClause_84 : decode cX1_readClause 84 = .ok (.aload_n 0, 1) := by decide +kernel
theorem dX1_readClause_85 : decode cX1_readClause 85 = .ok (.aload_n 1, 1) := by decide +kernel
theorem dX1_readClause_86 : decode cX1_readClause 86 = .ok (.invokevirtual 71, 3) := by decide +kernel
theorem dX1_readClause_89 : decode cX1_readClause 89 = .ok (.ireturn, 1) := by decide +kernel
theorem dX1_readClause_90 : decode cX1_readClause 90 = .ok (.aload_n 0, 1) := by decide +kernel
theorem dX1_readClause_91 : decode cX1_readClause 91 = .ok (.getfield 19, 3) := by decide +kernel
theorem dX1_readClause_94 : decode cX1_readClause 94 = .ok (.ldc 74, 2) := by decide +kernel
theorem dX1_readClause_96 : decode cX1_readClause 96 = .ok (.invokevirtual 47, 3) := by decide +kernel
theorem dX1_readClause_99 : decode cX1_readClause 99 = .ok (.ifCond .eq 9, 3) := by decide +kernel
theorem dX1_readClause_102 : decode cX1_readClause 102 = .ok (.aload_n 0, 1) := by decide +kernel
theorem dX1_readClause_103 : decode cX1_readClause 103 = .ok (.aload_n 1, 1) := by decide +kernel
theorem dX1_readClause_104 : decode cX1_readClause 104 = .ok (.invokevirtual 76, 3) := by decide +kernel
theorem dX1_readClause_107 : decode cX1_readClause 107 = .ok (.ireturn, 1) := by decide +kernel
theorem dX1_readClause_108 : decode cX1_readClause 108 = .ok (.iconst 0, 1) := by decide +kernel
theorem dX1_readClause_109 : decode cX1_readClause 109 = .ok (.ireturn, 1) := by decide +kernel
set_option maxRecDepth 20000 in
theorem ggX1_takeNumber_X5_take : GoodIn wsX1_takeNumber wsX5_take := goodIn_r _ [6, 7, 8, 9, 10, 11, 12, 13, 5, 14, 22, 23, 24, 25, 26] (by decide +kernel) (by decide +kernel)
set_option maxRecDepth 20000 in
theorem gX1_takeNumber_X5_take : GoodIn wsX1_takeNumber (wsV RX1 28 RX5 yX5_take wsX5_take) := goodIn_app (goodIn_of _ (by decide +kernel)) ggX1_takeNumber_X5_take
set_option maxRecDepth 20000 in
theorem ggX1_takeNumber_X5_asNumber : GoodIn wsX1_takeNumber wsX5_asNumber := goodIn_r _ [18, 11, 7, 10, 9, 22, 23, 24, 25, 26] (by decide +kernel) (by decide +kernel)
set_option maxRecDepth 20000 in
theorem gX1_takeNumber_X5_asNumber : GoodIn wsX1_takeNumber (wsV RX1 79 RX5 yX5_asNumber wsX5_asNumber) := goodIn_app (goodIn_of _ (by decide +kernel)) ggX1_takeNumber_X5_asNumber
theorem dX1_takeNumber_0 : decode cX1_takeNumber 0 = .ok (.aload_n 0, 1) := by decide +kernel
theorem dX1_takeNumber_1 : decode cX1_takeNumber 1 = .ok (.getfield 19, 3) := by decide +kernel
theorem dX1_takeNumber_4 : decode cX1_takeNumber 4 = .ok (.invokevirtual 28, 3) := by decide +kernel
theorem dX1_takeNumber_7 : decode cX1_takeNumber 7 = .ok (.aload_n 0, 1) := by decide +kernel
theorem dX1_takeNumber_8 : decode cX1_takeNumber 8 = .ok (.getfield 19, 3) := by decide +kernel
theorem dX1_takeNumber_11 : decode cX1_takeNumber 11 = .ok (.iload_n 1, 1) := by decide +kernel
theorem dX1_takeNumber_12 : decode cX1_takeNumber 12 = .ok (.iload_n 2, 1) := by decide +kernel
theorem dX1_takeNumber_13 : decode cX1_takeNumber 13 = .ok (.invokevirtual 79, 3) := by decide +kernel
theorem dX1_takeNumber_16 : decode cX1_takeNumber 16 = .ok (.ireturn, 1) := by decide +kernel
set_option maxRecDepth 20000 in
theorem ggX1_takeSection_X5_take : GoodIn wsX1_takeSection wsX5_take := goodIn_r _ [7, 8, 9, 10, 11, 12, 13, 14, 6, 15, 29, 30, 31, 32, 33] (by decide +kernel) (by decide +kernel)
set_option maxRecDepth 20000 in
theorem gX1_takeSection_X5_take : GoodIn wsX1_takeSection (wsV RX1 28 RX5 yX5_take wsX5_take) := goodIn_app (goodIn_of _ (by decide +kernel)) ggX1_takeSection_X5_take
set_option maxRecDepth 20000 in
theorem ggX1_takeSection_X5_asNumber : GoodIn wsX1_takeSection wsX5_asNumber := goodIn_r _ [19, 12, 8, 11, 10, 29, 30, 31, 32, 33] (by decide +kernel) (by decide +kernel)
set_option maxRecDepth 20000 in
theorem gX1_takeSection_X5_asNumber : GoodIn wsX1_takeSection (wsV RX1 79 RX5 yX5_asNumber wsX5_asNumber) := goodIn_app (goodIn_of _ (by decide +kernel)) ggX1_takeSection_X5_asNumber
theorem dX1_takeSection_0 : decode cX1_takeSection 0 = .ok (.aload_n 0, 1) := by decide +kernel
theorem dX1_takeSection_1 : decode cX1_takeSection 1 = .ok (.getfield 19, 3) := by decide +kernel
theorem dX1_takeSection_4 : decode cX1_takeSection 4 = .ok (.invokevirtual 28, 3) := by decide +kernel
theorem dX1_takeSection_7 : decode cX1_takeSection 7 = .ok (.aload_n 0, 1) := by decide +kernel
theorem dX1_takeSection_8 : decode cX1_takeSection 8 = .ok (.getfield 19, 3) := by decide +kernel
theorem dX1_takeSection_11 : decode cX1_takeSection 11 = .ok (.iconst 0, 1) := by decide +kernel
theorem dX1_takeSection_12 : decode cX1_takeSection 12 = .ok (.aload_n 1, 1) := by decide +kernel
theorem dX1_takeSection_13 : decode cX1_takeSection 13 = .ok (.getfield 83, 3) := by decide +kernel
theorem dX1_takeSection_16 : decode cX1_takeSection 16 = .ok (.iconst 1, 1) := by decide +kernel
theorem dX1_takeSection_17 : decode cX1_takeSection 17 = .ok (.isub, 1) := by decide +kernel
theorem dX1_takeSection_18 : decode cX1_takeSection 18 = .ok (.invokevirtual 79, 3) := by decide +kernel
theorem dX1_takeSection_21 : decode cX1_takeSection 21 = .ok (.ireturn, 1) := by decide +kernel
set_option maxRecDepth 20000 in
theorem ggX1_readSections_X1_takeNumber : GoodIn wsX1_readSections wsX1_takeNumber := goodIn_r _ [5, 6, 7, 8, 9, 10, 11, 12, 13, 14, 15, 16, 17, 18, 19, 20, 21, 22, 23, 35, 36, 37, 38, 39, 40, 41, 42] (by decide +kernel) (by decide +kernel)
set_option maxRecDepth 20000 in
theorem gX1_readSections_X1_takeNumber : GoodIn wsX1_readSections (wsV RX1 88 RX1 yX1_takeNumber wsX1_takeNumber) := goodIn_app (goodIn_of _ (by decide +kernel)) ggX1_readSections_X1_takeNumber
set_option maxRecDepth 20000 in
theorem ggX1_readSections_X3_beginAnew : GoodIn wsX1_readSections wsX3_beginAnew := goodIn_r _ [28, 29, 30, 31, 32, 33, 34, 43, 44, 45, 46, 47, 48] (by decide +kernel) (by decide +kernel)
set_option maxRecDepth 20000 in
theorem gX1_readSections_X3_beginAnew : GoodIn wsX1_readSections (wsV RX1 91 RX3 yX3_beginAnew wsX3_beginAnew) := goodIn_app (goodIn_of _ (by decide +kernel)) ggX1_readSections_X3_beginAnew
theorem dX1_readSections_0 : decode cX1_readSections 0 = .ok (.aload_n 0, 1) := by decide +kernel
theorem dX1_readSections_1 : decode cX1_readSections 1 = .ok (.iconst 2, 1) := by decide +kernel
theorem dX1_readSections_2 : decode cX1_readSections 2 = .ok (.bipush 10, 2) := by decide +kernel
theorem dX1_readSections_4 : decode cX1_readSections 4 = .ok (.invokevirtual 88, 3) := by decide +kernel
theorem dX1_readSections_7 : decode cX1_readSections 7 = .ok (.istore_n 2, 1) := by decide +kernel
theorem dX1_readSections_8 : decode cX1_readSections 8 = .ok (.iload_n 2, 1) := by decide +kernel
theorem dX1_readSections_9 : decode cX1_readSections 9 = .ok (.iconst (-1), 1) := by decide +kernel
theorem dX1_readSections_10 : decode cX1_readSections 10 = .ok (.if_icmp .ne 5, 3) := by decide +kernel
theorem dX1_readSections_13 : decode cX1_readSections 13 = .ok (.iconst 0, 1) := by decide +kernel
theorem dX1_readSections_14 : decode cX1_readSections 14 = .ok (.ireturn, 1) := by decide +kernel
theorem dX1_readSections_15 : decode cX1_readSections 15 = .ok (.aload_n 1, 1) := by decide +kernel
theorem dX1_readSections_16 : decode cX1_readSections 16 = .ok (.iload_n 2, 1) := by decide +kernel
theorem dX1_readSections_17 : decode cX1_readSections 17 = .ok (.invokevirtual 91, 3) := by decide +kernel
theorem dX1_readSections_20 : decode cX1_readSections 20 = .ok (.iconst 1, 1) := by decide +kernel
theorem dX1_readSections_21 : decode cX1_readSections 21 = .ok (.ireturn, 1) := by decide +kernel
set_option maxRecDepth 20000 in
theorem ggX1_readPages_X1_takeSection : GoodIn wsX1_readPages wsX1_takeSection := goodIn_r _ [6, 7, 8, 9, 10, 11, 12, 13, 14, 15, 16, 17, 18, 19, 20, 21, 22, 23, 24, 25, 36, 37, 38, 30, 31, 32, 33, 34, 35, 39, 40, 41, 42, 43] (by decide +kernel) (by decide +kernel)
set_option maxRecDepth 20000 in
theorem gX1_readPages_X1_takeSection : GoodIn wsX1_readPages (wsV RX1 95 RX1 yX1_takeSection wsX1_takeSection) := goodIn_app (goodIn_of _ (by decide +kernel)) ggX1_readPages_X1_takeSection
set_option maxRecDepth 20000 in
theorem ggX1_readPages_X1_takeNumber : GoodIn wsX1_readPages wsX1_takeNumber := goodIn_r _ [29, 7, 9, 10, 11, 12, 13, 14, 15, 16, 17, 18, 19, 20, 21, 22, 23, 24, 25, 36, 37, 38, 39, 40, 41, 42, 43] (by decide +kernel) (by decide +kernel)
set_option maxRecDepth 20000 in
theorem gX1_readPages_X1_takeNumber : GoodIn wsX1_readPages (wsV RX1 88 RX1 yX1_takeNumber wsX1_takeNumber) := goodIn_app (goodIn_of _ (by decide +kernel)) ggX1_readPages_X1_takeNumber
theorem dX1_readPages_0 : decode cX1_readPages 0 = .ok (.aload_n 0, 1) := by decide +kernel
theorem dX1_readPages_1 : decode cX1_readPages 1 = .ok (.aload_n 1, 1) := by decide +kernel
theorem dX1_readPages_2 : decode cX1_readPages 2 = .ok (.invokevirtual 95, 3) := by decide +kernel
theorem dX1_readPages_5 : decode cX1_readPages 5 = .ok (.istore_n 2, 1) := by decide +kernel
theorem dX1_readPages_6 : decode cX1_readPages 6 = .ok (.iload_n 2, 1) := by decide +kernel
theorem dX1_readPages_7 : decode cX1_readPages 7 = .ok (.iconst (-1), 1) := by decide +kernel
theorem dX1_readPages_8 : decode cX1_readPages 8 = .ok (.if_icmp .ne 5, 3) := by decide +kernel
theorem dX1_readPages_11 : decode cX1_readPages 11 = .ok (.iconst 0, 1) := by decide +kernel
theorem dX1_readPages_12 : decode cX1_readPages 12 = .ok (.ireturn, 1) := by decide +kernel
theorem dX1_readPages_13 : decode cX1_readPages 13 = .ok (.aload_n 0, 1) := by decide +kernel
theorem dX1_readPages_14 : decode cX1_readPages 14 = .ok (.iconst 1, 1) := by decide +kernel
theorem dX1_readPages_15 : decode cX1_readPages 15 = .ok (.bipush 9, 2) := by decide +kernel
theorem dX1_readPages_17 : decode cX1_readPages 17 = .ok (.invokevirtual 88, 3) := by decide +kernel
theorem dX1_readPages_20 : decode cX1_readPages 20 = .ok (.istore_n 3, 1) := by decide +kernel
theorem dX1_readPages_21 : decode cX1_readPages 21 = .ok (.iload_n 3, 1) := by decide +kernel
theorem dX1_readPages_22 : decode cX1_readPages 22 = .ok (.iconst (-1), 1) := by decide +kernel
theorem dX1_readPages_23 : decode cX1_readPages 23 = .ok (.if_icmp .ne 5, 3) := by decide +kernel
theorem dX1_readPages_26 : decode cX1_readPages 26 = .ok (.iconst 0, 1) := by decide +kernel
theorem dX1_readPages_27 : decode cX1_readPages 27 = .ok (.ireturn, 1) := by decide +kernel
theorem dX1_readPages_28 : decode cX1_readPages 28 = .ok (.aload_n 1, 1) := by decide +kernel
theorem dX1_readPages_29 : decode cX1_readPages 29 = .ok (.getfield 99, 3) := by decide +kernel
theorem dX1_readPages_32 : decode cX1_readPages 32 = .ok (.iload_n 2, 1) := by decide +kernel
theorem dX1_readPages_33 : decode cX1_readPages 33 = .ok (.iload_n 3, 1) := by decide +kernel
theorem dX1_readPages_34 : decode cX1_readPages 34 = .ok (.iastore, 1) := by decide +kernel
theorem dX1_readPages_35 : decode cX1_readPages 35 = .ok (.iconst 1, 1) := by decide +kernel
theorem dX1_readPages_36 : decode cX1_readPages 36 = .ok (.ireturn, 1) := by decide +kernel
set_option maxRecDepth 20000 in
theorem ggX1_readHome_X5_take : GoodIn wsX1_readHome wsX5_take := goodIn_r _ [7, 8, 9, 10, 11, 12, 13, 14, 6, 15, 42, 43, 44, 45, 46] (by decide +kernel) (by decide +kernel)
set_option maxRecDepth 20000 in
theorem gX1_readHome_X5_take : GoodIn wsX1_readHome (wsV RX1 28 RX5 yX5_take wsX5_take) := goodIn_app (goodIn_of _ (by decide +kernel)) ggX1_readHome_X5_take
set_option maxRecDepth 20000 in
theorem ggX1_readHome_X5_asTerm : GoodIn wsX1_readHome wsX5_asTerm := goodIn_r _ [19, 12, 8, 11, 10, 20, 21, 22, 42, 43, 44, 45, 46] (by decide +kernel) (by decide +kernel)
set_option maxRecDepth 20000 in
theorem gX1_readHome_X5_asTerm : GoodIn wsX1_readHome (wsV RX1 102 RX5 yX5_asTerm wsX5_asTerm) := goodIn_app (goodIn_of _ (by decide +kernel)) ggX1_readHome_X5_asTerm
set_option maxRecDepth 20000 in
theorem ggX1_readHome_X1_takeSection : GoodIn wsX1_readHome wsX1_takeSection := goodIn_r _ [27, 1, 28, 3, 4, 5, 6, 7, 8, 9, 10, 11, 12, 13, 14, 15, 29, 30, 31, 32, 33, 34, 35, 36, 37, 38, 39, 40, 41, 42, 43, 44, 45, 46] (by decide +kernel) (by decide +kernel)
set_option maxRecDepth 20000 in
theorem gX1_readHome_X1_takeSection : GoodIn wsX1_readHome (wsV RX1 95 RX1 yX1_takeSection wsX1_takeSection) := goodIn_app (goodIn_of _ (by decide +kernel)) ggX1_readHome_X1_takeSection
theorem dX1_readHome_0 : decode cX1_readHome 0 = .ok (.aload_n 0, 1) := by decide +kernel
theorem dX1_readHome_1 : decode cX1_readHome 1 = .ok (.getfield 19, 3) := by decide +kernel
theorem dX1_readHome_4 : decode cX1_readHome 4 = .ok (.invokevirtual 28, 3) := by decide +kernel
theorem dX1_readHome_7 : decode cX1_readHome 7 = .ok (.aload_n 0, 1) := by decide +kernel
theorem dX1_readHome_8 : decode cX1_readHome 8 = .ok (.getfield 19, 3) := by decide +kernel
theorem dX1_readHome_11 : decode cX1_readHome 11 = .ok (.invokevirtual 102, 3) := by decide +kernel
theorem dX1_readHome_14 : decode cX1_readHome 14 = .ok (.istore_n 2, 1) := by decide +kernel
theorem dX1_readHome_15 : decode cX1_readHome 15 = .ok (.iload_n 2, 1) := by decide +kernel
theorem dX1_readHome_16 : decode cX1_readHome 16 = .ok (.iconst (-1), 1) := by decide +kernel
theorem dX1_readHome_17 : decode cX1_readHome 17 = .ok (.if_icmp .ne 5, 3) := by decide +kernel
theorem dX1_readHome_20 : decode cX1_readHome 20 = .ok (.iconst 0, 1) := by decide +kernel
theorem dX1_readHome_21 : decode cX1_readHome 21 = .ok (.ireturn, 1) := by decide +kernel
theorem dX1_readHome_22 : decode cX1_readHome 22 = .ok (.aload_n 0, 1) := by decide +kernel
theorem dX1_readHome_23 : decode cX1_readHome 23 = .ok (.aload_n 1, 1) := by decide +kernel
theorem dX1_readHome_24 : decode cX1_readHome 24 = .ok (.invokevirtual 95, 3) := by decide +kernel
theorem dX1_readHome_27 : decode cX1_readHome 27 = .ok (.istore_n 3, 1) := by decide +kernel
theorem dX1_readHome_28 : decode cX1_readHome 28 = .ok (.iload_n 3, 1) := by decide +kernel
theorem dX1_readHome_29 : decode cX1_readHome 29 = .ok (.iconst (-1), 1) := by decide +kernel
theorem dX1_readHome_30 : decode cX1_readHome 30 = .ok (.if_icmp .ne 5, 3) := by decide +kernel
theorem dX1_readHome_33 : decode cX1_readHome 33 = .ok (.iconst 0, 1) := by decide +kernel
theorem dX1_readHome_34 : decode cX1_readHome 34 = .ok (.ireturn, 1) := by decide +kernel
theorem dX1_readHome_35 : decode cX1_readHome 35 = .ok (.aload_n 1, 1) := by decide +kernel
theorem dX1_readHome_36 : decode cX1_readHome 36 = .ok (.getfield 106, 3) := by decide +kernel
theorem dX1_readHome_39 : decode cX1_readHome 39 = .ok (.iload_n 2, 1) := by decide +kernel
theorem dX1_readHome_40 : decode cX1_readHome 40 = .ok (.iload_n 3, 1) := by decide +kernel
theorem dX1_readHome_41 : decode cX1_readHome 41 = .ok (.iastore, 1) := by decide +kernel
theorem dX1_readHome_42 : decode cX1_readHome 42 = .ok (.iconst 1, 1) := by decide +kernel
theorem dX1_readHome_43 : decode cX1_readHome 43 = .ok (.ireturn, 1) := by decide +kernel
set_option maxRecDepth 20000 in
theorem ggX1_readUses_X1_takeSection : GoodIn wsX1_readUses wsX1_takeSection := goodIn_r _ [7, 1, 8, 9, 10, 11, 12, 13, 14, 15, 16, 17, 18, 19, 20, 21, 22, 23, 24, 25, 35, 36, 37, 38, 39, 40, 41, 42, 43, 44, 45, 46, 47, 48] (by decide +kernel) (by decide +kernel)
set_option maxRecDepth 20000 in
theorem gX1_readUses_X1_takeSection : GoodIn wsX1_readUses (wsV RX1 95 RX1 yX1_takeSection wsX1_takeSection) := goodIn_app (goodIn_of _ (by decide +kernel)) ggX1_readUses_X1_takeSection
set_option maxRecDepth 20000 in
theorem ggX1_readUses_X5_take : GoodIn wsX1_readUses wsX5_take := goodIn_r _ [13, 14, 15, 16, 17, 18, 19, 20, 12, 21, 44, 45, 46, 47, 48] (by decide +kernel) (by decide +kernel)
set_option maxRecDepth 20000 in
theorem gX1_readUses_X5_take : GoodIn wsX1_readUses (wsV RX1 28 RX5 yX5_take wsX5_take) := goodIn_app (goodIn_of _ (by decide +kernel)) ggX1_readUses_X5_take
set_option maxRecDepth 20000 in
theorem ggX1_readUses_X5_asTerms : GoodIn wsX1_readUses wsX5_asTerms := goodIn_r _ [29, 18, 14, 17, 16, 30, 31, 32, 33, 34, 44, 45, 46, 47, 48] (by decide +kernel) (by decide +kernel)
set_option maxRecDepth 20000 in
theorem gX1_readUses_X5_asTerms : GoodIn wsX1_readUses (wsV RX1 109 RX5 yX5_asTerms wsX5_asTerms) := goodIn_app (goodIn_of _ (by decide +kernel)) ggX1_readUses_X5_asTerms
theorem dX1_readUses_0 : decode cX1_readUses 0 = .ok (.aload_n 0, 1) := by decide +kernel
theorem dX1_readUses_1 : decode cX1_readUses 1 = .ok (.aload_n 1, 1) := by decide +kernel
theorem dX1_readUses_2 : decode cX1_readUses 2 = .ok (.invokevirtual 95, 3) := by decide +kernel
theorem dX1_readUses_5 : decode cX1_readUses 5 = .ok (.istore_n 2, 1) := by decide +kernel
theorem dX1_readUses_6 : decode cX1_readUses 6 = .ok (.iload_n 2, 1) := by decide +kernel
theorem dX1_readUses_7 : decode cX1_readUses 7 = .ok (.iconst (-1), 1) := by decide +kernel
theorem dX1_readUses_8 : decode cX1_readUses 8 = .ok (.if_icmp .ne 5, 3) := by decide +kernel
theorem dX1_readUses_11 : decode cX1_readUses 11 = .ok (.iconst 0, 1) := by decide +kernel
theorem dX1_readUses_12 : decode cX1_readUses 12 = .ok (.ireturn, 1) := by decide +kernel
theorem dX1_readUses_13 : decode cX1_readUses 13 = .ok (.aload_n 0, 1) := by decide +kernel
theorem dX1_readUses_14 : decode cX1_readUses 14 = .ok (.getfield 19, 3) := by decide +kernel
theorem dX1_readUses_17 : decode cX1_readUses 17 = .ok (.invokevirtual 28, 3) := by decide +kernel
theorem dX1_readUses_20 : decode cX1_readUses 20 = .ok (.aload_n 0, 1) := by decide +kernel
theorem dX1_readUses_21 : decode cX1_readUses 21 = .ok (.getfield 19, 3) := by decide +kernel
theorem dX1_readUses_24 : decode cX1_readUses 24 = .ok (.invokevirtual 109, 3) := by decide +kernel
theorem dX1_readUses_27 : decode cX1_readUses 27 = .ok (.istore_n 3, 1) := by decide +kernel
theorem dX1_readUses_28 : decode cX1_readUses 28 = .ok (.iload_n 3, 1) := by decide +kernel
theorem dX1_readUses_29 : decode cX1_readUses 29 = .ok (.ifCond .ne 5, 3) := by decide +kernel
theorem dX1_readUses_32 : decode cX1_readUses 32 = .ok (.iconst 0, 1) := by decide +kernel
theorem dX1_readUses_33 : decode cX1_readUses 33 = .ok (.ireturn, 1) := by decide +kernel
theorem dX1_readUses_34 : decode cX1_readUses 34 = .ok (.aload_n 1, 1) := by decide +kernel
theorem dX1_readUses_35 : decode cX1_readUses 35 = .ok (.getfield 112, 3) := by decide +kernel
theorem dX1_readUses_38 : decode cX1_readUses 38 = .ok (.iload_n 2, 1) := by decide +kernel
theorem dX1_readUses_39 : decode cX1_readUses 39 = .ok (.dup2, 1) := by decide +kernel
theorem dX1_readUses_40 : decode cX1_readUses 40 = .ok (.iaload, 1) := by decide +kernel
theorem dX1_readUses_41 : decode cX1_readUses 41 = .ok (.iload_n 3, 1) := by decide +kernel
theorem dX1_readUses_42 : decode cX1_readUses 42 = .ok (.ior, 1) := by decide +kernel
theorem dX1_readUses_43 : decode cX1_readUses 43 = .ok (.iastore, 1) := by decide +kernel
theorem dX1_readUses_44 : decode cX1_readUses 44 = .ok (.iconst 1, 1) := by decide +kernel
theorem dX1_readUses_45 : decode cX1_readUses 45 = .ok (.ireturn, 1) := by decide +kernel
set_option maxRecDepth 20000 in
theorem ggX1_readAhead_X1_takeSection : GoodIn wsX1_readAhead wsX1_takeSection := goodIn_r _ [6, 7, 8, 9, 10, 11, 12, 13, 14, 15, 16, 17, 18, 19, 20, 21, 22, 23, 24, 25, 49, 50, 51, 43, 44, 45, 46, 47, 48, 52, 53, 54, 55, 56] (by decide +kernel) (by decide +kernel)
set_option maxRecDepth 20000 in
theorem gX1_readAhead_X1_takeSection : GoodIn wsX1_readAhead (wsV RX1 95 RX1 yX1_takeSection wsX1_takeSection) := goodIn_app (goodIn_of _ (by decide +kernel)) ggX1_readAhead_X1_takeSection
set_option maxRecDepth 20000 in
theorem ggX1_readAhead_X3_canTakePrecedence : GoodIn wsX1_readAhead wsX3_canTakePrecedence := goodIn_r _ [30, 31, 32, 33, 34, 29, 35, 36, 37, 38, 39, 40, 43, 44, 45, 46, 47, 48] (by decide +kernel) (by decide +kernel)
set_option maxRecDepth 20000 in
theorem gX1_readAhead_X3_canTakePrecedence : GoodIn wsX1_readAhead (wsV RX1 115 RX3 yX3_canTakePrecedence wsX3_canTakePrecedence) := goodIn_app (goodIn_of _ (by decide +kernel)) ggX1_readAhead_X3_canTakePrecedence
set_option maxRecDepth 20000 in
theorem ggX1_readAhead_X6_with : GoodIn wsX1_readAhead wsX6_with := goodIn_r _ [42] (by decide +kernel) (by decide +kernel)
set_option maxRecDepth 20000 in
theorem gX1_readAhead_X6_with_n122 : GoodIn wsX1_readAhead (wsX6_with) := ggX1_readAhead_X6_with
theorem dX1_readAhead_0 : decode cX1_readAhead 0 = .ok (.aload_n 0, 1) := by decide +kernel
theorem dX1_readAhead_1 : decode cX1_readAhead 1 = .ok (.aload_n 1, 1) := by decide +kernel
theorem dX1_readAhead_2 : decode cX1_readAhead 2 = .ok (.invokevirtual 95, 3) := by decide +kernel
theorem dX1_readAhead_5 : decode cX1_readAhead 5 = .ok (.istore_n 2, 1) := by decide +kernel
theorem dX1_readAhead_6 : decode cX1_readAhead 6 = .ok (.iload_n 2, 1) := by decide +kernel
theorem dX1_readAhead_7 : decode cX1_readAhead 7 = .ok (.iconst (-1), 1) := by decide +kernel
theorem dX1_readAhead_8 : decode cX1_readAhead 8 = .ok (.if_icmp .ne 5, 3) := by decide +kernel
theorem dX1_readAhead_11 : decode cX1_readAhead 11 = .ok (.iconst 0, 1) := by decide +kernel
theorem dX1_readAhead_12 : decode cX1_readAhead 12 = .ok (.ireturn, 1) := by decide +kernel
theorem dX1_readAhead_13 : decode cX1_readAhead 13 = .ok (.aload_n 0, 1) := by decide +kernel
theorem dX1_readAhead_14 : decode cX1_readAhead 14 = .ok (.aload_n 1, 1) := by decide +kernel
theorem dX1_readAhead_15 : decode cX1_readAhead 15 = .ok (.invokevirtual 95, 3) := by decide +kernel
theorem dX1_readAhead_18 : decode cX1_readAhead 18 = .ok (.istore_n 3, 1) := by decide +kernel
theorem dX1_readAhead_19 : decode cX1_readAhead 19 = .ok (.iload_n 3, 1) := by decide +kernel
theorem dX1_readAhead_20 : decode cX1_readAhead 20 = .ok (.iconst (-1), 1) := by decide +kernel
theorem dX1_readAhead_21 : decode cX1_readAhead 21 = .ok (.if_icmp .eq 8, 3) := by decide +kernel
theorem dX1_readAhead_24 : decode cX1_readAhead 24 = .ok (.iload_n 3, 1) := by decide +kernel
theorem dX1_readAhead_25 : decode cX1_readAhead 25 = .ok (.iload_n 2, 1) := by decide +kernel
theorem dX1_readAhead_26 : decode cX1_readAhead 26 = .ok (.if_icmp .ne 5, 3) := by decide +kernel
theorem dX1_readAhead_29 : decode cX1_readAhead 29 = .ok (.iconst 0, 1) := by decide +kernel
theorem dX1_readAhead_30 : decode cX1_readAhead 30 = .ok (.ireturn, 1) := by decide +kernel
theorem dX1_readAhead_31 : decode cX1_readAhead 31 = .ok (.aload_n 1, 1) := by decide +kernel
theorem dX1_readAhead_32 : decode cX1_readAhead 32 = .ok (.iload_n 2, 1) := by decide +kernel
theorem dX1_readAhead_33 : decode cX1_readAhead 33 = .ok (.iload_n 3, 1) := by decide +kernel
theorem dX1_readAhead_34 : decode cX1_readAhead 34 = .ok (.invokevirtual 115, 3) := by decide +kernel
theorem dX1_readAhead_37 : decode cX1_readAhead 37 = .ok (.ifCond .eq 19, 3) := by decide +kernel
theorem dX1_readAhead_40 : decode cX1_readAhead 40 = .ok (.aload_n 1, 1) := by decide +kernel
theorem dX1_readAhead_41 : decode cX1_readAhead 41 = .ok (.getfield 119, 3) := by decide +kernel
theorem dX1_readAhead_44 : decode cX1_readAhead 44 = .ok (.iload_n 3, 1) := by decide +kernel
theorem dX1_readAhead_45 : decode cX1_readAhead 45 = .ok (.aload_n 1, 1) := by decide +kernel
theorem dX1_readAhead_46 : decode cX1_readAhead 46 = .ok (.getfield 119, 3) := by decide +kernel
theorem dX1_readAhead_49 : decode cX1_readAhead 49 = .ok (.iload_n 3, 1) := by decide +kernel
theorem dX1_readAhead_50 : decode cX1_readAhead 50 = .ok (.iaload, 1) := by decide +kernel
theorem dX1_readAhead_51 : decode cX1_readAhead 51 = .ok (.iload_n 2, 1) := by decide +kernel
theorem dX1_readAhead_52 : decode cX1_readAhead 52 = .ok (.invokestatic 122, 3) := by decide +kernel
theorem dX1_readAhead_55 : decode cX1_readAhead 55 = .ok (.iastore, 1) := by decide +kernel
theorem dX1_readAhead_56 : decode cX1_readAhead 56 = .ok (.iconst 1, 1) := by decide +kernel
theorem dX1_readAhead_57 : decode cX1_readAhead 57 = .ok (.ireturn, 1) := by decide +kernel
set_option maxRecDepth 20000 in
theorem ggX1_readOrder_X1_takeSection : GoodIn wsX1_readOrder wsX1_takeSection := goodIn_r _ [7, 8, 1, 9, 10, 11, 12, 13, 14, 15, 16, 17, 18, 19, 20, 21, 22, 23, 24, 25, 49, 50, 51, 43, 44, 45, 46, 47, 48, 52, 53, 54, 55, 56] (by decide +kernel) (by decide +kernel)
set_option maxRecDepth 20000 in
theorem gX1_readOrder_X1_takeSection : GoodIn wsX1_readOrder (wsV RX1 95 RX1 yX1_takeSection wsX1_takeSection) := goodIn_app (goodIn_of _ (by decide +kernel)) ggX1_readOrder_X1_takeSection
set_option maxRecDepth 20000 in
theorem ggX1_readOrder_X6_has : GoodIn wsX1_readOrder wsX6_has := goodIn_r _ [28] (by decide +kernel) (by decide +kernel)
set_option maxRecDepth 20000 in
theorem gX1_readOrder_X6_has_n125 : GoodIn wsX1_readOrder (wsX6_has) := ggX1_readOrder_X6_has
set_option maxRecDepth 20000 in
theorem ggX1_readOrder_X6_with : GoodIn wsX1_readOrder wsX6_with := goodIn_r _ [30] (by decide +kernel) (by decide +kernel)
set_option maxRecDepth 20000 in
theorem gX1_readOrder_X6_with_n122 : GoodIn wsX1_readOrder (wsX6_with) := ggX1_readOrder_X6_with
set_option maxRecDepth 20000 in
theorem ggX1_readOrder_X3_respectsPrecedences : GoodIn wsX1_readOrder wsX3_respectsPrecedences := goodIn_r _ [35, 36, 37, 29, 27, 30, 43, 44, 45, 46, 47, 48] (by decide +kernel) (by decide +kernel)
set_option maxRecDepth 20000 in
theorem gX1_readOrder_X3_respectsPrecedences : GoodIn wsX1_readOrder (wsV RX1 128 RX3 yX3_respectsPrecedences wsX3_respectsPrecedences) := goodIn_app (goodIn_of _ (by decide +kernel)) ggX1_readOrder_X3_respectsPrecedences
set_option maxRecDepth 20000 in
theorem ggX1_readOrder_X3_takeOrder : GoodIn wsX1_readOrder wsX3_takeOrder := goodIn_r _ [41, 36, 42, 43, 44, 45, 46, 47, 48] (by decide +kernel) (by decide +kernel)
set_option maxRecDepth 20000 in
theorem gX1_readOrder_X3_takeOrder : GoodIn wsX1_readOrder (wsV RX1 132 RX3 yX3_takeOrder wsX3_takeOrder) := goodIn_app (goodIn_of _ (by decide +kernel)) ggX1_readOrder_X3_takeOrder
theorem dX1_readOrder_0 : decode cX1_readOrder 0 = .ok (.iconst 0, 1) := by decide +kernel
theorem dX1_readOrder_1 : decode cX1_readOrder 1 = .ok (.istore_n 2, 1) := by decide +kernel
theorem dX1_readOrder_2 : decode cX1_readOrder 2 = .ok (.iconst 0, 1) := by decide +kernel
theorem dX1_readOrder_3 : decode cX1_readOrder 3 = .ok (.istore_n 3, 1) := by decide +kernel
theorem dX1_readOrder_4 : decode cX1_readOrder 4 = .ok (.iload_n 3, 1) := by decide +kernel
theorem dX1_readOrder_5 : decode cX1_readOrder 5 = .ok (.aload_n 1, 1) := by decide +kernel
theorem dX1_readOrder_6 : decode cX1_readOrder 6 = .ok (.getfield 83, 3) := by decide +kernel
theorem dX1_readOrder_9 : decode cX1_readOrder 9 = .ok (.if_icmp .ge 48, 3) := by decide +kernel
theorem dX1_readOrder_12 : decode cX1_readOrder 12 = .ok (.aload_n 0, 1) := by decide +kernel
theorem dX1_readOrder_13 : decode cX1_readOrder 13 = .ok (.aload_n 1, 1) := by decide +kernel
theorem dX1_readOrder_14 : decode cX1_readOrder 14 = .ok (.invokevirtual 95, 3) := by decide +kernel
theorem dX1_readOrder_17 : decode cX1_readOrder 17 = .ok (.istore 4, 2) := by decide +kernel
theorem dX1_readOrder_19 : decode cX1_readOrder 19 = .ok (.iload 4, 2) := by decide +kernel
theorem dX1_readOrder_21 : decode cX1_readOrder 21 = .ok (.iconst (-1), 1) := by decide +kernel
theorem dX1_readOrder_22 : decode cX1_readOrder 22 = .ok (.if_icmp .eq 12, 3) := by decide +kernel
theorem dX1_readOrder_25 : decode cX1_readOrder 25 = .ok (.iload_n 2, 1) := by decide +kernel
theorem dX1_readOrder_26 : decode cX1_readOrder 26 = .ok (.iload 4, 2) := by decide +kernel
theorem dX1_readOrder_28 : decode cX1_readOrder 28 = .ok (.invokestatic 125, 3) := by decide +kernel
theorem dX1_readOrder_31 : decode cX1_readOrder 31 = .ok (.ifCond .eq 5, 3) := by decide +kernel
theorem dX1_readOrder_34 : decode cX1_readOrder 34 = .ok (.iconst 0, 1) := by decide +kernel
theorem dX1_readOrder_35 : decode cX1_readOrder 35 = .ok (.ireturn, 1) := by decide +kernel
theorem dX1_readOrder_36 : decode cX1_readOrder 36 = .ok (.iload_n 2, 1) := by decide +kernel
theorem dX1_readOrder_37 : decode cX1_readOrder 37 = .ok (.iload 4, 2) := by decide +kernel
theorem dX1_readOrder_39 : decode cX1_readOrder 39 = .ok (.invokestatic 122, 3) := by decide +kernel
theorem dX1_readOrder_42 : decode cX1_readOrder 42 = .ok (.istore_n 2, 1) := by decide +kernel
theorem dX1_readOrder_43 : decode cX1_readOrder 43 = .ok (.aload_n 0, 1) := by decide +kernel
theorem dX1_readOrder_44 : decode cX1_readOrder 44 = .ok (.getfield 15, 3) := by decide +kernel
theorem dX1_readOrder_47 : decode cX1_readOrder 47 = .ok (.iload_n 3, 1) := by decide +kernel
theorem dX1_readOrder_48 : decode cX1_readOrder 48 = .ok (.iload 4, 2) := by decide +kernel
theorem dX1_readOrder_50 : decode cX1_readOrder 50 = .ok (.iastore, 1) := by decide +kernel
theorem dX1_readOrder_51 : decode cX1_readOrder 51 = .ok (.iinc 3 1, 3) := by decide +kernel
theorem dX1_readOrder_54 : decode cX1_readOrder 54 = .ok (.goto (-50), 3) := by decide +kernel
theorem dX1_readOrder_57 : decode cX1_readOrder 57 = .ok (.aload_n 1, 1) := by decide +kernel
theorem dX1_readOrder_58 : decode cX1_readOrder 58 = .ok (.aload_n 0, 1) := by decide +kernel
theorem dX1_readOrder_59 : decode cX1_readOrder 59 = .ok (.getfield 15, 3) := by decide +kernel
theorem dX1_readOrder_62 : decode cX1_readOrder 62 = .ok (.invokevirtual 128, 3) := by decide +kernel
theorem dX1_readOrder_65 : decode cX1_readOrder 65 = .ok (.ifCond .eq 11, 3) := by decide +kernel
theorem dX1_readOrder_68 : decode cX1_readOrder 68 = .ok (.aload_n 1, 1) := by decide +kernel
theorem dX1_readOrder_69 : decode cX1_readOrder 69 = .ok (.aload_n 0, 1) := by decide +kernel
theorem dX1_readOrder_70 : decode cX1_readOrder 70 = .ok (.getfield 15, 3) := by decide +kernel
theorem dX1_readOrder_73 : decode cX1_readOrder 73 = .ok (.invokevirtual 132, 3) := by decide +kernel
theorem dX1_readOrder_76 : decode cX1_readOrder 76 = .ok (.iconst 1, 1) := by decide +kernel
theorem dX1_readOrder_77 : decode cX1_readOrder 77 = .ok (.ireturn, 1) := by decide +kernel
set_option maxRecDepth 20000 in
theorem ggX2_init_X3_init : GoodIn wsX2_init wsX3_init := goodIn_r _ [12, 13, 2, 3, 14, 15, 16, 17, 18, 19, 20, 21, 22, 9, 23, 24, 28, 29, 30, 31, 32, 33] (by decide +kernel) (by decide +kernel)
set_option maxRecDepth 20000 in
theorem gX2_init_X3_init : GoodIn wsX2_init (wsX3_init) := ggX2_init_X3_init
theorem dX2_init_0 : decode cX2_init 0 = .ok (.aload_n 0, 1) := by decide +kernel
theorem dX2_init_1 : decode cX2_init 1 = .ok (.invokespecial 3, 3) := by decide +kernel
theorem dX2_init_4 : decode cX2_init 4 = .ok (.aload_n 0, 1) := by decide +kernel
theorem dX2_init_5 : decode cX2_init 5 = .ok (.iconst 0, 1) := by decide +kernel
theorem dX2_init_6 : decode cX2_init 6 = .ok (.putfield 9, 3) := by decide +kernel
theorem dX2_init_9 : decode cX2_init 9 = .ok (.aload_n 0, 1) := by decide +kernel
theorem dX2_init_10 : decode cX2_init 10 = .ok (.iconst 0, 1) := by decide +kernel
theorem dX2_init_11 : decode cX2_init 11 = .ok (.putfield 15, 3) := by decide +kernel
theorem dX2_init_14 : decode cX2_init 14 = .ok (.aload_n 0, 1) := by decide +kernel
theorem dX2_init_15 : decode cX2_init 15 = .ok (.bipush 8, 2) := by decide +kernel
theorem dX2_init_17 : decode cX2_init 17 = .ok (.anewarray 18, 3) := by decide +kernel
theorem dX2_init_20 : decode cX2_init 20 = .ok (.putfield 20, 3) := by decide +kernel
theorem dX2_init_23 : decode cX2_init 23 = .ok (.iconst 0, 1) := by decide +kernel
theorem dX2_init_24 : decode cX2_init 24 = .ok (.istore_n 1, 1) := by decide +kernel
theorem dX2_init_25 : decode cX2_init 25 = .ok (.iload_n 1, 1) := by decide +kernel
theorem dX2_init_26 : decode cX2_init 26 = .ok (.bipush 8, 2) := by decide +kernel
theorem dX2_init_28 : decode cX2_init 28 = .ok (.if_icmp .ge 22, 3) := by decide +kernel
theorem dX2_init_31 : decode cX2_init 31 = .ok (.aload_n 0, 1) := by decide +kernel
theorem dX2_init_32 : decode cX2_init 32 = .ok (.getfield 20, 3) := by decide +kernel
theorem dX2_init_35 : decode cX2_init 35 = .ok (.iload_n 1, 1) := by decide +kernel
theorem dX2_init_36 : decode cX2_init 36 = .ok (.new 18, 3) := by decide +kernel
theorem dX2_init_39 : decode cX2_init 39 = .ok (.dup, 1) := by decide +kernel
theorem dX2_init_40 : decode cX2_init 40 = .ok (.invokespecial 24, 3) := by decide +kernel
theorem dX2_init_43 : decode cX2_init 43 = .ok (.aastore, 1) := by decide +kernel
theorem dX2_init_44 : decode cX2_init 44 = .ok (.iinc 1 1, 3) := by decide +kernel
theorem dX2_init_47 : decode cX2_init 47 = .ok (.goto (-22), 3) := by decide +kernel
theorem dX2_init_50 : decode cX2_init 50 = .ok (.return_, 1) := by decide +kernel
set_option maxRecDepth 20000 in
theorem ggX2_remember_X3_become : GoodIn wsX2_remember wsX3_become := goodIn_r _ [12, 13, 14, 15, 16, 17, 18, 22, 23, 24, 25, 26, 27] (by decide +kernel) (by decide +kernel)
set_option maxRecDepth 20000 in
theorem gX2_remember_X3_become : GoodIn wsX2_remember (wsV RX2 25 RX3 yX3_become wsX3_become) := goodIn_app (goodIn_of _ (by decide +kernel)) ggX2_remember_X3_become
theorem dX2_remember_0 : decode cX2_remember 0 = .ok (.aload_n 0, 1) := by decide +kernel
theorem dX2_remember_1 : decode cX2_remember 1 = .ok (.getfield 20, 3) := by decide +kernel
theorem dX2_remember_4 : decode cX2_remember 4 = .ok (.aload_n 0, 1) := by decide +kernel
theorem dX2_remember_5 : decode cX2_remember 5 = .ok (.getfield 15, 3) := by decide +kernel
theorem dX2_remember_8 : decode cX2_remember 8 = .ok (.aaload, 1) := by decide +kernel
theorem dX2_remember_9 : decode cX2_remember 9 = .ok (.aload_n 1, 1) := by decide +kernel
theorem dX2_remember_10 : decode cX2_remember 10 = .ok (.invokevirtual 25, 3) := by decide +kernel
theorem dX2_remember_13 : decode cX2_remember 13 = .ok (.aload_n 0, 1) := by decide +kernel
theorem dX2_remember_14 : decode cX2_remember 14 = .ok (.aload_n 0, 1) := by decide +kernel
theorem dX2_remember_15 : decode cX2_remember 15 = .ok (.getfield 15, 3) := by decide +kernel
theorem dX2_remember_18 : decode cX2_remember 18 = .ok (.iconst 1, 1) := by decide +kernel
theorem dX2_remember_19 : decode cX2_remember 19 = .ok (.iadd, 1) := by decide +kernel
theorem dX2_remember_20 : decode cX2_remember 20 = .ok (.bipush 8, 2) := by decide +kernel
theorem dX2_remember_22 : decode cX2_remember 22 = .ok (.irem, 1) := by decide +kernel
theorem dX2_remember_23 : decode cX2_remember 23 = .ok (.putfield 15, 3) := by decide +kernel
theorem dX2_remember_26 : decode cX2_remember 26 = .ok (.aload_n 0, 1) := by decide +kernel
theorem dX2_remember_27 : decode cX2_remember 27 = .ok (.aload_n 0, 1) := by decide +kernel
theorem dX2_remember_28 : decode cX2_remember 28 = .ok (.getfield 9, 3) := by decide +kernel
theorem dX2_remember_31 : decode cX2_remember 31 = .ok (.iconst 1, 1) := by decide +kernel
theorem dX2_remember_32 : decode cX2_remember 32 = .ok (.iadd, 1) := by decide +kernel
theorem dX2_remember_33 : decode cX2_remember 33 = .ok (.bipush 8, 2) := by decide +kernel
theorem dX2_remember_35 : decode cX2_remember 35 = .ok (.invokestatic 29, 3) := by decide +kernel
theorem dX2_remember_38 : decode cX2_remember 38 = .ok (.putfield 9, 3) := by decide +kernel
theorem dX2_remember_41 : decode cX2_remember 41 = .ok (.return_, 1) := by decide +kernel
set_option maxRecDepth 20000 in
theorem ggX2_restore_X3_become : GoodIn wsX2_restore wsX3_become := goodIn_r _ [8, 9, 10, 11, 12, 13, 14, 18, 19, 20, 21, 22, 23] (by decide +kernel) (by decide +kernel)
set_option maxRecDepth 20000 in
theorem gX2_restore_X3_become : GoodIn wsX2_restore (wsV RX2 25 RX3 yX3_become wsX3_become) := goodIn_app (goodIn_of _ (by decide +kernel)) ggX2_restore_X3_become
theorem dX2_restore_0 : decode cX2_restore 0 = .ok (.aload_n 0, 1) := by decide +kernel
theorem dX2_restore_1 : decode cX2_restore 1 = .ok (.getfield 9, 3) := by decide +kernel
theorem dX2_restore_4 : decode cX2_restore 4 = .ok (.ifCond .ne 4, 3) := by decide +kernel
theorem dX2_restore_7 : decode cX2_restore 7 = .ok (.return_, 1) := by decide +kernel
theorem dX2_restore_8 : decode cX2_restore 8 = .ok (.aload_n 0, 1) := by decide +kernel
theorem dX2_restore_9 : decode cX2_restore 9 = .ok (.aload_n 0, 1) := by decide +kernel
theorem dX2_restore_10 : decode cX2_restore 10 = .ok (.getfield 15, 3) := by decide +kernel
theorem dX2_restore_13 : decode cX2_restore 13 = .ok (.bipush 8, 2) := by decide +kernel
theorem dX2_restore_15 : decode cX2_restore 15 = .ok (.iadd, 1) := by decide +kernel
theorem dX2_restore_16 : decode cX2_restore 16 = .ok (.iconst 1, 1) := by decide +kernel
theorem dX2_restore_17 : decode cX2_restore 17 = .ok (.isub, 1) := by decide +kernel
theorem dX2_restore_18 : decode cX2_restore 18 = .ok (.bipush 8, 2) := by decide +kernel
theorem dX2_restore_20 : decode cX2_restore 20 = .ok (.irem, 1) := by decide +kernel
theorem dX2_restore_21 : decode cX2_restore 21 = .ok (.putfield 15, 3) := by decide +kernel
theorem dX2_restore_24 : decode cX2_restore 24 = .ok (.aload_n 0, 1) := by decide +kernel
theorem dX2_restore_25 : decode cX2_restore 25 = .ok (.dup, 1) := by decide +kernel
theorem dX2_restore_26 : decode cX2_restore 26 = .ok (.getfield 9, 3) := by decide +kernel
theorem dX2_restore_29 : decode cX2_restore 29 = .ok (.iconst 1, 1) := by decide +kernel
theorem dX2_restore_30 : decode cX2_restore 30 = .ok (.isub, 1) := by decide +kernel
theorem dX2_restore_31 : decode cX2_restore 31 = .ok (.putfield 9, 3) := by decide +kernel
theorem dX2_restore_34 : decode cX2_restore 34 = .ok (.aload_n 1, 1) := by decide +kernel
theorem dX2_restore_35 : decode cX2_restore 35 = .ok (.aload_n 0, 1) := by decide +kernel
theorem dX2_restore_36 : decode cX2_restore 36 = .ok (.getfield 20, 3) := by decide +kernel
theorem dX2_restore_39 : decode cX2_restore 39 = .ok (.aload_n 0, 1) := by decide +kernel
theorem dX2_restore_40 : decode cX2_restore 40 = .ok (.getfield 15, 3) := by decide +kernel
theorem dX2_restore_43 : decode cX2_restore 43 = .ok (.aaload, 1) := by decide +kernel
theorem dX2_restore_44 : decode cX2_restore 44 = .ok (.invokevirtual 25, 3) := by decide +kernel
theorem dX2_restore_47 : decode cX2_restore 47 = .ok (.return_, 1) := by decide +kernel
theorem dX2_forget_0 : decode cX2_forget 0 = .ok (.aload_n 0, 1) := by decide +kernel
theorem dX2_forget_1 : decode cX2_forget 1 = .ok (.iconst 0, 1) := by decide +kernel
theorem dX2_forget_2 : decode cX2_forget 2 = .ok (.putfield 9, 3) := by decide +kernel
theorem dX2_forget_5 : decode cX2_forget 5 = .ok (.return_, 1) := by decide +kernel
set_option maxRecDepth 20000 in
theorem ggX3_init_X3_beginAnew : GoodIn wsX3_init wsX3_beginAnew := goodIn_r _ [14, 15, 5, 6, 8, 9, 7, 16, 17, 18, 19, 20, 21] (by decide +kernel) (by decide +kernel)
set_option maxRecDepth 20000 in
theorem gX3_init_X3_beginAnew : GoodIn wsX3_init (wsV RX3 27 RX3 yX3_beginAnew wsX3_beginAnew) := goodIn_app (goodIn_of _ (by decide +kernel)) ggX3_init_X3_beginAnew
theorem dX3_init_0 : decode cX3_init 0 = .ok (.aload_n 0, 1) := by decide +kernel
theorem dX3_init_1 : decode cX3_init 1 = .ok (.invokespecial 3, 3) := by decide +kernel
theorem dX3_init_4 : decode cX3_init 4 = .ok (.aload_n 0, 1) := by decide +kernel
theorem dX3_init_5 : decode cX3_init 5 = .ok (.bipush 10, 2) := by decide +kernel
theorem dX3_init_7 : decode cX3_init 7 = .ok (.newarray .int, 2) := by decide +kernel
theorem dX3_init_9 : decode cX3_init 9 = .ok (.putfield 9, 3) := by decide +kernel
theorem dX3_init_12 : decode cX3_init 12 = .ok (.aload_n 0, 1) := by decide +kernel
theorem dX3_init_13 : decode cX3_init 13 = .ok (.bipush 10, 2) := by decide +kernel
theorem dX3_init_15 : decode cX3_init 15 = .ok (.newarray .int, 2) := by decide +kernel
theorem dX3_init_17 : decode cX3_init 17 = .ok (.putfield 15, 3) := by decide +kernel
theorem dX3_init_20 : decode cX3_init 20 = .ok (.aload_n 0, 1) := by decide +kernel
theorem dX3_init_21 : decode cX3_init 21 = .ok (.bipush 12, 2) := by decide +kernel
theorem dX3_init_23 : decode cX3_init 23 = .ok (.newarray .int, 2) := by decide +kernel
theorem dX3_init_25 : decode cX3_init 25 = .ok (.putfield 18, 3) := by decide +kernel
theorem dX3_init_28 : decode cX3_init 28 = .ok (.aload_n 0, 1) := by decide +kernel
theorem dX3_init_29 : decode cX3_init 29 = .ok (.bipush 10, 2) := by decide +kernel
theorem dX3_init_31 : decode cX3_init 31 = .ok (.newarray .int, 2) := by decide +kernel
theorem dX3_init_33 : decode cX3_init 33 = .ok (.putfield 21, 3) := by decide +kernel
theorem dX3_init_36 : decode cX3_init 36 = .ok (.aload_n 0, 1) := by decide +kernel
theorem dX3_init_37 : decode cX3_init 37 = .ok (.bipush 10, 2) := by decide +kernel
theorem dX3_init_39 : decode cX3_init 39 = .ok (.newarray .int, 2) := by decide +kernel
theorem dX3_init_41 : decode cX3_init 41 = .ok (.putfield 24, 3) := by decide +kernel
theorem dX3_init_44 : decode cX3_init 44 = .ok (.aload_n 0, 1) := by decide +kernel
theorem dX3_init_45 : decode cX3_init 45 = .ok (.iconst 4, 1) := by decide +kernel
theorem dX3_init_46 : decode cX3_init 46 = .ok (.invokevirtual 27, 3) := by decide +kernel
theorem dX3_init_49 : decode cX3_init 49 = .ok (.return_, 1) := by decide +kernel
theorem dX3_beginAnew_0 : decode cX3_beginAnew 0 = .ok (.aload_n 0, 1) := by decide +kernel
theorem dX3_beginAnew_1 : decode cX3_beginAnew 1 = .ok (.iload_n 1, 1) := by decide +kernel
theorem dX3_beginAnew_2 : decode cX3_beginAnew 2 = .ok (.putfield 31, 3) := by decide +kernel
theorem dX3_beginAnew_5 : decode cX3_beginAnew 5 = .ok (.iconst 0, 1) := by decide +kernel
theorem dX3_beginAnew_6 : decode cX3_beginAnew 6 = .ok (.istore_n 2, 1) := by decide +kernel
theorem dX3_beginAnew_7 : decode cX3_beginAnew 7 = .ok (.iload_n 2, 1) := by decide +kernel
theorem dX3_beginAnew_8 : decode cX3_beginAnew 8 = .ok (.bipush 10, 2) := by decide +kernel
theorem dX3_beginAnew_10 : decode cX3_beginAnew 10 = .ok (.if_icmp .ge 37, 3) := by decide +kernel
theorem dX3_beginAnew_13 : decode cX3_beginAnew 13 = .ok (.aload_n 0, 1) := by decide +kernel
theorem dX3_beginAnew_14 : decode cX3_beginAnew 14 = .ok (.getfield 9, 3) := by decide +kernel
theorem dX3_beginAnew_17 : decode cX3_beginAnew 17 = .ok (.iload_n 2, 1) := by decide +kernel
theorem dX3_beginAnew_18 : decode cX3_beginAnew 18 = .ok (.iconst 1, 1) := by decide +kernel
theorem dX3_beginAnew_19 : decode cX3_beginAnew 19 = .ok (.iastore, 1) := by decide +kernel
theorem dX3_beginAnew_20 : decode cX3_beginAnew 20 = .ok (.aload_n 0, 1) := by decide +kernel
theorem dX3_beginAnew_21 : decode cX3_beginAnew 21 = .ok (.getfield 15, 3) := by decide +kernel
theorem dX3_beginAnew_24 : decode cX3_beginAnew 24 = .ok (.iload_n 2, 1) := by decide +kernel
theorem dX3_beginAnew_25 : decode cX3_beginAnew 25 = .ok (.iconst 0, 1) := by decide +kernel
theorem dX3_beginAnew_26 : decode cX3_beginAnew 26 = .ok (.iastore, 1) := by decide +kernel
theorem dX3_beginAnew_27 : decode cX3_beginAnew 27 = .ok (.aload_n 0, 1) := by decide +kernel
theorem dX3_beginAnew_28 : decode cX3_beginAnew 28 = .ok (.getfield 21, 3) := by decide +kernel
theorem dX3_beginAnew_31 : decode cX3_beginAnew 31 = .ok (.iload_n 2, 1) := by decide +kernel
theorem dX3_beginAnew_32 : decode cX3_beginAnew 32 = .ok (.iload_n 2, 1) := by decide +kernel
theorem dX3_beginAnew_33 : decode cX3_beginAnew 33 = .ok (.iastore, 1) := by decide +kernel
theorem dX3_beginAnew_34 : decode cX3_beginAnew 34 = .ok (.aload_n 0, 1) := by decide +kernel
theorem dX3_beginAnew_35 : decode cX3_beginAnew 35 = .ok (.getfield 24, 3) := by decide +kernel
theorem dX3_beginAnew_38 : decode cX3_beginAnew 38 = .ok (.iload_n 2, 1) := by decide +kernel
theorem dX3_beginAnew_39 : decode cX3_beginAnew 39 = .ok (.iconst 0, 1) := by decide +kernel
theorem dX3_beginAnew_40 : decode cX3_beginAnew 40 = .ok (.iastore, 1) := by decide +kernel
theorem dX3_beginAnew_41 : decode cX3_beginAnew 41 = .ok (.iinc 2 1, 3) := by decide +kernel
theorem dX3_beginAnew_44 : decode cX3_beginAnew 44 = .ok (.goto (-37), 3) := by decide +kernel
theorem dX3_beginAnew_47 : decode cX3_beginAnew 47 = .ok (.iconst 0, 1) := by decide +kernel
theorem dX3_beginAnew_48 : decode cX3_beginAnew 48 = .ok (.istore_n 2, 1) := by decide +kernel
theorem dX3_beginAnew_49 : decode cX3_beginAnew 49 = .ok (.iload_n 2, 1) := by decide +kernel
theorem dX3_beginAnew_50 : decode cX3_beginAnew 50 = .ok (.bipush 12, 2) := by decide +kernel
theorem dX3_beginAnew_52 : decode cX3_beginAnew 52 = .ok (.if_icmp .ge 16, 3) := by decide +kernel
theorem dX3_beginAnew_55 : decode cX3_beginAnew 55 = .ok (.aload_n 0, 1) := by decide +kernel
theorem dX3_beginAnew_56 : decode cX3_beginAnew 56 = .ok (.getfield 18, 3) := by decide +kernel
theorem dX3_beginAnew_59 : decode cX3_beginAnew 59 = .ok (.iload_n 2, 1) := by decide +kernel
theorem dX3_beginAnew_60 : decode cX3_beginAnew 60 = .ok (.iconst (-1), 1) := by decide +kernel
theorem dX3_beginAnew_61 : decode cX3_beginAnew 61 = .ok (.iastore, 1) := by decide +kernel
theorem dX3_beginAnew_62 : decode cX3_beginAnew 62 = .ok (.iinc 2 1, 3) := by decide +kernel
theorem dX3_beginAnew_65 : decode cX3_beginAnew 65 = .ok (.goto (-16), 3) := by decide +kernel
theorem dX3_beginAnew_68 : decode cX3_beginAnew 68 = .ok (.return_, 1) := by decide +kernel
theorem dX3_become_0 : decode cX3_become 0 = .ok (.aload_n 0, 1) := by decide +kernel
theorem dX3_become_1 : decode cX3_become 1 = .ok (.aload_n 1, 1) := by decide +kernel
theorem dX3_become_2 : decode cX3_become 2 = .ok (.getfield 31, 3) := by decide +kernel
theorem dX3_become_5 : decode cX3_become 5 = .ok (.putfield 31, 3) := by decide +kernel
theorem dX3_become_8 : decode cX3_become 8 = .ok (.iconst 0, 1) := by decide +kernel
theorem dX3_become_9 : decode cX3_become 9 = .ok (.istore_n 2, 1) := by decide +kernel
theorem dX3_become_10 : decode cX3_become 10 = .ok (.iload_n 2, 1) := by decide +kernel
theorem dX3_become_11 : decode cX3_become 11 = .ok (.bipush 10, 2) := by decide +kernel
theorem dX3_become_13 : decode cX3_become 13 = .ok (.if_icmp .ge 57, 3) := by decide +kernel
theorem dX3_become_16 : decode cX3_become 16 = .ok (.aload_n 0, 1) := by decide +kernel
theorem dX3_become_17 : decode cX3_become 17 = .ok (.getfield 9, 3) := by decide +kernel
theorem dX3_become_20 : decode cX3_become 20 = .ok (.iload_n 2, 1) := by decide +kernel
theorem dX3_become_21 : decode cX3_become 21 = .ok (.aload_n 1, 1) := by decide +kernel
theorem dX3_become_22 : decode cX3_become 22 = .ok (.getfield 9, 3) := by decide +kernel
theorem dX3_become_25 : decode cX3_become 25 = .ok (.iload_n 2, 1) := by decide +kernel
theorem dX3_become_26 : decode cX3_become 26 = .ok (.iaload, 1) := by decide +kernel
theorem dX3_become_27 : decode cX3_become 27 = .ok (.iastore, 1) := by decide +kernel
theorem dX3_become_28 : decode cX3_become 28 = .ok (.aload_n 0, 1) := by decide +kernel
theorem dX3_become_29 : decode cX3_become 29 = .ok (.getfield 15, 3) := by decide +kernel
theorem dX3_become_32 : decode cX3_become 32 = .ok (.iload_n 2, 1) := by decide +kernel
theorem dX3_become_33 : decode cX3_become 33 = .ok (.aload_n 1, 1) := by decide +kernel
theorem dX3_become_34 : decode cX3_become 34 = .ok (.getfield 15, 3) := by decide +kernel
theorem dX3_become_37 : decode cX3_become 37 = .ok (.iload_n 2, 1) := by decide +kernel
theorem dX3_become_38 : decode cX3_become 38 = .ok (.iaload, 1) := by decide +kernel
theorem dX3_become_39 : decode cX3_become 39 = .ok (.iastore, 1) := by decide +kernel
theorem dX3_become_40 : decode cX3_become 40 = .ok (.aload_n 0, 1) := by decide +kernel
theorem dX3_become_41 : decode cX3_become 41 = .ok (.getfield 21, 3) := by decide +kernel
theorem dX3_become_44 : decode cX3_become 44 = .ok (.iload_n 2, 1) := by decide +kernel
theorem dX3_become_45 : decode cX3_become 45 = .ok (.aload_n 1, 1) := by decide +kernel
theorem dX3_become_46 : decode cX3_become 46 = .ok (.getfield 21, 3) := by decide +kernel
theorem dX3_become_49 : decode cX3_become 49 = .ok (.iload_n 2, 1) := by decide +kernel
theorem dX3_become_50 : decode cX3_become 50 = .ok (.iaload, 1) := by decide +kernel
theorem dX3_become_51 : decode cX3_become 51 = .ok (.iastore, 1) := by decide +kernel
theorem dX3_become_52 : decode cX3_become 52 = .ok (.aload_n 0, 1) := by decide +kernel
theorem dX3_become_53 : decode cX3_become 53 = .ok (.getfield 24, 3) := by decide +kernel
theorem dX3_become_56 : decode cX3_become 56 = .ok (.iload_n 2, 1) := by decide +kernel
theorem dX3_become_57 : decode cX3_become 57 = .ok (.aload_n 1, 1) := by decide +kernel
theorem dX3_become_58 : decode cX3_become 58 = .ok (.getfield 24, 3) := by decide +kernel
theorem dX3_become_61 : decode cX3_become 61 = .ok (.iload_n 2, 1) := by decide +kernel
theorem dX3_become_62 : decode cX3_become 62 = .ok (.iaload, 1) := by decide +kernel
theorem dX3_become_63 : decode cX3_become 63 = .ok (.iastore, 1) := by decide +kernel
theorem dX3_become_64 : decode cX3_become 64 = .ok (.iinc 2 1, 3) := by decide +kernel
theorem dX3_become_67 : decode cX3_become 67 = .ok (.goto (-57), 3) := by decide +kernel
theorem dX3_become_70 : decode cX3_become 70 = .ok (.iconst 0, 1) := by decide +kernel
theorem dX3_become_71 : decode cX3_become 71 = .ok (.istore_n 2, 1) := by decide +kernel
theorem dX3_become_72 : decode cX3_become 72 = .ok (.iload_n 2, 1) := by decide +kernel
theorem dX3_become_73 : decode cX3_become 73 = .ok (.bipush 12, 2) := by decide +kernel
theorem dX3_become_75 : decode cX3_become 75 = .ok (.if_icmp .ge 21, 3) := by decide +kernel
theorem dX3_become_78 : decode cX3_become 78 = .ok (.aload_n 0, 1) := by decide +kernel
theorem dX3_become_79 : decode cX3_become 79 = .ok (.getfield 18, 3) := by decide +kernel
theorem dX3_become_82 : decode cX3_become 82 = .ok (.iload_n 2, 1) := by decide +kernel
theorem dX3_become_83 : decode cX3_become 83 = .ok (.aload_n 1, 1) := by decide +kernel
theorem dX3_become_84 : decode cX3_become 84 = .ok (.getfield 18, 3) := by decide +kernel
theorem dX3_become_87 : decode cX3_become 87 = .ok (.iload_n 2, 1) := by decide +kernel
theorem dX3_become_88 : decode cX3_become 88 = .ok (.iaload, 1) := by decide +kernel
theorem dX3_become_89 : decode cX3_become 89 = .ok (.iastore, 1) := by decide +kernel
theorem dX3_become_90 : decode cX3_become 90 = .ok (.iinc 2 1, 3) := by decide +kernel
theorem dX3_become_93 : decode cX3_become 93 = .ok (.goto (-21), 3) := by decide +kernel
theorem dX3_become_96 : decode cX3_become 96 = .ok (.return_, 1) := by decide +kernel
theorem dX3_isSame_0 : decode cX3_isSame 0 = .ok (.aload_n 0, 1) := by decide +kernel
theorem dX3_isSame_1 : decode cX3_isSame 1 = .ok (.getfield 31, 3) := by decide +kernel
theorem dX3_isSame_4 : decode cX3_isSame 4 = .ok (.aload_n 1, 1) := by decide +kernel
theorem dX3_isSame_5 : decode cX3_isSame 5 = .ok (.getfield 31, 3) := by decide +kernel
theorem dX3_isSame_8 : decode cX3_isSame 8 = .ok (.if_icmp .eq 5, 3) := by decide +kernel
theorem dX3_isSame_11 : decode cX3_isSame 11 = .ok (.iconst 0, 1) := by decide +kernel
theorem dX3_isSame_12 : decode cX3_isSame 12 = .ok (.ireturn, 1) := by decide +kernel
theorem dX3_isSame_13 : decode cX3_isSame 13 = .ok (.iconst 0, 1) := by decide +kernel
theorem dX3_isSame_14 : decode cX3_isSame 14 = .ok (.istore_n 2, 1) := by decide +kernel
theorem dX3_isSame_15 : decode cX3_isSame 15 = .ok (.iload_n 2, 1) := by decide +kernel
theorem dX3_isSame_16 : decode cX3_isSame 16 = .ok (.aload_n 0, 1) := by decide +kernel
theorem dX3_isSame_17 : decode cX3_isSame 17 = .ok (.getfield 31, 3) := by decide +kernel
theorem dX3_isSame_20 : decode cX3_isSame 20 = .ok (.if_icmp .ge 71, 3) := by decide +kernel
theorem dX3_isSame_23 : decode cX3_isSame 23 = .ok (.aload_n 0, 1) := by decide +kernel
theorem dX3_isSame_24 : decode cX3_isSame 24 = .ok (.getfield 9, 3) := by decide +kernel
theorem dX3_isSame_27 : decode cX3_isSame 27 = .ok (.iload_n 2, 1) := by decide +kernel
theorem dX3_isSame_28 : decode cX3_isSame 28 = .ok (.iaload, 1) := by decide +kernel
theorem dX3_isSame_29 : decode cX3_isSame 29 = .ok (.aload_n 1, 1) := by decide +kernel
theorem dX3_isSame_30 : decode cX3_isSame 30 = .ok (.getfield 9, 3) := by decide +kernel
theorem dX3_isSame_33 : decode cX3_isSame 33 = .ok (.iload_n 2, 1) := by decide +kernel
theorem dX3_isSame_34 : decode cX3_isSame 34 = .ok (.iaload, 1) := by decide +kernel
theorem dX3_isSame_35 : decode cX3_isSame 35 = .ok (.if_icmp .ne 48, 3) := by decide +kernel
theorem dX3_isSame_38 : decode cX3_isSame 38 = .ok (.aload_n 0, 1) := by decide +kernel
theorem dX3_isSame_39 : decode cX3_isSame 39 = .ok (.getfield 15, 3) := by decide +kernel
theorem dX3_isSame_42 : decode cX3_isSame 42 = .ok (.iload_n 2, 1) := by decide +kernel
theorem dX3_isSame_43 : decode cX3_isSame 43 = .ok (.iaload, 1) := by decide +kernel
theorem dX3_isSame_44 : decode cX3_isSame 44 = .ok (.aload_n 1, 1) := by decide +kernel
theorem dX3_isSame_45 : decode cX3_isSame 45 = .ok (.getfield 15, 3) := by decide +kernel
theorem dX3_isSame_48 : decode cX3_isSame 48 = .ok (.iload_n 2, 1) := by decide +kernel
theorem dX3_isSame_49 : decode cX3_isSame 49 = .ok (.iaload, 1) := by decide +kernel
theorem dX3_isSame_50 : decode cX3_isSame 50 = .ok (.if_icmp .ne 33, 3) := by decide +kernel
theorem dX3_isSame_53 : decode cX3_isSame 53 = .ok (.aload_n 0, 1) := by decide +kernel
theorem dX3_isSame_54 : decode cX3_isSame 54 = .ok (.getfield 21, 3) := by decide +kernel
theorem dX3_isSame_57 : decode cX3_isSame 57 = .ok (.iload_n 2, 1) := by decide +kernel
theorem dX3_isSame_58 : decode cX3_isSame 58 = .ok (.iaload, 1) := by decide +kernel
theorem dX3_isSame_59 : decode cX3_isSame 59 = .ok (.aload_n 1, 1) := by decide +kernel
theorem dX3_isSame_60 : decode cX3_isSame 60 = .ok (.getfield 21, 3) := by decide +kernel
theorem dX3_isSame_63 : decode cX3_isSame 63 = .ok (.iload_n 2, 1) := by decide +kernel
theorem dX3_isSame_64 : decode cX3_isSame 64 = .ok (.iaload, 1) := by decide +kernel
theorem dX3_isSame_65 : decode cX3_isSame 65 = .ok (.if_icmp .ne 18, 3) := by decide +kernel
theorem dX3_isSame_68 : decode cX3_isSame 68 = .ok (.aload_n 0, 1) := by decide +kernel
theorem dX3_isSame_69 : decode cX3_isSame 69 = .ok (.getfield 24, 3) := by decide +kernel
theorem dX3_isSame_72 : decode cX3_isSame 72 = .ok (.iload_n 2, 1) := by decide +kernel
theorem dX3_isSame_73 : decode cX3_isSame 73 = .ok (.iaload, 1) := by decide +kernel
theorem dX3_isSame_74 : decode cX3_isSame 74 = .ok (.aload_n 1, 1) := by decide +kernel
theorem dX3_isSame_75 : decode cX3_isSame 75 = .ok (.getfield 24, 3) := by decide +kernel
theorem dX3_isSame_78 : decode cX3_isSame 78 = .ok (.iload_n 2, 1) := by decide +kernel
theorem dX3_isSame_79 : decode cX3_isSame 79 = .ok (.iaload, 1) := by decide +kernel
theorem dX3_isSame_80 : decode cX3_isSame 80 = .ok (.if_icmp .eq 5, 3) := by decide +kernel
theorem dX3_isSame_83 : decode cX3_isSame 83 = .ok (.iconst 0, 1) := by decide +kernel
theorem dX3_isSame_84 : decode cX3_isSame 84 = .ok (.ireturn, 1) := by decide +kernel
theorem dX3_isSame_85 : decode cX3_isSame 85 = .ok (.iinc 2 1, 3) := by decide +kernel
theorem dX3_isSame_88 : decode cX3_isSame 88 = .ok (.goto (-73), 3) := by decide +kernel
theorem dX3_isSame_91 : decode cX3_isSame 91 = .ok (.iconst 0, 1) := by decide +kernel
theorem dX3_isSame_92 : decode cX3_isSame 92 = .ok (.istore_n 2, 1) := by decide +kernel
theorem dX3_isSame_93 : decode cX3_isSame 93 = .ok (.iload_n 2, 1) := by decide +kernel
theorem dX3_isSame_94 : decode cX3_isSame 94 = .ok (.bipush 12, 2) := by decide +kernel
theorem dX3_isSame_96 : decode cX3_isSame 96 = .ok (.if_icmp .ge 26, 3) := by decide +kernel
theorem dX3_isSame_99 : decode cX3_isSame 99 = .ok (.aload_n 0, 1) := by decide +kernel
theorem dX3_isSame_100 : decode cX3_isSame 100 = .ok (.getfield 18, 3) := by decide +kernel
theorem dX3_isSame_103 : decode cX3_isSame 103 = .ok (.iload_n 2, 1) := by decide +kernel
theorem dX3_isSame_104 : decode cX3_isSame 104 = .ok (.iaload, 1) := by decide +kernel
theorem dX3_isSame_105 : decode cX3_isSame 105 = .ok (.aload_n 1, 1) := by decide +kernel
theorem dX3_isSame_106 : decode cX3_isSame 106 = .ok (.getfield 18, 3) := by decide +kernel
theorem dX3_isSame_109 : decode cX3_isSame 109 = .ok (.iload_n 2, 1) := by decide +kernel
theorem dX3_isSame_110 : decode cX3_isSame 110 = .ok (.iaload, 1) := by decide +kernel
theorem dX3_isSame_111 : decode cX3_isSame 111 = .ok (.if_icmp .eq 5, 3) := by decide +kernel
theorem dX3_isSame_114 : decode cX3_isSame 114 = .ok (.iconst 0, 1) := by decide +kernel
theorem dX3_isSame_115 : decode cX3_isSame 115 = .ok (.ireturn, 1) := by decide +kernel
theorem dX3_isSame_116 : decode cX3_isSame 116 = .ok (.iinc 2 1, 3) := by decide +kernel
theorem dX3_isSame_119 : decode cX3_isSame 119 = .ok (.goto (-26), 3) := by decide +kernel
theorem dX3_isSame_122 : decode cX3_isSame 122 = .ok (.iconst 1, 1) := by decide +kernel
theorem dX3_isSame_123 : decode cX3_isSame 123 = .ok (.ireturn, 1) := by decide +kernel
theorem dX3_takeOrder_0 : decode cX3_takeOrder 0 = .ok (.iconst 0, 1) := by decide +kernel
theorem dX3_takeOrder_1 : decode cX3_takeOrder 1 = .ok (.istore_n 2, 1) := by decide +kernel
theorem dX3_takeOrder_2 : decode cX3_takeOrder 2 = .ok (.iload_n 2, 1) := by decide +kernel
theorem dX3_takeOrder_3 : decode cX3_takeOrder 3 = .ok (.aload_n 0, 1) := by decide +kernel
theorem dX3_takeOrder_4 : decode cX3_takeOrder 4 = .ok (.getfield 31, 3) := by decide +kernel
theorem dX3_takeOrder_7 : decode cX3_takeOrder 7 = .ok (.if_icmp .ge 18, 3) := by decide +kernel
theorem dX3_takeOrder_10 : decode cX3_takeOrder 10 = .ok (.aload_n 0, 1) := by decide +kernel
theorem dX3_takeOrder_11 : decode cX3_takeOrder 11 = .ok (.getfield 21, 3) := by decide +kernel
theorem dX3_takeOrder_14 : decode cX3_takeOrder 14 = .ok (.iload_n 2, 1) := by decide +kernel
theorem dX3_takeOrder_15 : decode cX3_takeOrder 15 = .ok (.aload_n 1, 1) := by decide +kernel
theorem dX3_takeOrder_16 : decode cX3_takeOrder 16 = .ok (.iload_n 2, 1) := by decide +kernel
theorem dX3_takeOrder_17 : decode cX3_takeOrder 17 = .ok (.iaload, 1) := by decide +kernel
theorem dX3_takeOrder_18 : decode cX3_takeOrder 18 = .ok (.iastore, 1) := by decide +kernel
theorem dX3_takeOrder_19 : decode cX3_takeOrder 19 = .ok (.iinc 2 1, 3) := by decide +kernel
theorem dX3_takeOrder_22 : decode cX3_takeOrder 22 = .ok (.goto (-20), 3) := by decide +kernel
theorem dX3_takeOrder_25 : decode cX3_takeOrder 25 = .ok (.return_, 1) := by decide +kernel
theorem dX3_hasSection_0 : decode cX3_hasSection 0 = .ok (.iload_n 1, 1) := by decide +kernel
theorem dX3_hasSection_1 : decode cX3_hasSection 1 = .ok (.ifCond .lt 15, 3) := by decide +kernel
theorem dX3_hasSection_4 : decode cX3_hasSection 4 = .ok (.iload_n 1, 1) := by decide +kernel
theorem dX3_hasSection_5 : decode cX3_hasSection 5 = .ok (.aload_n 0, 1) := by decide +kernel
theorem dX3_hasSection_6 : decode cX3_hasSection 6 = .ok (.getfield 31, 3) := by decide +kernel
theorem dX3_hasSection_9 : decode cX3_hasSection 9 = .ok (.if_icmp .ge 7, 3) := by decide +kernel
theorem dX3_hasSection_12 : decode cX3_hasSection 12 = .ok (.iconst 1, 1) := by decide +kernel
theorem dX3_hasSection_13 : decode cX3_hasSection 13 = .ok (.goto 4, 3) := by decide +kernel
theorem dX3_hasSection_16 : decode cX3_hasSection 16 = .ok (.iconst 0, 1) := by decide +kernel
theorem dX3_hasSection_17 : decode cX3_hasSection 17 = .ok (.ireturn, 1) := by decide +kernel
theorem dX3_hasPlace_0 : decode cX3_hasPlace 0 = .ok (.iload_n 1, 1) := by decide +kernel
theorem dX3_hasPlace_1 : decode cX3_hasPlace 1 = .ok (.ifCond .lt 15, 3) := by decide +kernel
theorem dX3_hasPlace_4 : decode cX3_hasPlace 4 = .ok (.iload_n 1, 1) := by decide +kernel
theorem dX3_hasPlace_5 : decode cX3_hasPlace 5 = .ok (.aload_n 0, 1) := by decide +kernel
theorem dX3_hasPlace_6 : decode cX3_hasPlace 6 = .ok (.getfield 31, 3) := by decide +kernel
theorem dX3_hasPlace_9 : decode cX3_hasPlace 9 = .ok (.if_icmp .ge 7, 3) := by decide +kernel
theorem dX3_hasPlace_12 : decode cX3_hasPlace 12 = .ok (.iconst 1, 1) := by decide +kernel
theorem dX3_hasPlace_13 : decode cX3_hasPlace 13 = .ok (.goto 4, 3) := by decide +kernel
theorem dX3_hasPlace_16 : decode cX3_hasPlace 16 = .ok (.iconst 0, 1) := by decide +kernel
theorem dX3_hasPlace_17 : decode cX3_hasPlace 17 = .ok (.ireturn, 1) := by decide +kernel
theorem dX3_placeOf_0 : decode cX3_placeOf 0 = .ok (.iconst 0, 1) := by decide +kernel
theorem dX3_placeOf_1 : decode cX3_placeOf 1 = .ok (.istore_n 2, 1) := by decide +kernel
theorem dX3_placeOf_2 : decode cX3_placeOf 2 = .ok (.iconst 0, 1) := by decide +kernel
theorem dX3_placeOf_3 : decode cX3_placeOf 3 = .ok (.istore_n 3, 1) := by decide +kernel
theorem dX3_placeOf_4 : decode cX3_placeOf 4 = .ok (.iload_n 3, 1) := by decide +kernel
theorem dX3_placeOf_5 : decode cX3_placeOf 5 = .ok (.aload_n 0, 1) := by decide +kernel
theorem dX3_placeOf_6 : decode cX3_placeOf 6 = .ok (.getfield 31, 3) := by decide +kernel
theorem dX3_placeOf_9 : decode cX3_placeOf 9 = .ok (.if_icmp .ge 21, 3) := by decide +kernel
theorem dX3_placeOf_12 : decode cX3_placeOf 12 = .ok (.aload_n 0, 1) := by decide +kernel
theorem dX3_placeOf_13 : decode cX3_placeOf 13 = .ok (.getfield 21, 3) := by decide +kernel
theorem dX3_placeOf_16 : decode cX3_placeOf 16 = .ok (.iload_n 3, 1) := by decide +kernel
theorem dX3_placeOf_17 : decode cX3_placeOf 17 = .ok (.iaload, 1) := by decide +kernel
theorem dX3_placeOf_18 : decode cX3_placeOf 18 = .ok (.iload_n 1, 1) := by decide +kernel
theorem dX3_placeOf_19 : decode cX3_placeOf 19 = .ok (.if_icmp .ne 5, 3) := by decide +kernel
theorem dX3_placeOf_22 : decode cX3_placeOf 22 = .ok (.iload_n 3, 1) := by decide +kernel
theorem dX3_placeOf_23 : decode cX3_placeOf 23 = .ok (.istore_n 2, 1) := by decide +kernel
theorem dX3_placeOf_24 : decode cX3_placeOf 24 = .ok (.iinc 3 1, 3) := by decide +kernel
theorem dX3_placeOf_27 : decode cX3_placeOf 27 = .ok (.goto (-23), 3) := by decide +kernel
theorem dX3_placeOf_30 : decode cX3_placeOf 30 = .ok (.iload_n 2, 1) := by decide +kernel
theorem dX3_placeOf_31 : decode cX3_placeOf 31 = .ok (.ireturn, 1) := by decide +kernel
set_option maxRecDepth 20000 in
theorem ggX3_orderAfterMove_X3_placeOf : GoodIn wsX3_orderAfterMove wsX3_placeOf := goodIn_r _ [7, 1, 2, 8, 9, 10, 11, 12, 13] (by decide +kernel) (by decide +kernel)
set_option maxRecDepth 20000 in
theorem gX3_orderAfterMove_X3_placeOf : GoodIn wsX3_orderAfterMove (wsV RX3 35 RX3 yX3_placeOf wsX3_placeOf) := goodIn_app (goodIn_of _ (by decide +kernel)) ggX3_orderAfterMove_X3_placeOf
theorem dX3_orderAfterMove_0 : decode cX3_orderAfterMove 0 = .ok (.aload_n 0, 1) := by decide +kernel
theorem dX3_orderAfterMove_1 : decode cX3_orderAfterMove 1 = .ok (.iload_n 1, 1) := by decide +kernel
theorem dX3_orderAfterMove_2 : decode cX3_orderAfterMove 2 = .ok (.invokevirtual 35, 3) := by decide +kernel
theorem dX3_orderAfterMove_5 : decode cX3_orderAfterMove 5 = .ok (.istore 4, 2) := by decide +kernel
theorem dX3_orderAfterMove_7 : decode cX3_orderAfterMove 7 = .ok (.iconst 0, 1) := by decide +kernel
theorem dX3_orderAfterMove_8 : decode cX3_orderAfterMove 8 = .ok (.istore 5, 2) := by decide +kernel
theorem dX3_orderAfterMove_10 : decode cX3_orderAfterMove 10 = .ok (.iload 5, 2) := by decide +kernel
theorem dX3_orderAfterMove_12 : decode cX3_orderAfterMove 12 = .ok (.aload_n 0, 1) := by decide +kernel
theorem dX3_orderAfterMove_13 : decode cX3_orderAfterMove 13 = .ok (.getfield 31, 3) := by decide +kernel
theorem dX3_orderAfterMove_16 : decode cX3_orderAfterMove 16 = .ok (.if_icmp .ge 20, 3) := by decide +kernel
theorem dX3_orderAfterMove_19 : decode cX3_orderAfterMove 19 = .ok (.aload_n 3, 1) := by decide +kernel
theorem dX3_orderAfterMove_20 : decode cX3_orderAfterMove 20 = .ok (.iload 5, 2) := by decide +kernel
theorem dX3_orderAfterMove_22 : decode cX3_orderAfterMove 22 = .ok (.aload_n 0, 1) := by decide +kernel
theorem dX3_orderAfterMove_23 : decode cX3_orderAfterMove 23 = .ok (.getfield 21, 3) := by decide +kernel
theorem dX3_orderAfterMove_26 : decode cX3_orderAfterMove 26 = .ok (.iload 5, 2) := by decide +kernel
theorem dX3_orderAfterMove_28 : decode cX3_orderAfterMove 28 = .ok (.iaload, 1) := by decide +kernel
theorem dX3_orderAfterMove_29 : decode cX3_orderAfterMove 29 = .ok (.iastore, 1) := by decide +kernel
theorem dX3_orderAfterMove_30 : decode cX3_orderAfterMove 30 = .ok (.iinc 5 1, 3) := by decide +kernel
theorem dX3_orderAfterMove_33 : decode cX3_orderAfterMove 33 = .ok (.goto (-23), 3) := by decide +kernel
theorem dX3_orderAfterMove_36 : decode cX3_orderAfterMove 36 = .ok (.iload 4, 2) := by decide +kernel
theorem dX3_orderAfterMove_38 : decode cX3_orderAfterMove 38 = .ok (.istore 5, 2) := by decide +kernel
theorem dX3_orderAfterMove_40 : decode cX3_orderAfterMove 40 = .ok (.iload 5, 2) := by decide +kernel
theorem dX3_orderAfterMove_42 : decode cX3_orderAfterMove 42 = .ok (.iload_n 2, 1) := by decide +kernel
theorem dX3_orderAfterMove_43 : decode cX3_orderAfterMove 43 = .ok (.if_icmp .ge 22, 3) := by decide +kernel
theorem dX3_orderAfterMove_46 : decode cX3_orderAfterMove 46 = .ok (.aload_n 3, 1) := by decide +kernel
theorem dX3_orderAfterMove_47 : decode cX3_orderAfterMove 47 = .ok (.iload 5, 2) := by decide +kernel
theorem dX3_orderAfterMove_49 : decode cX3_orderAfterMove 49 = .ok (.aload_n 0, 1) := by decide +kernel
theorem dX3_orderAfterMove_50 : decode cX3_orderAfterMove 50 = .ok (.getfield 21, 3) := by decide +kernel
theorem dX3_orderAfterMove_53 : decode cX3_orderAfterMove 53 = .ok (.iload 5, 2) := by decide +kernel
theorem dX3_orderAfterMove_55 : decode cX3_orderAfterMove 55 = .ok (.iconst 1, 1) := by decide +kernel
theorem dX3_orderAfterMove_56 : decode cX3_orderAfterMove 56 = .ok (.iadd, 1) := by decide +kernel
theorem dX3_orderAfterMove_57 : decode cX3_orderAfterMove 57 = .ok (.iaload, 1) := by decide +kernel
theorem dX3_orderAfterMove_58 : decode cX3_orderAfterMove 58 = .ok (.iastore, 1) := by decide +kernel
theorem dX3_orderAfterMove_59 : decode cX3_orderAfterMove 59 = .ok (.iinc 5 1, 3) := by decide +kernel
theorem dX3_orderAfterMove_62 : decode cX3_orderAfterMove 62 = .ok (.goto (-22), 3) := by decide +kernel
theorem dX3_orderAfterMove_65 : decode cX3_orderAfterMove 65 = .ok (.iload 4, 2) := by decide +kernel
theorem dX3_orderAfterMove_67 : decode cX3_orderAfterMove 67 = .ok (.istore 5, 2) := by decide +kernel
theorem dX3_orderAfterMove_69 : decode cX3_orderAfterMove 69 = .ok (.iload 5, 2) := by decide +kernel
theorem dX3_orderAfterMove_71 : decode cX3_orderAfterMove 71 = .ok (.iload_n 2, 1) := by decide +kernel
theorem dX3_orderAfterMove_72 : decode cX3_orderAfterMove 72 = .ok (.if_icmp .le 22, 3) := by decide +kernel
theorem dX3_orderAfterMove_75 : decode cX3_orderAfterMove 75 = .ok (.aload_n 3, 1) := by decide +kernel
theorem dX3_orderAfterMove_76 : decode cX3_orderAfterMove 76 = .ok (.iload 5, 2) := by decide +kernel
theorem dX3_orderAfterMove_78 : decode cX3_orderAfterMove 78 = .ok (.aload_n 0, 1) := by decide +kernel
theorem dX3_orderAfterMove_79 : decode cX3_orderAfterMove 79 = .ok (.getfield 21, 3) := by decide +kernel
theorem dX3_orderAfterMove_82 : decode cX3_orderAfterMove 82 = .ok (.iload 5, 2) := by decide +kernel
theorem dX3_orderAfterMove_84 : decode cX3_orderAfterMove 84 = .ok (.iconst 1, 1) := by decide +kernel
theorem dX3_orderAfterMove_85 : decode cX3_orderAfterMove 85 = .ok (.isub, 1) := by decide +kernel
theorem dX3_orderAfterMove_86 : decode cX3_orderAfterMove 86 = .ok (.iaload, 1) := by decide +kernel
theorem dX3_orderAfterMove_87 : decode cX3_orderAfterMove 87 = .ok (.iastore, 1) := by decide +kernel
theorem dX3_orderAfterMove_88 : decode cX3_orderAfterMove 88 = .ok (.iinc 5 (-1), 3) := by decide +kernel
theorem dX3_orderAfterMove_91 : decode cX3_orderAfterMove 91 = .ok (.goto (-22), 3) := by decide +kernel
theorem dX3_orderAfterMove_94 : decode cX3_orderAfterMove 94 = .ok (.aload_n 3, 1) := by decide +kernel
theorem dX3_orderAfterMove_95 : decode cX3_orderAfterMove 95 = .ok (.iload_n 2, 1) := by decide +kernel
theorem dX3_orderAfterMove_96 : decode cX3_orderAfterMove 96 = .ok (.iload_n 1, 1) := by decide +kernel
theorem dX3_orderAfterMove_97 : decode cX3_orderAfterMove 97 = .ok (.iastore, 1) := by decide +kernel
theorem dX3_orderAfterMove_98 : decode cX3_orderAfterMove 98 = .ok (.return_, 1) := by decide +kernel
set_option maxRecDepth 20000 in
theorem ggX3_canTakePrecedence_X3_placeOf : GoodIn wsX3_canTakePrecedence wsX3_placeOf := goodIn_r _ [6, 7, 8, 12, 13, 14, 15, 16, 17] (by decide +kernel) (by decide +kernel)
set_option maxRecDepth 20000 in
theorem gX3_canTakePrecedence_X3_placeOf : GoodIn wsX3_canTakePrecedence (wsV RX3 35 RX3 yX3_placeOf wsX3_placeOf) := goodIn_app (goodIn_of _ (by decide +kernel)) ggX3_canTakePrecedence_X3_placeOf
set_option maxRecDepth 20000 in
theorem ggX3_canTakePrecedence_X6_has : GoodIn wsX3_canTakePrecedence wsX6_has := goodIn_r _ [11] (by decide +kernel) (by decide +kernel)
set_option maxRecDepth 20000 in
theorem gX3_canTakePrecedence_X6_has_n39 : GoodIn wsX3_canTakePrecedence (wsX6_has) := ggX3_canTakePrecedence_X6_has
theorem dX3_canTakePrecedence_0 : decode cX3_canTakePrecedence 0 = .ok (.aload_n 0, 1) := by decide +kernel
theorem dX3_canTakePrecedence_1 : decode cX3_canTakePrecedence 1 = .ok (.iload_n 1, 1) := by decide +kernel
theorem dX3_canTakePrecedence_2 : decode cX3_canTakePrecedence 2 = .ok (.invokevirtual 35, 3) := by decide +kernel
theorem dX3_canTakePrecedence_5 : decode cX3_canTakePrecedence 5 = .ok (.aload_n 0, 1) := by decide +kernel
theorem dX3_canTakePrecedence_6 : decode cX3_canTakePrecedence 6 = .ok (.iload_n 2, 1) := by decide +kernel
theorem dX3_canTakePrecedence_7 : decode cX3_canTakePrecedence 7 = .ok (.invokevirtual 35, 3) := by decide +kernel
theorem dX3_canTakePrecedence_10 : decode cX3_canTakePrecedence 10 = .ok (.if_icmp .ge 20, 3) := by decide +kernel
theorem dX3_canTakePrecedence_13 : decode cX3_canTakePrecedence 13 = .ok (.aload_n 0, 1) := by decide +kernel
theorem dX3_canTakePrecedence_14 : decode cX3_canTakePrecedence 14 = .ok (.getfield 24, 3) := by decide +kernel
theorem dX3_canTakePrecedence_17 : decode cX3_canTakePrecedence 17 = .ok (.iload_n 2, 1) := by decide +kernel
theorem dX3_canTakePrecedence_18 : decode cX3_canTakePrecedence 18 = .ok (.iaload, 1) := by decide +kernel
theorem dX3_canTakePrecedence_19 : decode cX3_canTakePrecedence 19 = .ok (.iload_n 1, 1) := by decide +kernel
theorem dX3_canTakePrecedence_20 : decode cX3_canTakePrecedence 20 = .ok (.invokestatic 39, 3) := by decide +kernel
theorem dX3_canTakePrecedence_23 : decode cX3_canTakePrecedence 23 = .ok (.ifCond .ne 7, 3) := by decide +kernel
theorem dX3_canTakePrecedence_26 : decode cX3_canTakePrecedence 26 = .ok (.iconst 1, 1) := by decide +kernel
theorem dX3_canTakePrecedence_27 : decode cX3_canTakePrecedence 27 = .ok (.goto 4, 3) := by decide +kernel
theorem dX3_canTakePrecedence_30 : decode cX3_canTakePrecedence 30 = .ok (.iconst 0, 1) := by decide +kernel
theorem dX3_canTakePrecedence_31 : decode cX3_canTakePrecedence 31 = .ok (.ireturn, 1) := by decide +kernel
set_option maxRecDepth 20000 in
theorem ggX3_respectsPrecedences_X6_with : GoodIn wsX3_respectsPrecedences wsX6_with := goodIn_r _ [5] (by decide +kernel) (by decide +kernel)
