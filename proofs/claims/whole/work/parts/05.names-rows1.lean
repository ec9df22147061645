set_option maxRecDepth 20000 in
theorem gX3_respectsPrecedences_X6_with_n43 : GoodIn wsX3_respectsPrecedences (wsX6_with) := ggX3_respectsPrecedences_X6_with
theorem dX3_respectsPrecedences_0 : decode cX3_respectsPrecedences 0 = .ok (.iconst 0, 1) := by decide +kernel
theorem dX3_respectsPrecedences_1 : decode cX3_respectsPrecedences 1 = .ok (.istore_n 2, 1) := by decide +kernel
theorem dX3_respectsPrecedences_2 : decode cX3_respectsPrecedences 2 = .ok (.iconst 0, 1) := by decide +kernel
theorem dX3_respectsPrecedences_3 : decode cX3_respectsPrecedences 3 = .ok (.istore_n 3, 1) := by decide +kernel
theorem dX3_respectsPrecedences_4 : decode cX3_respectsPrecedences 4 = .ok (.iload_n 3, 1) := by decide +kernel
theorem dX3_respectsPrecedences_5 : decode cX3_respectsPrecedences 5 = .ok (.aload_n 0, 1) := by decide +kernel
theorem dX3_respectsPrecedences_6 : decode cX3_respectsPrecedences 6 = .ok (.getfield 31, 3) := by decide +kernel
theorem dX3_respectsPrecedences_9 : decode cX3_respectsPrecedences 9 = .ok (.if_icmp .ge 37, 3) := by decide +kernel
theorem dX3_respectsPrecedences_12 : decode cX3_respectsPrecedences 12 = .ok (.aload_n 1, 1) := by decide +kernel
theorem dX3_respectsPrecedences_13 : decode cX3_respectsPrecedences 13 = .ok (.iload_n 3, 1) := by decide +kernel
theorem dX3_respectsPrecedences_14 : decode cX3_respectsPrecedences 14 = .ok (.iaload, 1) := by decide +kernel
theorem dX3_respectsPrecedences_15 : decode cX3_respectsPrecedences 15 = .ok (.istore 4, 2) := by decide +kernel
theorem dX3_respectsPrecedences_17 : decode cX3_respectsPrecedences 17 = .ok (.aload_n 0, 1) := by decide +kernel
theorem dX3_respectsPrecedences_18 : decode cX3_respectsPrecedences 18 = .ok (.getfield 24, 3) := by decide +kernel
theorem dX3_respectsPrecedences_21 : decode cX3_respectsPrecedences 21 = .ok (.iload 4, 2) := by decide +kernel
theorem dX3_respectsPrecedences_23 : decode cX3_respectsPrecedences 23 = .ok (.iaload, 1) := by decide +kernel
theorem dX3_respectsPrecedences_24 : decode cX3_respectsPrecedences 24 = .ok (.iload_n 2, 1) := by decide +kernel
theorem dX3_respectsPrecedences_25 : decode cX3_respectsPrecedences 25 = .ok (.iconst (-1), 1) := by decide +kernel
theorem dX3_respectsPrecedences_26 : decode cX3_respectsPrecedences 26 = .ok (.ixor, 1) := by decide +kernel
theorem dX3_respectsPrecedences_27 : decode cX3_respectsPrecedences 27 = .ok (.iand, 1) := by decide +kernel
theorem dX3_respectsPrecedences_28 : decode cX3_respectsPrecedences 28 = .ok (.ifCond .eq 5, 3) := by decide +kernel
theorem dX3_respectsPrecedences_31 : decode cX3_respectsPrecedences 31 = .ok (.iconst 0, 1) := by decide +kernel
theorem dX3_respectsPrecedences_32 : decode cX3_respectsPrecedences 32 = .ok (.ireturn, 1) := by decide +kernel
theorem dX3_respectsPrecedences_33 : decode cX3_respectsPrecedences 33 = .ok (.iload_n 2, 1) := by decide +kernel
theorem dX3_respectsPrecedences_34 : decode cX3_respectsPrecedences 34 = .ok (.iload 4, 2) := by decide +kernel
theorem dX3_respectsPrecedences_36 : decode cX3_respectsPrecedences 36 = .ok (.invokestatic 43, 3) := by decide +kernel
theorem dX3_respectsPrecedences_39 : decode cX3_respectsPrecedences 39 = .ok (.istore_n 2, 1) := by decide +kernel
theorem dX3_respectsPrecedences_40 : decode cX3_respectsPrecedences 40 = .ok (.iinc 3 1, 3) := by decide +kernel
theorem dX3_respectsPrecedences_43 : decode cX3_respectsPrecedences 43 = .ok (.goto (-39), 3) := by decide +kernel
theorem dX3_respectsPrecedences_46 : decode cX3_respectsPrecedences 46 = .ok (.iconst 1, 1) := by decide +kernel
theorem dX3_respectsPrecedences_47 : decode cX3_respectsPrecedences 47 = .ok (.ireturn, 1) := by decide +kernel
set_option maxRecDepth 20000 in
theorem ggX3_countPrecedences_J6_bitCount_0f7a4 : GoodIn wsX3_countPrecedences wsJ6_bitCount_0f7a4 := goodIn_r _ [6, 7, 8, 9] (by decide +kernel) (by decide +kernel)
set_option maxRecDepth 20000 in
theorem gX3_countPrecedences_J6_bitCount_0f7a4 : GoodIn wsX3_countPrecedences (va_wsS RX3 47 yJ6_bitCount_0f7a4 wsJ6_bitCount_0f7a4) := goodIn_app (goodIn_of _ (by decide +kernel)) ggX3_countPrecedences_J6_bitCount_0f7a4
theorem dX3_countPrecedences_0 : decode cX3_countPrecedences 0 = .ok (.iconst 0, 1) := by decide +kernel
theorem dX3_countPrecedences_1 : decode cX3_countPrecedences 1 = .ok (.istore_n 1, 1) := by decide +kernel
theorem dX3_countPrecedences_2 : decode cX3_countPrecedences 2 = .ok (.iconst 0, 1) := by decide +kernel
theorem dX3_countPrecedences_3 : decode cX3_countPrecedences 3 = .ok (.istore_n 2, 1) := by decide +kernel
theorem dX3_countPrecedences_4 : decode cX3_countPrecedences 4 = .ok (.iload_n 2, 1) := by decide +kernel
theorem dX3_countPrecedences_5 : decode cX3_countPrecedences 5 = .ok (.aload_n 0, 1) := by decide +kernel
theorem dX3_countPrecedences_6 : decode cX3_countPrecedences 6 = .ok (.getfield 31, 3) := by decide +kernel
theorem dX3_countPrecedences_9 : decode cX3_countPrecedences 9 = .ok (.if_icmp .ge 21, 3) := by decide +kernel
theorem dX3_countPrecedences_12 : decode cX3_countPrecedences 12 = .ok (.iload_n 1, 1) := by decide +kernel
theorem dX3_countPrecedences_13 : decode cX3_countPrecedences 13 = .ok (.aload_n 0, 1) := by decide +kernel
theorem dX3_countPrecedences_14 : decode cX3_countPrecedences 14 = .ok (.getfield 24, 3) := by decide +kernel
theorem dX3_countPrecedences_17 : decode cX3_countPrecedences 17 = .ok (.iload_n 2, 1) := by decide +kernel
theorem dX3_countPrecedences_18 : decode cX3_countPrecedences 18 = .ok (.iaload, 1) := by decide +kernel
theorem dX3_countPrecedences_19 : decode cX3_countPrecedences 19 = .ok (.invokestatic 47, 3) := by decide +kernel
theorem dX3_countPrecedences_22 : decode cX3_countPrecedences 22 = .ok (.iadd, 1) := by decide +kernel
theorem dX3_countPrecedences_23 : decode cX3_countPrecedences 23 = .ok (.istore_n 1, 1) := by decide +kernel
theorem dX3_countPrecedences_24 : decode cX3_countPrecedences 24 = .ok (.iinc 2 1, 3) := by decide +kernel
theorem dX3_countPrecedences_27 : decode cX3_countPrecedences 27 = .ok (.goto (-23), 3) := by decide +kernel
theorem dX3_countPrecedences_30 : decode cX3_countPrecedences 30 = .ok (.iload_n 1, 1) := by decide +kernel
theorem dX3_countPrecedences_31 : decode cX3_countPrecedences 31 = .ok (.ireturn, 1) := by decide +kernel
set_option maxRecDepth 20000 in
theorem ggX3_termsAtHome_X6_with : GoodIn wsX3_termsAtHome wsX6_with := goodIn_r _ [4] (by decide +kernel) (by decide +kernel)
set_option maxRecDepth 20000 in
theorem gX3_termsAtHome_X6_with_n43 : GoodIn wsX3_termsAtHome (wsX6_with) := ggX3_termsAtHome_X6_with
theorem dX3_termsAtHome_0 : decode cX3_termsAtHome 0 = .ok (.iconst 0, 1) := by decide +kernel
theorem dX3_termsAtHome_1 : decode cX3_termsAtHome 1 = .ok (.istore_n 2, 1) := by decide +kernel
theorem dX3_termsAtHome_2 : decode cX3_termsAtHome 2 = .ok (.iconst 0, 1) := by decide +kernel
theorem dX3_termsAtHome_3 : decode cX3_termsAtHome 3 = .ok (.istore_n 3, 1) := by decide +kernel
theorem dX3_termsAtHome_4 : decode cX3_termsAtHome 4 = .ok (.iload_n 3, 1) := by decide +kernel
theorem dX3_termsAtHome_5 : decode cX3_termsAtHome 5 = .ok (.bipush 12, 2) := by decide +kernel
theorem dX3_termsAtHome_7 : decode cX3_termsAtHome 7 = .ok (.if_icmp .ge 25, 3) := by decide +kernel
theorem dX3_termsAtHome_10 : decode cX3_termsAtHome 10 = .ok (.aload_n 0, 1) := by decide +kernel
theorem dX3_termsAtHome_11 : decode cX3_termsAtHome 11 = .ok (.getfield 18, 3) := by decide +kernel
theorem dX3_termsAtHome_14 : decode cX3_termsAtHome 14 = .ok (.iload_n 3, 1) := by decide +kernel
theorem dX3_termsAtHome_15 : decode cX3_termsAtHome 15 = .ok (.iaload, 1) := by decide +kernel
theorem dX3_termsAtHome_16 : decode cX3_termsAtHome 16 = .ok (.iload_n 1, 1) := by decide +kernel
theorem dX3_termsAtHome_17 : decode cX3_termsAtHome 17 = .ok (.if_icmp .ne 9, 3) := by decide +kernel
theorem dX3_termsAtHome_20 : decode cX3_termsAtHome 20 = .ok (.iload_n 2, 1) := by decide +kernel
theorem dX3_termsAtHome_21 : decode cX3_termsAtHome 21 = .ok (.iload_n 3, 1) := by decide +kernel
theorem dX3_termsAtHome_22 : decode cX3_termsAtHome 22 = .ok (.invokestatic 43, 3) := by decide +kernel
theorem dX3_termsAtHome_25 : decode cX3_termsAtHome 25 = .ok (.istore_n 2, 1) := by decide +kernel
theorem dX3_termsAtHome_26 : decode cX3_termsAtHome 26 = .ok (.iinc 3 1, 3) := by decide +kernel
theorem dX3_termsAtHome_29 : decode cX3_termsAtHome 29 = .ok (.goto (-25), 3) := by decide +kernel
theorem dX3_termsAtHome_32 : decode cX3_termsAtHome 32 = .ok (.iload_n 2, 1) := by decide +kernel
theorem dX3_termsAtHome_33 : decode cX3_termsAtHome 33 = .ok (.ireturn, 1) := by decide +kernel
set_option maxRecDepth 20000 in
theorem ggX3_usersOf_X6_has : GoodIn wsX3_usersOf wsX6_has := goodIn_r _ [5] (by decide +kernel) (by decide +kernel)
set_option maxRecDepth 20000 in
theorem gX3_usersOf_X6_has_n39 : GoodIn wsX3_usersOf (wsX6_has) := ggX3_usersOf_X6_has
set_option maxRecDepth 20000 in
theorem ggX3_usersOf_X6_with : GoodIn wsX3_usersOf wsX6_with := goodIn_r _ [7] (by decide +kernel) (by decide +kernel)
set_option maxRecDepth 20000 in
theorem gX3_usersOf_X6_with_n43 : GoodIn wsX3_usersOf (wsX6_with) := ggX3_usersOf_X6_with
theorem dX3_usersOf_0 : decode cX3_usersOf 0 = .ok (.iconst 0, 1) := by decide +kernel
theorem dX3_usersOf_1 : decode cX3_usersOf 1 = .ok (.istore_n 2, 1) := by decide +kernel
theorem dX3_usersOf_2 : decode cX3_usersOf 2 = .ok (.iconst 0, 1) := by decide +kernel
theorem dX3_usersOf_3 : decode cX3_usersOf 3 = .ok (.istore_n 3, 1) := by decide +kernel
theorem dX3_usersOf_4 : decode cX3_usersOf 4 = .ok (.iload_n 3, 1) := by decide +kernel
theorem dX3_usersOf_5 : decode cX3_usersOf 5 = .ok (.aload_n 0, 1) := by decide +kernel
theorem dX3_usersOf_6 : decode cX3_usersOf 6 = .ok (.getfield 31, 3) := by decide +kernel
theorem dX3_usersOf_9 : decode cX3_usersOf 9 = .ok (.if_icmp .ge 28, 3) := by decide +kernel
theorem dX3_usersOf_12 : decode cX3_usersOf 12 = .ok (.aload_n 0, 1) := by decide +kernel
theorem dX3_usersOf_13 : decode cX3_usersOf 13 = .ok (.getfield 15, 3) := by decide +kernel
theorem dX3_usersOf_16 : decode cX3_usersOf 16 = .ok (.iload_n 3, 1) := by decide +kernel
theorem dX3_usersOf_17 : decode cX3_usersOf 17 = .ok (.iaload, 1) := by decide +kernel
theorem dX3_usersOf_18 : decode cX3_usersOf 18 = .ok (.iload_n 1, 1) := by decide +kernel
theorem dX3_usersOf_19 : decode cX3_usersOf 19 = .ok (.invokestatic 39, 3) := by decide +kernel
theorem dX3_usersOf_22 : decode cX3_usersOf 22 = .ok (.ifCond .eq 9, 3) := by decide +kernel
theorem dX3_usersOf_25 : decode cX3_usersOf 25 = .ok (.iload_n 2, 1) := by decide +kernel
theorem dX3_usersOf_26 : decode cX3_usersOf 26 = .ok (.iload_n 3, 1) := by decide +kernel
theorem dX3_usersOf_27 : decode cX3_usersOf 27 = .ok (.invokestatic 43, 3) := by decide +kernel
theorem dX3_usersOf_30 : decode cX3_usersOf 30 = .ok (.istore_n 2, 1) := by decide +kernel
theorem dX3_usersOf_31 : decode cX3_usersOf 31 = .ok (.iinc 3 1, 3) := by decide +kernel
theorem dX3_usersOf_34 : decode cX3_usersOf 34 = .ok (.goto (-30), 3) := by decide +kernel
theorem dX3_usersOf_37 : decode cX3_usersOf 37 = .ok (.iload_n 2, 1) := by decide +kernel
theorem dX3_usersOf_38 : decode cX3_usersOf 38 = .ok (.ireturn, 1) := by decide +kernel
set_option maxRecDepth 20000 in
theorem ggX3_isLoose_X3_usersOf : GoodIn wsX3_isLoose wsX3_usersOf := goodIn_r _ [6, 7, 8, 9, 10, 11, 12, 13, 14, 15, 16, 17, 18, 19] (by decide +kernel) (by decide +kernel)
set_option maxRecDepth 20000 in
theorem gX3_isLoose_X3_usersOf : GoodIn wsX3_isLoose (wsV RX3 52 RX3 yX3_usersOf wsX3_usersOf) := goodIn_app (goodIn_of _ (by decide +kernel)) ggX3_isLoose_X3_usersOf
theorem dX3_isLoose_0 : decode cX3_isLoose 0 = .ok (.aload_n 0, 1) := by decide +kernel
theorem dX3_isLoose_1 : decode cX3_isLoose 1 = .ok (.getfield 18, 3) := by decide +kernel
theorem dX3_isLoose_4 : decode cX3_isLoose 4 = .ok (.iload_n 1, 1) := by decide +kernel
theorem dX3_isLoose_5 : decode cX3_isLoose 5 = .ok (.iaload, 1) := by decide +kernel
theorem dX3_isLoose_6 : decode cX3_isLoose 6 = .ok (.iconst (-1), 1) := by decide +kernel
theorem dX3_isLoose_7 : decode cX3_isLoose 7 = .ok (.if_icmp .ne 15, 3) := by decide +kernel
theorem dX3_isLoose_10 : decode cX3_isLoose 10 = .ok (.aload_n 0, 1) := by decide +kernel
theorem dX3_isLoose_11 : decode cX3_isLoose 11 = .ok (.iload_n 1, 1) := by decide +kernel
theorem dX3_isLoose_12 : decode cX3_isLoose 12 = .ok (.invokevirtual 52, 3) := by decide +kernel
theorem dX3_isLoose_15 : decode cX3_isLoose 15 = .ok (.ifCond .eq 7, 3) := by decide +kernel
theorem dX3_isLoose_18 : decode cX3_isLoose 18 = .ok (.iconst 1, 1) := by decide +kernel
theorem dX3_isLoose_19 : decode cX3_isLoose 19 = .ok (.goto 4, 3) := by decide +kernel
theorem dX3_isLoose_22 : decode cX3_isLoose 22 = .ok (.iconst 0, 1) := by decide +kernel
theorem dX3_isLoose_23 : decode cX3_isLoose 23 = .ok (.ireturn, 1) := by decide +kernel
set_option maxRecDepth 20000 in
theorem ggX3_neededBy_X6_has : GoodIn wsX3_neededBy wsX6_has := goodIn_r _ [5] (by decide +kernel) (by decide +kernel)
set_option maxRecDepth 20000 in
theorem gX3_neededBy_X6_has_n39 : GoodIn wsX3_neededBy (wsX6_has) := ggX3_neededBy_X6_has
set_option maxRecDepth 20000 in
theorem ggX3_neededBy_X6_with : GoodIn wsX3_neededBy wsX6_with := goodIn_r _ [7] (by decide +kernel) (by decide +kernel)
set_option maxRecDepth 20000 in
theorem gX3_neededBy_X6_with_n43 : GoodIn wsX3_neededBy (wsX6_with) := ggX3_neededBy_X6_with
theorem dX3_neededBy_0 : decode cX3_neededBy 0 = .ok (.iconst 0, 1) := by decide +kernel
theorem dX3_neededBy_1 : decode cX3_neededBy 1 = .ok (.istore_n 2, 1) := by decide +kernel
theorem dX3_neededBy_2 : decode cX3_neededBy 2 = .ok (.iconst 0, 1) := by decide +kernel
theorem dX3_neededBy_3 : decode cX3_neededBy 3 = .ok (.istore_n 3, 1) := by decide +kernel
theorem dX3_neededBy_4 : decode cX3_neededBy 4 = .ok (.iload_n 3, 1) := by decide +kernel
theorem dX3_neededBy_5 : decode cX3_neededBy 5 = .ok (.bipush 12, 2) := by decide +kernel
theorem dX3_neededBy_7 : decode cX3_neededBy 7 = .ok (.if_icmp .ge 49, 3) := by decide +kernel
theorem dX3_neededBy_10 : decode cX3_neededBy 10 = .ok (.aload_n 0, 1) := by decide +kernel
theorem dX3_neededBy_11 : decode cX3_neededBy 11 = .ok (.getfield 18, 3) := by decide +kernel
theorem dX3_neededBy_14 : decode cX3_neededBy 14 = .ok (.iload_n 3, 1) := by decide +kernel
theorem dX3_neededBy_15 : decode cX3_neededBy 15 = .ok (.iaload, 1) := by decide +kernel
theorem dX3_neededBy_16 : decode cX3_neededBy 16 = .ok (.istore 4, 2) := by decide +kernel
theorem dX3_neededBy_18 : decode cX3_neededBy 18 = .ok (.iload 4, 2) := by decide +kernel
theorem dX3_neededBy_20 : decode cX3_neededBy 20 = .ok (.iconst (-1), 1) := by decide +kernel
theorem dX3_neededBy_21 : decode cX3_neededBy 21 = .ok (.if_icmp .eq 29, 3) := by decide +kernel
theorem dX3_neededBy_24 : decode cX3_neededBy 24 = .ok (.iload 4, 2) := by decide +kernel
theorem dX3_neededBy_26 : decode cX3_neededBy 26 = .ok (.iload_n 1, 1) := by decide +kernel
theorem dX3_neededBy_27 : decode cX3_neededBy 27 = .ok (.if_icmp .eq 23, 3) := by decide +kernel
theorem dX3_neededBy_30 : decode cX3_neededBy 30 = .ok (.aload_n 0, 1) := by decide +kernel
theorem dX3_neededBy_31 : decode cX3_neededBy 31 = .ok (.getfield 15, 3) := by decide +kernel
theorem dX3_neededBy_34 : decode cX3_neededBy 34 = .ok (.iload_n 1, 1) := by decide +kernel
theorem dX3_neededBy_35 : decode cX3_neededBy 35 = .ok (.iaload, 1) := by decide +kernel
theorem dX3_neededBy_36 : decode cX3_neededBy 36 = .ok (.iload_n 3, 1) := by decide +kernel
theorem dX3_neededBy_37 : decode cX3_neededBy 37 = .ok (.invokestatic 39, 3) := by decide +kernel
theorem dX3_neededBy_40 : decode cX3_neededBy 40 = .ok (.ifCond .eq 10, 3) := by decide +kernel
theorem dX3_neededBy_43 : decode cX3_neededBy 43 = .ok (.iload_n 2, 1) := by decide +kernel
theorem dX3_neededBy_44 : decode cX3_neededBy 44 = .ok (.iload 4, 2) := by decide +kernel
theorem dX3_neededBy_46 : decode cX3_neededBy 46 = .ok (.invokestatic 43, 3) := by decide +kernel
theorem dX3_neededBy_49 : decode cX3_neededBy 49 = .ok (.istore_n 2, 1) := by decide +kernel
theorem dX3_neededBy_50 : decode cX3_neededBy 50 = .ok (.iinc 3 1, 3) := by decide +kernel
theorem dX3_neededBy_53 : decode cX3_neededBy 53 = .ok (.goto (-49), 3) := by decide +kernel
theorem dX3_neededBy_56 : decode cX3_neededBy 56 = .ok (.iload_n 2, 1) := by decide +kernel
theorem dX3_neededBy_57 : decode cX3_neededBy 57 = .ok (.ireturn, 1) := by decide +kernel
set_option maxRecDepth 20000 in
theorem ggX3_countLoose_X3_isLoose : GoodIn wsX3_countLoose wsX3_isLoose := goodIn_r _ [5, 6, 7, 8, 9, 4, 10, 11, 12, 13, 14, 15, 16, 17, 18, 19, 20, 21, 22, 23] (by decide +kernel) (by decide +kernel)
set_option maxRecDepth 20000 in
theorem gX3_countLoose_X3_isLoose : GoodIn wsX3_countLoose (wsV RX3 55 RX3 yX3_isLoose wsX3_isLoose) := goodIn_app (goodIn_of _ (by decide +kernel)) ggX3_countLoose_X3_isLoose
theorem dX3_countLoose_0 : decode cX3_countLoose 0 = .ok (.iconst 0, 1) := by decide +kernel
theorem dX3_countLoose_1 : decode cX3_countLoose 1 = .ok (.istore_n 1, 1) := by decide +kernel
theorem dX3_countLoose_2 : decode cX3_countLoose 2 = .ok (.iconst 0, 1) := by decide +kernel
theorem dX3_countLoose_3 : decode cX3_countLoose 3 = .ok (.istore_n 2, 1) := by decide +kernel
theorem dX3_countLoose_4 : decode cX3_countLoose 4 = .ok (.iload_n 2, 1) := by decide +kernel
theorem dX3_countLoose_5 : decode cX3_countLoose 5 = .ok (.bipush 12, 2) := by decide +kernel
theorem dX3_countLoose_7 : decode cX3_countLoose 7 = .ok (.if_icmp .ge 20, 3) := by decide +kernel
theorem dX3_countLoose_10 : decode cX3_countLoose 10 = .ok (.aload_n 0, 1) := by decide +kernel
theorem dX3_countLoose_11 : decode cX3_countLoose 11 = .ok (.iload_n 2, 1) := by decide +kernel
theorem dX3_countLoose_12 : decode cX3_countLoose 12 = .ok (.invokevirtual 55, 3) := by decide +kernel
theorem dX3_countLoose_15 : decode cX3_countLoose 15 = .ok (.ifCond .eq 6, 3) := by decide +kernel
theorem dX3_countLoose_18 : decode cX3_countLoose 18 = .ok (.iinc 1 1, 3) := by decide +kernel
theorem dX3_countLoose_21 : decode cX3_countLoose 21 = .ok (.iinc 2 1, 3) := by decide +kernel
theorem dX3_countLoose_24 : decode cX3_countLoose 24 = .ok (.goto (-20), 3) := by decide +kernel
theorem dX3_countLoose_27 : decode cX3_countLoose 27 = .ok (.iload_n 1, 1) := by decide +kernel
theorem dX3_countLoose_28 : decode cX3_countLoose 28 = .ok (.ireturn, 1) := by decide +kernel
theorem dX3_countHomes_0 : decode cX3_countHomes 0 = .ok (.iconst 0, 1) := by decide +kernel
theorem dX3_countHomes_1 : decode cX3_countHomes 1 = .ok (.istore_n 1, 1) := by decide +kernel
theorem dX3_countHomes_2 : decode cX3_countHomes 2 = .ok (.iconst 0, 1) := by decide +kernel
theorem dX3_countHomes_3 : decode cX3_countHomes 3 = .ok (.istore_n 2, 1) := by decide +kernel
theorem dX3_countHomes_4 : decode cX3_countHomes 4 = .ok (.iload_n 2, 1) := by decide +kernel
theorem dX3_countHomes_5 : decode cX3_countHomes 5 = .ok (.bipush 12, 2) := by decide +kernel
theorem dX3_countHomes_7 : decode cX3_countHomes 7 = .ok (.if_icmp .ge 22, 3) := by decide +kernel
theorem dX3_countHomes_10 : decode cX3_countHomes 10 = .ok (.aload_n 0, 1) := by decide +kernel
theorem dX3_countHomes_11 : decode cX3_countHomes 11 = .ok (.getfield 18, 3) := by decide +kernel
theorem dX3_countHomes_14 : decode cX3_countHomes 14 = .ok (.iload_n 2, 1) := by decide +kernel
theorem dX3_countHomes_15 : decode cX3_countHomes 15 = .ok (.iaload, 1) := by decide +kernel
theorem dX3_countHomes_16 : decode cX3_countHomes 16 = .ok (.iconst (-1), 1) := by decide +kernel
theorem dX3_countHomes_17 : decode cX3_countHomes 17 = .ok (.if_icmp .eq 6, 3) := by decide +kernel
theorem dX3_countHomes_20 : decode cX3_countHomes 20 = .ok (.iinc 1 1, 3) := by decide +kernel
theorem dX3_countHomes_23 : decode cX3_countHomes 23 = .ok (.iinc 2 1, 3) := by decide +kernel
theorem dX3_countHomes_26 : decode cX3_countHomes 26 = .ok (.goto (-22), 3) := by decide +kernel
theorem dX3_countHomes_29 : decode cX3_countHomes 29 = .ok (.iload_n 1, 1) := by decide +kernel
theorem dX3_countHomes_30 : decode cX3_countHomes 30 = .ok (.ireturn, 1) := by decide +kernel
set_option maxRecDepth 20000 in
theorem ggX3_countUses_J6_bitCount_0f7a4 : GoodIn wsX3_countUses wsJ6_bitCount_0f7a4 := goodIn_r _ [6, 7, 8, 9] (by decide +kernel) (by decide +kernel)
set_option maxRecDepth 20000 in
theorem gX3_countUses_J6_bitCount_0f7a4 : GoodIn wsX3_countUses (va_wsS RX3 47 yJ6_bitCount_0f7a4 wsJ6_bitCount_0f7a4) := goodIn_app (goodIn_of _ (by decide +kernel)) ggX3_countUses_J6_bitCount_0f7a4
theorem dX3_countUses_0 : decode cX3_countUses 0 = .ok (.iconst 0, 1) := by decide +kernel
theorem dX3_countUses_1 : decode cX3_countUses 1 = .ok (.istore_n 1, 1) := by decide +kernel
theorem dX3_countUses_2 : decode cX3_countUses 2 = .ok (.iconst 0, 1) := by decide +kernel
theorem dX3_countUses_3 : decode cX3_countUses 3 = .ok (.istore_n 2, 1) := by decide +kernel
theorem dX3_countUses_4 : decode cX3_countUses 4 = .ok (.iload_n 2, 1) := by decide +kernel
theorem dX3_countUses_5 : decode cX3_countUses 5 = .ok (.aload_n 0, 1) := by decide +kernel
theorem dX3_countUses_6 : decode cX3_countUses 6 = .ok (.getfield 31, 3) := by decide +kernel
theorem dX3_countUses_9 : decode cX3_countUses 9 = .ok (.if_icmp .ge 21, 3) := by decide +kernel
theorem dX3_countUses_12 : decode cX3_countUses 12 = .ok (.iload_n 1, 1) := by decide +kernel
theorem dX3_countUses_13 : decode cX3_countUses 13 = .ok (.aload_n 0, 1) := by decide +kernel
theorem dX3_countUses_14 : decode cX3_countUses 14 = .ok (.getfield 15, 3) := by decide +kernel
theorem dX3_countUses_17 : decode cX3_countUses 17 = .ok (.iload_n 2, 1) := by decide +kernel
theorem dX3_countUses_18 : decode cX3_countUses 18 = .ok (.iaload, 1) := by decide +kernel
theorem dX3_countUses_19 : decode cX3_countUses 19 = .ok (.invokestatic 47, 3) := by decide +kernel
theorem dX3_countUses_22 : decode cX3_countUses 22 = .ok (.iadd, 1) := by decide +kernel
theorem dX3_countUses_23 : decode cX3_countUses 23 = .ok (.istore_n 1, 1) := by decide +kernel
theorem dX3_countUses_24 : decode cX3_countUses 24 = .ok (.iinc 2 1, 3) := by decide +kernel
theorem dX3_countUses_27 : decode cX3_countUses 27 = .ok (.goto (-23), 3) := by decide +kernel
theorem dX3_countUses_30 : decode cX3_countUses 30 = .ok (.iload_n 1, 1) := by decide +kernel
theorem dX3_countUses_31 : decode cX3_countUses 31 = .ok (.ireturn, 1) := by decide +kernel
theorem dX3_sumPages_0 : decode cX3_sumPages 0 = .ok (.iconst 0, 1) := by decide +kernel
theorem dX3_sumPages_1 : decode cX3_sumPages 1 = .ok (.istore_n 1, 1) := by decide +kernel
theorem dX3_sumPages_2 : decode cX3_sumPages 2 = .ok (.iconst 0, 1) := by decide +kernel
theorem dX3_sumPages_3 : decode cX3_sumPages 3 = .ok (.istore_n 2, 1) := by decide +kernel
theorem dX3_sumPages_4 : decode cX3_sumPages 4 = .ok (.iload_n 2, 1) := by decide +kernel
theorem dX3_sumPages_5 : decode cX3_sumPages 5 = .ok (.aload_n 0, 1) := by decide +kernel
theorem dX3_sumPages_6 : decode cX3_sumPages 6 = .ok (.getfield 31, 3) := by decide +kernel
theorem dX3_sumPages_9 : decode cX3_sumPages 9 = .ok (.if_icmp .ge 18, 3) := by decide +kernel
theorem dX3_sumPages_12 : decode cX3_sumPages 12 = .ok (.iload_n 1, 1) := by decide +kernel
theorem dX3_sumPages_13 : decode cX3_sumPages 13 = .ok (.aload_n 0, 1) := by decide +kernel
theorem dX3_sumPages_14 : decode cX3_sumPages 14 = .ok (.getfield 9, 3) := by decide +kernel
theorem dX3_sumPages_17 : decode cX3_sumPages 17 = .ok (.iload_n 2, 1) := by decide +kernel
theorem dX3_sumPages_18 : decode cX3_sumPages 18 = .ok (.iaload, 1) := by decide +kernel
theorem dX3_sumPages_19 : decode cX3_sumPages 19 = .ok (.iadd, 1) := by decide +kernel
theorem dX3_sumPages_20 : decode cX3_sumPages 20 = .ok (.istore_n 1, 1) := by decide +kernel
theorem dX3_sumPages_21 : decode cX3_sumPages 21 = .ok (.iinc 2 1, 3) := by decide +kernel
theorem dX3_sumPages_24 : decode cX3_sumPages 24 = .ok (.goto (-20), 3) := by decide +kernel
theorem dX3_sumPages_27 : decode cX3_sumPages 27 = .ok (.iload_n 1, 1) := by decide +kernel
theorem dX3_sumPages_28 : decode cX3_sumPages 28 = .ok (.ireturn, 1) := by decide +kernel
set_option maxRecDepth 20000 in
theorem ggX3_earlyTerms_X3_placeOf : GoodIn wsX3_earlyTerms wsX3_placeOf := goodIn_r _ [8, 1, 2, 17, 18, 19, 20, 21, 22] (by decide +kernel) (by decide +kernel)
set_option maxRecDepth 20000 in
theorem gX3_earlyTerms_X3_placeOf : GoodIn wsX3_earlyTerms (wsV RX3 35 RX3 yX3_placeOf wsX3_placeOf) := goodIn_app (goodIn_of _ (by decide +kernel)) ggX3_earlyTerms_X3_placeOf
set_option maxRecDepth 20000 in
theorem ggX3_earlyTerms_X3_termsAtHome : GoodIn wsX3_earlyTerms wsX3_termsAtHome := goodIn_r _ [12, 13, 14, 15, 16, 17, 18, 19, 20, 21, 22] (by decide +kernel) (by decide +kernel)
set_option maxRecDepth 20000 in
theorem gX3_earlyTerms_X3_termsAtHome : GoodIn wsX3_earlyTerms (wsV RX3 59 RX3 yX3_termsAtHome wsX3_termsAtHome) := goodIn_app (goodIn_of _ (by decide +kernel)) ggX3_earlyTerms_X3_termsAtHome
theorem dX3_earlyTerms_0 : decode cX3_earlyTerms 0 = .ok (.iconst 0, 1) := by decide +kernel
theorem dX3_earlyTerms_1 : decode cX3_earlyTerms 1 = .ok (.istore_n 2, 1) := by decide +kernel
theorem dX3_earlyTerms_2 : decode cX3_earlyTerms 2 = .ok (.aload_n 0, 1) := by decide +kernel
theorem dX3_earlyTerms_3 : decode cX3_earlyTerms 3 = .ok (.iload_n 1, 1) := by decide +kernel
theorem dX3_earlyTerms_4 : decode cX3_earlyTerms 4 = .ok (.invokevirtual 35, 3) := by decide +kernel
theorem dX3_earlyTerms_7 : decode cX3_earlyTerms 7 = .ok (.iconst 1, 1) := by decide +kernel
theorem dX3_earlyTerms_8 : decode cX3_earlyTerms 8 = .ok (.iadd, 1) := by decide +kernel
theorem dX3_earlyTerms_9 : decode cX3_earlyTerms 9 = .ok (.istore_n 3, 1) := by decide +kernel
theorem dX3_earlyTerms_10 : decode cX3_earlyTerms 10 = .ok (.iload_n 3, 1) := by decide +kernel
theorem dX3_earlyTerms_11 : decode cX3_earlyTerms 11 = .ok (.aload_n 0, 1) := by decide +kernel
theorem dX3_earlyTerms_12 : decode cX3_earlyTerms 12 = .ok (.getfield 31, 3) := by decide +kernel
theorem dX3_earlyTerms_15 : decode cX3_earlyTerms 15 = .ok (.if_icmp .ge 22, 3) := by decide +kernel
theorem dX3_earlyTerms_18 : decode cX3_earlyTerms 18 = .ok (.iload_n 2, 1) := by decide +kernel
theorem dX3_earlyTerms_19 : decode cX3_earlyTerms 19 = .ok (.aload_n 0, 1) := by decide +kernel
theorem dX3_earlyTerms_20 : decode cX3_earlyTerms 20 = .ok (.aload_n 0, 1) := by decide +kernel
theorem dX3_earlyTerms_21 : decode cX3_earlyTerms 21 = .ok (.getfield 21, 3) := by decide +kernel
theorem dX3_earlyTerms_24 : decode cX3_earlyTerms 24 = .ok (.iload_n 3, 1) := by decide +kernel
theorem dX3_earlyTerms_25 : decode cX3_earlyTerms 25 = .ok (.iaload, 1) := by decide +kernel
theorem dX3_earlyTerms_26 : decode cX3_earlyTerms 26 = .ok (.invokevirtual 59, 3) := by decide +kernel
theorem dX3_earlyTerms_29 : decode cX3_earlyTerms 29 = .ok (.ior, 1) := by decide +kernel
theorem dX3_earlyTerms_30 : decode cX3_earlyTerms 30 = .ok (.istore_n 2, 1) := by decide +kernel
theorem dX3_earlyTerms_31 : decode cX3_earlyTerms 31 = .ok (.iinc 3 1, 3) := by decide +kernel
theorem dX3_earlyTerms_34 : decode cX3_earlyTerms 34 = .ok (.goto (-24), 3) := by decide +kernel
theorem dX3_earlyTerms_37 : decode cX3_earlyTerms 37 = .ok (.aload_n 0, 1) := by decide +kernel
theorem dX3_earlyTerms_38 : decode cX3_earlyTerms 38 = .ok (.getfield 15, 3) := by decide +kernel
theorem dX3_earlyTerms_41 : decode cX3_earlyTerms 41 = .ok (.iload_n 1, 1) := by decide +kernel
theorem dX3_earlyTerms_42 : decode cX3_earlyTerms 42 = .ok (.iaload, 1) := by decide +kernel
theorem dX3_earlyTerms_43 : decode cX3_earlyTerms 43 = .ok (.iload_n 2, 1) := by decide +kernel
theorem dX3_earlyTerms_44 : decode cX3_earlyTerms 44 = .ok (.iand, 1) := by decide +kernel
theorem dX3_earlyTerms_45 : decode cX3_earlyTerms 45 = .ok (.ireturn, 1) := by decide +kernel
set_option maxRecDepth 20000 in
theorem ggX3_countEarly_X3_earlyTerms : GoodIn wsX3_countEarly wsX3_earlyTerms := goodIn_r _ [6, 1, 7, 8, 9, 10, 11, 5, 12, 13, 14, 15, 16, 17, 18, 19, 20, 28, 29, 30, 31, 32, 33] (by decide +kernel) (by decide +kernel)
set_option maxRecDepth 20000 in
theorem gX3_countEarly_X3_earlyTerms : GoodIn wsX3_countEarly (wsV RX3 62 RX3 yX3_earlyTerms wsX3_earlyTerms) := goodIn_app (goodIn_of _ (by decide +kernel)) ggX3_countEarly_X3_earlyTerms
set_option maxRecDepth 20000 in
theorem ggX3_countEarly_J6_bitCount_0f7a4 : GoodIn wsX3_countEarly wsJ6_bitCount_0f7a4 := goodIn_r _ [24, 25, 26, 27] (by decide +kernel) (by decide +kernel)
set_option maxRecDepth 20000 in
theorem gX3_countEarly_J6_bitCount_0f7a4 : GoodIn wsX3_countEarly (va_wsS RX3 47 yJ6_bitCount_0f7a4 wsJ6_bitCount_0f7a4) := goodIn_app (goodIn_of _ (by decide +kernel)) ggX3_countEarly_J6_bitCount_0f7a4
theorem dX3_countEarly_0 : decode cX3_countEarly 0 = .ok (.iconst 0, 1) := by decide +kernel
theorem dX3_countEarly_1 : decode cX3_countEarly 1 = .ok (.istore_n 1, 1) := by decide +kernel
theorem dX3_countEarly_2 : decode cX3_countEarly 2 = .ok (.iconst 0, 1) := by decide +kernel
theorem dX3_countEarly_3 : decode cX3_countEarly 3 = .ok (.istore_n 2, 1) := by decide +kernel
theorem dX3_countEarly_4 : decode cX3_countEarly 4 = .ok (.iload_n 2, 1) := by decide +kernel
theorem dX3_countEarly_5 : decode cX3_countEarly 5 = .ok (.aload_n 0, 1) := by decide +kernel
theorem dX3_countEarly_6 : decode cX3_countEarly 6 = .ok (.getfield 31, 3) := by decide +kernel
theorem dX3_countEarly_9 : decode cX3_countEarly 9 = .ok (.if_icmp .ge 20, 3) := by decide +kernel
theorem dX3_countEarly_12 : decode cX3_countEarly 12 = .ok (.iload_n 1, 1) := by decide +kernel
theorem dX3_countEarly_13 : decode cX3_countEarly 13 = .ok (.aload_n 0, 1) := by decide +kernel
theorem dX3_countEarly_14 : decode cX3_countEarly 14 = .ok (.iload_n 2, 1) := by decide +kernel
theorem dX3_countEarly_15 : decode cX3_countEarly 15 = .ok (.invokevirtual 62, 3) := by decide +kernel
theorem dX3_countEarly_18 : decode cX3_countEarly 18 = .ok (.invokestatic 47, 3) := by decide +kernel
theorem dX3_countEarly_21 : decode cX3_countEarly 21 = .ok (.iadd, 1) := by decide +kernel
theorem dX3_countEarly_22 : decode cX3_countEarly 22 = .ok (.istore_n 1, 1) := by decide +kernel
theorem dX3_countEarly_23 : decode cX3_countEarly 23 = .ok (.iinc 2 1, 3) := by decide +kernel
theorem dX3_countEarly_26 : decode cX3_countEarly 26 = .ok (.goto (-22), 3) := by decide +kernel
theorem dX3_countEarly_29 : decode cX3_countEarly 29 = .ok (.iload_n 1, 1) := by decide +kernel
theorem dX3_countEarly_30 : decode cX3_countEarly 30 = .ok (.ireturn, 1) := by decide +kernel
set_option maxRecDepth 20000 in
theorem ggX3_notedTerms_X3_termsAtHome : GoodIn wsX3_notedTerms wsX3_termsAtHome := goodIn_r _ [7, 8, 9, 10, 11, 12, 13, 14, 15, 16, 17] (by decide +kernel) (by decide +kernel)
set_option maxRecDepth 20000 in
theorem gX3_notedTerms_X3_termsAtHome : GoodIn wsX3_notedTerms (wsV RX3 59 RX3 yX3_termsAtHome wsX3_termsAtHome) := goodIn_app (goodIn_of _ (by decide +kernel)) ggX3_notedTerms_X3_termsAtHome
theorem dX3_notedTerms_0 : decode cX3_notedTerms 0 = .ok (.iconst 0, 1) := by decide +kernel
theorem dX3_notedTerms_1 : decode cX3_notedTerms 1 = .ok (.istore_n 2, 1) := by decide +kernel
theorem dX3_notedTerms_2 : decode cX3_notedTerms 2 = .ok (.iconst 0, 1) := by decide +kernel
theorem dX3_notedTerms_3 : decode cX3_notedTerms 3 = .ok (.istore_n 3, 1) := by decide +kernel
theorem dX3_notedTerms_4 : decode cX3_notedTerms 4 = .ok (.iconst 0, 1) := by decide +kernel
theorem dX3_notedTerms_5 : decode cX3_notedTerms 5 = .ok (.istore 4, 2) := by decide +kernel
theorem dX3_notedTerms_7 : decode cX3_notedTerms 7 = .ok (.iload 4, 2) := by decide +kernel
theorem dX3_notedTerms_9 : decode cX3_notedTerms 9 = .ok (.aload_n 0, 1) := by decide +kernel
theorem dX3_notedTerms_10 : decode cX3_notedTerms 10 = .ok (.getfield 31, 3) := by decide +kernel
theorem dX3_notedTerms_13 : decode cX3_notedTerms 13 = .ok (.if_icmp .ge 36, 3) := by decide +kernel
theorem dX3_notedTerms_16 : decode cX3_notedTerms 16 = .ok (.aload_n 1, 1) := by decide +kernel
theorem dX3_notedTerms_17 : decode cX3_notedTerms 17 = .ok (.iload 4, 2) := by decide +kernel
theorem dX3_notedTerms_19 : decode cX3_notedTerms 19 = .ok (.iaload, 1) := by decide +kernel
theorem dX3_notedTerms_20 : decode cX3_notedTerms 20 = .ok (.istore 5, 2) := by decide +kernel
theorem dX3_notedTerms_22 : decode cX3_notedTerms 22 = .ok (.iload_n 2, 1) := by decide +kernel
theorem dX3_notedTerms_23 : decode cX3_notedTerms 23 = .ok (.iload_n 3, 1) := by decide +kernel
theorem dX3_notedTerms_24 : decode cX3_notedTerms 24 = .ok (.aload_n 0, 1) := by decide +kernel
theorem dX3_notedTerms_25 : decode cX3_notedTerms 25 = .ok (.iload 5, 2) := by decide +kernel
theorem dX3_notedTerms_27 : decode cX3_notedTerms 27 = .ok (.invokevirtual 59, 3) := by decide +kernel
theorem dX3_notedTerms_30 : decode cX3_notedTerms 30 = .ok (.iand, 1) := by decide +kernel
theorem dX3_notedTerms_31 : decode cX3_notedTerms 31 = .ok (.ior, 1) := by decide +kernel
theorem dX3_notedTerms_32 : decode cX3_notedTerms 32 = .ok (.istore_n 2, 1) := by decide +kernel
theorem dX3_notedTerms_33 : decode cX3_notedTerms 33 = .ok (.iload_n 3, 1) := by decide +kernel
theorem dX3_notedTerms_34 : decode cX3_notedTerms 34 = .ok (.aload_n 0, 1) := by decide +kernel
theorem dX3_notedTerms_35 : decode cX3_notedTerms 35 = .ok (.getfield 15, 3) := by decide +kernel
theorem dX3_notedTerms_38 : decode cX3_notedTerms 38 = .ok (.iload 5, 2) := by decide +kernel
theorem dX3_notedTerms_40 : decode cX3_notedTerms 40 = .ok (.iaload, 1) := by decide +kernel
theorem dX3_notedTerms_41 : decode cX3_notedTerms 41 = .ok (.ior, 1) := by decide +kernel
theorem dX3_notedTerms_42 : decode cX3_notedTerms 42 = .ok (.istore_n 3, 1) := by decide +kernel
theorem dX3_notedTerms_43 : decode cX3_notedTerms 43 = .ok (.iinc 4 1, 3) := by decide +kernel
theorem dX3_notedTerms_46 : decode cX3_notedTerms 46 = .ok (.goto (-39), 3) := by decide +kernel
theorem dX3_notedTerms_49 : decode cX3_notedTerms 49 = .ok (.iload_n 2, 1) := by decide +kernel
theorem dX3_notedTerms_50 : decode cX3_notedTerms 50 = .ok (.ireturn, 1) := by decide +kernel
set_option maxRecDepth 20000 in
theorem ggX3_countNotes_X3_notedTerms : GoodIn wsX3_countNotes wsX3_notedTerms := goodIn_r _ [5, 6, 7, 8, 9, 10, 4, 11, 12, 13, 14, 15, 23, 24, 25, 26, 27, 28] (by decide +kernel) (by decide +kernel)
set_option maxRecDepth 20000 in
theorem gX3_countNotes_X3_notedTerms : GoodIn wsX3_countNotes (wsV RX3 65 RX3 yX3_notedTerms wsX3_notedTerms) := goodIn_app (goodIn_of _ (by decide +kernel)) ggX3_countNotes_X3_notedTerms
set_option maxRecDepth 20000 in
theorem ggX3_countNotes_J6_bitCount_0f7a4 : GoodIn wsX3_countNotes wsJ6_bitCount_0f7a4 := goodIn_r _ [19, 20, 21, 22] (by decide +kernel) (by decide +kernel)
set_option maxRecDepth 20000 in
theorem gX3_countNotes_J6_bitCount_0f7a4 : GoodIn wsX3_countNotes (va_wsS RX3 47 yJ6_bitCount_0f7a4 wsJ6_bitCount_0f7a4) := goodIn_app (goodIn_of _ (by decide +kernel)) ggX3_countNotes_J6_bitCount_0f7a4
theorem dX3_countNotes_0 : decode cX3_countNotes 0 = .ok (.aload_n 0, 1) := by decide +kernel
theorem dX3_countNotes_1 : decode cX3_countNotes 1 = .ok (.aload_n 1, 1) := by decide +kernel
theorem dX3_countNotes_2 : decode cX3_countNotes 2 = .ok (.invokevirtual 65, 3) := by decide +kernel
theorem dX3_countNotes_5 : decode cX3_countNotes 5 = .ok (.invokestatic 47, 3) := by decide +kernel
theorem dX3_countNotes_8 : decode cX3_countNotes 8 = .ok (.ireturn, 1) := by decide +kernel
set_option maxRecDepth 20000 in
theorem ggX3_noteSection_X6_has : GoodIn wsX3_noteSection wsX6_has := goodIn_r _ [7] (by decide +kernel) (by decide +kernel)
set_option maxRecDepth 20000 in
theorem gX3_noteSection_X6_has_n39 : GoodIn wsX3_noteSection (wsX6_has) := ggX3_noteSection_X6_has
theorem dX3_noteSection_0 : decode cX3_noteSection 0 = .ok (.aload_n 0, 1) := by decide +kernel
theorem dX3_noteSection_1 : decode cX3_noteSection 1 = .ok (.getfield 18, 3) := by decide +kernel
theorem dX3_noteSection_4 : decode cX3_noteSection 4 = .ok (.iload_n 1, 1) := by decide +kernel
theorem dX3_noteSection_5 : decode cX3_noteSection 5 = .ok (.iaload, 1) := by decide +kernel
theorem dX3_noteSection_6 : decode cX3_noteSection 6 = .ok (.istore_n 2, 1) := by decide +kernel
theorem dX3_noteSection_7 : decode cX3_noteSection 7 = .ok (.iload_n 2, 1) := by decide +kernel
theorem dX3_noteSection_8 : decode cX3_noteSection 8 = .ok (.iconst (-1), 1) := by decide +kernel
theorem dX3_noteSection_9 : decode cX3_noteSection 9 = .ok (.if_icmp .ne 5, 3) := by decide +kernel
theorem dX3_noteSection_12 : decode cX3_noteSection 12 = .ok (.iconst (-1), 1) := by decide +kernel
theorem dX3_noteSection_13 : decode cX3_noteSection 13 = .ok (.ireturn, 1) := by decide +kernel
theorem dX3_noteSection_14 : decode cX3_noteSection 14 = .ok (.iconst 0, 1) := by decide +kernel
theorem dX3_noteSection_15 : decode cX3_noteSection 15 = .ok (.istore_n 3, 1) := by decide +kernel
theorem dX3_noteSection_16 : decode cX3_noteSection 16 = .ok (.iload_n 3, 1) := by decide +kernel
theorem dX3_noteSection_17 : decode cX3_noteSection 17 = .ok (.aload_n 0, 1) := by decide +kernel
theorem dX3_noteSection_18 : decode cX3_noteSection 18 = .ok (.getfield 31, 3) := by decide +kernel
theorem dX3_noteSection_21 : decode cX3_noteSection 21 = .ok (.if_icmp .ge 44, 3) := by decide +kernel
theorem dX3_noteSection_24 : decode cX3_noteSection 24 = .ok (.aload_n 0, 1) := by decide +kernel
theorem dX3_noteSection_25 : decode cX3_noteSection 25 = .ok (.getfield 21, 3) := by decide +kernel
theorem dX3_noteSection_28 : decode cX3_noteSection 28 = .ok (.iload_n 3, 1) := by decide +kernel
theorem dX3_noteSection_29 : decode cX3_noteSection 29 = .ok (.iaload, 1) := by decide +kernel
theorem dX3_noteSection_30 : decode cX3_noteSection 30 = .ok (.iload_n 2, 1) := by decide +kernel
theorem dX3_noteSection_31 : decode cX3_noteSection 31 = .ok (.if_icmp .eq 34, 3) := by decide +kernel
theorem dX3_noteSection_34 : decode cX3_noteSection 34 = .ok (.aload_n 0, 1) := by decide +kernel
theorem dX3_noteSection_35 : decode cX3_noteSection 35 = .ok (.getfield 15, 3) := by decide +kernel
theorem dX3_noteSection_38 : decode cX3_noteSection 38 = .ok (.aload_n 0, 1) := by decide +kernel
theorem dX3_noteSection_39 : decode cX3_noteSection 39 = .ok (.getfield 21, 3) := by decide +kernel
theorem dX3_noteSection_42 : decode cX3_noteSection 42 = .ok (.iload_n 3, 1) := by decide +kernel
theorem dX3_noteSection_43 : decode cX3_noteSection 43 = .ok (.iaload, 1) := by decide +kernel
theorem dX3_noteSection_44 : decode cX3_noteSection 44 = .ok (.iaload, 1) := by decide +kernel
theorem dX3_noteSection_45 : decode cX3_noteSection 45 = .ok (.iload_n 1, 1) := by decide +kernel
theorem dX3_noteSection_46 : decode cX3_noteSection 46 = .ok (.invokestatic 39, 3) := by decide +kernel
theorem dX3_noteSection_49 : decode cX3_noteSection 49 = .ok (.ifCond .eq 10, 3) := by decide +kernel
theorem dX3_noteSection_52 : decode cX3_noteSection 52 = .ok (.aload_n 0, 1) := by decide +kernel
theorem dX3_noteSection_53 : decode cX3_noteSection 53 = .ok (.getfield 21, 3) := by decide +kernel
theorem dX3_noteSection_56 : decode cX3_noteSection 56 = .ok (.iload_n 3, 1) := by decide +kernel
theorem dX3_noteSection_57 : decode cX3_noteSection 57 = .ok (.iaload, 1) := by decide +kernel
theorem dX3_noteSection_58 : decode cX3_noteSection 58 = .ok (.ireturn, 1) := by decide +kernel
theorem dX3_noteSection_59 : decode cX3_noteSection 59 = .ok (.iinc 3 1, 3) := by decide +kernel
theorem dX3_noteSection_62 : decode cX3_noteSection 62 = .ok (.goto (-46), 3) := by decide +kernel
theorem dX3_noteSection_65 : decode cX3_noteSection 65 = .ok (.iconst (-1), 1) := by decide +kernel
theorem dX3_noteSection_66 : decode cX3_noteSection 66 = .ok (.ireturn, 1) := by decide +kernel
set_option maxRecDepth 20000 in
theorem ggX3_notesIn_X3_noteSection : GoodIn wsX3_notesIn wsX3_noteSection := goodIn_r _ [5, 6, 7, 8, 9, 10, 11, 12, 15, 16, 17, 18, 19, 20] (by decide +kernel) (by decide +kernel)
set_option maxRecDepth 20000 in
theorem gX3_notesIn_X3_noteSection : GoodIn wsX3_notesIn (wsV RX3 69 RX3 yX3_noteSection wsX3_noteSection) := goodIn_app (goodIn_of _ (by decide +kernel)) ggX3_notesIn_X3_noteSection
set_option maxRecDepth 20000 in
theorem ggX3_notesIn_X6_with : GoodIn wsX3_notesIn wsX6_with := goodIn_r _ [14] (by decide +kernel) (by decide +kernel)
set_option maxRecDepth 20000 in
theorem gX3_notesIn_X6_with_n43 : GoodIn wsX3_notesIn (wsX6_with) := ggX3_notesIn_X6_with
theorem dX3_notesIn_0 : decode cX3_notesIn 0 = .ok (.iconst 0, 1) := by decide +kernel
theorem dX3_notesIn_1 : decode cX3_notesIn 1 = .ok (.istore_n 2, 1) := by decide +kernel
theorem dX3_notesIn_2 : decode cX3_notesIn 2 = .ok (.iconst 0, 1) := by decide +kernel
theorem dX3_notesIn_3 : decode cX3_notesIn 3 = .ok (.istore_n 3, 1) := by decide +kernel
theorem dX3_notesIn_4 : decode cX3_notesIn 4 = .ok (.iload_n 3, 1) := by decide +kernel
theorem dX3_notesIn_5 : decode cX3_notesIn 5 = .ok (.bipush 12, 2) := by decide +kernel
theorem dX3_notesIn_7 : decode cX3_notesIn 7 = .ok (.if_icmp .ge 24, 3) := by decide +kernel
theorem dX3_notesIn_10 : decode cX3_notesIn 10 = .ok (.aload_n 0, 1) := by decide +kernel
theorem dX3_notesIn_11 : decode cX3_notesIn 11 = .ok (.iload_n 3, 1) := by decide +kernel
theorem dX3_notesIn_12 : decode cX3_notesIn 12 = .ok (.invokevirtual 69, 3) := by decide +kernel
theorem dX3_notesIn_15 : decode cX3_notesIn 15 = .ok (.iload_n 1, 1) := by decide +kernel
theorem dX3_notesIn_16 : decode cX3_notesIn 16 = .ok (.if_icmp .ne 9, 3) := by decide +kernel
theorem dX3_notesIn_19 : decode cX3_notesIn 19 = .ok (.iload_n 2, 1) := by decide +kernel
theorem dX3_notesIn_20 : decode cX3_notesIn 20 = .ok (.iload_n 3, 1) := by decide +kernel
theorem dX3_notesIn_21 : decode cX3_notesIn 21 = .ok (.invokestatic 43, 3) := by decide +kernel
theorem dX3_notesIn_24 : decode cX3_notesIn 24 = .ok (.istore_n 2, 1) := by decide +kernel
theorem dX3_notesIn_25 : decode cX3_notesIn 25 = .ok (.iinc 3 1, 3) := by decide +kernel
theorem dX3_notesIn_28 : decode cX3_notesIn 28 = .ok (.goto (-24), 3) := by decide +kernel
theorem dX3_notesIn_31 : decode cX3_notesIn 31 = .ok (.iload_n 2, 1) := by decide +kernel
theorem dX3_notesIn_32 : decode cX3_notesIn 32 = .ok (.ireturn, 1) := by decide +kernel
set_option maxRecDepth 20000 in
theorem ggX3_noteLength_X6_has : GoodIn wsX3_noteLength wsX6_has := goodIn_r _ [7] (by decide +kernel) (by decide +kernel)
set_option maxRecDepth 20000 in
theorem gX3_noteLength_X6_has_n39 : GoodIn wsX3_noteLength (wsX6_has) := ggX3_noteLength_X6_has
theorem dX3_noteLength_0 : decode cX3_noteLength 0 = .ok (.aload_n 0, 1) := by decide +kernel
theorem dX3_noteLength_1 : decode cX3_noteLength 1 = .ok (.getfield 18, 3) := by decide +kernel
theorem dX3_noteLength_4 : decode cX3_noteLength 4 = .ok (.iload_n 1, 1) := by decide +kernel
theorem dX3_noteLength_5 : decode cX3_noteLength 5 = .ok (.iaload, 1) := by decide +kernel
theorem dX3_noteLength_6 : decode cX3_noteLength 6 = .ok (.istore_n 3, 1) := by decide +kernel
theorem dX3_noteLength_7 : decode cX3_noteLength 7 = .ok (.iload_n 3, 1) := by decide +kernel
theorem dX3_noteLength_8 : decode cX3_noteLength 8 = .ok (.iconst (-1), 1) := by decide +kernel
theorem dX3_noteLength_9 : decode cX3_noteLength 9 = .ok (.if_icmp .ne 5, 3) := by decide +kernel
theorem dX3_noteLength_12 : decode cX3_noteLength 12 = .ok (.iconst 0, 1) := by decide +kernel
theorem dX3_noteLength_13 : decode cX3_noteLength 13 = .ok (.ireturn, 1) := by decide +kernel
theorem dX3_noteLength_14 : decode cX3_noteLength 14 = .ok (.iconst 0, 1) := by decide +kernel
theorem dX3_noteLength_15 : decode cX3_noteLength 15 = .ok (.istore 4, 2) := by decide +kernel
theorem dX3_noteLength_17 : decode cX3_noteLength 17 = .ok (.iconst 0, 1) := by decide +kernel
theorem dX3_noteLength_18 : decode cX3_noteLength 18 = .ok (.istore 5, 2) := by decide +kernel
theorem dX3_noteLength_20 : decode cX3_noteLength 20 = .ok (.iconst 0, 1) := by decide +kernel
theorem dX3_noteLength_21 : decode cX3_noteLength 21 = .ok (.istore 6, 2) := by decide +kernel
theorem dX3_noteLength_23 : decode cX3_noteLength 23 = .ok (.iload 6, 2) := by decide +kernel
theorem dX3_noteLength_25 : decode cX3_noteLength 25 = .ok (.aload_n 0, 1) := by decide +kernel
theorem dX3_noteLength_26 : decode cX3_noteLength 26 = .ok (.getfield 31, 3) := by decide +kernel
theorem dX3_noteLength_29 : decode cX3_noteLength 29 = .ok (.if_icmp .ge 66, 3) := by decide +kernel
theorem dX3_noteLength_32 : decode cX3_noteLength 32 = .ok (.aload_n 2, 1) := by decide +kernel
theorem dX3_noteLength_33 : decode cX3_noteLength 33 = .ok (.iload 6, 2) := by decide +kernel
theorem dX3_noteLength_35 : decode cX3_noteLength 35 = .ok (.iaload, 1) := by decide +kernel
theorem dX3_noteLength_36 : decode cX3_noteLength 36 = .ok (.iload_n 3, 1) := by decide +kernel
theorem dX3_noteLength_37 : decode cX3_noteLength 37 = .ok (.if_icmp .eq 58, 3) := by decide +kernel
theorem dX3_noteLength_40 : decode cX3_noteLength 40 = .ok (.aload_n 2, 1) := by decide +kernel
theorem dX3_noteLength_41 : decode cX3_noteLength 41 = .ok (.iload 6, 2) := by decide +kernel
theorem dX3_noteLength_43 : decode cX3_noteLength 43 = .ok (.iaload, 1) := by decide +kernel
theorem dX3_noteLength_44 : decode cX3_noteLength 44 = .ok (.istore 7, 2) := by decide +kernel
theorem dX3_noteLength_46 : decode cX3_noteLength 46 = .ok (.iload 5, 2) := by decide +kernel
theorem dX3_noteLength_48 : decode cX3_noteLength 48 = .ok (.ifCond .ne 17, 3) := by decide +kernel
theorem dX3_noteLength_51 : decode cX3_noteLength 51 = .ok (.aload_n 0, 1) := by decide +kernel
theorem dX3_noteLength_52 : decode cX3_noteLength 52 = .ok (.getfield 15, 3) := by decide +kernel
theorem dX3_noteLength_55 : decode cX3_noteLength 55 = .ok (.iload 7, 2) := by decide +kernel
theorem dX3_noteLength_57 : decode cX3_noteLength 57 = .ok (.iaload, 1) := by decide +kernel
theorem dX3_noteLength_58 : decode cX3_noteLength 58 = .ok (.iload_n 1, 1) := by decide +kernel
theorem dX3_noteLength_59 : decode cX3_noteLength 59 = .ok (.invokestatic 39, 3) := by decide +kernel
theorem dX3_noteLength_62 : decode cX3_noteLength 62 = .ok (.ifCond .eq 7, 3) := by decide +kernel
theorem dX3_noteLength_65 : decode cX3_noteLength 65 = .ok (.iconst 1, 1) := by decide +kernel
theorem dX3_noteLength_66 : decode cX3_noteLength 66 = .ok (.goto 4, 3) := by decide +kernel
theorem dX3_noteLength_69 : decode cX3_noteLength 69 = .ok (.iconst 0, 1) := by decide +kernel
theorem dX3_noteLength_70 : decode cX3_noteLength 70 = .ok (.istore 5, 2) := by decide +kernel
theorem dX3_noteLength_72 : decode cX3_noteLength 72 = .ok (.iload 5, 2) := by decide +kernel
theorem dX3_noteLength_74 : decode cX3_noteLength 74 = .ok (.ifCond .eq 15, 3) := by decide +kernel
theorem dX3_noteLength_77 : decode cX3_noteLength 77 = .ok (.iload 4, 2) := by decide +kernel
theorem dX3_noteLength_79 : decode cX3_noteLength 79 = .ok (.aload_n 0, 1) := by decide +kernel
theorem dX3_noteLength_80 : decode cX3_noteLength 80 = .ok (.getfield 9, 3) := by decide +kernel
theorem dX3_noteLength_83 : decode cX3_noteLength 83 = .ok (.iload 7, 2) := by decide +kernel
theorem dX3_noteLength_85 : decode cX3_noteLength 85 = .ok (.iaload, 1) := by decide +kernel
theorem dX3_noteLength_86 : decode cX3_noteLength 86 = .ok (.iadd, 1) := by decide +kernel
theorem dX3_noteLength_87 : decode cX3_noteLength 87 = .ok (.istore 4, 2) := by decide +kernel
theorem dX3_noteLength_89 : decode cX3_noteLength 89 = .ok (.iinc 6 1, 3) := by decide +kernel
theorem dX3_noteLength_92 : decode cX3_noteLength 92 = .ok (.goto (-69), 3) := by decide +kernel
theorem dX3_noteLength_95 : decode cX3_noteLength 95 = .ok (.iload 4, 2) := by decide +kernel
theorem dX3_noteLength_97 : decode cX3_noteLength 97 = .ok (.ireturn, 1) := by decide +kernel
set_option maxRecDepth 20000 in
theorem ggX3_sumNoteLengths_X3_noteLength : GoodIn wsX3_sumNoteLengths wsX3_noteLength := goodIn_r _ [5, 6, 7, 8, 9, 10, 11, 12, 13, 14, 15, 16, 17, 18] (by decide +kernel) (by decide +kernel)
set_option maxRecDepth 20000 in
theorem gX3_sumNoteLengths_X3_noteLength : GoodIn wsX3_sumNoteLengths (wsV RX3 72 RX3 yX3_noteLength wsX3_noteLength) := goodIn_app (goodIn_of _ (by decide +kernel)) ggX3_sumNoteLengths_X3_noteLength
theorem dX3_sumNoteLengths_0 : decode cX3_sumNoteLengths 0 = .ok (.iconst 0, 1) := by decide +kernel
theorem dX3_sumNoteLengths_1 : decode cX3_sumNoteLengths 1 = .ok (.istore_n 2, 1) := by decide +kernel
theorem dX3_sumNoteLengths_2 : decode cX3_sumNoteLengths 2 = .ok (.iconst 0, 1) := by decide +kernel
theorem dX3_sumNoteLengths_3 : decode cX3_sumNoteLengths 3 = .ok (.istore_n 3, 1) := by decide +kernel
theorem dX3_sumNoteLengths_4 : decode cX3_sumNoteLengths 4 = .ok (.iload_n 3, 1) := by decide +kernel
theorem dX3_sumNoteLengths_5 : decode cX3_sumNoteLengths 5 = .ok (.bipush 12, 2) := by decide +kernel
theorem dX3_sumNoteLengths_7 : decode cX3_sumNoteLengths 7 = .ok (.if_icmp .ge 18, 3) := by decide +kernel
theorem dX3_sumNoteLengths_10 : decode cX3_sumNoteLengths 10 = .ok (.iload_n 2, 1) := by decide +kernel
theorem dX3_sumNoteLengths_11 : decode cX3_sumNoteLengths 11 = .ok (.aload_n 0, 1) := by decide +kernel
theorem dX3_sumNoteLengths_12 : decode cX3_sumNoteLengths 12 = .ok (.iload_n 3, 1) := by decide +kernel
theorem dX3_sumNoteLengths_13 : decode cX3_sumNoteLengths 13 = .ok (.aload_n 1, 1) := by decide +kernel
theorem dX3_sumNoteLengths_14 : decode cX3_sumNoteLengths 14 = .ok (.invokevirtual 72, 3) := by decide +kernel
theorem dX3_sumNoteLengths_17 : decode cX3_sumNoteLengths 17 = .ok (.iadd, 1) := by decide +kernel
theorem dX3_sumNoteLengths_18 : decode cX3_sumNoteLengths 18 = .ok (.istore_n 2, 1) := by decide +kernel
theorem dX3_sumNoteLengths_19 : decode cX3_sumNoteLengths 19 = .ok (.iinc 3 1, 3) := by decide +kernel
theorem dX3_sumNoteLengths_22 : decode cX3_sumNoteLengths 22 = .ok (.goto (-18), 3) := by decide +kernel
theorem dX3_sumNoteLengths_25 : decode cX3_sumNoteLengths 25 = .ok (.iload_n 2, 1) := by decide +kernel
theorem dX3_sumNoteLengths_26 : decode cX3_sumNoteLengths 26 = .ok (.ireturn, 1) := by decide +kernel
theorem dX4_init_0 : decode cX4_init 0 = .ok (.aload_n 0, 1) := by decide +kernel
theorem dX4_init_1 : decode cX4_init 1 = .ok (.invokespecial 3, 3) := by decide +kernel
theorem dX4_init_4 : decode cX4_init 4 = .ok (.aload_n 0, 1) := by decide +kernel
theorem dX4_init_5 : decode cX4_init 5 = .ok (.bipush 10, 2) := by decide +kernel
theorem dX4_init_7 : decode cX4_init 7 = .ok (.newarray .int, 2) := by decide +kernel
theorem dX4_init_9 : decode cX4_init 9 = .ok (.putfield 9, 3) := by decide +kernel
theorem dX4_init_12 : decode cX4_init 12 = .ok (.aload_n 0, 1) := by decide +kernel
theorem dX4_init_13 : decode cX4_init 13 = .ok (.bipush 10, 2) := by decide +kernel
theorem dX4_init_15 : decode cX4_init 15 = .ok (.newarray .int, 2) := by decide +kernel
theorem dX4_init_17 : decode cX4_init 17 = .ok (.putfield 15, 3) := by decide +kernel
theorem dX4_init_20 : decode cX4_init 20 = .ok (.aload_n 0, 1) := by decide +kernel
theorem dX4_init_21 : decode cX4_init 21 = .ok (.bipush 10, 2) := by decide +kernel
theorem dX4_init_23 : decode cX4_init 23 = .ok (.newarray .int, 2) := by decide +kernel
theorem dX4_init_25 : decode cX4_init 25 = .ok (.putfield 18, 3) := by decide +kernel
theorem dX4_init_28 : decode cX4_init 28 = .ok (.aload_n 0, 1) := by decide +kernel
theorem dX4_init_29 : decode cX4_init 29 = .ok (.bipush 11, 2) := by decide +kernel
theorem dX4_init_31 : decode cX4_init 31 = .ok (.newarray .int, 2) := by decide +kernel
theorem dX4_init_33 : decode cX4_init 33 = .ok (.putfield 21, 3) := by decide +kernel
theorem dX4_init_36 : decode cX4_init 36 = .ok (.return_, 1) := by decide +kernel
set_option maxRecDepth 20000 in
theorem ggX4_draw_X3_neededBy : GoodIn wsX4_draw wsX3_neededBy := goodIn_r _ [9, 10, 11, 12, 13, 14, 15, 16, 17, 18, 19, 20, 21, 22] (by decide +kernel) (by decide +kernel)
set_option maxRecDepth 20000 in
theorem gX4_draw_X3_neededBy : GoodIn wsX4_draw (wsV RX4 31 RX3 yX3_neededBy wsX3_neededBy) := goodIn_app (goodIn_of _ (by decide +kernel)) ggX4_draw_X3_neededBy
set_option maxRecDepth 20000 in
theorem ggX4_draw_X6_with : GoodIn wsX4_draw wsX6_with := goodIn_r _ [16] (by decide +kernel) (by decide +kernel)
set_option maxRecDepth 20000 in
theorem gX4_draw_X6_with_n35 : GoodIn wsX4_draw (wsX6_with) := ggX4_draw_X6_with
set_option maxRecDepth 20000 in
theorem ggX4_draw_X6_has : GoodIn wsX4_draw wsX6_has := goodIn_r _ [14] (by decide +kernel) (by decide +kernel)
set_option maxRecDepth 20000 in
theorem gX4_draw_X6_has_n39 : GoodIn wsX4_draw (wsX6_has) := ggX4_draw_X6_has
theorem dX4_draw_0 : decode cX4_draw 0 = .ok (.aload_n 0, 1) := by decide +kernel
theorem dX4_draw_1 : decode cX4_draw 1 = .ok (.aload_n 1, 1) := by decide +kernel
theorem dX4_draw_2 : decode cX4_draw 2 = .ok (.getfield 24, 3) := by decide +kernel
theorem dX4_draw_5 : decode cX4_draw 5 = .ok (.putfield 30, 3) := by decide +kernel
theorem dX4_draw_8 : decode cX4_draw 8 = .ok (.iconst 0, 1) := by decide +kernel
theorem dX4_draw_9 : decode cX4_draw 9 = .ok (.istore_n 2, 1) := by decide +kernel
theorem dX4_draw_10 : decode cX4_draw 10 = .ok (.iload_n 2, 1) := by decide +kernel
theorem dX4_draw_11 : decode cX4_draw 11 = .ok (.aload_n 0, 1) := by decide +kernel
theorem dX4_draw_12 : decode cX4_draw 12 = .ok (.getfield 30, 3) := by decide +kernel
theorem dX4_draw_15 : decode cX4_draw 15 = .ok (.if_icmp .ge 36, 3) := by decide +kernel
theorem dX4_draw_18 : decode cX4_draw 18 = .ok (.aload_n 0, 1) := by decide +kernel
theorem dX4_draw_19 : decode cX4_draw 19 = .ok (.getfield 15, 3) := by decide +kernel
theorem dX4_draw_22 : decode cX4_draw 22 = .ok (.iload_n 2, 1) := by decide +kernel
theorem dX4_draw_23 : decode cX4_draw 23 = .ok (.aload_n 1, 1) := by decide +kernel
theorem dX4_draw_24 : decode cX4_draw 24 = .ok (.iload_n 2, 1) := by decide +kernel
theorem dX4_draw_25 : decode cX4_draw 25 = .ok (.invokevirtual 31, 3) := by decide +kernel
theorem dX4_draw_28 : decode cX4_draw 28 = .ok (.iastore, 1) := by decide +kernel
theorem dX4_draw_29 : decode cX4_draw 29 = .ok (.aload_n 0, 1) := by decide +kernel
theorem dX4_draw_30 : decode cX4_draw 30 = .ok (.getfield 18, 3) := by decide +kernel
theorem dX4_draw_33 : decode cX4_draw 33 = .ok (.iload_n 2, 1) := by decide +kernel
theorem dX4_draw_34 : decode cX4_draw 34 = .ok (.aload_n 0, 1) := by decide +kernel
theorem dX4_draw_35 : decode cX4_draw 35 = .ok (.getfield 15, 3) := by decide +kernel
theorem dX4_draw_38 : decode cX4_draw 38 = .ok (.iload_n 2, 1) := by decide +kernel
theorem dX4_draw_39 : decode cX4_draw 39 = .ok (.iaload, 1) := by decide +kernel
theorem dX4_draw_40 : decode cX4_draw 40 = .ok (.iload_n 2, 1) := by decide +kernel
theorem dX4_draw_41 : decode cX4_draw 41 = .ok (.invokestatic 35, 3) := by decide +kernel
theorem dX4_draw_44 : decode cX4_draw 44 = .ok (.iastore, 1) := by decide +kernel
theorem dX4_draw_45 : decode cX4_draw 45 = .ok (.iinc 2 1, 3) := by decide +kernel
theorem dX4_draw_48 : decode cX4_draw 48 = .ok (.goto (-38), 3) := by decide +kernel
theorem dX4_draw_51 : decode cX4_draw 51 = .ok (.iconst 0, 1) := by decide +kernel
theorem dX4_draw_52 : decode cX4_draw 52 = .ok (.istore_n 2, 1) := by decide +kernel
theorem dX4_draw_53 : decode cX4_draw 53 = .ok (.iload_n 2, 1) := by decide +kernel
theorem dX4_draw_54 : decode cX4_draw 54 = .ok (.aload_n 0, 1) := by decide +kernel
theorem dX4_draw_55 : decode cX4_draw 55 = .ok (.getfield 30, 3) := by decide +kernel
theorem dX4_draw_58 : decode cX4_draw 58 = .ok (.if_icmp .ge 53, 3) := by decide +kernel
theorem dX4_draw_61 : decode cX4_draw 61 = .ok (.iconst 0, 1) := by decide +kernel
theorem dX4_draw_62 : decode cX4_draw 62 = .ok (.istore_n 3, 1) := by decide +kernel
theorem dX4_draw_63 : decode cX4_draw 63 = .ok (.iload_n 3, 1) := by decide +kernel
theorem dX4_draw_64 : decode cX4_draw 64 = .ok (.aload_n 0, 1) := by decide +kernel
theorem dX4_draw_65 : decode cX4_draw 65 = .ok (.getfield 30, 3) := by decide +kernel
theorem dX4_draw_68 : decode cX4_draw 68 = .ok (.if_icmp .ge 37, 3) := by decide +kernel
theorem dX4_draw_71 : decode cX4_draw 71 = .ok (.aload_n 0, 1) := by decide +kernel
theorem dX4_draw_72 : decode cX4_draw 72 = .ok (.getfield 18, 3) := by decide +kernel
theorem dX4_draw_75 : decode cX4_draw 75 = .ok (.iload_n 3, 1) := by decide +kernel
theorem dX4_draw_76 : decode cX4_draw 76 = .ok (.iaload, 1) := by decide +kernel
theorem dX4_draw_77 : decode cX4_draw 77 = .ok (.iload_n 2, 1) := by decide +kernel
theorem dX4_draw_78 : decode cX4_draw 78 = .ok (.invokestatic 39, 3) := by decide +kernel
theorem dX4_draw_81 : decode cX4_draw 81 = .ok (.ifCond .eq 18, 3) := by decide +kernel
theorem dX4_draw_84 : decode cX4_draw 84 = .ok (.aload_n 0, 1) := by decide +kernel
theorem dX4_draw_85 : decode cX4_draw 85 = .ok (.getfield 18, 3) := by decide +kernel
theorem dX4_draw_88 : decode cX4_draw 88 = .ok (.iload_n 3, 1) := by decide +kernel
theorem dX4_draw_89 : decode cX4_draw 89 = .ok (.dup2, 1) := by decide +kernel
theorem dX4_draw_90 : decode cX4_draw 90 = .ok (.iaload, 1) := by decide +kernel
theorem dX4_draw_91 : decode cX4_draw 91 = .ok (.aload_n 0, 1) := by decide +kernel
theorem dX4_draw_92 : decode cX4_draw 92 = .ok (.getfield 18, 3) := by decide +kernel
theorem dX4_draw_95 : decode cX4_draw 95 = .ok (.iload_n 2, 1) := by decide +kernel
theorem dX4_draw_96 : decode cX4_draw 96 = .ok (.iaload, 1) := by decide +kernel
theorem dX4_draw_97 : decode cX4_draw 97 = .ok (.ior, 1) := by decide +kernel
theorem dX4_draw_98 : decode cX4_draw 98 = .ok (.iastore, 1) := by decide +kernel
theorem dX4_draw_99 : decode cX4_draw 99 = .ok (.iinc 3 1, 3) := by decide +kernel
theorem dX4_draw_102 : decode cX4_draw 102 = .ok (.goto (-39), 3) := by decide +kernel
theorem dX4_draw_105 : decode cX4_draw 105 = .ok (.iinc 2 1, 3) := by decide +kernel
theorem dX4_draw_108 : decode cX4_draw 108 = .ok (.goto (-55), 3) := by decide +kernel
theorem dX4_draw_111 : decode cX4_draw 111 = .ok (.return_, 1) := by decide +kernel
set_option maxRecDepth 20000 in
theorem ggX4_component_X6_has : GoodIn wsX4_component wsX6_has := goodIn_r _ [5] (by decide +kernel) (by decide +kernel)
set_option maxRecDepth 20000 in
theorem gX4_component_X6_has_n39 : GoodIn wsX4_component (wsX6_has) := ggX4_component_X6_has
set_option maxRecDepth 20000 in
theorem ggX4_component_X6_with : GoodIn wsX4_component wsX6_with := goodIn_r _ [7] (by decide +kernel) (by decide +kernel)
set_option maxRecDepth 20000 in
theorem gX4_component_X6_with_n35 : GoodIn wsX4_component (wsX6_with) := ggX4_component_X6_with
theorem dX4_component_0 : decode cX4_component 0 = .ok (.iconst 0, 1) := by decide +kernel
theorem dX4_component_1 : decode cX4_component 1 = .ok (.istore_n 2, 1) := by decide +kernel
theorem dX4_component_2 : decode cX4_component 2 = .ok (.iconst 0, 1) := by decide +kernel
theorem dX4_component_3 : decode cX4_component 3 = .ok (.istore_n 3, 1) := by decide +kernel
theorem dX4_component_4 : decode cX4_component 4 = .ok (.iload_n 3, 1) := by decide +kernel
theorem dX4_component_5 : decode cX4_component 5 = .ok (.aload_n 0, 1) := by decide +kernel
theorem dX4_component_6 : decode cX4_component 6 = .ok (.getfield 30, 3) := by decide +kernel
theorem dX4_component_9 : decode cX4_component 9 = .ok (.if_icmp .ge 41, 3) := by decide +kernel
theorem dX4_component_12 : decode cX4_component 12 = .ok (.aload_n 0, 1) := by decide +kernel
theorem dX4_component_13 : decode cX4_component 13 = .ok (.getfield 18, 3) := by decide +kernel
theorem dX4_component_16 : decode cX4_component 16 = .ok (.iload_n 1, 1) := by decide +kernel
theorem dX4_component_17 : decode cX4_component 17 = .ok (.iaload, 1) := by decide +kernel
theorem dX4_component_18 : decode cX4_component 18 = .ok (.iload_n 3, 1) := by decide +kernel
theorem dX4_component_19 : decode cX4_component 19 = .ok (.invokestatic 39, 3) := by decide +kernel
theorem dX4_component_22 : decode cX4_component 22 = .ok (.ifCond .eq 22, 3) := by decide +kernel
theorem dX4_component_25 : decode cX4_component 25 = .ok (.aload_n 0, 1) := by decide +kernel
theorem dX4_component_26 : decode cX4_component 26 = .ok (.getfield 18, 3) := by decide +kernel
theorem dX4_component_29 : decode cX4_component 29 = .ok (.iload_n 3, 1) := by decide +kernel
theorem dX4_component_30 : decode cX4_component 30 = .ok (.iaload, 1) := by decide +kernel
theorem dX4_component_31 : decode cX4_component 31 = .ok (.iload_n 1, 1) := by decide +kernel
theorem dX4_component_32 : decode cX4_component 32 = .ok (.invokestatic 39, 3) := by decide +kernel
theorem dX4_component_35 : decode cX4_component 35 = .ok (.ifCond .eq 9, 3) := by decide +kernel
theorem dX4_component_38 : decode cX4_component 38 = .ok (.iload_n 2, 1) := by decide +kernel
theorem dX4_component_39 : decode cX4_component 39 = .ok (.iload_n 3, 1) := by decide +kernel
theorem dX4_component_40 : decode cX4_component 40 = .ok (.invokestatic 35, 3) := by decide +kernel
theorem dX4_component_43 : decode cX4_component 43 = .ok (.istore_n 2, 1) := by decide +kernel
theorem dX4_component_44 : decode cX4_component 44 = .ok (.iinc 3 1, 3) := by decide +kernel
theorem dX4_component_47 : decode cX4_component 47 = .ok (.goto (-43), 3) := by decide +kernel
theorem dX4_component_50 : decode cX4_component 50 = .ok (.iload_n 2, 1) := by decide +kernel
theorem dX4_component_51 : decode cX4_component 51 = .ok (.ireturn, 1) := by decide +kernel
set_option maxRecDepth 20000 in
theorem ggX4_countLargeComponents_X4_component : GoodIn wsX4_countLargeComponents wsX4_component := goodIn_r _ [6, 1, 7, 8, 9, 10, 11, 12, 20, 21, 22, 23, 24, 25] (by decide +kernel) (by decide +kernel)
set_option maxRecDepth 20000 in
theorem gX4_countLargeComponents_X4_component : GoodIn wsX4_countLargeComponents (wsV RX4 43 RX4 yX4_component wsX4_component) := goodIn_app (goodIn_of _ (by decide +kernel)) ggX4_countLargeComponents_X4_component
set_option maxRecDepth 20000 in
theorem ggX4_countLargeComponents_J6_bitCount_0f7a4 : GoodIn wsX4_countLargeComponents wsJ6_bitCount_0f7a4 := goodIn_r _ [16, 17, 18, 19] (by decide +kernel) (by decide +kernel)
set_option maxRecDepth 20000 in
theorem gX4_countLargeComponents_J6_bitCount_0f7a4 : GoodIn wsX4_countLargeComponents (va_wsS RX4 46 yJ6_bitCount_0f7a4 wsJ6_bitCount_0f7a4) := goodIn_app (goodIn_of _ (by decide +kernel)) ggX4_countLargeComponents_J6_bitCount_0f7a4
theorem dX4_countLargeComponents_0 : decode cX4_countLargeComponents 0 = .ok (.iconst 0, 1) := by decide +kernel
theorem dX4_countLargeComponents_1 : decode cX4_countLargeComponents 1 = .ok (.istore_n 1, 1) := by decide +kernel
theorem dX4_countLargeComponents_2 : decode cX4_countLargeComponents 2 = .ok (.iconst 0, 1) := by decide +kernel
theorem dX4_countLargeComponents_3 : decode cX4_countLargeComponents 3 = .ok (.istore_n 2, 1) := by decide +kernel
theorem dX4_countLargeComponents_4 : decode cX4_countLargeComponents 4 = .ok (.iload_n 2, 1) := by decide +kernel
theorem dX4_countLargeComponents_5 : decode cX4_countLargeComponents 5 = .ok (.aload_n 0, 1) := by decide +kernel
theorem dX4_countLargeComponents_6 : decode cX4_countLargeComponents 6 = .ok (.getfield 30, 3) := by decide +kernel
theorem dX4_countLargeComponents_9 : decode cX4_countLargeComponents 9 = .ok (.if_icmp .ge 48, 3) := by decide +kernel
theorem dX4_countLargeComponents_12 : decode cX4_countLargeComponents 12 = .ok (.aload_n 0, 1) := by decide +kernel
theorem dX4_countLargeComponents_13 : decode cX4_countLargeComponents 13 = .ok (.iload_n 2, 1) := by decide +kernel
theorem dX4_countLargeComponents_14 : decode cX4_countLargeComponents 14 = .ok (.invokevirtual 43, 3) := by decide +kernel
theorem dX4_countLargeComponents_17 : decode cX4_countLargeComponents 17 = .ok (.istore_n 3, 1) := by decide +kernel
theorem dX4_countLargeComponents_18 : decode cX4_countLargeComponents 18 = .ok (.iload_n 3, 1) := by decide +kernel
theorem dX4_countLargeComponents_19 : decode cX4_countLargeComponents 19 = .ok (.iconst 1, 1) := by decide +kernel
theorem dX4_countLargeComponents_20 : decode cX4_countLargeComponents 20 = .ok (.iload_n 2, 1) := by decide +kernel
theorem dX4_countLargeComponents_21 : decode cX4_countLargeComponents 21 = .ok (.ishl, 1) := by decide +kernel
theorem dX4_countLargeComponents_22 : decode cX4_countLargeComponents 22 = .ok (.iconst 1, 1) := by decide +kernel
theorem dX4_countLargeComponents_23 : decode cX4_countLargeComponents 23 = .ok (.isub, 1) := by decide +kernel
theorem dX4_countLargeComponents_24 : decode cX4_countLargeComponents 24 = .ok (.iand, 1) := by decide +kernel
theorem dX4_countLargeComponents_25 : decode cX4_countLargeComponents 25 = .ok (.ifCond .ne 7, 3) := by decide +kernel
theorem dX4_countLargeComponents_28 : decode cX4_countLargeComponents 28 = .ok (.iconst 1, 1) := by decide +kernel
theorem dX4_countLargeComponents_29 : decode cX4_countLargeComponents 29 = .ok (.goto 4, 3) := by decide +kernel
theorem dX4_countLargeComponents_32 : decode cX4_countLargeComponents 32 = .ok (.iconst 0, 1) := by decide +kernel
theorem dX4_countLargeComponents_33 : decode cX4_countLargeComponents 33 = .ok (.istore 4, 2) := by decide +kernel
theorem dX4_countLargeComponents_35 : decode cX4_countLargeComponents 35 = .ok (.iload 4, 2) := by decide +kernel
theorem dX4_countLargeComponents_37 : decode cX4_countLargeComponents 37 = .ok (.ifCond .eq 14, 3) := by decide +kernel
theorem dX4_countLargeComponents_40 : decode cX4_countLargeComponents 40 = .ok (.iload_n 3, 1) := by decide +kernel
theorem dX4_countLargeComponents_41 : decode cX4_countLargeComponents 41 = .ok (.invokestatic 46, 3) := by decide +kernel
theorem dX4_countLargeComponents_44 : decode cX4_countLargeComponents 44 = .ok (.iconst 2, 1) := by decide +kernel
theorem dX4_countLargeComponents_45 : decode cX4_countLargeComponents 45 = .ok (.if_icmp .lt 6, 3) := by decide +kernel
theorem dX4_countLargeComponents_48 : decode cX4_countLargeComponents 48 = .ok (.iinc 1 1, 3) := by decide +kernel
theorem dX4_countLargeComponents_51 : decode cX4_countLargeComponents 51 = .ok (.iinc 2 1, 3) := by decide +kernel
theorem dX4_countLargeComponents_54 : decode cX4_countLargeComponents 54 = .ok (.goto (-50), 3) := by decide +kernel
theorem dX4_countLargeComponents_57 : decode cX4_countLargeComponents 57 = .ok (.iload_n 1, 1) := by decide +kernel
theorem dX4_countLargeComponents_58 : decode cX4_countLargeComponents 58 = .ok (.ireturn, 1) := by decide +kernel
set_option maxRecDepth 20000 in
theorem ggX4_findRing_X4_stepsAround : GoodIn wsX4_findRing wsX4_stepsAround := goodIn_r _ [7, 8, 2, 9, 10, 11, 6, 12, 13, 14, 15, 16, 17, 18, 28, 29, 30, 31, 32, 33] (by decide +kernel) (by decide +kernel)
set_option maxRecDepth 20000 in
theorem gX4_findRing_X4_stepsAround : GoodIn wsX4_findRing (wsV RX4 54 RX4 yX4_stepsAround wsX4_stepsAround) := goodIn_app (goodIn_of _ (by decide +kernel)) ggX4_findRing_X4_stepsAround
set_option maxRecDepth 20000 in
theorem ggX4_findRing_X4_writeRing : GoodIn wsX4_findRing wsX4_writeRing := goodIn_r _ [22, 23, 1, 13, 8, 3, 4, 5, 6, 7, 2, 9, 10, 11, 12, 14, 15, 16, 17, 18, 24, 25, 26, 27, 28, 29, 30, 31, 32, 33] (by decide +kernel) (by decide +kernel)
set_option maxRecDepth 20000 in
theorem gX4_findRing_X4_writeRing : GoodIn wsX4_findRing (wsV RX4 57 RX4 yX4_writeRing wsX4_writeRing) := goodIn_app (goodIn_of _ (by decide +kernel)) ggX4_findRing_X4_writeRing
theorem dX4_findRing_0 : decode cX4_findRing 0 = .ok (.aload_n 0, 1) := by decide +kernel
theorem dX4_findRing_1 : decode cX4_findRing 1 = .ok (.iconst 0, 1) := by decide +kernel
theorem dX4_findRing_2 : decode cX4_findRing 2 = .ok (.putfield 51, 3) := by decide +kernel
theorem dX4_findRing_5 : decode cX4_findRing 5 = .ok (.iconst 0, 1) := by decide +kernel
theorem dX4_findRing_6 : decode cX4_findRing 6 = .ok (.istore_n 1, 1) := by decide +kernel
theorem dX4_findRing_7 : decode cX4_findRing 7 = .ok (.iconst 0, 1) := by decide +kernel
theorem dX4_findRing_8 : decode cX4_findRing 8 = .ok (.istore_n 2, 1) := by decide +kernel
theorem dX4_findRing_9 : decode cX4_findRing 9 = .ok (.iload_n 2, 1) := by decide +kernel
theorem dX4_findRing_10 : decode cX4_findRing 10 = .ok (.aload_n 0, 1) := by decide +kernel
theorem dX4_findRing_11 : decode cX4_findRing 11 = .ok (.getfield 30, 3) := by decide +kernel
theorem dX4_findRing_14 : decode cX4_findRing 14 = .ok (.if_icmp .ge 41, 3) := by decide +kernel
theorem dX4_findRing_17 : decode cX4_findRing 17 = .ok (.aload_n 0, 1) := by decide +kernel
theorem dX4_findRing_18 : decode cX4_findRing 18 = .ok (.iload_n 2, 1) := by decide +kernel
theorem dX4_findRing_19 : decode cX4_findRing 19 = .ok (.invokevirtual 54, 3) := by decide +kernel
theorem dX4_findRing_22 : decode cX4_findRing 22 = .ok (.istore_n 3, 1) := by decide +kernel
theorem dX4_findRing_23 : decode cX4_findRing 23 = .ok (.iload_n 3, 1) := by decide +kernel
theorem dX4_findRing_24 : decode cX4_findRing 24 = .ok (.ifCond .le 25, 3) := by decide +kernel
theorem dX4_findRing_27 : decode cX4_findRing 27 = .ok (.aload_n 0, 1) := by decide +kernel
theorem dX4_findRing_28 : decode cX4_findRing 28 = .ok (.getfield 51, 3) := by decide +kernel
theorem dX4_findRing_31 : decode cX4_findRing 31 = .ok (.ifCond .eq 11, 3) := by decide +kernel
theorem dX4_findRing_34 : decode cX4_findRing 34 = .ok (.iload_n 3, 1) := by decide +kernel
theorem dX4_findRing_35 : decode cX4_findRing 35 = .ok (.aload_n 0, 1) := by decide +kernel
theorem dX4_findRing_36 : decode cX4_findRing 36 = .ok (.getfield 51, 3) := by decide +kernel
theorem dX4_findRing_39 : decode cX4_findRing 39 = .ok (.if_icmp .ge 10, 3) := by decide +kernel
theorem dX4_findRing_42 : decode cX4_findRing 42 = .ok (.aload_n 0, 1) := by decide +kernel
theorem dX4_findRing_43 : decode cX4_findRing 43 = .ok (.iload_n 3, 1) := by decide +kernel
theorem dX4_findRing_44 : decode cX4_findRing 44 = .ok (.putfield 51, 3) := by decide +kernel
theorem dX4_findRing_47 : decode cX4_findRing 47 = .ok (.iload_n 2, 1) := by decide +kernel
theorem dX4_findRing_48 : decode cX4_findRing 48 = .ok (.istore_n 1, 1) := by decide +kernel
theorem dX4_findRing_49 : decode cX4_findRing 49 = .ok (.iinc 2 1, 3) := by decide +kernel
theorem dX4_findRing_52 : decode cX4_findRing 52 = .ok (.goto (-43), 3) := by decide +kernel
theorem dX4_findRing_55 : decode cX4_findRing 55 = .ok (.aload_n 0, 1) := by decide +kernel
theorem dX4_findRing_56 : decode cX4_findRing 56 = .ok (.getfield 51, 3) := by decide +kernel
theorem dX4_findRing_59 : decode cX4_findRing 59 = .ok (.ifCond .le 8, 3) := by decide +kernel
theorem dX4_findRing_62 : decode cX4_findRing 62 = .ok (.aload_n 0, 1) := by decide +kernel
theorem dX4_findRing_63 : decode cX4_findRing 63 = .ok (.iload_n 1, 1) := by decide +kernel
theorem dX4_findRing_64 : decode cX4_findRing 64 = .ok (.invokevirtual 57, 3) := by decide +kernel
theorem dX4_findRing_67 : decode cX4_findRing 67 = .ok (.return_, 1) := by decide +kernel
set_option maxRecDepth 20000 in
theorem ggX4_stepsAround_X4_sectionsThatNeedOneOf : GoodIn wsX4_stepsAround wsX4_sectionsThatNeedOneOf := goodIn_r _ [7, 2, 8, 9, 10, 11, 14, 15, 16, 17, 18, 19] (by decide +kernel) (by decide +kernel)
set_option maxRecDepth 20000 in
theorem gX4_stepsAround_X4_sectionsThatNeedOneOf : GoodIn wsX4_stepsAround (wsV RX4 61 RX4 yX4_sectionsThatNeedOneOf wsX4_sectionsThatNeedOneOf) := goodIn_app (goodIn_of _ (by decide +kernel)) ggX4_stepsAround_X4_sectionsThatNeedOneOf
set_option maxRecDepth 20000 in
theorem ggX4_stepsAround_X6_has : GoodIn wsX4_stepsAround wsX6_has := goodIn_r _ [13] (by decide +kernel) (by decide +kernel)
set_option maxRecDepth 20000 in
theorem gX4_stepsAround_X6_has_n39 : GoodIn wsX4_stepsAround (wsX6_has) := ggX4_stepsAround_X6_has
theorem dX4_stepsAround_0 : decode cX4_stepsAround 0 = .ok (.aload_n 0, 1) := by decide +kernel
theorem dX4_stepsAround_1 : decode cX4_stepsAround 1 = .ok (.getfield 21, 3) := by decide +kernel
theorem dX4_stepsAround_4 : decode cX4_stepsAround 4 = .ok (.iconst 0, 1) := by decide +kernel
theorem dX4_stepsAround_5 : decode cX4_stepsAround 5 = .ok (.iconst 1, 1) := by decide +kernel
theorem dX4_stepsAround_6 : decode cX4_stepsAround 6 = .ok (.iload_n 1, 1) := by decide +kernel
theorem dX4_stepsAround_7 : decode cX4_stepsAround 7 = .ok (.ishl, 1) := by decide +kernel
theorem dX4_stepsAround_8 : decode cX4_stepsAround 8 = .ok (.iastore, 1) := by decide +kernel
theorem dX4_stepsAround_9 : decode cX4_stepsAround 9 = .ok (.iconst 1, 1) := by decide +kernel
theorem dX4_stepsAround_10 : decode cX4_stepsAround 10 = .ok (.istore_n 2, 1) := by decide +kernel
theorem dX4_stepsAround_11 : decode cX4_stepsAround 11 = .ok (.iload_n 2, 1) := by decide +kernel
theorem dX4_stepsAround_12 : decode cX4_stepsAround 12 = .ok (.aload_n 0, 1) := by decide +kernel
theorem dX4_stepsAround_13 : decode cX4_stepsAround 13 = .ok (.getfield 30, 3) := by decide +kernel
theorem dX4_stepsAround_16 : decode cX4_stepsAround 16 = .ok (.if_icmp .gt 42, 3) := by decide +kernel
theorem dX4_stepsAround_19 : decode cX4_stepsAround 19 = .ok (.aload_n 0, 1) := by decide +kernel
theorem dX4_stepsAround_20 : decode cX4_stepsAround 20 = .ok (.getfield 21, 3) := by decide +kernel
theorem dX4_stepsAround_23 : decode cX4_stepsAround 23 = .ok (.iload_n 2, 1) := by decide +kernel
theorem dX4_stepsAround_24 : decode cX4_stepsAround 24 = .ok (.aload_n 0, 1) := by decide +kernel
theorem dX4_stepsAround_25 : decode cX4_stepsAround 25 = .ok (.aload_n 0, 1) := by decide +kernel
theorem dX4_stepsAround_26 : decode cX4_stepsAround 26 = .ok (.getfield 21, 3) := by decide +kernel
theorem dX4_stepsAround_29 : decode cX4_stepsAround 29 = .ok (.iload_n 2, 1) := by decide +kernel
theorem dX4_stepsAround_30 : decode cX4_stepsAround 30 = .ok (.iconst 1, 1) := by decide +kernel
theorem dX4_stepsAround_31 : decode cX4_stepsAround 31 = .ok (.isub, 1) := by decide +kernel
theorem dX4_stepsAround_32 : decode cX4_stepsAround 32 = .ok (.iaload, 1) := by decide +kernel
theorem dX4_stepsAround_33 : decode cX4_stepsAround 33 = .ok (.invokevirtual 61, 3) := by decide +kernel
theorem dX4_stepsAround_36 : decode cX4_stepsAround 36 = .ok (.iastore, 1) := by decide +kernel
theorem dX4_stepsAround_37 : decode cX4_stepsAround 37 = .ok (.aload_n 0, 1) := by decide +kernel
theorem dX4_stepsAround_38 : decode cX4_stepsAround 38 = .ok (.getfield 21, 3) := by decide +kernel
theorem dX4_stepsAround_41 : decode cX4_stepsAround 41 = .ok (.iload_n 2, 1) := by decide +kernel
theorem dX4_stepsAround_42 : decode cX4_stepsAround 42 = .ok (.iaload, 1) := by decide +kernel
theorem dX4_stepsAround_43 : decode cX4_stepsAround 43 = .ok (.iload_n 1, 1) := by decide +kernel
theorem dX4_stepsAround_44 : decode cX4_stepsAround 44 = .ok (.invokestatic 39, 3) := by decide +kernel
theorem dX4_stepsAround_47 : decode cX4_stepsAround 47 = .ok (.ifCond .eq 5, 3) := by decide +kernel
theorem dX4_stepsAround_50 : decode cX4_stepsAround 50 = .ok (.iload_n 2, 1) := by decide +kernel
theorem dX4_stepsAround_51 : decode cX4_stepsAround 51 = .ok (.ireturn, 1) := by decide +kernel
theorem dX4_stepsAround_52 : decode cX4_stepsAround 52 = .ok (.iinc 2 1, 3) := by decide +kernel
theorem dX4_stepsAround_55 : decode cX4_stepsAround 55 = .ok (.goto (-44), 3) := by decide +kernel
theorem dX4_stepsAround_58 : decode cX4_stepsAround 58 = .ok (.iconst 0, 1) := by decide +kernel
theorem dX4_stepsAround_59 : decode cX4_stepsAround 59 = .ok (.ireturn, 1) := by decide +kernel
set_option maxRecDepth 20000 in
theorem ggX4_sectionsThatNeedOneOf_X6_with : GoodIn wsX4_sectionsThatNeedOneOf wsX6_with := goodIn_r _ [5] (by decide +kernel) (by decide +kernel)
set_option maxRecDepth 20000 in
theorem gX4_sectionsThatNeedOneOf_X6_with_n35 : GoodIn wsX4_sectionsThatNeedOneOf (wsX6_with) := ggX4_sectionsThatNeedOneOf_X6_with
theorem dX4_sectionsThatNeedOneOf_0 : decode cX4_sectionsThatNeedOneOf 0 = .ok (.iconst 0, 1) := by decide +kernel
theorem dX4_sectionsThatNeedOneOf_1 : decode cX4_sectionsThatNeedOneOf 1 = .ok (.istore_n 2, 1) := by decide +kernel
theorem dX4_sectionsThatNeedOneOf_2 : decode cX4_sectionsThatNeedOneOf 2 = .ok (.iconst 0, 1) := by decide +kernel
theorem dX4_sectionsThatNeedOneOf_3 : decode cX4_sectionsThatNeedOneOf 3 = .ok (.istore_n 3, 1) := by decide +kernel
theorem dX4_sectionsThatNeedOneOf_4 : decode cX4_sectionsThatNeedOneOf 4 = .ok (.iload_n 3, 1) := by decide +kernel
theorem dX4_sectionsThatNeedOneOf_5 : decode cX4_sectionsThatNeedOneOf 5 = .ok (.aload_n 0, 1) := by decide +kernel
theorem dX4_sectionsThatNeedOneOf_6 : decode cX4_sectionsThatNeedOneOf 6 = .ok (.getfield 30, 3) := by decide +kernel
theorem dX4_sectionsThatNeedOneOf_9 : decode cX4_sectionsThatNeedOneOf 9 = .ok (.if_icmp .ge 26, 3) := by decide +kernel
theorem dX4_sectionsThatNeedOneOf_12 : decode cX4_sectionsThatNeedOneOf 12 = .ok (.aload_n 0, 1) := by decide +kernel
theorem dX4_sectionsThatNeedOneOf_13 : decode cX4_sectionsThatNeedOneOf 13 = .ok (.getfield 15, 3) := by decide +kernel
theorem dX4_sectionsThatNeedOneOf_16 : decode cX4_sectionsThatNeedOneOf 16 = .ok (.iload_n 3, 1) := by decide +kernel
theorem dX4_sectionsThatNeedOneOf_17 : decode cX4_sectionsThatNeedOneOf 17 = .ok (.iaload, 1) := by decide +kernel
theorem dX4_sectionsThatNeedOneOf_18 : decode cX4_sectionsThatNeedOneOf 18 = .ok (.iload_n 1, 1) := by decide +kernel
theorem dX4_sectionsThatNeedOneOf_19 : decode cX4_sectionsThatNeedOneOf 19 = .ok (.iand, 1) := by decide +kernel
theorem dX4_sectionsThatNeedOneOf_20 : decode cX4_sectionsThatNeedOneOf 20 = .ok (.ifCond .eq 9, 3) := by decide +kernel
theorem dX4_sectionsThatNeedOneOf_23 : decode cX4_sectionsThatNeedOneOf 23 = .ok (.iload_n 2, 1) := by decide +kernel
theorem dX4_sectionsThatNeedOneOf_24 : decode cX4_sectionsThatNeedOneOf 24 = .ok (.iload_n 3, 1) := by decide +kernel
theorem dX4_sectionsThatNeedOneOf_25 : decode cX4_sectionsThatNeedOneOf 25 = .ok (.invokestatic 35, 3) := by decide +kernel
theorem dX4_sectionsThatNeedOneOf_28 : decode cX4_sectionsThatNeedOneOf 28 = .ok (.istore_n 2, 1) := by decide +kernel
theorem dX4_sectionsThatNeedOneOf_29 : decode cX4_sectionsThatNeedOneOf 29 = .ok (.iinc 3 1, 3) := by decide +kernel
theorem dX4_sectionsThatNeedOneOf_32 : decode cX4_sectionsThatNeedOneOf 32 = .ok (.goto (-28), 3) := by decide +kernel
theorem dX4_sectionsThatNeedOneOf_35 : decode cX4_sectionsThatNeedOneOf 35 = .ok (.iload_n 2, 1) := by decide +kernel
theorem dX4_sectionsThatNeedOneOf_36 : decode cX4_sectionsThatNeedOneOf 36 = .ok (.ireturn, 1) := by decide +kernel
set_option maxRecDepth 20000 in
theorem ggX4_writeRing_X4_stepsAround : GoodIn wsX4_writeRing wsX4_stepsAround := goodIn_r _ [9, 4, 10, 11, 12, 13, 8, 14, 3, 15, 16, 17, 18, 19, 24, 25, 26, 27, 28, 29] (by decide +kernel) (by decide +kernel)
set_option maxRecDepth 20000 in
theorem gX4_writeRing_X4_stepsAround : GoodIn wsX4_writeRing (wsV RX4 54 RX4 yX4_stepsAround wsX4_stepsAround) := goodIn_app (goodIn_of _ (by decide +kernel)) ggX4_writeRing_X4_stepsAround
set_option maxRecDepth 20000 in
theorem ggX4_writeRing_X4_firstOf : GoodIn wsX4_writeRing wsX4_firstOf := goodIn_r _ [23, 10, 18, 16, 19, 24, 25, 26, 27, 28, 29] (by decide +kernel) (by decide +kernel)
set_option maxRecDepth 20000 in
theorem gX4_writeRing_X4_firstOf : GoodIn wsX4_writeRing (wsV RX4 64 RX4 yX4_firstOf wsX4_firstOf) := goodIn_app (goodIn_of _ (by decide +kernel)) ggX4_writeRing_X4_firstOf
theorem dX4_writeRing_0 : decode cX4_writeRing 0 = .ok (.aload_n 0, 1) := by decide +kernel
theorem dX4_writeRing_1 : decode cX4_writeRing 1 = .ok (.iload_n 1, 1) := by decide +kernel
theorem dX4_writeRing_2 : decode cX4_writeRing 2 = .ok (.invokevirtual 54, 3) := by decide +kernel
theorem dX4_writeRing_5 : decode cX4_writeRing 5 = .ok (.pop, 1) := by decide +kernel
theorem dX4_writeRing_6 : decode cX4_writeRing 6 = .ok (.aload_n 0, 1) := by decide +kernel
theorem dX4_writeRing_7 : decode cX4_writeRing 7 = .ok (.getfield 9, 3) := by decide +kernel
theorem dX4_writeRing_10 : decode cX4_writeRing 10 = .ok (.iconst 0, 1) := by decide +kernel
theorem dX4_writeRing_11 : decode cX4_writeRing 11 = .ok (.iload_n 1, 1) := by decide +kernel
theorem dX4_writeRing_12 : decode cX4_writeRing 12 = .ok (.iastore, 1) := by decide +kernel
theorem dX4_writeRing_13 : decode cX4_writeRing 13 = .ok (.iconst 1, 1) := by decide +kernel
theorem dX4_writeRing_14 : decode cX4_writeRing 14 = .ok (.istore_n 2, 1) := by decide +kernel
theorem dX4_writeRing_15 : decode cX4_writeRing 15 = .ok (.iload_n 2, 1) := by decide +kernel
theorem dX4_writeRing_16 : decode cX4_writeRing 16 = .ok (.aload_n 0, 1) := by decide +kernel
theorem dX4_writeRing_17 : decode cX4_writeRing 17 = .ok (.getfield 51, 3) := by decide +kernel
theorem dX4_writeRing_20 : decode cX4_writeRing 20 = .ok (.if_icmp .ge 44, 3) := by decide +kernel
theorem dX4_writeRing_23 : decode cX4_writeRing 23 = .ok (.aload_n 0, 1) := by decide +kernel
theorem dX4_writeRing_24 : decode cX4_writeRing 24 = .ok (.getfield 9, 3) := by decide +kernel
theorem dX4_writeRing_27 : decode cX4_writeRing 27 = .ok (.iload_n 2, 1) := by decide +kernel
theorem dX4_writeRing_28 : decode cX4_writeRing 28 = .ok (.aload_n 0, 1) := by decide +kernel
theorem dX4_writeRing_29 : decode cX4_writeRing 29 = .ok (.aload_n 0, 1) := by decide +kernel
theorem dX4_writeRing_30 : decode cX4_writeRing 30 = .ok (.getfield 15, 3) := by decide +kernel
theorem dX4_writeRing_33 : decode cX4_writeRing 33 = .ok (.aload_n 0, 1) := by decide +kernel
theorem dX4_writeRing_34 : decode cX4_writeRing 34 = .ok (.getfield 9, 3) := by decide +kernel
theorem dX4_writeRing_37 : decode cX4_writeRing 37 = .ok (.iload_n 2, 1) := by decide +kernel
theorem dX4_writeRing_38 : decode cX4_writeRing 38 = .ok (.iconst 1, 1) := by decide +kernel
theorem dX4_writeRing_39 : decode cX4_writeRing 39 = .ok (.isub, 1) := by decide +kernel
theorem dX4_writeRing_40 : decode cX4_writeRing 40 = .ok (.iaload, 1) := by decide +kernel
theorem dX4_writeRing_41 : decode cX4_writeRing 41 = .ok (.iaload, 1) := by decide +kernel
theorem dX4_writeRing_42 : decode cX4_writeRing 42 = .ok (.aload_n 0, 1) := by decide +kernel
theorem dX4_writeRing_43 : decode cX4_writeRing 43 = .ok (.getfield 21, 3) := by decide +kernel
theorem dX4_writeRing_46 : decode cX4_writeRing 46 = .ok (.aload_n 0, 1) := by decide +kernel
theorem dX4_writeRing_47 : decode cX4_writeRing 47 = .ok (.getfield 51, 3) := by decide +kernel
theorem dX4_writeRing_50 : decode cX4_writeRing 50 = .ok (.iload_n 2, 1) := by decide +kernel
theorem dX4_writeRing_51 : decode cX4_writeRing 51 = .ok (.isub, 1) := by decide +kernel
theorem dX4_writeRing_52 : decode cX4_writeRing 52 = .ok (.iaload, 1) := by decide +kernel
theorem dX4_writeRing_53 : decode cX4_writeRing 53 = .ok (.iand, 1) := by decide +kernel
theorem dX4_writeRing_54 : decode cX4_writeRing 54 = .ok (.invokevirtual 64, 3) := by decide +kernel
theorem dX4_writeRing_57 : decode cX4_writeRing 57 = .ok (.iastore, 1) := by decide +kernel
theorem dX4_writeRing_58 : decode cX4_writeRing 58 = .ok (.iinc 2 1, 3) := by decide +kernel
theorem dX4_writeRing_61 : decode cX4_writeRing 61 = .ok (.goto (-46), 3) := by decide +kernel
theorem dX4_writeRing_64 : decode cX4_writeRing 64 = .ok (.return_, 1) := by decide +kernel
set_option maxRecDepth 20000 in
theorem ggX4_firstOf_X6_has : GoodIn wsX4_firstOf wsX6_has := goodIn_r _ [4] (by decide +kernel) (by decide +kernel)
set_option maxRecDepth 20000 in
theorem gX4_firstOf_X6_has_n39 : GoodIn wsX4_firstOf (wsX6_has) := ggX4_firstOf_X6_has
theorem dX4_firstOf_0 : decode cX4_firstOf 0 = .ok (.iconst 0, 1) := by decide +kernel
theorem dX4_firstOf_1 : decode cX4_firstOf 1 = .ok (.istore_n 2, 1) := by decide +kernel
theorem dX4_firstOf_2 : decode cX4_firstOf 2 = .ok (.iload_n 2, 1) := by decide +kernel
theorem dX4_firstOf_3 : decode cX4_firstOf 3 = .ok (.aload_n 0, 1) := by decide +kernel
theorem dX4_firstOf_4 : decode cX4_firstOf 4 = .ok (.getfield 30, 3) := by decide +kernel
theorem dX4_firstOf_7 : decode cX4_firstOf 7 = .ok (.if_icmp .ge 19, 3) := by decide +kernel
theorem dX4_firstOf_10 : decode cX4_firstOf 10 = .ok (.iload_n 1, 1) := by decide +kernel
theorem dX4_firstOf_11 : decode cX4_firstOf 11 = .ok (.iload_n 2, 1) := by decide +kernel
theorem dX4_firstOf_12 : decode cX4_firstOf 12 = .ok (.invokestatic 39, 3) := by decide +kernel
theorem dX4_firstOf_15 : decode cX4_firstOf 15 = .ok (.ifCond .eq 5, 3) := by decide +kernel
theorem dX4_firstOf_18 : decode cX4_firstOf 18 = .ok (.iload_n 2, 1) := by decide +kernel
theorem dX4_firstOf_19 : decode cX4_firstOf 19 = .ok (.ireturn, 1) := by decide +kernel
theorem dX4_firstOf_20 : decode cX4_firstOf 20 = .ok (.iinc 2 1, 3) := by decide +kernel
theorem dX4_firstOf_23 : decode cX4_firstOf 23 = .ok (.goto (-21), 3) := by decide +kernel
theorem dX4_firstOf_26 : decode cX4_firstOf 26 = .ok (.iconst 0, 1) := by decide +kernel
theorem dX4_firstOf_27 : decode cX4_firstOf 27 = .ok (.ireturn, 1) := by decide +kernel
theorem dX5_init_0 : decode cX5_init 0 = .ok (.aload_n 0, 1) := by decide +kernel
theorem dX5_init_1 : decode cX5_init 1 = .ok (.invokespecial 3, 3) := by decide +kernel
theorem dX5_init_4 : decode cX5_init 4 = .ok (.aload_n 0, 1) := by decide +kernel
theorem dX5_init_5 : decode cX5_init 5 = .ok (.iconst 0, 1) := by decide +kernel
theorem dX5_init_6 : decode cX5_init 6 = .ok (.putfield 9, 3) := by decide +kernel
theorem dX5_init_9 : decode cX5_init 9 = .ok (.aload_n 0, 1) := by decide +kernel
theorem dX5_init_10 : decode cX5_init 10 = .ok (.iconst 0, 1) := by decide +kernel
theorem dX5_init_11 : decode cX5_init 11 = .ok (.putfield 15, 3) := by decide +kernel
theorem dX5_init_14 : decode cX5_init 14 = .ok (.aload_n 0, 1) := by decide +kernel
theorem dX5_init_15 : decode cX5_init 15 = .ok (.iconst 0, 1) := by decide +kernel
theorem dX5_init_16 : decode cX5_init 16 = .ok (.putfield 18, 3) := by decide +kernel
theorem dX5_init_19 : decode cX5_init 19 = .ok (.aload_n 0, 1) := by decide +kernel
theorem dX5_init_20 : decode cX5_init 20 = .ok (.iconst 0, 1) := by decide +kernel
theorem dX5_init_21 : decode cX5_init 21 = .ok (.putfield 21, 3) := by decide +kernel
theorem dX5_init_24 : decode cX5_init 24 = .ok (.aload_n 0, 1) := by decide +kernel
theorem dX5_init_25 : decode cX5_init 25 = .ok (.sipush 200, 3) := by decide +kernel
theorem dX5_init_28 : decode cX5_init 28 = .ok (.newarray .int, 2) := by decide +kernel
theorem dX5_init_30 : decode cX5_init 30 = .ok (.putfield 24, 3) := by decide +kernel
theorem dX5_init_33 : decode cX5_init 33 = .ok (.return_, 1) := by decide +kernel
theorem dX5_append_0 : decode cX5_append 0 = .ok (.aload_n 0, 1) := by decide +kernel
theorem dX5_append_1 : decode cX5_append 1 = .ok (.getfield 9, 3) := by decide +kernel
theorem dX5_append_4 : decode cX5_append 4 = .ok (.sipush 200, 3) := by decide +kernel
theorem dX5_append_7 : decode cX5_append 7 = .ok (.if_icmp .ge 23, 3) := by decide +kernel
theorem dX5_append_10 : decode cX5_append 10 = .ok (.aload_n 0, 1) := by decide +kernel
theorem dX5_append_11 : decode cX5_append 11 = .ok (.getfield 24, 3) := by decide +kernel
theorem dX5_append_14 : decode cX5_append 14 = .ok (.aload_n 0, 1) := by decide +kernel
theorem dX5_append_15 : decode cX5_append 15 = .ok (.getfield 9, 3) := by decide +kernel
theorem dX5_append_18 : decode cX5_append 18 = .ok (.iload_n 1, 1) := by decide +kernel
theorem dX5_append_19 : decode cX5_append 19 = .ok (.iastore, 1) := by decide +kernel
theorem dX5_append_20 : decode cX5_append 20 = .ok (.aload_n 0, 1) := by decide +kernel
theorem dX5_append_21 : decode cX5_append 21 = .ok (.dup, 1) := by decide +kernel
theorem dX5_append_22 : decode cX5_append 22 = .ok (.getfield 9, 3) := by decide +kernel
theorem dX5_append_25 : decode cX5_append 25 = .ok (.iconst 1, 1) := by decide +kernel
theorem dX5_append_26 : decode cX5_append 26 = .ok (.iadd, 1) := by decide +kernel
theorem dX5_append_27 : decode cX5_append 27 = .ok (.putfield 9, 3) := by decide +kernel
theorem dX5_append_30 : decode cX5_append 30 = .ok (.return_, 1) := by decide +kernel
theorem dX5_clear_0 : decode cX5_clear 0 = .ok (.aload_n 0, 1) := by decide +kernel
theorem dX5_clear_1 : decode cX5_clear 1 = .ok (.iconst 0, 1) := by decide +kernel
theorem dX5_clear_2 : decode cX5_clear 2 = .ok (.putfield 9, 3) := by decide +kernel
theorem dX5_clear_5 : decode cX5_clear 5 = .ok (.return_, 1) := by decide +kernel
theorem dX5_rewind_0 : decode cX5_rewind 0 = .ok (.aload_n 0, 1) := by decide +kernel
theorem dX5_rewind_1 : decode cX5_rewind 1 = .ok (.iconst 0, 1) := by decide +kernel
theorem dX5_rewind_2 : decode cX5_rewind 2 = .ok (.putfield 18, 3) := by decide +kernel
theorem dX5_rewind_5 : decode cX5_rewind 5 = .ok (.return_, 1) := by decide +kernel
set_option maxRecDepth 20000 in
theorem ggX5_take_X5_kindOf : GoodIn wsX5_take wsX5_kindOf := goodIn_r _ [9] (by decide +kernel) (by decide +kernel)
set_option maxRecDepth 20000 in
theorem gX5_take_X5_kindOf : GoodIn wsX5_take (va_wsS RX5 28 yX5_kindOf wsX5_kindOf) := goodIn_app (goodIn_of _ (by decide +kernel)) ggX5_take_X5_kindOf
theorem dX5_take_0 : decode cX5_take 0 = .ok (.aload_n 0, 1) := by decide +kernel
theorem dX5_take_1 : decode cX5_take 1 = .ok (.getfield 18, 3) := by decide +kernel
theorem dX5_take_4 : decode cX5_take 4 = .ok (.aload_n 0, 1) := by decide +kernel
theorem dX5_take_5 : decode cX5_take 5 = .ok (.getfield 9, 3) := by decide +kernel
theorem dX5_take_8 : decode cX5_take 8 = .ok (.if_icmp .ge 30, 3) := by decide +kernel
theorem dX5_take_11 : decode cX5_take 11 = .ok (.aload_n 0, 1) := by decide +kernel
theorem dX5_take_12 : decode cX5_take 12 = .ok (.getfield 24, 3) := by decide +kernel
theorem dX5_take_15 : decode cX5_take 15 = .ok (.aload_n 0, 1) := by decide +kernel
theorem dX5_take_16 : decode cX5_take 16 = .ok (.getfield 18, 3) := by decide +kernel
theorem dX5_take_19 : decode cX5_take 19 = .ok (.iaload, 1) := by decide +kernel
theorem dX5_take_20 : decode cX5_take 20 = .ok (.bipush 32, 2) := by decide +kernel
theorem dX5_take_22 : decode cX5_take 22 = .ok (.if_icmp .ne 16, 3) := by decide +kernel
theorem dX5_take_25 : decode cX5_take 25 = .ok (.aload_n 0, 1) := by decide +kernel
theorem dX5_take_26 : decode cX5_take 26 = .ok (.dup, 1) := by decide +kernel
theorem dX5_take_27 : decode cX5_take 27 = .ok (.getfield 18, 3) := by decide +kernel
theorem dX5_take_30 : decode cX5_take 30 = .ok (.iconst 1, 1) := by decide +kernel
theorem dX5_take_31 : decode cX5_take 31 = .ok (.iadd, 1) := by decide +kernel
theorem dX5_take_32 : decode cX5_take 32 = .ok (.putfield 18, 3) := by decide +kernel
theorem dX5_take_35 : decode cX5_take 35 = .ok (.goto (-35), 3) := by decide +kernel
theorem dX5_take_38 : decode cX5_take 38 = .ok (.aload_n 0, 1) := by decide +kernel
theorem dX5_take_39 : decode cX5_take 39 = .ok (.aload_n 0, 1) := by decide +kernel
theorem dX5_take_40 : decode cX5_take 40 = .ok (.getfield 18, 3) := by decide +kernel
theorem dX5_take_43 : decode cX5_take 43 = .ok (.putfield 15, 3) := by decide +kernel
theorem dX5_take_46 : decode cX5_take 46 = .ok (.aload_n 0, 1) := by decide +kernel
theorem dX5_take_47 : decode cX5_take 47 = .ok (.getfield 18, 3) := by decide +kernel
theorem dX5_take_50 : decode cX5_take 50 = .ok (.aload_n 0, 1) := by decide +kernel
theorem dX5_take_51 : decode cX5_take 51 = .ok (.getfield 9, 3) := by decide +kernel
theorem dX5_take_54 : decode cX5_take 54 = .ok (.if_icmp .lt 9, 3) := by decide +kernel
theorem dX5_take_57 : decode cX5_take 57 = .ok (.aload_n 0, 1) := by decide +kernel
theorem dX5_take_58 : decode cX5_take 58 = .ok (.iconst 0, 1) := by decide +kernel
theorem dX5_take_59 : decode cX5_take 59 = .ok (.putfield 21, 3) := by decide +kernel
theorem dX5_take_62 : decode cX5_take 62 = .ok (.return_, 1) := by decide +kernel
theorem dX5_take_63 : decode cX5_take 63 = .ok (.aload_n 0, 1) := by decide +kernel
theorem dX5_take_64 : decode cX5_take 64 = .ok (.aload_n 0, 1) := by decide +kernel
theorem dX5_take_65 : decode cX5_take 65 = .ok (.getfield 24, 3) := by decide +kernel
theorem dX5_take_68 : decode cX5_take 68 = .ok (.aload_n 0, 1) := by decide +kernel
theorem dX5_take_69 : decode cX5_take 69 = .ok (.getfield 18, 3) := by decide +kernel
theorem dX5_take_72 : decode cX5_take 72 = .ok (.iaload, 1) := by decide +kernel
theorem dX5_take_73 : decode cX5_take 73 = .ok (.invokestatic 28, 3) := by decide +kernel
theorem dX5_take_76 : decode cX5_take 76 = .ok (.putfield 21, 3) := by decide +kernel
theorem dX5_take_79 : decode cX5_take 79 = .ok (.aload_n 0, 1) := by decide +kernel
theorem dX5_take_80 : decode cX5_take 80 = .ok (.dup, 1) := by decide +kernel
theorem dX5_take_81 : decode cX5_take 81 = .ok (.getfield 18, 3) := by decide +kernel
theorem dX5_take_84 : decode cX5_take 84 = .ok (.iconst 1, 1) := by decide +kernel
theorem dX5_take_85 : decode cX5_take 85 = .ok (.iadd, 1) := by decide +kernel
theorem dX5_take_86 : decode cX5_take 86 = .ok (.putfield 18, 3) := by decide +kernel
theorem dX5_take_89 : decode cX5_take 89 = .ok (.aload_n 0, 1) := by decide +kernel
theorem dX5_take_90 : decode cX5_take 90 = .ok (.getfield 21, 3) := by decide +kernel
theorem dX5_take_93 : decode cX5_take 93 = .ok (.iconst 3, 1) := by decide +kernel
theorem dX5_take_94 : decode cX5_take 94 = .ok (.if_icmp .eq 46, 3) := by decide +kernel
theorem dX5_take_97 : decode cX5_take 97 = .ok (.aload_n 0, 1) := by decide +kernel
theorem dX5_take_98 : decode cX5_take 98 = .ok (.getfield 18, 3) := by decide +kernel
theorem dX5_take_101 : decode cX5_take 101 = .ok (.aload_n 0, 1) := by decide +kernel
theorem dX5_take_102 : decode cX5_take 102 = .ok (.getfield 9, 3) := by decide +kernel
theorem dX5_take_105 : decode cX5_take 105 = .ok (.if_icmp .ge 35, 3) := by decide +kernel
theorem dX5_take_108 : decode cX5_take 108 = .ok (.aload_n 0, 1) := by decide +kernel
theorem dX5_take_109 : decode cX5_take 109 = .ok (.getfield 24, 3) := by decide +kernel
theorem dX5_take_112 : decode cX5_take 112 = .ok (.aload_n 0, 1) := by decide +kernel
theorem dX5_take_113 : decode cX5_take 113 = .ok (.getfield 18, 3) := by decide +kernel
theorem dX5_take_116 : decode cX5_take 116 = .ok (.iaload, 1) := by decide +kernel
theorem dX5_take_117 : decode cX5_take 117 = .ok (.invokestatic 28, 3) := by decide +kernel
theorem dX5_take_120 : decode cX5_take 120 = .ok (.aload_n 0, 1) := by decide +kernel
theorem dX5_take_121 : decode cX5_take 121 = .ok (.getfield 21, 3) := by decide +kernel
theorem dX5_take_124 : decode cX5_take 124 = .ok (.if_icmp .ne 16, 3) := by decide +kernel
theorem dX5_take_127 : decode cX5_take 127 = .ok (.aload_n 0, 1) := by decide +kernel
theorem dX5_take_128 : decode cX5_take 128 = .ok (.dup, 1) := by decide +kernel
theorem dX5_take_129 : decode cX5_take 129 = .ok (.getfield 18, 3) := by decide +kernel
theorem dX5_take_132 : decode cX5_take 132 = .ok (.iconst 1, 1) := by decide +kernel
theorem dX5_take_133 : decode cX5_take 133 = .ok (.iadd, 1) := by decide +kernel
theorem dX5_take_134 : decode cX5_take 134 = .ok (.putfield 18, 3) := by decide +kernel
theorem dX5_take_137 : decode cX5_take 137 = .ok (.goto (-48), 3) := by decide +kernel
theorem dX5_take_140 : decode cX5_take 140 = .ok (.return_, 1) := by decide +kernel
theorem dX5_kindOf_0 : decode cX5_kindOf 0 = .ok (.iload_n 0, 1) := by decide +kernel
theorem dX5_kindOf_1 : decode cX5_kindOf 1 = .ok (.bipush 97, 2) := by decide +kernel
theorem dX5_kindOf_3 : decode cX5_kindOf 3 = .ok (.if_icmp .lt 11, 3) := by decide +kernel
theorem dX5_kindOf_6 : decode cX5_kindOf 6 = .ok (.iload_n 0, 1) := by decide +kernel
theorem dX5_kindOf_7 : decode cX5_kindOf 7 = .ok (.bipush 122, 2) := by decide +kernel
theorem dX5_kindOf_9 : decode cX5_kindOf 9 = .ok (.if_icmp .gt 5, 3) := by decide +kernel
theorem dX5_kindOf_12 : decode cX5_kindOf 12 = .ok (.iconst 1, 1) := by decide +kernel
theorem dX5_kindOf_13 : decode cX5_kindOf 13 = .ok (.ireturn, 1) := by decide +kernel
theorem dX5_kindOf_14 : decode cX5_kindOf 14 = .ok (.iload_n 0, 1) := by decide +kernel
theorem dX5_kindOf_15 : decode cX5_kindOf 15 = .ok (.bipush 48, 2) := by decide +kernel
theorem dX5_kindOf_17 : decode cX5_kindOf 17 = .ok (.if_icmp .lt 11, 3) := by decide +kernel
theorem dX5_kindOf_20 : decode cX5_kindOf 20 = .ok (.iload_n 0, 1) := by decide +kernel
theorem dX5_kindOf_21 : decode cX5_kindOf 21 = .ok (.bipush 57, 2) := by decide +kernel
theorem dX5_kindOf_23 : decode cX5_kindOf 23 = .ok (.if_icmp .gt 5, 3) := by decide +kernel
theorem dX5_kindOf_26 : decode cX5_kindOf 26 = .ok (.iconst 2, 1) := by decide +kernel
theorem dX5_kindOf_27 : decode cX5_kindOf 27 = .ok (.ireturn, 1) := by decide +kernel
theorem dX5_kindOf_28 : decode cX5_kindOf 28 = .ok (.iconst 3, 1) := by decide +kernel
theorem dX5_kindOf_29 : decode cX5_kindOf 29 = .ok (.ireturn, 1) := by decide +kernel
theorem dX5_isEnd_0 : decode cX5_isEnd 0 = .ok (.aload_n 0, 1) := by decide +kernel
theorem dX5_isEnd_1 : decode cX5_isEnd 1 = .ok (.getfield 21, 3) := by decide +kernel
theorem dX5_isEnd_4 : decode cX5_isEnd 4 = .ok (.ifCond .ne 7, 3) := by decide +kernel
theorem dX5_isEnd_7 : decode cX5_isEnd 7 = .ok (.iconst 1, 1) := by decide +kernel
theorem dX5_isEnd_8 : decode cX5_isEnd 8 = .ok (.goto 4, 3) := by decide +kernel
theorem dX5_isEnd_11 : decode cX5_isEnd 11 = .ok (.iconst 0, 1) := by decide +kernel
theorem dX5_isEnd_12 : decode cX5_isEnd 12 = .ok (.ireturn, 1) := by decide +kernel
theorem dX5_isSemicolon_0 : decode cX5_isSemicolon 0 = .ok (.aload_n 0, 1) := by decide +kernel
theorem dX5_isSemicolon_1 : decode cX5_isSemicolon 1 = .ok (.getfield 21, 3) := by decide +kernel
theorem dX5_isSemicolon_4 : decode cX5_isSemicolon 4 = .ok (.iconst 3, 1) := by decide +kernel
theorem dX5_isSemicolon_5 : decode cX5_isSemicolon 5 = .ok (.if_icmp .ne 21, 3) := by decide +kernel
theorem dX5_isSemicolon_8 : decode cX5_isSemicolon 8 = .ok (.aload_n 0, 1) := by decide +kernel
theorem dX5_isSemicolon_9 : decode cX5_isSemicolon 9 = .ok (.getfield 24, 3) := by decide +kernel
theorem dX5_isSemicolon_12 : decode cX5_isSemicolon 12 = .ok (.aload_n 0, 1) := by decide +kernel
theorem dX5_isSemicolon_13 : decode cX5_isSemicolon 13 = .ok (.getfield 15, 3) := by decide +kernel
theorem dX5_isSemicolon_16 : decode cX5_isSemicolon 16 = .ok (.iaload, 1) := by decide +kernel
theorem dX5_isSemicolon_17 : decode cX5_isSemicolon 17 = .ok (.bipush 59, 2) := by decide +kernel
theorem dX5_isSemicolon_19 : decode cX5_isSemicolon 19 = .ok (.if_icmp .ne 7, 3) := by decide +kernel
theorem dX5_isSemicolon_22 : decode cX5_isSemicolon 22 = .ok (.iconst 1, 1) := by decide +kernel
theorem dX5_isSemicolon_23 : decode cX5_isSemicolon 23 = .ok (.goto 4, 3) := by decide +kernel
theorem dX5_isSemicolon_26 : decode cX5_isSemicolon 26 = .ok (.iconst 0, 1) := by decide +kernel
theorem dX5_isSemicolon_27 : decode cX5_isSemicolon 27 = .ok (.ireturn, 1) := by decide +kernel
set_option maxRecDepth 20000 in
theorem ggX5_isWord_J0_length_8abf5 : GoodIn wsX5_isWord wsJ0_length_8abf5 := goodIn_r _ [9, 10, 11, 12, 13, 8, 14, 15, 16] (by decide +kernel) (by decide +kernel)
set_option maxRecDepth 20000 in
theorem gX5_isWord_J0_length_8abf5 : GoodIn wsX5_isWord (wsV RX5 32 RJ0 yJ0_length_8abf5 wsJ0_length_8abf5) := goodIn_app (goodIn_of _ (by decide +kernel)) ggX5_isWord_J0_length_8abf5
set_option maxRecDepth 20000 in
theorem ggX5_isWord_J0_charAt_5068e : GoodIn wsX5_isWord wsJ0_charAt_5068e := goodIn_r _ [20, 10, 21, 22, 23, 8, 24, 15, 16, 25, 26, 27, 28, 29, 30, 31, 32, 33, 34, 35, 36, 37, 38, 39, 40, 41, 42, 43, 44, 45, 46, 47, 48, 49, 50, 51, 52, 53] (by decide +kernel) (by decide +kernel)
set_option maxRecDepth 20000 in
theorem gX5_isWord_J0_charAt_5068e : GoodIn wsX5_isWord (wsV RX5 37 RJ0 yJ0_charAt_5068e wsJ0_charAt_5068e) := goodIn_app (goodIn_of _ (by decide +kernel)) ggX5_isWord_J0_charAt_5068e
theorem dX5_isWord_0 : decode cX5_isWord 0 = .ok (.aload_n 0, 1) := by decide +kernel
theorem dX5_isWord_1 : decode cX5_isWord 1 = .ok (.getfield 21, 3) := by decide +kernel
theorem dX5_isWord_4 : decode cX5_isWord 4 = .ok (.iconst 1, 1) := by decide +kernel
theorem dX5_isWord_5 : decode cX5_isWord 5 = .ok (.if_icmp .ne 19, 3) := by decide +kernel
theorem dX5_isWord_8 : decode cX5_isWord 8 = .ok (.aload_n 0, 1) := by decide +kernel
theorem dX5_isWord_9 : decode cX5_isWord 9 = .ok (.getfield 18, 3) := by decide +kernel
theorem dX5_isWord_12 : decode cX5_isWord 12 = .ok (.aload_n 0, 1) := by decide +kernel
theorem dX5_isWord_13 : decode cX5_isWord 13 = .ok (.getfield 15, 3) := by decide +kernel
theorem dX5_isWord_16 : decode cX5_isWord 16 = .ok (.isub, 1) := by decide +kernel
theorem dX5_isWord_17 : decode cX5_isWord 17 = .ok (.aload_n 1, 1) := by decide +kernel
theorem dX5_isWord_18 : decode cX5_isWord 18 = .ok (.invokevirtual 32, 3) := by decide +kernel
theorem dX5_isWord_21 : decode cX5_isWord 21 = .ok (.if_icmp .eq 5, 3) := by decide +kernel
theorem dX5_isWord_24 : decode cX5_isWord 24 = .ok (.iconst 0, 1) := by decide +kernel
theorem dX5_isWord_25 : decode cX5_isWord 25 = .ok (.ireturn, 1) := by decide +kernel
theorem dX5_isWord_26 : decode cX5_isWord 26 = .ok (.iconst 0, 1) := by decide +kernel
theorem dX5_isWord_27 : decode cX5_isWord 27 = .ok (.istore_n 2, 1) := by decide +kernel
theorem dX5_isWord_28 : decode cX5_isWord 28 = .ok (.iload_n 2, 1) := by decide +kernel
theorem dX5_isWord_29 : decode cX5_isWord 29 = .ok (.aload_n 1, 1) := by decide +kernel
theorem dX5_isWord_30 : decode cX5_isWord 30 = .ok (.invokevirtual 32, 3) := by decide +kernel
theorem dX5_isWord_33 : decode cX5_isWord 33 = .ok (.if_icmp .ge 30, 3) := by decide +kernel
theorem dX5_isWord_36 : decode cX5_isWord 36 = .ok (.aload_n 0, 1) := by decide +kernel
theorem dX5_isWord_37 : decode cX5_isWord 37 = .ok (.getfield 24, 3) := by decide +kernel
theorem dX5_isWord_40 : decode cX5_isWord 40 = .ok (.aload_n 0, 1) := by decide +kernel
theorem dX5_isWord_41 : decode cX5_isWord 41 = .ok (.getfield 15, 3) := by decide +kernel
theorem dX5_isWord_44 : decode cX5_isWord 44 = .ok (.iload_n 2, 1) := by decide +kernel
theorem dX5_isWord_45 : decode cX5_isWord 45 = .ok (.iadd, 1) := by decide +kernel
theorem dX5_isWord_46 : decode cX5_isWord 46 = .ok (.iaload, 1) := by decide +kernel
theorem dX5_isWord_47 : decode cX5_isWord 47 = .ok (.aload_n 1, 1) := by decide +kernel
theorem dX5_isWord_48 : decode cX5_isWord 48 = .ok (.iload_n 2, 1) := by decide +kernel
theorem dX5_isWord_49 : decode cX5_isWord 49 = .ok (.invokevirtual 37, 3) := by decide +kernel
theorem dX5_isWord_52 : decode cX5_isWord 52 = .ok (.if_icmp .eq 5, 3) := by decide +kernel
theorem dX5_isWord_55 : decode cX5_isWord 55 = .ok (.iconst 0, 1) := by decide +kernel
theorem dX5_isWord_56 : decode cX5_isWord 56 = .ok (.ireturn, 1) := by decide +kernel
theorem dX5_isWord_57 : decode cX5_isWord 57 = .ok (.iinc 2 1, 3) := by decide +kernel
theorem dX5_isWord_60 : decode cX5_isWord 60 = .ok (.goto (-32), 3) := by decide +kernel
theorem dX5_isWord_63 : decode cX5_isWord 63 = .ok (.iconst 1, 1) := by decide +kernel
theorem dX5_isWord_64 : decode cX5_isWord 64 = .ok (.ireturn, 1) := by decide +kernel
theorem dX5_asNumber_0 : decode cX5_asNumber 0 = .ok (.aload_n 0, 1) := by decide +kernel
theorem dX5_asNumber_1 : decode cX5_asNumber 1 = .ok (.getfield 21, 3) := by decide +kernel
theorem dX5_asNumber_4 : decode cX5_asNumber 4 = .ok (.iconst 2, 1) := by decide +kernel
theorem dX5_asNumber_5 : decode cX5_asNumber 5 = .ok (.if_icmp .ne 16, 3) := by decide +kernel
theorem dX5_asNumber_8 : decode cX5_asNumber 8 = .ok (.aload_n 0, 1) := by decide +kernel
theorem dX5_asNumber_9 : decode cX5_asNumber 9 = .ok (.getfield 18, 3) := by decide +kernel
theorem dX5_asNumber_12 : decode cX5_asNumber 12 = .ok (.aload_n 0, 1) := by decide +kernel
theorem dX5_asNumber_13 : decode cX5_asNumber 13 = .ok (.getfield 15, 3) := by decide +kernel
theorem dX5_asNumber_16 : decode cX5_asNumber 16 = .ok (.isub, 1) := by decide +kernel
theorem dX5_asNumber_17 : decode cX5_asNumber 17 = .ok (.iconst 2, 1) := by decide +kernel
theorem dX5_asNumber_18 : decode cX5_asNumber 18 = .ok (.if_icmp .le 5, 3) := by decide +kernel
theorem dX5_asNumber_21 : decode cX5_asNumber 21 = .ok (.iconst (-1), 1) := by decide +kernel
theorem dX5_asNumber_22 : decode cX5_asNumber 22 = .ok (.ireturn, 1) := by decide +kernel
theorem dX5_asNumber_23 : decode cX5_asNumber 23 = .ok (.iconst 0, 1) := by decide +kernel
theorem dX5_asNumber_24 : decode cX5_asNumber 24 = .ok (.istore_n 3, 1) := by decide +kernel
theorem dX5_asNumber_25 : decode cX5_asNumber 25 = .ok (.aload_n 0, 1) := by decide +kernel
theorem dX5_asNumber_26 : decode cX5_asNumber 26 = .ok (.getfield 15, 3) := by decide +kernel
theorem dX5_asNumber_29 : decode cX5_asNumber 29 = .ok (.istore 4, 2) := by decide +kernel
theorem dX5_asNumber_31 : decode cX5_asNumber 31 = .ok (.iload 4, 2) := by decide +kernel
theorem dX5_asNumber_33 : decode cX5_asNumber 33 = .ok (.aload_n 0, 1) := by decide +kernel
theorem dX5_asNumber_34 : decode cX5_asNumber 34 = .ok (.getfield 18, 3) := by decide +kernel
theorem dX5_asNumber_37 : decode cX5_asNumber 37 = .ok (.if_icmp .ge 25, 3) := by decide +kernel
theorem dX5_asNumber_40 : decode cX5_asNumber 40 = .ok (.iload_n 3, 1) := by decide +kernel
theorem dX5_asNumber_41 : decode cX5_asNumber 41 = .ok (.bipush 10, 2) := by decide +kernel
theorem dX5_asNumber_43 : decode cX5_asNumber 43 = .ok (.imul, 1) := by decide +kernel
theorem dX5_asNumber_44 : decode cX5_asNumber 44 = .ok (.aload_n 0, 1) := by decide +kernel
theorem dX5_asNumber_45 : decode cX5_asNumber 45 = .ok (.getfield 24, 3) := by decide +kernel
theorem dX5_asNumber_48 : decode cX5_asNumber 48 = .ok (.iload 4, 2) := by decide +kernel
theorem dX5_asNumber_50 : decode cX5_asNumber 50 = .ok (.iaload, 1) := by decide +kernel
theorem dX5_asNumber_51 : decode cX5_asNumber 51 = .ok (.iadd, 1) := by decide +kernel
theorem dX5_asNumber_52 : decode cX5_asNumber 52 = .ok (.bipush 48, 2) := by decide +kernel
theorem dX5_asNumber_54 : decode cX5_asNumber 54 = .ok (.isub, 1) := by decide +kernel
theorem dX5_asNumber_55 : decode cX5_asNumber 55 = .ok (.istore_n 3, 1) := by decide +kernel
theorem dX5_asNumber_56 : decode cX5_asNumber 56 = .ok (.iinc 4 1, 3) := by decide +kernel
theorem dX5_asNumber_59 : decode cX5_asNumber 59 = .ok (.goto (-28), 3) := by decide +kernel
theorem dX5_asNumber_62 : decode cX5_asNumber 62 = .ok (.iload_n 3, 1) := by decide +kernel
theorem dX5_asNumber_63 : decode cX5_asNumber 63 = .ok (.iload_n 1, 1) := by decide +kernel
theorem dX5_asNumber_64 : decode cX5_asNumber 64 = .ok (.if_icmp .lt 8, 3) := by decide +kernel
theorem dX5_asNumber_67 : decode cX5_asNumber 67 = .ok (.iload_n 3, 1) := by decide +kernel
theorem dX5_asNumber_68 : decode cX5_asNumber 68 = .ok (.iload_n 2, 1) := by decide +kernel
theorem dX5_asNumber_69 : decode cX5_asNumber 69 = .ok (.if_icmp .le 7, 3) := by decide +kernel
theorem dX5_asNumber_72 : decode cX5_asNumber 72 = .ok (.iconst (-1), 1) := by decide +kernel
theorem dX5_asNumber_73 : decode cX5_asNumber 73 = .ok (.goto 4, 3) := by decide +kernel
theorem dX5_asNumber_76 : decode cX5_asNumber 76 = .ok (.iload_n 3, 1) := by decide +kernel
theorem dX5_asNumber_77 : decode cX5_asNumber 77 = .ok (.ireturn, 1) := by decide +kernel
set_option maxRecDepth 20000 in
theorem ggX5_asTerm_X6_isTerm : GoodIn wsX5_asTerm wsX6_isTerm := goodIn_r _ [7] (by decide +kernel) (by decide +kernel)
set_option maxRecDepth 20000 in
theorem gX5_asTerm_X6_isTerm_n41 : GoodIn wsX5_asTerm (wsX6_isTerm) := ggX5_asTerm_X6_isTerm
theorem dX5_asTerm_0 : decode cX5_asTerm 0 = .ok (.aload_n 0, 1) := by decide +kernel
theorem dX5_asTerm_1 : decode cX5_asTerm 1 = .ok (.getfield 21, 3) := by decide +kernel
theorem dX5_asTerm_4 : decode cX5_asTerm 4 = .ok (.iconst 1, 1) := by decide +kernel
theorem dX5_asTerm_5 : decode cX5_asTerm 5 = .ok (.if_icmp .ne 16, 3) := by decide +kernel
theorem dX5_asTerm_8 : decode cX5_asTerm 8 = .ok (.aload_n 0, 1) := by decide +kernel
theorem dX5_asTerm_9 : decode cX5_asTerm 9 = .ok (.getfield 18, 3) := by decide +kernel
theorem dX5_asTerm_12 : decode cX5_asTerm 12 = .ok (.aload_n 0, 1) := by decide +kernel
theorem dX5_asTerm_13 : decode cX5_asTerm 13 = .ok (.getfield 15, 3) := by decide +kernel
theorem dX5_asTerm_16 : decode cX5_asTerm 16 = .ok (.isub, 1) := by decide +kernel
theorem dX5_asTerm_17 : decode cX5_asTerm 17 = .ok (.iconst 1, 1) := by decide +kernel
theorem dX5_asTerm_18 : decode cX5_asTerm 18 = .ok (.if_icmp .eq 5, 3) := by decide +kernel
theorem dX5_asTerm_21 : decode cX5_asTerm 21 = .ok (.iconst (-1), 1) := by decide +kernel
theorem dX5_asTerm_22 : decode cX5_asTerm 22 = .ok (.ireturn, 1) := by decide +kernel
theorem dX5_asTerm_23 : decode cX5_asTerm 23 = .ok (.aload_n 0, 1) := by decide +kernel
theorem dX5_asTerm_24 : decode cX5_asTerm 24 = .ok (.getfield 24, 3) := by decide +kernel
theorem dX5_asTerm_27 : decode cX5_asTerm 27 = .ok (.aload_n 0, 1) := by decide +kernel
theorem dX5_asTerm_28 : decode cX5_asTerm 28 = .ok (.getfield 15, 3) := by decide +kernel
theorem dX5_asTerm_31 : decode cX5_asTerm 31 = .ok (.iaload, 1) := by decide +kernel
theorem dX5_asTerm_32 : decode cX5_asTerm 32 = .ok (.bipush 97, 2) := by decide +kernel
theorem dX5_asTerm_34 : decode cX5_asTerm 34 = .ok (.isub, 1) := by decide +kernel
theorem dX5_asTerm_35 : decode cX5_asTerm 35 = .ok (.istore_n 1, 1) := by decide +kernel
theorem dX5_asTerm_36 : decode cX5_asTerm 36 = .ok (.iload_n 1, 1) := by decide +kernel
theorem dX5_asTerm_37 : decode cX5_asTerm 37 = .ok (.invokestatic 41, 3) := by decide +kernel
theorem dX5_asTerm_40 : decode cX5_asTerm 40 = .ok (.ifCond .eq 7, 3) := by decide +kernel
theorem dX5_asTerm_43 : decode cX5_asTerm 43 = .ok (.iload_n 1, 1) := by decide +kernel
theorem dX5_asTerm_44 : decode cX5_asTerm 44 = .ok (.goto 4, 3) := by decide +kernel
theorem dX5_asTerm_47 : decode cX5_asTerm 47 = .ok (.iconst (-1), 1) := by decide +kernel
theorem dX5_asTerm_48 : decode cX5_asTerm 48 = .ok (.ireturn, 1) := by decide +kernel
set_option maxRecDepth 20000 in
theorem ggX5_asTerms_X6_isTerm : GoodIn wsX5_asTerms wsX6_isTerm := goodIn_r _ [7] (by decide +kernel) (by decide +kernel)
set_option maxRecDepth 20000 in
theorem gX5_asTerms_X6_isTerm_n41 : GoodIn wsX5_asTerms (wsX6_isTerm) := ggX5_asTerms_X6_isTerm
set_option maxRecDepth 20000 in
theorem ggX5_asTerms_X6_with : GoodIn wsX5_asTerms wsX6_with := goodIn_r _ [9] (by decide +kernel) (by decide +kernel)
set_option maxRecDepth 20000 in
theorem gX5_asTerms_X6_with_n45 : GoodIn wsX5_asTerms (wsX6_with) := ggX5_asTerms_X6_with
theorem dX5_asTerms_0 : decode cX5_asTerms 0 = .ok (.aload_n 0, 1) := by decide +kernel
theorem dX5_asTerms_1 : decode cX5_asTerms 1 = .ok (.getfield 21, 3) := by decide +kernel
theorem dX5_asTerms_4 : decode cX5_asTerms 4 = .ok (.iconst 1, 1) := by decide +kernel
theorem dX5_asTerms_5 : decode cX5_asTerms 5 = .ok (.if_icmp .ne 17, 3) := by decide +kernel
theorem dX5_asTerms_8 : decode cX5_asTerms 8 = .ok (.aload_n 0, 1) := by decide +kernel
theorem dX5_asTerms_9 : decode cX5_asTerms 9 = .ok (.getfield 18, 3) := by decide +kernel
theorem dX5_asTerms_12 : decode cX5_asTerms 12 = .ok (.aload_n 0, 1) := by decide +kernel
theorem dX5_asTerms_13 : decode cX5_asTerms 13 = .ok (.getfield 15, 3) := by decide +kernel
theorem dX5_asTerms_16 : decode cX5_asTerms 16 = .ok (.isub, 1) := by decide +kernel
