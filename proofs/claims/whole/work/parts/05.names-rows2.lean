theorem dX5_asTerms_17 : decode cX5_asTerms 17 = .ok (.bipush 12, 2) := by decide +kernel
theorem dX5_asTerms_19 : decode cX5_asTerms 19 = .ok (.if_icmp .le 5, 3) := by decide +kernel
theorem dX5_asTerms_22 : decode cX5_asTerms 22 = .ok (.iconst 0, 1) := by decide +kernel
theorem dX5_asTerms_23 : decode cX5_asTerms 23 = .ok (.ireturn, 1) := by decide +kernel
theorem dX5_asTerms_24 : decode cX5_asTerms 24 = .ok (.iconst 0, 1) := by decide +kernel
theorem dX5_asTerms_25 : decode cX5_asTerms 25 = .ok (.istore_n 1, 1) := by decide +kernel
theorem dX5_asTerms_26 : decode cX5_asTerms 26 = .ok (.aload_n 0, 1) := by decide +kernel
theorem dX5_asTerms_27 : decode cX5_asTerms 27 = .ok (.getfield 15, 3) := by decide +kernel
theorem dX5_asTerms_30 : decode cX5_asTerms 30 = .ok (.istore_n 2, 1) := by decide +kernel
theorem dX5_asTerms_31 : decode cX5_asTerms 31 = .ok (.iload_n 2, 1) := by decide +kernel
theorem dX5_asTerms_32 : decode cX5_asTerms 32 = .ok (.aload_n 0, 1) := by decide +kernel
theorem dX5_asTerms_33 : decode cX5_asTerms 33 = .ok (.getfield 18, 3) := by decide +kernel
theorem dX5_asTerms_36 : decode cX5_asTerms 36 = .ok (.if_icmp .ge 34, 3) := by decide +kernel
theorem dX5_asTerms_39 : decode cX5_asTerms 39 = .ok (.aload_n 0, 1) := by decide +kernel
theorem dX5_asTerms_40 : decode cX5_asTerms 40 = .ok (.getfield 24, 3) := by decide +kernel
theorem dX5_asTerms_43 : decode cX5_asTerms 43 = .ok (.iload_n 2, 1) := by decide +kernel
theorem dX5_asTerms_44 : decode cX5_asTerms 44 = .ok (.iaload, 1) := by decide +kernel
theorem dX5_asTerms_45 : decode cX5_asTerms 45 = .ok (.bipush 97, 2) := by decide +kernel
theorem dX5_asTerms_47 : decode cX5_asTerms 47 = .ok (.isub, 1) := by decide +kernel
theorem dX5_asTerms_48 : decode cX5_asTerms 48 = .ok (.istore_n 3, 1) := by decide +kernel
theorem dX5_asTerms_49 : decode cX5_asTerms 49 = .ok (.iload_n 3, 1) := by decide +kernel
theorem dX5_asTerms_50 : decode cX5_asTerms 50 = .ok (.invokestatic 41, 3) := by decide +kernel
theorem dX5_asTerms_53 : decode cX5_asTerms 53 = .ok (.ifCond .ne 5, 3) := by decide +kernel
theorem dX5_asTerms_56 : decode cX5_asTerms 56 = .ok (.iconst 0, 1) := by decide +kernel
theorem dX5_asTerms_57 : decode cX5_asTerms 57 = .ok (.ireturn, 1) := by decide +kernel
theorem dX5_asTerms_58 : decode cX5_asTerms 58 = .ok (.iload_n 1, 1) := by decide +kernel
theorem dX5_asTerms_59 : decode cX5_asTerms 59 = .ok (.iload_n 3, 1) := by decide +kernel
theorem dX5_asTerms_60 : decode cX5_asTerms 60 = .ok (.invokestatic 45, 3) := by decide +kernel
theorem dX5_asTerms_63 : decode cX5_asTerms 63 = .ok (.istore_n 1, 1) := by decide +kernel
theorem dX5_asTerms_64 : decode cX5_asTerms 64 = .ok (.iinc 2 1, 3) := by decide +kernel
theorem dX5_asTerms_67 : decode cX5_asTerms 67 = .ok (.goto (-36), 3) := by decide +kernel
theorem dX5_asTerms_70 : decode cX5_asTerms 70 = .ok (.iload_n 1, 1) := by decide +kernel
theorem dX5_asTerms_71 : decode cX5_asTerms 71 = .ok (.ireturn, 1) := by decide +kernel
set_option maxRecDepth 20000 in
theorem ggX6_init_X3_init : GoodIn wsX6_init wsX3_init := goodIn_r _ [36, 37, 2, 3, 9, 38, 39, 40, 41, 42, 43, 44, 45, 6, 46, 47, 93, 94, 95, 96, 97, 98] (by decide +kernel) (by decide +kernel)
set_option maxRecDepth 20000 in
theorem gX6_init_X3_init : GoodIn wsX6_init (wsX3_init) := ggX6_init_X3_init
set_option maxRecDepth 20000 in
theorem ggX6_init_X5_init : GoodIn wsX6_init wsX5_init := goodIn_r _ [49, 50, 2, 3, 51, 52, 53, 54, 9, 55, 109, 110, 111, 112, 113] (by decide +kernel) (by decide +kernel)
set_option maxRecDepth 20000 in
theorem gX6_init_X5_init_n25 : GoodIn wsX6_init (wsX5_init) := ggX6_init_X5_init
set_option maxRecDepth 20000 in
theorem ggX6_init_X1_init : GoodIn wsX6_init wsX1_init := goodIn_r _ [58, 59, 2, 3, 60, 9, 61, 62, 114, 115, 116] (by decide +kernel) (by decide +kernel)
set_option maxRecDepth 20000 in
theorem gX6_init_X1_init : GoodIn wsX6_init (wsX1_init) := ggX6_init_X1_init
set_option maxRecDepth 20000 in
theorem ggX6_init_X2_init : GoodIn wsX6_init wsX2_init := goodIn_r _ [65, 66, 2, 3, 67, 68, 69, 70, 5, 6, 71, 35, 36, 37, 9, 38, 39, 40, 41, 42, 43, 44, 45, 46, 47, 117, 118, 119, 93, 94, 95, 96, 97, 98] (by decide +kernel) (by decide +kernel)
set_option maxRecDepth 20000 in
theorem gX6_init_X2_init : GoodIn wsX6_init (wsX2_init) := ggX6_init_X2_init
set_option maxRecDepth 20000 in
theorem ggX6_init_X4_init : GoodIn wsX6_init wsX4_init := goodIn_r _ [73, 74, 2, 3, 9, 75, 76, 77, 78, 120, 121, 122, 123, 124, 125] (by decide +kernel) (by decide +kernel)
set_option maxRecDepth 20000 in
theorem gX6_init_X4_init_n56 : GoodIn wsX6_init (wsX4_init) := ggX6_init_X4_init
set_option maxRecDepth 20000 in
theorem ggX6_init_X0_init : GoodIn wsX6_init wsX0_init := goodIn_r _ [80, 81, 2, 3, 82, 83, 9, 84, 85, 5, 6, 86, 87, 88, 89, 90, 91, 92, 35, 36, 37, 38, 39, 40, 41, 42, 43, 44, 45, 46, 47, 126, 127, 128, 129, 130, 131, 132, 133, 134, 93, 94, 95, 96, 97, 98] (by decide +kernel) (by decide +kernel)
set_option maxRecDepth 20000 in
theorem gX6_init_X0_init_n63 : GoodIn wsX6_init (wsX0_init) := ggX6_init_X0_init
theorem dX6_init_0 : decode cX6_init 0 = .ok (.aload_n 0, 1) := by decide +kernel
theorem dX6_init_1 : decode cX6_init 1 = .ok (.invokespecial 1, 3) := by decide +kernel
theorem dX6_init_4 : decode cX6_init 4 = .ok (.aload_n 0, 1) := by decide +kernel
theorem dX6_init_5 : decode cX6_init 5 = .ok (.new 7, 3) := by decide +kernel
theorem dX6_init_8 : decode cX6_init 8 = .ok (.dup, 1) := by decide +kernel
theorem dX6_init_9 : decode cX6_init 9 = .ok (.invokespecial 9, 3) := by decide +kernel
theorem dX6_init_12 : decode cX6_init 12 = .ok (.putfield 10, 3) := by decide +kernel
theorem dX6_init_15 : decode cX6_init 15 = .ok (.aload_n 0, 1) := by decide +kernel
theorem dX6_init_16 : decode cX6_init 16 = .ok (.new 7, 3) := by decide +kernel
theorem dX6_init_19 : decode cX6_init 19 = .ok (.dup, 1) := by decide +kernel
theorem dX6_init_20 : decode cX6_init 20 = .ok (.invokespecial 9, 3) := by decide +kernel
theorem dX6_init_23 : decode cX6_init 23 = .ok (.putfield 16, 3) := by decide +kernel
theorem dX6_init_26 : decode cX6_init 26 = .ok (.aload_n 0, 1) := by decide +kernel
theorem dX6_init_27 : decode cX6_init 27 = .ok (.bipush 10, 2) := by decide +kernel
theorem dX6_init_29 : decode cX6_init 29 = .ok (.newarray .int, 2) := by decide +kernel
theorem dX6_init_31 : decode cX6_init 31 = .ok (.putfield 19, 3) := by decide +kernel
theorem dX6_init_34 : decode cX6_init 34 = .ok (.aload_n 0, 1) := by decide +kernel
theorem dX6_init_35 : decode cX6_init 35 = .ok (.new 23, 3) := by decide +kernel
theorem dX6_init_38 : decode cX6_init 38 = .ok (.dup, 1) := by decide +kernel
theorem dX6_init_39 : decode cX6_init 39 = .ok (.invokespecial 25, 3) := by decide +kernel
theorem dX6_init_42 : decode cX6_init 42 = .ok (.putfield 26, 3) := by decide +kernel
theorem dX6_init_45 : decode cX6_init 45 = .ok (.aload_n 0, 1) := by decide +kernel
theorem dX6_init_46 : decode cX6_init 46 = .ok (.new 30, 3) := by decide +kernel
theorem dX6_init_49 : decode cX6_init 49 = .ok (.dup, 1) := by decide +kernel
theorem dX6_init_50 : decode cX6_init 50 = .ok (.aload_n 0, 1) := by decide +kernel
theorem dX6_init_51 : decode cX6_init 51 = .ok (.getfield 26, 3) := by decide +kernel
theorem dX6_init_54 : decode cX6_init 54 = .ok (.invokespecial 32, 3) := by decide +kernel
theorem dX6_init_57 : decode cX6_init 57 = .ok (.putfield 35, 3) := by decide +kernel
theorem dX6_init_60 : decode cX6_init 60 = .ok (.aload_n 0, 1) := by decide +kernel
theorem dX6_init_61 : decode cX6_init 61 = .ok (.new 39, 3) := by decide +kernel
theorem dX6_init_64 : decode cX6_init 64 = .ok (.dup, 1) := by decide +kernel
theorem dX6_init_65 : decode cX6_init 65 = .ok (.invokespecial 41, 3) := by decide +kernel
theorem dX6_init_68 : decode cX6_init 68 = .ok (.putfield 42, 3) := by decide +kernel
theorem dX6_init_71 : decode cX6_init 71 = .ok (.aload_n 0, 1) := by decide +kernel
theorem dX6_init_72 : decode cX6_init 72 = .ok (.iconst 2, 1) := by decide +kernel
theorem dX6_init_73 : decode cX6_init 73 = .ok (.anewarray 7, 3) := by decide +kernel
theorem dX6_init_76 : decode cX6_init 76 = .ok (.putfield 46, 3) := by decide +kernel
theorem dX6_init_79 : decode cX6_init 79 = .ok (.aload_n 0, 1) := by decide +kernel
theorem dX6_init_80 : decode cX6_init 80 = .ok (.iconst 2, 1) := by decide +kernel
theorem dX6_init_81 : decode cX6_init 81 = .ok (.newarray .boolean, 2) := by decide +kernel
theorem dX6_init_83 : decode cX6_init 83 = .ok (.putfield 50, 3) := by decide +kernel
theorem dX6_init_86 : decode cX6_init 86 = .ok (.iconst 0, 1) := by decide +kernel
theorem dX6_init_87 : decode cX6_init 87 = .ok (.istore_n 1, 1) := by decide +kernel
theorem dX6_init_88 : decode cX6_init 88 = .ok (.iload_n 1, 1) := by decide +kernel
theorem dX6_init_89 : decode cX6_init 89 = .ok (.iconst 2, 1) := by decide +kernel
theorem dX6_init_90 : decode cX6_init 90 = .ok (.if_icmp .ge 22, 3) := by decide +kernel
theorem dX6_init_93 : decode cX6_init 93 = .ok (.aload_n 0, 1) := by decide +kernel
theorem dX6_init_94 : decode cX6_init 94 = .ok (.getfield 46, 3) := by decide +kernel
theorem dX6_init_97 : decode cX6_init 97 = .ok (.iload_n 1, 1) := by decide +kernel
theorem dX6_init_98 : decode cX6_init 98 = .ok (.new 7, 3) := by decide +kernel
theorem dX6_init_101 : decode cX6_init 101 = .ok (.dup, 1) := by decide +kernel
theorem dX6_init_102 : decode cX6_init 102 = .ok (.invokespecial 9, 3) := by decide +kernel
theorem dX6_init_105 : decode cX6_init 105 = .ok (.aastore, 1) := by decide +kernel
theorem dX6_init_106 : decode cX6_init 106 = .ok (.iinc 1 1, 3) := by decide +kernel
theorem dX6_init_109 : decode cX6_init 109 = .ok (.goto (-21), 3) := by decide +kernel
theorem dX6_init_112 : decode cX6_init 112 = .ok (.aload_n 0, 1) := by decide +kernel
theorem dX6_init_113 : decode cX6_init 113 = .ok (.new 54, 3) := by decide +kernel
theorem dX6_init_116 : decode cX6_init 116 = .ok (.dup, 1) := by decide +kernel
theorem dX6_init_117 : decode cX6_init 117 = .ok (.invokespecial 56, 3) := by decide +kernel
theorem dX6_init_120 : decode cX6_init 120 = .ok (.putfield 57, 3) := by decide +kernel
theorem dX6_init_123 : decode cX6_init 123 = .ok (.aload_n 0, 1) := by decide +kernel
theorem dX6_init_124 : decode cX6_init 124 = .ok (.new 61, 3) := by decide +kernel
theorem dX6_init_127 : decode cX6_init 127 = .ok (.dup, 1) := by decide +kernel
theorem dX6_init_128 : decode cX6_init 128 = .ok (.invokespecial 63, 3) := by decide +kernel
theorem dX6_init_131 : decode cX6_init 131 = .ok (.putfield 64, 3) := by decide +kernel
theorem dX6_init_134 : decode cX6_init 134 = .ok (.return_, 1) := by decide +kernel
set_option maxRecDepth 20000 in
theorem ggX6_write_X5_append : GoodIn wsX6_write wsX5_append := goodIn_r _ [7, 8, 9, 20, 21, 22, 23, 24] (by decide +kernel) (by decide +kernel)
set_option maxRecDepth 20000 in
theorem gX6_write_X5_append : GoodIn wsX6_write (wsV RX6 72 RX5 yX5_append wsX5_append) := goodIn_app (goodIn_of _ (by decide +kernel)) ggX6_write_X5_append
theorem dX6_write_0 : decode cX6_write 0 = .ok (.iload_n 1, 1) := by decide +kernel
theorem dX6_write_1 : decode cX6_write 1 = .ok (.ifCond .lt 10, 3) := by decide +kernel
theorem dX6_write_4 : decode cX6_write 4 = .ok (.iload_n 1, 1) := by decide +kernel
theorem dX6_write_5 : decode cX6_write 5 = .ok (.sipush 255, 3) := by decide +kernel
theorem dX6_write_8 : decode cX6_write 8 = .ok (.if_icmp .le 6, 3) := by decide +kernel
theorem dX6_write_11 : decode cX6_write 11 = .ok (.bipush (-3), 2) := by decide +kernel
theorem dX6_write_13 : decode cX6_write 13 = .ok (.ireturn, 1) := by decide +kernel
theorem dX6_write_14 : decode cX6_write 14 = .ok (.aload_n 0, 1) := by decide +kernel
theorem dX6_write_15 : decode cX6_write 15 = .ok (.getfield 26, 3) := by decide +kernel
theorem dX6_write_18 : decode cX6_write 18 = .ok (.getfield 68, 3) := by decide +kernel
theorem dX6_write_21 : decode cX6_write 21 = .ok (.sipush 200, 3) := by decide +kernel
theorem dX6_write_24 : decode cX6_write 24 = .ok (.if_icmp .lt 6, 3) := by decide +kernel
theorem dX6_write_27 : decode cX6_write 27 = .ok (.bipush (-5), 2) := by decide +kernel
theorem dX6_write_29 : decode cX6_write 29 = .ok (.ireturn, 1) := by decide +kernel
theorem dX6_write_30 : decode cX6_write 30 = .ok (.aload_n 0, 1) := by decide +kernel
theorem dX6_write_31 : decode cX6_write 31 = .ok (.getfield 26, 3) := by decide +kernel
theorem dX6_write_34 : decode cX6_write 34 = .ok (.iload_n 1, 1) := by decide +kernel
theorem dX6_write_35 : decode cX6_write 35 = .ok (.invokevirtual 72, 3) := by decide +kernel
theorem dX6_write_38 : decode cX6_write 38 = .ok (.aload_n 0, 1) := by decide +kernel
theorem dX6_write_39 : decode cX6_write 39 = .ok (.getfield 26, 3) := by decide +kernel
theorem dX6_write_42 : decode cX6_write 42 = .ok (.getfield 68, 3) := by decide +kernel
theorem dX6_write_45 : decode cX6_write 45 = .ok (.ireturn, 1) := by decide +kernel
set_option maxRecDepth 20000 in
theorem ggX6_erase_X5_clear : GoodIn wsX6_erase wsX5_clear := goodIn_r _ [7, 8, 19, 20, 21, 22, 23] (by decide +kernel) (by decide +kernel)
set_option maxRecDepth 20000 in
theorem gX6_erase_X5_clear : GoodIn wsX6_erase (wsV RX6 76 RX5 yX5_clear wsX5_clear) := goodIn_app (goodIn_of _ (by decide +kernel)) ggX6_erase_X5_clear
theorem dX6_erase_0 : decode cX6_erase 0 = .ok (.aload_n 0, 1) := by decide +kernel
theorem dX6_erase_1 : decode cX6_erase 1 = .ok (.getfield 26, 3) := by decide +kernel
theorem dX6_erase_4 : decode cX6_erase 4 = .ok (.getfield 68, 3) := by decide +kernel
theorem dX6_erase_7 : decode cX6_erase 7 = .ok (.istore_n 1, 1) := by decide +kernel
theorem dX6_erase_8 : decode cX6_erase 8 = .ok (.aload_n 0, 1) := by decide +kernel
theorem dX6_erase_9 : decode cX6_erase 9 = .ok (.getfield 26, 3) := by decide +kernel
theorem dX6_erase_12 : decode cX6_erase 12 = .ok (.invokevirtual 76, 3) := by decide +kernel
theorem dX6_erase_15 : decode cX6_erase 15 = .ok (.iload_n 1, 1) := by decide +kernel
theorem dX6_erase_16 : decode cX6_erase 16 = .ok (.ireturn, 1) := by decide +kernel
set_option maxRecDepth 20000 in
theorem ggX6_fault_X3_become : GoodIn wsX6_fault wsX3_become := goodIn_r _ [8, 9, 10, 11, 12, 13, 14, 192, 193, 194, 195, 196, 197] (by decide +kernel) (by decide +kernel)
set_option maxRecDepth 20000 in
theorem gX6_fault_X3_become : GoodIn wsX6_fault (wsV RX6 79 RX3 yX3_become wsX3_become) := goodIn_app (goodIn_of _ (by decide +kernel)) ggX6_fault_X3_become
set_option maxRecDepth 20000 in
theorem ggX6_fault_X1_carryOut : GoodIn wsX6_fault wsX1_carryOut := goodIn_r _ [19, 20, 21, 22, 23, 24, 25, 26, 27, 28, 29, 30, 31, 32, 33, 34, 35, 36, 37, 38, 39, 40, 41, 42, 18, 43, 44, 45, 46, 47, 48, 49, 50, 51, 52, 53, 54, 55, 56, 57, 58, 59, 60, 61, 62, 63, 64, 65, 66, 67, 68, 69, 70, 71, 72, 73, 74, 75, 76, 77, 78, 79, 80, 81, 82, 83, 84, 85, 86, 87, 88, 89, 90, 91, 92, 93, 94, 95, 96, 97, 98, 99, 100, 101, 102, 103, 104, 105, 106, 107, 108, 109, 110, 111, 7, 112, 9, 10, 11, 12, 13, 14, 113, 114, 115, 116, 117, 118, 119, 120, 121, 122, 123, 124, 125, 126, 127, 128, 129, 130, 131, 132, 133, 134, 135, 136, 137, 138, 139, 140, 141, 142, 143, 144, 145, 146, 147, 148, 149, 150, 151, 152, 153, 154, 155, 156, 157, 158, 159, 160, 161, 162, 163, 164, 165, 166, 167, 168, 169, 170, 171, 172, 173, 174, 175, 176, 177, 178, 179, 180, 181, 198, 199, 200, 201, 202, 203, 204, 205, 192, 193, 194, 195, 196, 197] (by decide +kernel) (by decide +kernel)
set_option maxRecDepth 20000 in
theorem gX6_fault_X1_carryOut : GoodIn wsX6_fault (wsV RX6 83 RX1 yX1_carryOut wsX1_carryOut) := goodIn_app (goodIn_of _ (by decide +kernel)) ggX6_fault_X1_carryOut
theorem dX6_fault_0 : decode cX6_fault 0 = .ok (.aload_n 0, 1) := by decide +kernel
theorem dX6_fault_1 : decode cX6_fault 1 = .ok (.getfield 16, 3) := by decide +kernel
theorem dX6_fault_4 : decode cX6_fault 4 = .ok (.aload_n 0, 1) := by decide +kernel
theorem dX6_fault_5 : decode cX6_fault 5 = .ok (.getfield 10, 3) := by decide +kernel
theorem dX6_fault_8 : decode cX6_fault 8 = .ok (.invokevirtual 79, 3) := by decide +kernel
theorem dX6_fault_11 : decode cX6_fault 11 = .ok (.aload_n 0, 1) := by decide +kernel
theorem dX6_fault_12 : decode cX6_fault 12 = .ok (.getfield 35, 3) := by decide +kernel
theorem dX6_fault_15 : decode cX6_fault 15 = .ok (.aload_n 0, 1) := by decide +kernel
theorem dX6_fault_16 : decode cX6_fault 16 = .ok (.getfield 16, 3) := by decide +kernel
theorem dX6_fault_19 : decode cX6_fault 19 = .ok (.invokevirtual 83, 3) := by decide +kernel
theorem dX6_fault_22 : decode cX6_fault 22 = .ok (.ireturn, 1) := by decide +kernel
set_option maxRecDepth 20000 in
theorem ggX6_tell_X3_become : GoodIn wsX6_tell wsX3_become := goodIn_r _ [11, 12, 13, 14, 15, 16, 17, 208, 209, 210, 211, 212, 213] (by decide +kernel) (by decide +kernel)
set_option maxRecDepth 20000 in
theorem gX6_tell_X3_become : GoodIn wsX6_tell (wsV RX6 79 RX3 yX3_become wsX3_become) := goodIn_app (goodIn_of _ (by decide +kernel)) ggX6_tell_X3_become
set_option maxRecDepth 20000 in
theorem ggX6_tell_X1_carryOut : GoodIn wsX6_tell wsX1_carryOut := goodIn_r _ [22, 23, 24, 25, 26, 27, 28, 29, 30, 31, 32, 33, 34, 35, 36, 37, 38, 39, 40, 41, 42, 43, 44, 45, 21, 46, 47, 48, 49, 50, 51, 52, 53, 54, 55, 56, 57, 58, 59, 60, 61, 62, 63, 64, 65, 66, 67, 68, 69, 70, 71, 72, 73, 74, 75, 76, 77, 78, 79, 80, 81, 82, 83, 84, 85, 86, 87, 88, 89, 90, 91, 92, 93, 94, 95, 96, 97, 98, 99, 100, 101, 102, 103, 104, 105, 106, 107, 108, 109, 110, 111, 112, 113, 114, 10, 115, 12, 13, 14, 15, 16, 17, 116, 117, 118, 119, 120, 121, 122, 123, 124, 125, 126, 127, 128, 129, 130, 131, 132, 133, 134, 135, 136, 137, 138, 139, 140, 141, 142, 143, 144, 145, 146, 147, 148, 149, 150, 151, 152, 153, 154, 155, 156, 157, 158, 159, 160, 161, 162, 163, 164, 165, 166, 167, 168, 169, 170, 171, 172, 173, 174, 175, 176, 177, 178, 179, 180, 181, 182, 183, 184, 205, 206, 207, 214, 215, 216, 217, 218, 208, 209, 210, 211, 212, 213] (by decide +kernel) (by decide +kernel)
set_option maxRecDepth 20000 in
theorem gX6_tell_X1_carryOut : GoodIn wsX6_tell (wsV RX6 83 RX1 yX1_carryOut wsX1_carryOut) := goodIn_app (goodIn_of _ (by decide +kernel)) ggX6_tell_X1_carryOut
set_option maxRecDepth 20000 in
theorem ggX6_tell_X5_clear : GoodIn wsX6_tell wsX5_clear := goodIn_r _ [188, 36, 214, 215, 216, 217, 218] (by decide +kernel) (by decide +kernel)
set_option maxRecDepth 20000 in
theorem gX6_tell_X5_clear : GoodIn wsX6_tell (wsV RX6 76 RX5 yX5_clear wsX5_clear) := goodIn_app (goodIn_of _ (by decide +kernel)) ggX6_tell_X5_clear
set_option maxRecDepth 20000 in
theorem ggX6_tell_X2_forget : GoodIn wsX6_tell wsX2_forget := goodIn_r _ [193, 194, 219, 220, 221] (by decide +kernel) (by decide +kernel)
set_option maxRecDepth 20000 in
theorem gX6_tell_X2_forget : GoodIn wsX6_tell (wsV RX6 87 RX2 yX2_forget wsX2_forget) := goodIn_app (goodIn_of _ (by decide +kernel)) ggX6_tell_X2_forget
theorem dX6_tell_0 : decode cX6_tell 0 = .ok (.aload_n 0, 1) := by decide +kernel
theorem dX6_tell_1 : decode cX6_tell 1 = .ok (.getfield 16, 3) := by decide +kernel
theorem dX6_tell_4 : decode cX6_tell 4 = .ok (.aload_n 0, 1) := by decide +kernel
theorem dX6_tell_5 : decode cX6_tell 5 = .ok (.getfield 10, 3) := by decide +kernel
theorem dX6_tell_8 : decode cX6_tell 8 = .ok (.invokevirtual 79, 3) := by decide +kernel
theorem dX6_tell_11 : decode cX6_tell 11 = .ok (.aload_n 0, 1) := by decide +kernel
theorem dX6_tell_12 : decode cX6_tell 12 = .ok (.getfield 35, 3) := by decide +kernel
theorem dX6_tell_15 : decode cX6_tell 15 = .ok (.aload_n 0, 1) := by decide +kernel
theorem dX6_tell_16 : decode cX6_tell 16 = .ok (.getfield 16, 3) := by decide +kernel
theorem dX6_tell_19 : decode cX6_tell 19 = .ok (.invokevirtual 83, 3) := by decide +kernel
theorem dX6_tell_22 : decode cX6_tell 22 = .ok (.iconst (-1), 1) := by decide +kernel
theorem dX6_tell_23 : decode cX6_tell 23 = .ok (.if_icmp .eq 6, 3) := by decide +kernel
theorem dX6_tell_26 : decode cX6_tell 26 = .ok (.bipush (-4), 2) := by decide +kernel
theorem dX6_tell_28 : decode cX6_tell 28 = .ok (.ireturn, 1) := by decide +kernel
theorem dX6_tell_29 : decode cX6_tell 29 = .ok (.aload_n 0, 1) := by decide +kernel
theorem dX6_tell_30 : decode cX6_tell 30 = .ok (.getfield 10, 3) := by decide +kernel
theorem dX6_tell_33 : decode cX6_tell 33 = .ok (.aload_n 0, 1) := by decide +kernel
theorem dX6_tell_34 : decode cX6_tell 34 = .ok (.getfield 16, 3) := by decide +kernel
theorem dX6_tell_37 : decode cX6_tell 37 = .ok (.invokevirtual 79, 3) := by decide +kernel
theorem dX6_tell_40 : decode cX6_tell 40 = .ok (.aload_n 0, 1) := by decide +kernel
theorem dX6_tell_41 : decode cX6_tell 41 = .ok (.getfield 26, 3) := by decide +kernel
theorem dX6_tell_44 : decode cX6_tell 44 = .ok (.invokevirtual 76, 3) := by decide +kernel
theorem dX6_tell_47 : decode cX6_tell 47 = .ok (.aload_n 0, 1) := by decide +kernel
theorem dX6_tell_48 : decode cX6_tell 48 = .ok (.getfield 42, 3) := by decide +kernel
theorem dX6_tell_51 : decode cX6_tell 51 = .ok (.invokevirtual 87, 3) := by decide +kernel
theorem dX6_tell_54 : decode cX6_tell 54 = .ok (.aload_n 0, 1) := by decide +kernel
theorem dX6_tell_55 : decode cX6_tell 55 = .ok (.getfield 35, 3) := by decide +kernel
theorem dX6_tell_58 : decode cX6_tell 58 = .ok (.getfield 90, 3) := by decide +kernel
theorem dX6_tell_61 : decode cX6_tell 61 = .ok (.ireturn, 1) := by decide +kernel
set_option maxRecDepth 20000 in
theorem ggX6_pages_X3_hasSection : GoodIn wsX6_pages wsX3_hasSection := goodIn_r _ [8, 9, 41, 42, 43, 44, 45, 46] (by decide +kernel) (by decide +kernel)
set_option maxRecDepth 20000 in
theorem gX6_pages_X3_hasSection : GoodIn wsX6_pages (wsV RX6 93 RX3 yX3_hasSection wsX3_hasSection) := goodIn_app (goodIn_of _ (by decide +kernel)) ggX6_pages_X3_hasSection
set_option maxRecDepth 20000 in
theorem ggX6_pages_X2_remember : GoodIn wsX6_pages wsX2_remember := goodIn_r _ [14, 15, 16, 17, 18, 19, 20, 21, 22, 23, 24, 7, 25, 9, 26, 27, 28, 29, 30, 47, 48, 49, 41, 42, 43, 44, 45, 46] (by decide +kernel) (by decide +kernel)
set_option maxRecDepth 20000 in
theorem gX6_pages_X2_remember : GoodIn wsX6_pages (wsV RX6 97 RX2 yX2_remember wsX2_remember) := goodIn_app (goodIn_of _ (by decide +kernel)) ggX6_pages_X2_remember
theorem dX6_pages_0 : decode cX6_pages 0 = .ok (.aload_n 0, 1) := by decide +kernel
theorem dX6_pages_1 : decode cX6_pages 1 = .ok (.getfield 10, 3) := by decide +kernel
theorem dX6_pages_4 : decode cX6_pages 4 = .ok (.iload_n 1, 1) := by decide +kernel
theorem dX6_pages_5 : decode cX6_pages 5 = .ok (.invokevirtual 93, 3) := by decide +kernel
theorem dX6_pages_8 : decode cX6_pages 8 = .ok (.ifCond .ne 6, 3) := by decide +kernel
theorem dX6_pages_11 : decode cX6_pages 11 = .ok (.bipush (-2), 2) := by decide +kernel
theorem dX6_pages_13 : decode cX6_pages 13 = .ok (.ireturn, 1) := by decide +kernel
theorem dX6_pages_14 : decode cX6_pages 14 = .ok (.iload_n 2, 1) := by decide +kernel
theorem dX6_pages_15 : decode cX6_pages 15 = .ok (.iconst 1, 1) := by decide +kernel
theorem dX6_pages_16 : decode cX6_pages 16 = .ok (.if_icmp .lt 9, 3) := by decide +kernel
theorem dX6_pages_19 : decode cX6_pages 19 = .ok (.iload_n 2, 1) := by decide +kernel
theorem dX6_pages_20 : decode cX6_pages 20 = .ok (.bipush 9, 2) := by decide +kernel
theorem dX6_pages_22 : decode cX6_pages 22 = .ok (.if_icmp .le 6, 3) := by decide +kernel
theorem dX6_pages_25 : decode cX6_pages 25 = .ok (.bipush (-3), 2) := by decide +kernel
theorem dX6_pages_27 : decode cX6_pages 27 = .ok (.ireturn, 1) := by decide +kernel
theorem dX6_pages_28 : decode cX6_pages 28 = .ok (.aload_n 0, 1) := by decide +kernel
theorem dX6_pages_29 : decode cX6_pages 29 = .ok (.getfield 42, 3) := by decide +kernel
theorem dX6_pages_32 : decode cX6_pages 32 = .ok (.aload_n 0, 1) := by decide +kernel
theorem dX6_pages_33 : decode cX6_pages 33 = .ok (.getfield 10, 3) := by decide +kernel
theorem dX6_pages_36 : decode cX6_pages 36 = .ok (.invokevirtual 97, 3) := by decide +kernel
theorem dX6_pages_39 : decode cX6_pages 39 = .ok (.aload_n 0, 1) := by decide +kernel
theorem dX6_pages_40 : decode cX6_pages 40 = .ok (.getfield 10, 3) := by decide +kernel
theorem dX6_pages_43 : decode cX6_pages 43 = .ok (.getfield 100, 3) := by decide +kernel
theorem dX6_pages_46 : decode cX6_pages 46 = .ok (.iload_n 1, 1) := by decide +kernel
theorem dX6_pages_47 : decode cX6_pages 47 = .ok (.iaload, 1) := by decide +kernel
theorem dX6_pages_48 : decode cX6_pages 48 = .ok (.istore_n 3, 1) := by decide +kernel
theorem dX6_pages_49 : decode cX6_pages 49 = .ok (.aload_n 0, 1) := by decide +kernel
theorem dX6_pages_50 : decode cX6_pages 50 = .ok (.getfield 10, 3) := by decide +kernel
theorem dX6_pages_53 : decode cX6_pages 53 = .ok (.getfield 100, 3) := by decide +kernel
theorem dX6_pages_56 : decode cX6_pages 56 = .ok (.iload_n 1, 1) := by decide +kernel
theorem dX6_pages_57 : decode cX6_pages 57 = .ok (.iload_n 2, 1) := by decide +kernel
theorem dX6_pages_58 : decode cX6_pages 58 = .ok (.iastore, 1) := by decide +kernel
theorem dX6_pages_59 : decode cX6_pages 59 = .ok (.iload_n 3, 1) := by decide +kernel
theorem dX6_pages_60 : decode cX6_pages 60 = .ok (.ireturn, 1) := by decide +kernel
set_option maxRecDepth 20000 in
theorem ggX6_uses_X3_hasSection : GoodIn wsX6_uses wsX3_hasSection := goodIn_r _ [8, 9, 51, 52, 53, 54, 55, 56] (by decide +kernel) (by decide +kernel)
set_option maxRecDepth 20000 in
theorem gX6_uses_X3_hasSection : GoodIn wsX6_uses (wsV RX6 93 RX3 yX3_hasSection wsX3_hasSection) := goodIn_app (goodIn_of _ (by decide +kernel)) ggX6_uses_X3_hasSection
set_option maxRecDepth 20000 in
theorem ggX6_uses_X6_isTerm : GoodIn wsX6_uses wsX6_isTerm := goodIn_r _ [13] (by decide +kernel) (by decide +kernel)
set_option maxRecDepth 20000 in
theorem gX6_uses_X6_isTerm : GoodIn wsX6_uses (va_wsS RX6 103 yX6_isTerm wsX6_isTerm) := goodIn_app (goodIn_of _ (by decide +kernel)) ggX6_uses_X6_isTerm
set_option maxRecDepth 20000 in
theorem ggX6_uses_X2_remember : GoodIn wsX6_uses wsX2_remember := goodIn_r _ [18, 19, 20, 21, 22, 23, 24, 25, 26, 27, 28, 7, 29, 9, 30, 31, 32, 33, 34, 57, 58, 59, 51, 52, 53, 54, 55, 56] (by decide +kernel) (by decide +kernel)
set_option maxRecDepth 20000 in
theorem gX6_uses_X2_remember : GoodIn wsX6_uses (wsV RX6 97 RX2 yX2_remember wsX2_remember) := goodIn_app (goodIn_of _ (by decide +kernel)) ggX6_uses_X2_remember
set_option maxRecDepth 20000 in
theorem ggX6_uses_X6_with : GoodIn wsX6_uses wsX6_with := goodIn_r _ [37] (by decide +kernel) (by decide +kernel)
set_option maxRecDepth 20000 in
theorem gX6_uses_X6_with : GoodIn wsX6_uses (va_wsS RX6 109 yX6_with wsX6_with) := goodIn_app (goodIn_of _ (by decide +kernel)) ggX6_uses_X6_with
set_option maxRecDepth 20000 in
theorem ggX6_uses_X6_without : GoodIn wsX6_uses wsX6_without := goodIn_r _ [40] (by decide +kernel) (by decide +kernel)
set_option maxRecDepth 20000 in
theorem gX6_uses_X6_without : GoodIn wsX6_uses (va_wsS RX6 113 yX6_without wsX6_without) := goodIn_app (goodIn_of _ (by decide +kernel)) ggX6_uses_X6_without
theorem dX6_uses_0 : decode cX6_uses 0 = .ok (.aload_n 0, 1) := by decide +kernel
theorem dX6_uses_1 : decode cX6_uses 1 = .ok (.getfield 10, 3) := by decide +kernel
theorem dX6_uses_4 : decode cX6_uses 4 = .ok (.iload_n 1, 1) := by decide +kernel
theorem dX6_uses_5 : decode cX6_uses 5 = .ok (.invokevirtual 93, 3) := by decide +kernel
theorem dX6_uses_8 : decode cX6_uses 8 = .ok (.ifCond .eq 10, 3) := by decide +kernel
theorem dX6_uses_11 : decode cX6_uses 11 = .ok (.iload_n 2, 1) := by decide +kernel
theorem dX6_uses_12 : decode cX6_uses 12 = .ok (.invokestatic 103, 3) := by decide +kernel
theorem dX6_uses_15 : decode cX6_uses 15 = .ok (.ifCond .ne 6, 3) := by decide +kernel
theorem dX6_uses_18 : decode cX6_uses 18 = .ok (.bipush (-2), 2) := by decide +kernel
theorem dX6_uses_20 : decode cX6_uses 20 = .ok (.ireturn, 1) := by decide +kernel
theorem dX6_uses_21 : decode cX6_uses 21 = .ok (.iload_n 3, 1) := by decide +kernel
theorem dX6_uses_22 : decode cX6_uses 22 = .ok (.ifCond .eq 11, 3) := by decide +kernel
theorem dX6_uses_25 : decode cX6_uses 25 = .ok (.iload_n 3, 1) := by decide +kernel
theorem dX6_uses_26 : decode cX6_uses 26 = .ok (.iconst 1, 1) := by decide +kernel
theorem dX6_uses_27 : decode cX6_uses 27 = .ok (.if_icmp .eq 6, 3) := by decide +kernel
theorem dX6_uses_30 : decode cX6_uses 30 = .ok (.bipush (-3), 2) := by decide +kernel
theorem dX6_uses_32 : decode cX6_uses 32 = .ok (.ireturn, 1) := by decide +kernel
theorem dX6_uses_33 : decode cX6_uses 33 = .ok (.aload_n 0, 1) := by decide +kernel
theorem dX6_uses_34 : decode cX6_uses 34 = .ok (.getfield 42, 3) := by decide +kernel
theorem dX6_uses_37 : decode cX6_uses 37 = .ok (.aload_n 0, 1) := by decide +kernel
theorem dX6_uses_38 : decode cX6_uses 38 = .ok (.getfield 10, 3) := by decide +kernel
theorem dX6_uses_41 : decode cX6_uses 41 = .ok (.invokevirtual 97, 3) := by decide +kernel
theorem dX6_uses_44 : decode cX6_uses 44 = .ok (.aload_n 0, 1) := by decide +kernel
theorem dX6_uses_45 : decode cX6_uses 45 = .ok (.getfield 10, 3) := by decide +kernel
theorem dX6_uses_48 : decode cX6_uses 48 = .ok (.getfield 106, 3) := by decide +kernel
theorem dX6_uses_51 : decode cX6_uses 51 = .ok (.iload_n 1, 1) := by decide +kernel
theorem dX6_uses_52 : decode cX6_uses 52 = .ok (.iaload, 1) := by decide +kernel
theorem dX6_uses_53 : decode cX6_uses 53 = .ok (.istore 4, 2) := by decide +kernel
theorem dX6_uses_55 : decode cX6_uses 55 = .ok (.aload_n 0, 1) := by decide +kernel
theorem dX6_uses_56 : decode cX6_uses 56 = .ok (.getfield 10, 3) := by decide +kernel
theorem dX6_uses_59 : decode cX6_uses 59 = .ok (.getfield 106, 3) := by decide +kernel
theorem dX6_uses_62 : decode cX6_uses 62 = .ok (.iload_n 1, 1) := by decide +kernel
theorem dX6_uses_63 : decode cX6_uses 63 = .ok (.iload_n 3, 1) := by decide +kernel
theorem dX6_uses_64 : decode cX6_uses 64 = .ok (.iconst 1, 1) := by decide +kernel
theorem dX6_uses_65 : decode cX6_uses 65 = .ok (.if_icmp .ne 12, 3) := by decide +kernel
theorem dX6_uses_68 : decode cX6_uses 68 = .ok (.iload 4, 2) := by decide +kernel
theorem dX6_uses_70 : decode cX6_uses 70 = .ok (.iload_n 2, 1) := by decide +kernel
theorem dX6_uses_71 : decode cX6_uses 71 = .ok (.invokestatic 109, 3) := by decide +kernel
theorem dX6_uses_74 : decode cX6_uses 74 = .ok (.goto 9, 3) := by decide +kernel
theorem dX6_uses_77 : decode cX6_uses 77 = .ok (.iload 4, 2) := by decide +kernel
theorem dX6_uses_79 : decode cX6_uses 79 = .ok (.iload_n 2, 1) := by decide +kernel
theorem dX6_uses_80 : decode cX6_uses 80 = .ok (.invokestatic 113, 3) := by decide +kernel
theorem dX6_uses_83 : decode cX6_uses 83 = .ok (.iastore, 1) := by decide +kernel
theorem dX6_uses_84 : decode cX6_uses 84 = .ok (.aload_n 0, 1) := by decide +kernel
theorem dX6_uses_85 : decode cX6_uses 85 = .ok (.getfield 10, 3) := by decide +kernel
theorem dX6_uses_88 : decode cX6_uses 88 = .ok (.getfield 106, 3) := by decide +kernel
theorem dX6_uses_91 : decode cX6_uses 91 = .ok (.iload_n 1, 1) := by decide +kernel
theorem dX6_uses_92 : decode cX6_uses 92 = .ok (.iaload, 1) := by decide +kernel
theorem dX6_uses_93 : decode cX6_uses 93 = .ok (.iload 4, 2) := by decide +kernel
theorem dX6_uses_95 : decode cX6_uses 95 = .ok (.if_icmp .ne 7, 3) := by decide +kernel
theorem dX6_uses_98 : decode cX6_uses 98 = .ok (.iconst 0, 1) := by decide +kernel
theorem dX6_uses_99 : decode cX6_uses 99 = .ok (.goto 4, 3) := by decide +kernel
theorem dX6_uses_102 : decode cX6_uses 102 = .ok (.iconst 1, 1) := by decide +kernel
theorem dX6_uses_103 : decode cX6_uses 103 = .ok (.ireturn, 1) := by decide +kernel
set_option maxRecDepth 20000 in
theorem ggX6_home_X6_isTerm : GoodIn wsX6_home wsX6_isTerm := goodIn_r _ [7] (by decide +kernel) (by decide +kernel)
set_option maxRecDepth 20000 in
theorem gX6_home_X6_isTerm : GoodIn wsX6_home (va_wsS RX6 103 yX6_isTerm wsX6_isTerm) := goodIn_app (goodIn_of _ (by decide +kernel)) ggX6_home_X6_isTerm
set_option maxRecDepth 20000 in
theorem ggX6_home_X3_hasSection : GoodIn wsX6_home wsX3_hasSection := goodIn_r _ [12, 13, 45, 46, 47, 48, 49, 50] (by decide +kernel) (by decide +kernel)
set_option maxRecDepth 20000 in
theorem gX6_home_X3_hasSection : GoodIn wsX6_home (wsV RX6 93 RX3 yX3_hasSection wsX3_hasSection) := goodIn_app (goodIn_of _ (by decide +kernel)) ggX6_home_X3_hasSection
set_option maxRecDepth 20000 in
theorem ggX6_home_X2_remember : GoodIn wsX6_home wsX2_remember := goodIn_r _ [18, 19, 20, 21, 22, 23, 24, 25, 26, 27, 28, 11, 29, 13, 30, 31, 32, 33, 34, 51, 52, 53, 45, 46, 47, 48, 49, 50] (by decide +kernel) (by decide +kernel)
set_option maxRecDepth 20000 in
theorem gX6_home_X2_remember : GoodIn wsX6_home (wsV RX6 97 RX2 yX2_remember wsX2_remember) := goodIn_app (goodIn_of _ (by decide +kernel)) ggX6_home_X2_remember
theorem dX6_home_0 : decode cX6_home 0 = .ok (.iload_n 1, 1) := by decide +kernel
theorem dX6_home_1 : decode cX6_home 1 = .ok (.invokestatic 103, 3) := by decide +kernel
theorem dX6_home_4 : decode cX6_home 4 = .ok (.ifCond .eq 19, 3) := by decide +kernel
theorem dX6_home_7 : decode cX6_home 7 = .ok (.iload_n 2, 1) := by decide +kernel
theorem dX6_home_8 : decode cX6_home 8 = .ok (.iconst (-1), 1) := by decide +kernel
theorem dX6_home_9 : decode cX6_home 9 = .ok (.if_icmp .eq 17, 3) := by decide +kernel
theorem dX6_home_12 : decode cX6_home 12 = .ok (.aload_n 0, 1) := by decide +kernel
theorem dX6_home_13 : decode cX6_home 13 = .ok (.getfield 10, 3) := by decide +kernel
theorem dX6_home_16 : decode cX6_home 16 = .ok (.iload_n 2, 1) := by decide +kernel
theorem dX6_home_17 : decode cX6_home 17 = .ok (.invokevirtual 93, 3) := by decide +kernel
theorem dX6_home_20 : decode cX6_home 20 = .ok (.ifCond .ne 6, 3) := by decide +kernel
theorem dX6_home_23 : decode cX6_home 23 = .ok (.bipush (-2), 2) := by decide +kernel
theorem dX6_home_25 : decode cX6_home 25 = .ok (.ireturn, 1) := by decide +kernel
theorem dX6_home_26 : decode cX6_home 26 = .ok (.aload_n 0, 1) := by decide +kernel
theorem dX6_home_27 : decode cX6_home 27 = .ok (.getfield 42, 3) := by decide +kernel
theorem dX6_home_30 : decode cX6_home 30 = .ok (.aload_n 0, 1) := by decide +kernel
theorem dX6_home_31 : decode cX6_home 31 = .ok (.getfield 10, 3) := by decide +kernel
theorem dX6_home_34 : decode cX6_home 34 = .ok (.invokevirtual 97, 3) := by decide +kernel
theorem dX6_home_37 : decode cX6_home 37 = .ok (.aload_n 0, 1) := by decide +kernel
theorem dX6_home_38 : decode cX6_home 38 = .ok (.getfield 10, 3) := by decide +kernel
theorem dX6_home_41 : decode cX6_home 41 = .ok (.getfield 116, 3) := by decide +kernel
theorem dX6_home_44 : decode cX6_home 44 = .ok (.iload_n 1, 1) := by decide +kernel
theorem dX6_home_45 : decode cX6_home 45 = .ok (.iaload, 1) := by decide +kernel
theorem dX6_home_46 : decode cX6_home 46 = .ok (.istore_n 3, 1) := by decide +kernel
theorem dX6_home_47 : decode cX6_home 47 = .ok (.aload_n 0, 1) := by decide +kernel
theorem dX6_home_48 : decode cX6_home 48 = .ok (.getfield 10, 3) := by decide +kernel
theorem dX6_home_51 : decode cX6_home 51 = .ok (.getfield 116, 3) := by decide +kernel
theorem dX6_home_54 : decode cX6_home 54 = .ok (.iload_n 1, 1) := by decide +kernel
theorem dX6_home_55 : decode cX6_home 55 = .ok (.iload_n 2, 1) := by decide +kernel
theorem dX6_home_56 : decode cX6_home 56 = .ok (.iastore, 1) := by decide +kernel
theorem dX6_home_57 : decode cX6_home 57 = .ok (.iload_n 3, 1) := by decide +kernel
theorem dX6_home_58 : decode cX6_home 58 = .ok (.ireturn, 1) := by decide +kernel
set_option maxRecDepth 20000 in
theorem ggX6_ahead_X3_hasSection : GoodIn wsX6_ahead wsX3_hasSection := goodIn_r _ [8, 9, 66, 67, 68, 69, 70, 71] (by decide +kernel) (by decide +kernel)
set_option maxRecDepth 20000 in
theorem gX6_ahead_X3_hasSection : GoodIn wsX6_ahead (wsV RX6 93 RX3 yX3_hasSection wsX3_hasSection) := goodIn_app (goodIn_of _ (by decide +kernel)) ggX6_ahead_X3_hasSection
set_option maxRecDepth 20000 in
theorem ggX6_ahead_X3_canTakePrecedence : GoodIn wsX6_ahead wsX3_canTakePrecedence := goodIn_r _ [13, 14, 15, 16, 17, 7, 18, 9, 19, 20, 21, 22, 66, 67, 68, 69, 70, 71] (by decide +kernel) (by decide +kernel)
set_option maxRecDepth 20000 in
theorem gX6_ahead_X3_canTakePrecedence : GoodIn wsX6_ahead (wsV RX6 119 RX3 yX3_canTakePrecedence wsX3_canTakePrecedence) := goodIn_app (goodIn_of _ (by decide +kernel)) ggX6_ahead_X3_canTakePrecedence
set_option maxRecDepth 20000 in
theorem ggX6_ahead_X2_remember : GoodIn wsX6_ahead wsX2_remember := goodIn_r _ [27, 28, 29, 30, 31, 32, 33, 34, 35, 36, 37, 7, 38, 9, 39, 40, 19, 14, 41, 72, 73, 74, 66, 67, 68, 69, 70, 71] (by decide +kernel) (by decide +kernel)
set_option maxRecDepth 20000 in
theorem gX6_ahead_X2_remember : GoodIn wsX6_ahead (wsV RX6 97 RX2 yX2_remember wsX2_remember) := goodIn_app (goodIn_of _ (by decide +kernel)) ggX6_ahead_X2_remember
set_option maxRecDepth 20000 in
theorem ggX6_ahead_X6_with : GoodIn wsX6_ahead wsX6_with := goodIn_r _ [44] (by decide +kernel) (by decide +kernel)
set_option maxRecDepth 20000 in
theorem gX6_ahead_X6_with : GoodIn wsX6_ahead (va_wsS RX6 109 yX6_with wsX6_with) := goodIn_app (goodIn_of _ (by decide +kernel)) ggX6_ahead_X6_with
set_option maxRecDepth 20000 in
theorem ggX6_ahead_X3_countPrecedences : GoodIn wsX6_ahead wsX3_countPrecedences := goodIn_r _ [48, 9, 14, 49, 50, 51, 52, 53, 54, 55, 66, 67, 68, 69, 70, 71] (by decide +kernel) (by decide +kernel)
set_option maxRecDepth 20000 in
theorem gX6_ahead_X3_countPrecedences : GoodIn wsX6_ahead (wsV RX6 126 RX3 yX3_countPrecedences wsX3_countPrecedences) := goodIn_app (goodIn_of _ (by decide +kernel)) ggX6_ahead_X3_countPrecedences
theorem dX6_ahead_0 : decode cX6_ahead 0 = .ok (.aload_n 0, 1) := by decide +kernel
theorem dX6_ahead_1 : decode cX6_ahead 1 = .ok (.getfield 10, 3) := by decide +kernel
theorem dX6_ahead_4 : decode cX6_ahead 4 = .ok (.iload_n 1, 1) := by decide +kernel
theorem dX6_ahead_5 : decode cX6_ahead 5 = .ok (.invokevirtual 93, 3) := by decide +kernel
theorem dX6_ahead_8 : decode cX6_ahead 8 = .ok (.ifCond .eq 19, 3) := by decide +kernel
theorem dX6_ahead_11 : decode cX6_ahead 11 = .ok (.aload_n 0, 1) := by decide +kernel
theorem dX6_ahead_12 : decode cX6_ahead 12 = .ok (.getfield 10, 3) := by decide +kernel
theorem dX6_ahead_15 : decode cX6_ahead 15 = .ok (.iload_n 2, 1) := by decide +kernel
theorem dX6_ahead_16 : decode cX6_ahead 16 = .ok (.invokevirtual 93, 3) := by decide +kernel
theorem dX6_ahead_19 : decode cX6_ahead 19 = .ok (.ifCond .eq 8, 3) := by decide +kernel
theorem dX6_ahead_22 : decode cX6_ahead 22 = .ok (.iload_n 1, 1) := by decide +kernel
theorem dX6_ahead_23 : decode cX6_ahead 23 = .ok (.iload_n 2, 1) := by decide +kernel
theorem dX6_ahead_24 : decode cX6_ahead 24 = .ok (.if_icmp .ne 6, 3) := by decide +kernel
theorem dX6_ahead_27 : decode cX6_ahead 27 = .ok (.bipush (-2), 2) := by decide +kernel
theorem dX6_ahead_29 : decode cX6_ahead 29 = .ok (.ireturn, 1) := by decide +kernel
theorem dX6_ahead_30 : decode cX6_ahead 30 = .ok (.aload_n 0, 1) := by decide +kernel
theorem dX6_ahead_31 : decode cX6_ahead 31 = .ok (.getfield 10, 3) := by decide +kernel
theorem dX6_ahead_34 : decode cX6_ahead 34 = .ok (.iload_n 1, 1) := by decide +kernel
theorem dX6_ahead_35 : decode cX6_ahead 35 = .ok (.iload_n 2, 1) := by decide +kernel
theorem dX6_ahead_36 : decode cX6_ahead 36 = .ok (.invokevirtual 119, 3) := by decide +kernel
theorem dX6_ahead_39 : decode cX6_ahead 39 = .ok (.ifCond .ne 6, 3) := by decide +kernel
theorem dX6_ahead_42 : decode cX6_ahead 42 = .ok (.bipush (-4), 2) := by decide +kernel
theorem dX6_ahead_44 : decode cX6_ahead 44 = .ok (.ireturn, 1) := by decide +kernel
theorem dX6_ahead_45 : decode cX6_ahead 45 = .ok (.aload_n 0, 1) := by decide +kernel
theorem dX6_ahead_46 : decode cX6_ahead 46 = .ok (.getfield 42, 3) := by decide +kernel
theorem dX6_ahead_49 : decode cX6_ahead 49 = .ok (.aload_n 0, 1) := by decide +kernel
theorem dX6_ahead_50 : decode cX6_ahead 50 = .ok (.getfield 10, 3) := by decide +kernel
theorem dX6_ahead_53 : decode cX6_ahead 53 = .ok (.invokevirtual 97, 3) := by decide +kernel
theorem dX6_ahead_56 : decode cX6_ahead 56 = .ok (.aload_n 0, 1) := by decide +kernel
theorem dX6_ahead_57 : decode cX6_ahead 57 = .ok (.getfield 10, 3) := by decide +kernel
theorem dX6_ahead_60 : decode cX6_ahead 60 = .ok (.getfield 123, 3) := by decide +kernel
theorem dX6_ahead_63 : decode cX6_ahead 63 = .ok (.iload_n 2, 1) := by decide +kernel
theorem dX6_ahead_64 : decode cX6_ahead 64 = .ok (.aload_n 0, 1) := by decide +kernel
theorem dX6_ahead_65 : decode cX6_ahead 65 = .ok (.getfield 10, 3) := by decide +kernel
theorem dX6_ahead_68 : decode cX6_ahead 68 = .ok (.getfield 123, 3) := by decide +kernel
theorem dX6_ahead_71 : decode cX6_ahead 71 = .ok (.iload_n 2, 1) := by decide +kernel
theorem dX6_ahead_72 : decode cX6_ahead 72 = .ok (.iaload, 1) := by decide +kernel
theorem dX6_ahead_73 : decode cX6_ahead 73 = .ok (.iload_n 1, 1) := by decide +kernel
theorem dX6_ahead_74 : decode cX6_ahead 74 = .ok (.invokestatic 109, 3) := by decide +kernel
theorem dX6_ahead_77 : decode cX6_ahead 77 = .ok (.iastore, 1) := by decide +kernel
theorem dX6_ahead_78 : decode cX6_ahead 78 = .ok (.aload_n 0, 1) := by decide +kernel
theorem dX6_ahead_79 : decode cX6_ahead 79 = .ok (.getfield 10, 3) := by decide +kernel
theorem dX6_ahead_82 : decode cX6_ahead 82 = .ok (.invokevirtual 126, 3) := by decide +kernel
theorem dX6_ahead_85 : decode cX6_ahead 85 = .ok (.ireturn, 1) := by decide +kernel
set_option maxRecDepth 20000 in
theorem ggX6_loosen_X3_hasSection : GoodIn wsX6_loosen wsX3_hasSection := goodIn_r _ [8, 9, 59, 60, 61, 62, 63, 64] (by decide +kernel) (by decide +kernel)
set_option maxRecDepth 20000 in
theorem gX6_loosen_X3_hasSection : GoodIn wsX6_loosen (wsV RX6 93 RX3 yX3_hasSection wsX3_hasSection) := goodIn_app (goodIn_of _ (by decide +kernel)) ggX6_loosen_X3_hasSection
set_option maxRecDepth 20000 in
theorem ggX6_loosen_X6_has : GoodIn wsX6_loosen wsX6_has := goodIn_r _ [13] (by decide +kernel) (by decide +kernel)
set_option maxRecDepth 20000 in
theorem gX6_loosen_X6_has : GoodIn wsX6_loosen (va_wsS RX6 130 yX6_has wsX6_has) := goodIn_app (goodIn_of _ (by decide +kernel)) ggX6_loosen_X6_has
set_option maxRecDepth 20000 in
theorem ggX6_loosen_X2_remember : GoodIn wsX6_loosen wsX2_remember := goodIn_r _ [18, 19, 20, 21, 22, 23, 24, 25, 26, 27, 28, 7, 29, 9, 30, 31, 32, 33, 34, 65, 66, 67, 59, 60, 61, 62, 63, 64] (by decide +kernel) (by decide +kernel)
set_option maxRecDepth 20000 in
theorem gX6_loosen_X2_remember : GoodIn wsX6_loosen (wsV RX6 97 RX2 yX2_remember wsX2_remember) := goodIn_app (goodIn_of _ (by decide +kernel)) ggX6_loosen_X2_remember
set_option maxRecDepth 20000 in
theorem ggX6_loosen_X6_without : GoodIn wsX6_loosen wsX6_without := goodIn_r _ [37] (by decide +kernel) (by decide +kernel)
set_option maxRecDepth 20000 in
theorem gX6_loosen_X6_without : GoodIn wsX6_loosen (va_wsS RX6 113 yX6_without wsX6_without) := goodIn_app (goodIn_of _ (by decide +kernel)) ggX6_loosen_X6_without
set_option maxRecDepth 20000 in
theorem ggX6_loosen_X3_countPrecedences : GoodIn wsX6_loosen wsX3_countPrecedences := goodIn_r _ [41, 9, 33, 42, 43, 44, 45, 46, 47, 48, 59, 60, 61, 62, 63, 64] (by decide +kernel) (by decide +kernel)
set_option maxRecDepth 20000 in
theorem gX6_loosen_X3_countPrecedences : GoodIn wsX6_loosen (wsV RX6 126 RX3 yX3_countPrecedences wsX3_countPrecedences) := goodIn_app (goodIn_of _ (by decide +kernel)) ggX6_loosen_X3_countPrecedences
theorem dX6_loosen_0 : decode cX6_loosen 0 = .ok (.aload_n 0, 1) := by decide +kernel
theorem dX6_loosen_1 : decode cX6_loosen 1 = .ok (.getfield 10, 3) := by decide +kernel
theorem dX6_loosen_4 : decode cX6_loosen 4 = .ok (.iload_n 1, 1) := by decide +kernel
theorem dX6_loosen_5 : decode cX6_loosen 5 = .ok (.invokevirtual 93, 3) := by decide +kernel
theorem dX6_loosen_8 : decode cX6_loosen 8 = .ok (.ifCond .eq 14, 3) := by decide +kernel
theorem dX6_loosen_11 : decode cX6_loosen 11 = .ok (.aload_n 0, 1) := by decide +kernel
theorem dX6_loosen_12 : decode cX6_loosen 12 = .ok (.getfield 10, 3) := by decide +kernel
theorem dX6_loosen_15 : decode cX6_loosen 15 = .ok (.iload_n 2, 1) := by decide +kernel
theorem dX6_loosen_16 : decode cX6_loosen 16 = .ok (.invokevirtual 93, 3) := by decide +kernel
theorem dX6_loosen_19 : decode cX6_loosen 19 = .ok (.ifCond .ne 6, 3) := by decide +kernel
theorem dX6_loosen_22 : decode cX6_loosen 22 = .ok (.bipush (-2), 2) := by decide +kernel
theorem dX6_loosen_24 : decode cX6_loosen 24 = .ok (.ireturn, 1) := by decide +kernel
theorem dX6_loosen_25 : decode cX6_loosen 25 = .ok (.aload_n 0, 1) := by decide +kernel
theorem dX6_loosen_26 : decode cX6_loosen 26 = .ok (.getfield 10, 3) := by decide +kernel
theorem dX6_loosen_29 : decode cX6_loosen 29 = .ok (.getfield 123, 3) := by decide +kernel
theorem dX6_loosen_32 : decode cX6_loosen 32 = .ok (.iload_n 2, 1) := by decide +kernel
theorem dX6_loosen_33 : decode cX6_loosen 33 = .ok (.iaload, 1) := by decide +kernel
theorem dX6_loosen_34 : decode cX6_loosen 34 = .ok (.iload_n 1, 1) := by decide +kernel
theorem dX6_loosen_35 : decode cX6_loosen 35 = .ok (.invokestatic 130, 3) := by decide +kernel
theorem dX6_loosen_38 : decode cX6_loosen 38 = .ok (.ifCond .ne 6, 3) := by decide +kernel
theorem dX6_loosen_41 : decode cX6_loosen 41 = .ok (.bipush (-4), 2) := by decide +kernel
theorem dX6_loosen_43 : decode cX6_loosen 43 = .ok (.ireturn, 1) := by decide +kernel
theorem dX6_loosen_44 : decode cX6_loosen 44 = .ok (.aload_n 0, 1) := by decide +kernel
theorem dX6_loosen_45 : decode cX6_loosen 45 = .ok (.getfield 42, 3) := by decide +kernel
theorem dX6_loosen_48 : decode cX6_loosen 48 = .ok (.aload_n 0, 1) := by decide +kernel
theorem dX6_loosen_49 : decode cX6_loosen 49 = .ok (.getfield 10, 3) := by decide +kernel
theorem dX6_loosen_52 : decode cX6_loosen 52 = .ok (.invokevirtual 97, 3) := by decide +kernel
theorem dX6_loosen_55 : decode cX6_loosen 55 = .ok (.aload_n 0, 1) := by decide +kernel
theorem dX6_loosen_56 : decode cX6_loosen 56 = .ok (.getfield 10, 3) := by decide +kernel
theorem dX6_loosen_59 : decode cX6_loosen 59 = .ok (.getfield 123, 3) := by decide +kernel
theorem dX6_loosen_62 : decode cX6_loosen 62 = .ok (.iload_n 2, 1) := by decide +kernel
theorem dX6_loosen_63 : decode cX6_loosen 63 = .ok (.aload_n 0, 1) := by decide +kernel
theorem dX6_loosen_64 : decode cX6_loosen 64 = .ok (.getfield 10, 3) := by decide +kernel
theorem dX6_loosen_67 : decode cX6_loosen 67 = .ok (.getfield 123, 3) := by decide +kernel
theorem dX6_loosen_70 : decode cX6_loosen 70 = .ok (.iload_n 2, 1) := by decide +kernel
theorem dX6_loosen_71 : decode cX6_loosen 71 = .ok (.iaload, 1) := by decide +kernel
theorem dX6_loosen_72 : decode cX6_loosen 72 = .ok (.iload_n 1, 1) := by decide +kernel
theorem dX6_loosen_73 : decode cX6_loosen 73 = .ok (.invokestatic 113, 3) := by decide +kernel
theorem dX6_loosen_76 : decode cX6_loosen 76 = .ok (.iastore, 1) := by decide +kernel
theorem dX6_loosen_77 : decode cX6_loosen 77 = .ok (.aload_n 0, 1) := by decide +kernel
theorem dX6_loosen_78 : decode cX6_loosen 78 = .ok (.getfield 10, 3) := by decide +kernel
theorem dX6_loosen_81 : decode cX6_loosen 81 = .ok (.invokevirtual 126, 3) := by decide +kernel
theorem dX6_loosen_84 : decode cX6_loosen 84 = .ok (.ireturn, 1) := by decide +kernel
set_option maxRecDepth 20000 in
theorem ggX6_move_X6_tryMove : GoodIn wsX6_move wsX6_tryMove := goodIn_r _ [8, 2, 3, 9, 10, 11, 12, 13, 14, 15, 16, 17, 18, 19, 20, 21, 22, 23, 24, 25, 26, 27, 28, 29, 30, 31, 32, 33, 7, 34, 35, 36, 37, 38, 39, 40, 41, 42, 43, 44, 45, 46, 47, 48, 49, 50, 51, 52, 53, 54, 55, 77, 78, 79, 80, 81, 82, 83, 84, 85, 86, 87, 88, 89, 90, 91, 92] (by decide +kernel) (by decide +kernel)
set_option maxRecDepth 20000 in
theorem gX6_move_X6_tryMove : GoodIn wsX6_move (wsV RX6 133 RX6 yX6_tryMove wsX6_tryMove) := goodIn_app (goodIn_of _ (by decide +kernel)) ggX6_move_X6_tryMove
set_option maxRecDepth 20000 in
theorem ggX6_move_X2_remember : GoodIn wsX6_move wsX2_remember := goodIn_r _ [60, 61, 62, 63, 64, 65, 66, 67, 68, 69, 70, 12, 71, 14, 72, 43, 23, 32, 48, 93, 94, 95, 87, 88, 89, 90, 91, 92] (by decide +kernel) (by decide +kernel)
set_option maxRecDepth 20000 in
theorem gX6_move_X2_remember : GoodIn wsX6_move (wsV RX6 97 RX2 yX2_remember wsX2_remember) := goodIn_app (goodIn_of _ (by decide +kernel)) ggX6_move_X2_remember
set_option maxRecDepth 20000 in
theorem ggX6_move_X3_takeOrder : GoodIn wsX6_move wsX3_takeOrder := goodIn_r _ [76, 14, 23, 87, 88, 89, 90, 91, 92] (by decide +kernel) (by decide +kernel)
set_option maxRecDepth 20000 in
theorem gX6_move_X3_takeOrder : GoodIn wsX6_move (wsV RX6 136 RX3 yX3_takeOrder wsX3_takeOrder) := goodIn_app (goodIn_of _ (by decide +kernel)) ggX6_move_X3_takeOrder
theorem dX6_move_0 : decode cX6_move 0 = .ok (.aload_n 0, 1) := by decide +kernel
theorem dX6_move_1 : decode cX6_move 1 = .ok (.iload_n 1, 1) := by decide +kernel
theorem dX6_move_2 : decode cX6_move 2 = .ok (.iload_n 2, 1) := by decide +kernel
theorem dX6_move_3 : decode cX6_move 3 = .ok (.invokevirtual 133, 3) := by decide +kernel
theorem dX6_move_6 : decode cX6_move 6 = .ok (.istore_n 3, 1) := by decide +kernel
theorem dX6_move_7 : decode cX6_move 7 = .ok (.iload_n 3, 1) := by decide +kernel
theorem dX6_move_8 : decode cX6_move 8 = .ok (.ifCond .ge 5, 3) := by decide +kernel
theorem dX6_move_11 : decode cX6_move 11 = .ok (.iload_n 3, 1) := by decide +kernel
theorem dX6_move_12 : decode cX6_move 12 = .ok (.ireturn, 1) := by decide +kernel
theorem dX6_move_13 : decode cX6_move 13 = .ok (.aload_n 0, 1) := by decide +kernel
theorem dX6_move_14 : decode cX6_move 14 = .ok (.getfield 42, 3) := by decide +kernel
theorem dX6_move_17 : decode cX6_move 17 = .ok (.aload_n 0, 1) := by decide +kernel
theorem dX6_move_18 : decode cX6_move 18 = .ok (.getfield 10, 3) := by decide +kernel
theorem dX6_move_21 : decode cX6_move 21 = .ok (.invokevirtual 97, 3) := by decide +kernel
theorem dX6_move_24 : decode cX6_move 24 = .ok (.aload_n 0, 1) := by decide +kernel
theorem dX6_move_25 : decode cX6_move 25 = .ok (.getfield 10, 3) := by decide +kernel
theorem dX6_move_28 : decode cX6_move 28 = .ok (.aload_n 0, 1) := by decide +kernel
theorem dX6_move_29 : decode cX6_move 29 = .ok (.getfield 19, 3) := by decide +kernel
theorem dX6_move_32 : decode cX6_move 32 = .ok (.invokevirtual 136, 3) := by decide +kernel
theorem dX6_move_35 : decode cX6_move 35 = .ok (.iload_n 3, 1) := by decide +kernel
theorem dX6_move_36 : decode cX6_move 36 = .ok (.ireturn, 1) := by decide +kernel
set_option maxRecDepth 20000 in
theorem ggX6_settle_X0_find : GoodIn wsX6_settle wsX0_find := goodIn_r _ [10, 11, 12, 13, 14, 15, 16, 17, 18, 19, 20, 21, 22, 23, 24, 25, 26, 27, 28, 29, 30, 31, 32, 33, 34, 9, 35, 36, 37, 38, 39, 40, 41, 42, 43, 44, 45, 46, 47, 48, 49, 50, 51, 52, 53, 54, 55, 56, 57, 58, 59, 60, 61, 62, 63, 64, 65, 66, 67, 68, 69, 70, 71, 99, 100, 101, 102, 103, 104, 105, 106, 107, 108, 109, 110, 111, 112, 113] (by decide +kernel) (by decide +kernel)
set_option maxRecDepth 20000 in
theorem gX6_settle_X0_find : GoodIn wsX6_settle (wsV RX6 140 RX0 yX0_find wsX0_find) := goodIn_app (goodIn_of _ (by decide +kernel)) ggX6_settle_X0_find
set_option maxRecDepth 20000 in
theorem ggX6_settle_X2_remember : GoodIn wsX6_settle wsX2_remember := goodIn_r _ [76, 77, 78, 79, 80, 81, 82, 83, 84, 29, 30, 20, 31, 22, 23, 24, 25, 26, 27, 114, 115, 116, 108, 109, 110, 111, 112, 113] (by decide +kernel) (by decide +kernel)
set_option maxRecDepth 20000 in
theorem gX6_settle_X2_remember : GoodIn wsX6_settle (wsV RX6 97 RX2 yX2_remember wsX2_remember) := goodIn_app (goodIn_of _ (by decide +kernel)) ggX6_settle_X2_remember
set_option maxRecDepth 20000 in
theorem ggX6_settle_X3_takeOrder : GoodIn wsX6_settle wsX3_takeOrder := goodIn_r _ [88, 22, 25, 108, 109, 110, 111, 112, 113] (by decide +kernel) (by decide +kernel)
set_option maxRecDepth 20000 in
theorem gX6_settle_X3_takeOrder : GoodIn wsX6_settle (wsV RX6 136 RX3 yX3_takeOrder wsX3_takeOrder) := goodIn_app (goodIn_of _ (by decide +kernel)) ggX6_settle_X3_takeOrder
theorem dX6_settle_0 : decode cX6_settle 0 = .ok (.aload_n 0, 1) := by decide +kernel
theorem dX6_settle_1 : decode cX6_settle 1 = .ok (.getfield 64, 3) := by decide +kernel
theorem dX6_settle_4 : decode cX6_settle 4 = .ok (.aload_n 0, 1) := by decide +kernel
theorem dX6_settle_5 : decode cX6_settle 5 = .ok (.getfield 10, 3) := by decide +kernel
theorem dX6_settle_8 : decode cX6_settle 8 = .ok (.invokevirtual 140, 3) := by decide +kernel
theorem dX6_settle_11 : decode cX6_settle 11 = .ok (.aload_n 0, 1) := by decide +kernel
theorem dX6_settle_12 : decode cX6_settle 12 = .ok (.getfield 42, 3) := by decide +kernel
theorem dX6_settle_15 : decode cX6_settle 15 = .ok (.aload_n 0, 1) := by decide +kernel
theorem dX6_settle_16 : decode cX6_settle 16 = .ok (.getfield 10, 3) := by decide +kernel
theorem dX6_settle_19 : decode cX6_settle 19 = .ok (.invokevirtual 97, 3) := by decide +kernel
theorem dX6_settle_22 : decode cX6_settle 22 = .ok (.aload_n 0, 1) := by decide +kernel
theorem dX6_settle_23 : decode cX6_settle 23 = .ok (.getfield 10, 3) := by decide +kernel
theorem dX6_settle_26 : decode cX6_settle 26 = .ok (.aload_n 0, 1) := by decide +kernel
theorem dX6_settle_27 : decode cX6_settle 27 = .ok (.getfield 64, 3) := by decide +kernel
theorem dX6_settle_30 : decode cX6_settle 30 = .ok (.getfield 143, 3) := by decide +kernel
theorem dX6_settle_33 : decode cX6_settle 33 = .ok (.invokevirtual 136, 3) := by decide +kernel
theorem dX6_settle_36 : decode cX6_settle 36 = .ok (.aload_n 0, 1) := by decide +kernel
theorem dX6_settle_37 : decode cX6_settle 37 = .ok (.getfield 64, 3) := by decide +kernel
theorem dX6_settle_40 : decode cX6_settle 40 = .ok (.getfield 146, 3) := by decide +kernel
theorem dX6_settle_43 : decode cX6_settle 43 = .ok (.ireturn, 1) := by decide +kernel
set_option maxRecDepth 20000 in
theorem ggX6_undo_X2_restore : GoodIn wsX6_undo wsX2_restore := goodIn_r _ [8, 9, 10, 11, 12, 13, 14, 15, 16, 17, 18, 19, 20, 21, 22, 33, 34, 35, 36, 37, 38, 39, 40, 41] (by decide +kernel) (by decide +kernel)
set_option maxRecDepth 20000 in
theorem gX6_undo_X2_restore : GoodIn wsX6_undo (wsV RX6 152 RX2 yX2_restore wsX2_restore) := goodIn_app (goodIn_of _ (by decide +kernel)) ggX6_undo_X2_restore
theorem dX6_undo_0 : decode cX6_undo 0 = .ok (.aload_n 0, 1) := by decide +kernel
theorem dX6_undo_1 : decode cX6_undo 1 = .ok (.getfield 42, 3) := by decide +kernel
theorem dX6_undo_4 : decode cX6_undo 4 = .ok (.getfield 149, 3) := by decide +kernel
theorem dX6_undo_7 : decode cX6_undo 7 = .ok (.ifCond .ne 6, 3) := by decide +kernel
theorem dX6_undo_10 : decode cX6_undo 10 = .ok (.bipush (-4), 2) := by decide +kernel
theorem dX6_undo_12 : decode cX6_undo 12 = .ok (.ireturn, 1) := by decide +kernel
theorem dX6_undo_13 : decode cX6_undo 13 = .ok (.aload_n 0, 1) := by decide +kernel
theorem dX6_undo_14 : decode cX6_undo 14 = .ok (.getfield 42, 3) := by decide +kernel
theorem dX6_undo_17 : decode cX6_undo 17 = .ok (.aload_n 0, 1) := by decide +kernel
theorem dX6_undo_18 : decode cX6_undo 18 = .ok (.getfield 10, 3) := by decide +kernel
theorem dX6_undo_21 : decode cX6_undo 21 = .ok (.invokevirtual 152, 3) := by decide +kernel
theorem dX6_undo_24 : decode cX6_undo 24 = .ok (.aload_n 0, 1) := by decide +kernel
theorem dX6_undo_25 : decode cX6_undo 25 = .ok (.getfield 42, 3) := by decide +kernel
theorem dX6_undo_28 : decode cX6_undo 28 = .ok (.getfield 149, 3) := by decide +kernel
theorem dX6_undo_31 : decode cX6_undo 31 = .ok (.ireturn, 1) := by decide +kernel
set_option maxRecDepth 20000 in
theorem ggX6_keep_X3_become : GoodIn wsX6_keep wsX3_become := goodIn_r _ [9, 10, 11, 12, 13, 14, 15, 48, 49, 50, 51, 52, 53] (by decide +kernel) (by decide +kernel)
set_option maxRecDepth 20000 in
theorem gX6_keep_X3_become : GoodIn wsX6_keep (wsV RX6 79 RX3 yX3_become wsX3_become) := goodIn_app (goodIn_of _ (by decide +kernel)) ggX6_keep_X3_become
set_option maxRecDepth 20000 in
theorem ggX6_keep_X3_countNotes : GoodIn wsX6_keep wsX3_countNotes := goodIn_r _ [19, 20, 21, 22, 8, 23, 10, 12, 24, 25, 26, 27, 15, 28, 29, 30, 31, 32, 33, 34, 35, 36, 37, 48, 49, 50, 51, 52, 53] (by decide +kernel) (by decide +kernel)
set_option maxRecDepth 20000 in
theorem gX6_keep_X3_countNotes : GoodIn wsX6_keep (wsV RX6 156 RX3 yX3_countNotes wsX3_countNotes) := goodIn_app (goodIn_of _ (by decide +kernel)) ggX6_keep_X3_countNotes
theorem dX6_keep_0 : decode cX6_keep 0 = .ok (.iload_n 1, 1) := by decide +kernel
theorem dX6_keep_1 : decode cX6_keep 1 = .ok (.ifCond .lt 8, 3) := by decide +kernel
theorem dX6_keep_4 : decode cX6_keep 4 = .ok (.iload_n 1, 1) := by decide +kernel
theorem dX6_keep_5 : decode cX6_keep 5 = .ok (.iconst 2, 1) := by decide +kernel
theorem dX6_keep_6 : decode cX6_keep 6 = .ok (.if_icmp .lt 6, 3) := by decide +kernel
theorem dX6_keep_9 : decode cX6_keep 9 = .ok (.bipush (-3), 2) := by decide +kernel
theorem dX6_keep_11 : decode cX6_keep 11 = .ok (.ireturn, 1) := by decide +kernel
theorem dX6_keep_12 : decode cX6_keep 12 = .ok (.aload_n 0, 1) := by decide +kernel
theorem dX6_keep_13 : decode cX6_keep 13 = .ok (.getfield 46, 3) := by decide +kernel
theorem dX6_keep_16 : decode cX6_keep 16 = .ok (.iload_n 1, 1) := by decide +kernel
theorem dX6_keep_17 : decode cX6_keep 17 = .ok (.aaload, 1) := by decide +kernel
theorem dX6_keep_18 : decode cX6_keep 18 = .ok (.aload_n 0, 1) := by decide +kernel
theorem dX6_keep_19 : decode cX6_keep 19 = .ok (.getfield 10, 3) := by decide +kernel
theorem dX6_keep_22 : decode cX6_keep 22 = .ok (.invokevirtual 79, 3) := by decide +kernel
theorem dX6_keep_25 : decode cX6_keep 25 = .ok (.aload_n 0, 1) := by decide +kernel
theorem dX6_keep_26 : decode cX6_keep 26 = .ok (.getfield 50, 3) := by decide +kernel
theorem dX6_keep_29 : decode cX6_keep 29 = .ok (.iload_n 1, 1) := by decide +kernel
theorem dX6_keep_30 : decode cX6_keep 30 = .ok (.iconst 1, 1) := by decide +kernel
theorem dX6_keep_31 : decode cX6_keep 31 = .ok (.bastore, 1) := by decide +kernel
theorem dX6_keep_32 : decode cX6_keep 32 = .ok (.aload_n 0, 1) := by decide +kernel
theorem dX6_keep_33 : decode cX6_keep 33 = .ok (.getfield 10, 3) := by decide +kernel
theorem dX6_keep_36 : decode cX6_keep 36 = .ok (.aload_n 0, 1) := by decide +kernel
theorem dX6_keep_37 : decode cX6_keep 37 = .ok (.getfield 10, 3) := by decide +kernel
theorem dX6_keep_40 : decode cX6_keep 40 = .ok (.getfield 155, 3) := by decide +kernel
theorem dX6_keep_43 : decode cX6_keep 43 = .ok (.invokevirtual 156, 3) := by decide +kernel
theorem dX6_keep_46 : decode cX6_keep 46 = .ok (.ireturn, 1) := by decide +kernel
set_option maxRecDepth 20000 in
theorem ggX6_back_X3_become : GoodIn wsX6_back wsX3_become := goodIn_r _ [10, 11, 12, 13, 14, 15, 16, 55, 56, 57, 58, 59, 60] (by decide +kernel) (by decide +kernel)
set_option maxRecDepth 20000 in
theorem gX6_back_X3_become : GoodIn wsX6_back (wsV RX6 79 RX3 yX3_become wsX3_become) := goodIn_app (goodIn_of _ (by decide +kernel)) ggX6_back_X3_become
set_option maxRecDepth 20000 in
theorem ggX6_back_X2_forget : GoodIn wsX6_back wsX2_forget := goodIn_r _ [21, 22, 61, 62, 63] (by decide +kernel) (by decide +kernel)
set_option maxRecDepth 20000 in
theorem gX6_back_X2_forget : GoodIn wsX6_back (wsV RX6 87 RX2 yX2_forget wsX2_forget) := goodIn_app (goodIn_of _ (by decide +kernel)) ggX6_back_X2_forget
set_option maxRecDepth 20000 in
theorem ggX6_back_X3_countNotes : GoodIn wsX6_back wsX3_countNotes := goodIn_r _ [26, 27, 28, 29, 9, 30, 11, 13, 31, 32, 33, 34, 16, 35, 36, 37, 38, 39, 40, 41, 42, 43, 44, 55, 56, 57, 58, 59, 60] (by decide +kernel) (by decide +kernel)
set_option maxRecDepth 20000 in
theorem gX6_back_X3_countNotes : GoodIn wsX6_back (wsV RX6 156 RX3 yX3_countNotes wsX3_countNotes) := goodIn_app (goodIn_of _ (by decide +kernel)) ggX6_back_X3_countNotes
theorem dX6_back_0 : decode cX6_back 0 = .ok (.iload_n 1, 1) := by decide +kernel
theorem dX6_back_1 : decode cX6_back 1 = .ok (.ifCond .lt 8, 3) := by decide +kernel
theorem dX6_back_4 : decode cX6_back 4 = .ok (.iload_n 1, 1) := by decide +kernel
theorem dX6_back_5 : decode cX6_back 5 = .ok (.iconst 2, 1) := by decide +kernel
theorem dX6_back_6 : decode cX6_back 6 = .ok (.if_icmp .lt 6, 3) := by decide +kernel
theorem dX6_back_9 : decode cX6_back 9 = .ok (.bipush (-3), 2) := by decide +kernel
theorem dX6_back_11 : decode cX6_back 11 = .ok (.ireturn, 1) := by decide +kernel
theorem dX6_back_12 : decode cX6_back 12 = .ok (.aload_n 0, 1) := by decide +kernel
theorem dX6_back_13 : decode cX6_back 13 = .ok (.getfield 50, 3) := by decide +kernel
theorem dX6_back_16 : decode cX6_back 16 = .ok (.iload_n 1, 1) := by decide +kernel
theorem dX6_back_17 : decode cX6_back 17 = .ok (.baload, 1) := by decide +kernel
theorem dX6_back_18 : decode cX6_back 18 = .ok (.ifCond .ne 6, 3) := by decide +kernel
theorem dX6_back_21 : decode cX6_back 21 = .ok (.bipush (-4), 2) := by decide +kernel
theorem dX6_back_23 : decode cX6_back 23 = .ok (.ireturn, 1) := by decide +kernel
theorem dX6_back_24 : decode cX6_back 24 = .ok (.aload_n 0, 1) := by decide +kernel
theorem dX6_back_25 : decode cX6_back 25 = .ok (.getfield 10, 3) := by decide +kernel
theorem dX6_back_28 : decode cX6_back 28 = .ok (.aload_n 0, 1) := by decide +kernel
theorem dX6_back_29 : decode cX6_back 29 = .ok (.getfield 46, 3) := by decide +kernel
theorem dX6_back_32 : decode cX6_back 32 = .ok (.iload_n 1, 1) := by decide +kernel
theorem dX6_back_33 : decode cX6_back 33 = .ok (.aaload, 1) := by decide +kernel
theorem dX6_back_34 : decode cX6_back 34 = .ok (.invokevirtual 79, 3) := by decide +kernel
theorem dX6_back_37 : decode cX6_back 37 = .ok (.aload_n 0, 1) := by decide +kernel
theorem dX6_back_38 : decode cX6_back 38 = .ok (.getfield 42, 3) := by decide +kernel
theorem dX6_back_41 : decode cX6_back 41 = .ok (.invokevirtual 87, 3) := by decide +kernel
theorem dX6_back_44 : decode cX6_back 44 = .ok (.aload_n 0, 1) := by decide +kernel
theorem dX6_back_45 : decode cX6_back 45 = .ok (.getfield 10, 3) := by decide +kernel
theorem dX6_back_48 : decode cX6_back 48 = .ok (.aload_n 0, 1) := by decide +kernel
theorem dX6_back_49 : decode cX6_back 49 = .ok (.getfield 10, 3) := by decide +kernel
theorem dX6_back_52 : decode cX6_back 52 = .ok (.getfield 155, 3) := by decide +kernel
theorem dX6_back_55 : decode cX6_back 55 = .ok (.invokevirtual 156, 3) := by decide +kernel
theorem dX6_back_58 : decode cX6_back 58 = .ok (.ireturn, 1) := by decide +kernel
set_option maxRecDepth 20000 in
theorem ggX6_at_X3_hasPlace : GoodIn wsX6_at wsX3_hasPlace := goodIn_r _ [7, 8, 19, 20, 21, 22, 23, 24] (by decide +kernel) (by decide +kernel)
set_option maxRecDepth 20000 in
theorem gX6_at_X3_hasPlace : GoodIn wsX6_at (wsV RX6 160 RX3 yX3_hasPlace wsX3_hasPlace) := goodIn_app (goodIn_of _ (by decide +kernel)) ggX6_at_X3_hasPlace
theorem dX6_at_0 : decode cX6_at 0 = .ok (.aload_n 0, 1) := by decide +kernel
theorem dX6_at_1 : decode cX6_at 1 = .ok (.getfield 10, 3) := by decide +kernel
theorem dX6_at_4 : decode cX6_at 4 = .ok (.iload_n 1, 1) := by decide +kernel
theorem dX6_at_5 : decode cX6_at 5 = .ok (.invokevirtual 160, 3) := by decide +kernel
theorem dX6_at_8 : decode cX6_at 8 = .ok (.ifCond .eq 15, 3) := by decide +kernel
theorem dX6_at_11 : decode cX6_at 11 = .ok (.aload_n 0, 1) := by decide +kernel
theorem dX6_at_12 : decode cX6_at 12 = .ok (.getfield 10, 3) := by decide +kernel
theorem dX6_at_15 : decode cX6_at 15 = .ok (.getfield 155, 3) := by decide +kernel
theorem dX6_at_18 : decode cX6_at 18 = .ok (.iload_n 1, 1) := by decide +kernel
theorem dX6_at_19 : decode cX6_at 19 = .ok (.iaload, 1) := by decide +kernel
theorem dX6_at_20 : decode cX6_at 20 = .ok (.goto 5, 3) := by decide +kernel
theorem dX6_at_23 : decode cX6_at 23 = .ok (.bipush (-2), 2) := by decide +kernel
theorem dX6_at_25 : decode cX6_at 25 = .ok (.ireturn, 1) := by decide +kernel
set_option maxRecDepth 20000 in
theorem ggX6_section_X3_hasSection : GoodIn wsX6_section wsX3_hasSection := goodIn_r _ [10, 11, 70, 71, 72, 73, 74, 75] (by decide +kernel) (by decide +kernel)
set_option maxRecDepth 20000 in
theorem gX6_section_X3_hasSection : GoodIn wsX6_section (wsV RX6 93 RX3 yX3_hasSection wsX3_hasSection) := goodIn_app (goodIn_of _ (by decide +kernel)) ggX6_section_X3_hasSection
set_option maxRecDepth 20000 in
theorem ggX6_section_X3_placeOf : GoodIn wsX6_section wsX3_placeOf := goodIn_r _ [15, 11, 16, 70, 71, 72, 73, 74, 75] (by decide +kernel) (by decide +kernel)
set_option maxRecDepth 20000 in
theorem gX6_section_X3_placeOf : GoodIn wsX6_section (wsV RX6 163 RX3 yX3_placeOf wsX3_placeOf) := goodIn_app (goodIn_of _ (by decide +kernel)) ggX6_section_X3_placeOf
set_option maxRecDepth 20000 in
theorem ggX6_section_X3_termsAtHome : GoodIn wsX6_section wsX3_termsAtHome := goodIn_r _ [20, 21, 22, 23, 24, 70, 71, 72, 73, 74, 75] (by decide +kernel) (by decide +kernel)
set_option maxRecDepth 20000 in
theorem gX6_section_X3_termsAtHome : GoodIn wsX6_section (wsV RX6 167 RX3 yX3_termsAtHome wsX3_termsAtHome) := goodIn_app (goodIn_of _ (by decide +kernel)) ggX6_section_X3_termsAtHome
set_option maxRecDepth 20000 in
theorem ggX6_section_X3_earlyTerms : GoodIn wsX6_section wsX3_earlyTerms := goodIn_r _ [28, 11, 16, 29, 30, 13, 14, 9, 15, 31, 18, 19, 20, 21, 22, 23, 24, 70, 71, 72, 73, 74, 75] (by decide +kernel) (by decide +kernel)
set_option maxRecDepth 20000 in
theorem gX6_section_X3_earlyTerms : GoodIn wsX6_section (wsV RX6 170 RX3 yX3_earlyTerms wsX3_earlyTerms) := goodIn_app (goodIn_of _ (by decide +kernel)) ggX6_section_X3_earlyTerms
set_option maxRecDepth 20000 in
theorem ggX6_section_X3_notesIn : GoodIn wsX6_section wsX3_notesIn := goodIn_r _ [35, 36, 37, 38, 9, 39, 21, 11, 16, 29, 40, 23, 41, 22, 24, 70, 71, 72, 73, 74, 75] (by decide +kernel) (by decide +kernel)
set_option maxRecDepth 20000 in
theorem gX6_section_X3_notesIn : GoodIn wsX6_section (wsV RX6 173 RX3 yX3_notesIn wsX3_notesIn) := goodIn_app (goodIn_of _ (by decide +kernel)) ggX6_section_X3_notesIn
set_option maxRecDepth 20000 in
theorem ggX6_section_X3_neededBy : GoodIn wsX6_section wsX3_neededBy := goodIn_r _ [45, 21, 29, 40, 23, 41, 22, 24, 70, 71, 72, 73, 74, 75] (by decide +kernel) (by decide +kernel)
set_option maxRecDepth 20000 in
theorem gX6_section_X3_neededBy : GoodIn wsX6_section (wsV RX6 176 RX3 yX3_neededBy wsX3_neededBy) := goodIn_app (goodIn_of _ (by decide +kernel)) ggX6_section_X3_neededBy
set_option maxRecDepth 20000 in
theorem ggX6_section_X4_draw : GoodIn wsX6_section wsX4_draw := goodIn_r _ [50, 51, 52, 53, 54, 55, 43, 44, 9, 45, 21, 29, 40, 23, 41, 22, 24, 70, 71, 72, 73, 74, 75, 76, 77, 78, 79, 80, 81] (by decide +kernel) (by decide +kernel)
set_option maxRecDepth 20000 in
theorem gX6_section_X4_draw : GoodIn wsX6_section (wsV RX6 179 RX4 yX4_draw wsX4_draw) := goodIn_app (goodIn_of _ (by decide +kernel)) ggX6_section_X4_draw
set_option maxRecDepth 20000 in
theorem ggX6_section_X4_component : GoodIn wsX6_section wsX4_component := goodIn_r _ [59, 52, 54, 40, 23, 41, 22, 24, 76, 77, 78, 79, 80, 81] (by decide +kernel) (by decide +kernel)
set_option maxRecDepth 20000 in
theorem gX6_section_X4_component : GoodIn wsX6_section (wsV RX6 182 RX4 yX4_component wsX4_component) := goodIn_app (goodIn_of _ (by decide +kernel)) ggX6_section_X4_component
theorem dX6_section_0 : decode cX6_section 0 = .ok (.aload_n 0, 1) := by decide +kernel
theorem dX6_section_1 : decode cX6_section 1 = .ok (.getfield 10, 3) := by decide +kernel
theorem dX6_section_4 : decode cX6_section 4 = .ok (.iload_n 1, 1) := by decide +kernel
theorem dX6_section_5 : decode cX6_section 5 = .ok (.invokevirtual 93, 3) := by decide +kernel
theorem dX6_section_8 : decode cX6_section 8 = .ok (.ifCond .ne 6, 3) := by decide +kernel
theorem dX6_section_11 : decode cX6_section 11 = .ok (.bipush (-2), 2) := by decide +kernel
theorem dX6_section_13 : decode cX6_section 13 = .ok (.ireturn, 1) := by decide +kernel
theorem dX6_section_14 : decode cX6_section 14 = .ok (.iload_n 2, 1) := by decide +kernel
theorem dX6_section_15 : decode cX6_section 15 = .ok (.tableswitch 144 0 8 #[49, 58, 68, 78, 87, 96, 105, 114, 134], 49) := by decide +kernel
theorem dX6_section_64 : decode cX6_section 64 = .ok (.aload_n 0, 1) := by decide +kernel
theorem dX6_section_65 : decode cX6_section 65 = .ok (.getfield 10, 3) := by decide +kernel
theorem dX6_section_68 : decode cX6_section 68 = .ok (.iload_n 1, 1) := by decide +kernel
theorem dX6_section_69 : decode cX6_section 69 = .ok (.invokevirtual 163, 3) := by decide +kernel
theorem dX6_section_72 : decode cX6_section 72 = .ok (.ireturn, 1) := by decide +kernel
theorem dX6_section_73 : decode cX6_section 73 = .ok (.aload_n 0, 1) := by decide +kernel
theorem dX6_section_74 : decode cX6_section 74 = .ok (.getfield 10, 3) := by decide +kernel
theorem dX6_section_77 : decode cX6_section 77 = .ok (.getfield 100, 3) := by decide +kernel
theorem dX6_section_80 : decode cX6_section 80 = .ok (.iload_n 1, 1) := by decide +kernel
theorem dX6_section_81 : decode cX6_section 81 = .ok (.iaload, 1) := by decide +kernel
theorem dX6_section_82 : decode cX6_section 82 = .ok (.ireturn, 1) := by decide +kernel
theorem dX6_section_83 : decode cX6_section 83 = .ok (.aload_n 0, 1) := by decide +kernel
theorem dX6_section_84 : decode cX6_section 84 = .ok (.getfield 10, 3) := by decide +kernel
theorem dX6_section_87 : decode cX6_section 87 = .ok (.getfield 106, 3) := by decide +kernel
theorem dX6_section_90 : decode cX6_section 90 = .ok (.iload_n 1, 1) := by decide +kernel
theorem dX6_section_91 : decode cX6_section 91 = .ok (.iaload, 1) := by decide +kernel
theorem dX6_section_92 : decode cX6_section 92 = .ok (.ireturn, 1) := by decide +kernel
theorem dX6_section_93 : decode cX6_section 93 = .ok (.aload_n 0, 1) := by decide +kernel
theorem dX6_section_94 : decode cX6_section 94 = .ok (.getfield 10, 3) := by decide +kernel
theorem dX6_section_97 : decode cX6_section 97 = .ok (.iload_n 1, 1) := by decide +kernel
theorem dX6_section_98 : decode cX6_section 98 = .ok (.invokevirtual 167, 3) := by decide +kernel
theorem dX6_section_101 : decode cX6_section 101 = .ok (.ireturn, 1) := by decide +kernel
theorem dX6_section_102 : decode cX6_section 102 = .ok (.aload_n 0, 1) := by decide +kernel
theorem dX6_section_103 : decode cX6_section 103 = .ok (.getfield 10, 3) := by decide +kernel
theorem dX6_section_106 : decode cX6_section 106 = .ok (.iload_n 1, 1) := by decide +kernel
theorem dX6_section_107 : decode cX6_section 107 = .ok (.invokevirtual 170, 3) := by decide +kernel
theorem dX6_section_110 : decode cX6_section 110 = .ok (.ireturn, 1) := by decide +kernel
theorem dX6_section_111 : decode cX6_section 111 = .ok (.aload_n 0, 1) := by decide +kernel
theorem dX6_section_112 : decode cX6_section 112 = .ok (.getfield 10, 3) := by decide +kernel
theorem dX6_section_115 : decode cX6_section 115 = .ok (.iload_n 1, 1) := by decide +kernel
theorem dX6_section_116 : decode cX6_section 116 = .ok (.invokevirtual 173, 3) := by decide +kernel
theorem dX6_section_119 : decode cX6_section 119 = .ok (.ireturn, 1) := by decide +kernel
theorem dX6_section_120 : decode cX6_section 120 = .ok (.aload_n 0, 1) := by decide +kernel
theorem dX6_section_121 : decode cX6_section 121 = .ok (.getfield 10, 3) := by decide +kernel
theorem dX6_section_124 : decode cX6_section 124 = .ok (.iload_n 1, 1) := by decide +kernel
theorem dX6_section_125 : decode cX6_section 125 = .ok (.invokevirtual 176, 3) := by decide +kernel
theorem dX6_section_128 : decode cX6_section 128 = .ok (.ireturn, 1) := by decide +kernel
theorem dX6_section_129 : decode cX6_section 129 = .ok (.aload_n 0, 1) := by decide +kernel
theorem dX6_section_130 : decode cX6_section 130 = .ok (.getfield 57, 3) := by decide +kernel
theorem dX6_section_133 : decode cX6_section 133 = .ok (.aload_n 0, 1) := by decide +kernel
theorem dX6_section_134 : decode cX6_section 134 = .ok (.getfield 10, 3) := by decide +kernel
theorem dX6_section_137 : decode cX6_section 137 = .ok (.invokevirtual 179, 3) := by decide +kernel
theorem dX6_section_140 : decode cX6_section 140 = .ok (.aload_n 0, 1) := by decide +kernel
theorem dX6_section_141 : decode cX6_section 141 = .ok (.getfield 57, 3) := by decide +kernel
theorem dX6_section_144 : decode cX6_section 144 = .ok (.iload_n 1, 1) := by decide +kernel
theorem dX6_section_145 : decode cX6_section 145 = .ok (.invokevirtual 182, 3) := by decide +kernel
theorem dX6_section_148 : decode cX6_section 148 = .ok (.ireturn, 1) := by decide +kernel
theorem dX6_section_149 : decode cX6_section 149 = .ok (.aload_n 0, 1) := by decide +kernel
theorem dX6_section_150 : decode cX6_section 150 = .ok (.getfield 10, 3) := by decide +kernel
theorem dX6_section_153 : decode cX6_section 153 = .ok (.getfield 123, 3) := by decide +kernel
theorem dX6_section_156 : decode cX6_section 156 = .ok (.iload_n 1, 1) := by decide +kernel
theorem dX6_section_157 : decode cX6_section 157 = .ok (.iaload, 1) := by decide +kernel
theorem dX6_section_158 : decode cX6_section 158 = .ok (.ireturn, 1) := by decide +kernel
theorem dX6_section_159 : decode cX6_section 159 = .ok (.bipush (-3), 2) := by decide +kernel
theorem dX6_section_161 : decode cX6_section 161 = .ok (.ireturn, 1) := by decide +kernel
set_option maxRecDepth 20000 in
theorem ggX6_term_X6_isTerm : GoodIn wsX6_term wsX6_isTerm := goodIn_r _ [7] (by decide +kernel) (by decide +kernel)
set_option maxRecDepth 20000 in
theorem gX6_term_X6_isTerm : GoodIn wsX6_term (va_wsS RX6 103 yX6_isTerm wsX6_isTerm) := goodIn_app (goodIn_of _ (by decide +kernel)) ggX6_term_X6_isTerm
set_option maxRecDepth 20000 in
theorem ggX6_term_X3_usersOf : GoodIn wsX6_term wsX3_usersOf := goodIn_r _ [12, 13, 14, 15, 6, 16, 17, 18, 45, 46, 47, 48, 49, 50] (by decide +kernel) (by decide +kernel)
set_option maxRecDepth 20000 in
theorem gX6_term_X3_usersOf : GoodIn wsX6_term (wsV RX6 185 RX3 yX3_usersOf wsX3_usersOf) := goodIn_app (goodIn_of _ (by decide +kernel)) ggX6_term_X3_usersOf
set_option maxRecDepth 20000 in
theorem ggX6_term_X3_noteSection : GoodIn wsX6_term wsX3_noteSection := goodIn_r _ [22, 23, 13, 24, 14, 15, 6, 16, 45, 46, 47, 48, 49, 50] (by decide +kernel) (by decide +kernel)
set_option maxRecDepth 20000 in
theorem gX6_term_X3_noteSection : GoodIn wsX6_term (wsV RX6 188 RX3 yX3_noteSection wsX3_noteSection) := goodIn_app (goodIn_of _ (by decide +kernel)) ggX6_term_X3_noteSection
set_option maxRecDepth 20000 in
theorem ggX6_term_X3_noteLength : GoodIn wsX6_term wsX3_noteLength := goodIn_r _ [28, 23, 13, 14, 29, 15, 6, 16, 45, 46, 47, 48, 49, 50] (by decide +kernel) (by decide +kernel)
set_option maxRecDepth 20000 in
theorem gX6_term_X3_noteLength : GoodIn wsX6_term (wsV RX6 191 RX3 yX3_noteLength wsX3_noteLength) := goodIn_app (goodIn_of _ (by decide +kernel)) ggX6_term_X3_noteLength
set_option maxRecDepth 20000 in
theorem ggX6_term_X3_isLoose : GoodIn wsX6_term wsX3_isLoose := goodIn_r _ [33, 23, 34, 9, 10, 11, 12, 13, 14, 15, 6, 16, 17, 18, 45, 46, 47, 48, 49, 50] (by decide +kernel) (by decide +kernel)
set_option maxRecDepth 20000 in
theorem gX6_term_X3_isLoose : GoodIn wsX6_term (wsV RX6 195 RX3 yX3_isLoose wsX3_isLoose) := goodIn_app (goodIn_of _ (by decide +kernel)) ggX6_term_X3_isLoose
theorem dX6_term_0 : decode cX6_term 0 = .ok (.iload_n 1, 1) := by decide +kernel
theorem dX6_term_1 : decode cX6_term 1 = .ok (.invokestatic 103, 3) := by decide +kernel
theorem dX6_term_4 : decode cX6_term 4 = .ok (.ifCond .ne 6, 3) := by decide +kernel
theorem dX6_term_7 : decode cX6_term 7 = .ok (.bipush (-2), 2) := by decide +kernel
theorem dX6_term_9 : decode cX6_term 9 = .ok (.ireturn, 1) := by decide +kernel
theorem dX6_term_10 : decode cX6_term 10 = .ok (.iload_n 2, 1) := by decide +kernel
theorem dX6_term_11 : decode cX6_term 11 = .ok (.tableswitch 94 0 4 #[33, 43, 52, 61, 77], 33) := by decide +kernel
theorem dX6_term_44 : decode cX6_term 44 = .ok (.aload_n 0, 1) := by decide +kernel
theorem dX6_term_45 : decode cX6_term 45 = .ok (.getfield 10, 3) := by decide +kernel
theorem dX6_term_48 : decode cX6_term 48 = .ok (.getfield 116, 3) := by decide +kernel
theorem dX6_term_51 : decode cX6_term 51 = .ok (.iload_n 1, 1) := by decide +kernel
theorem dX6_term_52 : decode cX6_term 52 = .ok (.iaload, 1) := by decide +kernel
theorem dX6_term_53 : decode cX6_term 53 = .ok (.ireturn, 1) := by decide +kernel
theorem dX6_term_54 : decode cX6_term 54 = .ok (.aload_n 0, 1) := by decide +kernel
theorem dX6_term_55 : decode cX6_term 55 = .ok (.getfield 10, 3) := by decide +kernel
theorem dX6_term_58 : decode cX6_term 58 = .ok (.iload_n 1, 1) := by decide +kernel
theorem dX6_term_59 : decode cX6_term 59 = .ok (.invokevirtual 185, 3) := by decide +kernel
theorem dX6_term_62 : decode cX6_term 62 = .ok (.ireturn, 1) := by decide +kernel
theorem dX6_term_63 : decode cX6_term 63 = .ok (.aload_n 0, 1) := by decide +kernel
theorem dX6_term_64 : decode cX6_term 64 = .ok (.getfield 10, 3) := by decide +kernel
theorem dX6_term_67 : decode cX6_term 67 = .ok (.iload_n 1, 1) := by decide +kernel
theorem dX6_term_68 : decode cX6_term 68 = .ok (.invokevirtual 188, 3) := by decide +kernel
theorem dX6_term_71 : decode cX6_term 71 = .ok (.ireturn, 1) := by decide +kernel
theorem dX6_term_72 : decode cX6_term 72 = .ok (.aload_n 0, 1) := by decide +kernel
theorem dX6_term_73 : decode cX6_term 73 = .ok (.getfield 10, 3) := by decide +kernel
theorem dX6_term_76 : decode cX6_term 76 = .ok (.iload_n 1, 1) := by decide +kernel
theorem dX6_term_77 : decode cX6_term 77 = .ok (.aload_n 0, 1) := by decide +kernel
theorem dX6_term_78 : decode cX6_term 78 = .ok (.getfield 10, 3) := by decide +kernel
theorem dX6_term_81 : decode cX6_term 81 = .ok (.getfield 155, 3) := by decide +kernel
theorem dX6_term_84 : decode cX6_term 84 = .ok (.invokevirtual 191, 3) := by decide +kernel
theorem dX6_term_87 : decode cX6_term 87 = .ok (.ireturn, 1) := by decide +kernel
theorem dX6_term_88 : decode cX6_term 88 = .ok (.aload_n 0, 1) := by decide +kernel
theorem dX6_term_89 : decode cX6_term 89 = .ok (.getfield 10, 3) := by decide +kernel
theorem dX6_term_92 : decode cX6_term 92 = .ok (.iload_n 1, 1) := by decide +kernel
theorem dX6_term_93 : decode cX6_term 93 = .ok (.invokevirtual 195, 3) := by decide +kernel
theorem dX6_term_96 : decode cX6_term 96 = .ok (.ifCond .eq 7, 3) := by decide +kernel
theorem dX6_term_99 : decode cX6_term 99 = .ok (.iconst 1, 1) := by decide +kernel
theorem dX6_term_100 : decode cX6_term 100 = .ok (.goto 4, 3) := by decide +kernel
theorem dX6_term_103 : decode cX6_term 103 = .ok (.iconst 0, 1) := by decide +kernel
theorem dX6_term_104 : decode cX6_term 104 = .ok (.ireturn, 1) := by decide +kernel
theorem dX6_term_105 : decode cX6_term 105 = .ok (.bipush (-3), 2) := by decide +kernel
theorem dX6_term_107 : decode cX6_term 107 = .ok (.ireturn, 1) := by decide +kernel
set_option maxRecDepth 20000 in
theorem ggX6_ring_X4_draw : GoodIn wsX6_ring wsX4_draw := goodIn_r _ [9, 10, 11, 12, 13, 14, 15, 16, 17, 18, 19, 20, 21, 22, 23, 24, 25, 65, 66, 67, 68, 69, 70, 59, 60, 61, 62, 63, 64] (by decide +kernel) (by decide +kernel)
set_option maxRecDepth 20000 in
theorem gX6_ring_X4_draw : GoodIn wsX6_ring (wsV RX6 179 RX4 yX4_draw wsX4_draw) := goodIn_app (goodIn_of _ (by decide +kernel)) ggX6_ring_X4_draw
set_option maxRecDepth 20000 in
theorem ggX6_ring_X4_findRing : GoodIn wsX6_ring wsX4_findRing := goodIn_r _ [29, 30, 11, 31, 32, 33, 8, 34, 35, 36, 37, 38, 39, 12, 24, 22, 25, 21, 23, 40, 41, 42, 43, 44, 45, 46, 47, 48, 59, 60, 61, 62, 63, 64] (by decide +kernel) (by decide +kernel)
set_option maxRecDepth 20000 in
theorem gX6_ring_X4_findRing : GoodIn wsX6_ring (wsV RX6 198 RX4 yX4_findRing wsX4_findRing) := goodIn_app (goodIn_of _ (by decide +kernel)) ggX6_ring_X4_findRing
theorem dX6_ring_0 : decode cX6_ring 0 = .ok (.iload_n 1, 1) := by decide +kernel
theorem dX6_ring_1 : decode cX6_ring 1 = .ok (.iconst (-1), 1) := by decide +kernel
theorem dX6_ring_2 : decode cX6_ring 2 = .ok (.if_icmp .ge 6, 3) := by decide +kernel
theorem dX6_ring_5 : decode cX6_ring 5 = .ok (.bipush (-3), 2) := by decide +kernel
theorem dX6_ring_7 : decode cX6_ring 7 = .ok (.ireturn, 1) := by decide +kernel
theorem dX6_ring_8 : decode cX6_ring 8 = .ok (.aload_n 0, 1) := by decide +kernel
theorem dX6_ring_9 : decode cX6_ring 9 = .ok (.getfield 57, 3) := by decide +kernel
theorem dX6_ring_12 : decode cX6_ring 12 = .ok (.aload_n 0, 1) := by decide +kernel
theorem dX6_ring_13 : decode cX6_ring 13 = .ok (.getfield 10, 3) := by decide +kernel
theorem dX6_ring_16 : decode cX6_ring 16 = .ok (.invokevirtual 179, 3) := by decide +kernel
theorem dX6_ring_19 : decode cX6_ring 19 = .ok (.aload_n 0, 1) := by decide +kernel
theorem dX6_ring_20 : decode cX6_ring 20 = .ok (.getfield 57, 3) := by decide +kernel
theorem dX6_ring_23 : decode cX6_ring 23 = .ok (.invokevirtual 198, 3) := by decide +kernel
theorem dX6_ring_26 : decode cX6_ring 26 = .ok (.iload_n 1, 1) := by decide +kernel
theorem dX6_ring_27 : decode cX6_ring 27 = .ok (.iconst (-1), 1) := by decide +kernel
theorem dX6_ring_28 : decode cX6_ring 28 = .ok (.if_icmp .ne 11, 3) := by decide +kernel
theorem dX6_ring_31 : decode cX6_ring 31 = .ok (.aload_n 0, 1) := by decide +kernel
theorem dX6_ring_32 : decode cX6_ring 32 = .ok (.getfield 57, 3) := by decide +kernel
theorem dX6_ring_35 : decode cX6_ring 35 = .ok (.getfield 201, 3) := by decide +kernel
theorem dX6_ring_38 : decode cX6_ring 38 = .ok (.ireturn, 1) := by decide +kernel
theorem dX6_ring_39 : decode cX6_ring 39 = .ok (.iload_n 1, 1) := by decide +kernel
theorem dX6_ring_40 : decode cX6_ring 40 = .ok (.aload_n 0, 1) := by decide +kernel
theorem dX6_ring_41 : decode cX6_ring 41 = .ok (.getfield 57, 3) := by decide +kernel
theorem dX6_ring_44 : decode cX6_ring 44 = .ok (.getfield 201, 3) := by decide +kernel
theorem dX6_ring_47 : decode cX6_ring 47 = .ok (.if_icmp .ge 15, 3) := by decide +kernel
theorem dX6_ring_50 : decode cX6_ring 50 = .ok (.aload_n 0, 1) := by decide +kernel
theorem dX6_ring_51 : decode cX6_ring 51 = .ok (.getfield 57, 3) := by decide +kernel
theorem dX6_ring_54 : decode cX6_ring 54 = .ok (.getfield 204, 3) := by decide +kernel
theorem dX6_ring_57 : decode cX6_ring 57 = .ok (.iload_n 1, 1) := by decide +kernel
theorem dX6_ring_58 : decode cX6_ring 58 = .ok (.iaload, 1) := by decide +kernel
theorem dX6_ring_59 : decode cX6_ring 59 = .ok (.goto 4, 3) := by decide +kernel
theorem dX6_ring_62 : decode cX6_ring 62 = .ok (.iconst (-1), 1) := by decide +kernel
theorem dX6_ring_63 : decode cX6_ring 63 = .ok (.ireturn, 1) := by decide +kernel
set_option maxRecDepth 20000 in
theorem ggX6_best_X3_hasPlace : GoodIn wsX6_best wsX3_hasPlace := goodIn_r _ [8, 9, 93, 94, 95, 96, 97, 98] (by decide +kernel) (by decide +kernel)
set_option maxRecDepth 20000 in
theorem gX6_best_X3_hasPlace : GoodIn wsX6_best (wsV RX6 160 RX3 yX3_hasPlace wsX3_hasPlace) := goodIn_app (goodIn_of _ (by decide +kernel)) ggX6_best_X3_hasPlace
set_option maxRecDepth 20000 in
theorem ggX6_best_X0_find : GoodIn wsX6_best wsX0_find := goodIn_r _ [14, 15, 16, 17, 18, 19, 20, 21, 22, 23, 7, 24, 9, 25, 26, 27, 28, 29, 30, 31, 32, 33, 34, 35, 36, 13, 37, 38, 39, 40, 41, 42, 43, 44, 45, 46, 47, 48, 49, 50, 51, 52, 53, 54, 55, 56, 57, 58, 59, 60, 61, 62, 63, 64, 65, 66, 67, 68, 69, 70, 71, 72, 73, 84, 85, 86, 87, 88, 89, 90, 91, 92, 93, 94, 95, 96, 97, 98] (by decide +kernel) (by decide +kernel)
set_option maxRecDepth 20000 in
theorem gX6_best_X0_find : GoodIn wsX6_best (wsV RX6 140 RX0 yX0_find wsX0_find) := goodIn_app (goodIn_of _ (by decide +kernel)) ggX6_best_X0_find
theorem dX6_best_0 : decode cX6_best 0 = .ok (.aload_n 0, 1) := by decide +kernel
theorem dX6_best_1 : decode cX6_best 1 = .ok (.getfield 10, 3) := by decide +kernel
theorem dX6_best_4 : decode cX6_best 4 = .ok (.iload_n 1, 1) := by decide +kernel
theorem dX6_best_5 : decode cX6_best 5 = .ok (.invokevirtual 160, 3) := by decide +kernel
theorem dX6_best_8 : decode cX6_best 8 = .ok (.ifCond .ne 6, 3) := by decide +kernel
theorem dX6_best_11 : decode cX6_best 11 = .ok (.bipush (-2), 2) := by decide +kernel
theorem dX6_best_13 : decode cX6_best 13 = .ok (.ireturn, 1) := by decide +kernel
theorem dX6_best_14 : decode cX6_best 14 = .ok (.aload_n 0, 1) := by decide +kernel
theorem dX6_best_15 : decode cX6_best 15 = .ok (.getfield 64, 3) := by decide +kernel
theorem dX6_best_18 : decode cX6_best 18 = .ok (.aload_n 0, 1) := by decide +kernel
theorem dX6_best_19 : decode cX6_best 19 = .ok (.getfield 10, 3) := by decide +kernel
theorem dX6_best_22 : decode cX6_best 22 = .ok (.invokevirtual 140, 3) := by decide +kernel
theorem dX6_best_25 : decode cX6_best 25 = .ok (.aload_n 0, 1) := by decide +kernel
theorem dX6_best_26 : decode cX6_best 26 = .ok (.getfield 64, 3) := by decide +kernel
theorem dX6_best_29 : decode cX6_best 29 = .ok (.getfield 143, 3) := by decide +kernel
theorem dX6_best_32 : decode cX6_best 32 = .ok (.iload_n 1, 1) := by decide +kernel
theorem dX6_best_33 : decode cX6_best 33 = .ok (.iaload, 1) := by decide +kernel
theorem dX6_best_34 : decode cX6_best 34 = .ok (.ireturn, 1) := by decide +kernel
set_option maxRecDepth 20000 in
theorem ggX6_least_X0_find : GoodIn wsX6_least wsX0_find := goodIn_r _ [10, 11, 12, 13, 14, 15, 16, 17, 18, 19, 20, 21, 22, 23, 24, 25, 26, 27, 28, 29, 30, 31, 32, 33, 34, 9, 35, 36, 37, 38, 39, 40, 41, 42, 43, 44, 45, 46, 47, 48, 49, 50, 51, 52, 53, 54, 55, 56, 57, 58, 59, 60, 61, 62, 63, 64, 65, 66, 67, 68, 69, 70, 71, 95, 96, 97, 98, 99, 100, 101, 102, 103, 104, 105, 106, 107, 108, 109] (by decide +kernel) (by decide +kernel)
set_option maxRecDepth 20000 in
theorem gX6_least_X0_find : GoodIn wsX6_least (wsV RX6 140 RX0 yX0_find wsX0_find) := goodIn_app (goodIn_of _ (by decide +kernel)) ggX6_least_X0_find
set_option maxRecDepth 20000 in
theorem ggX6_least_X3_notedTerms : GoodIn wsX6_least wsX3_notedTerms := goodIn_r _ [75, 22, 24, 76, 40, 41, 20, 42, 27, 43, 44, 45, 104, 105, 106, 107, 108, 109] (by decide +kernel) (by decide +kernel)
set_option maxRecDepth 20000 in
theorem gX6_least_X3_notedTerms : GoodIn wsX6_least (wsV RX6 207 RX3 yX3_notedTerms wsX3_notedTerms) := goodIn_app (goodIn_of _ (by decide +kernel)) ggX6_least_X3_notedTerms
set_option maxRecDepth 20000 in
theorem ggX6_least_X3_sumNoteLengths : GoodIn wsX6_least wsX3_sumNoteLengths := goodIn_r _ [80, 81, 82, 83, 20, 84, 27, 22, 24, 23, 54, 44, 55, 104, 105, 106, 107, 108, 109] (by decide +kernel) (by decide +kernel)
set_option maxRecDepth 20000 in
theorem gX6_least_X3_sumNoteLengths : GoodIn wsX6_least (wsV RX6 213 RX3 yX3_sumNoteLengths wsX3_sumNoteLengths) := goodIn_app (goodIn_of _ (by decide +kernel)) ggX6_least_X3_sumNoteLengths
theorem dX6_least_0 : decode cX6_least 0 = .ok (.iload_n 1, 1) := by decide +kernel
theorem dX6_least_1 : decode cX6_least 1 = .ok (.ifCond .lt 8, 3) := by decide +kernel
theorem dX6_least_4 : decode cX6_least 4 = .ok (.iload_n 1, 1) := by decide +kernel
theorem dX6_least_5 : decode cX6_least 5 = .ok (.iconst 3, 1) := by decide +kernel
theorem dX6_least_6 : decode cX6_least 6 = .ok (.if_icmp .le 6, 3) := by decide +kernel
theorem dX6_least_9 : decode cX6_least 9 = .ok (.bipush (-3), 2) := by decide +kernel
theorem dX6_least_11 : decode cX6_least 11 = .ok (.ireturn, 1) := by decide +kernel
theorem dX6_least_12 : decode cX6_least 12 = .ok (.aload_n 0, 1) := by decide +kernel
theorem dX6_least_13 : decode cX6_least 13 = .ok (.getfield 64, 3) := by decide +kernel
theorem dX6_least_16 : decode cX6_least 16 = .ok (.aload_n 0, 1) := by decide +kernel
theorem dX6_least_17 : decode cX6_least 17 = .ok (.getfield 10, 3) := by decide +kernel
theorem dX6_least_20 : decode cX6_least 20 = .ok (.invokevirtual 140, 3) := by decide +kernel
theorem dX6_least_23 : decode cX6_least 23 = .ok (.iload_n 1, 1) := by decide +kernel
theorem dX6_least_24 : decode cX6_least 24 = .ok (.tableswitch 59 0 2 #[28, 43, 51], 28) := by decide +kernel
theorem dX6_least_52 : decode cX6_least 52 = .ok (.aload_n 0, 1) := by decide +kernel
theorem dX6_least_53 : decode cX6_least 53 = .ok (.getfield 10, 3) := by decide +kernel
theorem dX6_least_56 : decode cX6_least 56 = .ok (.aload_n 0, 1) := by decide +kernel
theorem dX6_least_57 : decode cX6_least 57 = .ok (.getfield 64, 3) := by decide +kernel
theorem dX6_least_60 : decode cX6_least 60 = .ok (.getfield 143, 3) := by decide +kernel
theorem dX6_least_63 : decode cX6_least 63 = .ok (.invokevirtual 207, 3) := by decide +kernel
theorem dX6_least_66 : decode cX6_least 66 = .ok (.ireturn, 1) := by decide +kernel
theorem dX6_least_67 : decode cX6_least 67 = .ok (.aload_n 0, 1) := by decide +kernel
theorem dX6_least_68 : decode cX6_least 68 = .ok (.getfield 64, 3) := by decide +kernel
theorem dX6_least_71 : decode cX6_least 71 = .ok (.getfield 210, 3) := by decide +kernel
theorem dX6_least_74 : decode cX6_least 74 = .ok (.ireturn, 1) := by decide +kernel
theorem dX6_least_75 : decode cX6_least 75 = .ok (.aload_n 0, 1) := by decide +kernel
theorem dX6_least_76 : decode cX6_least 76 = .ok (.getfield 64, 3) := by decide +kernel
theorem dX6_least_79 : decode cX6_least 79 = .ok (.getfield 146, 3) := by decide +kernel
theorem dX6_least_82 : decode cX6_least 82 = .ok (.ireturn, 1) := by decide +kernel
theorem dX6_least_83 : decode cX6_least 83 = .ok (.aload_n 0, 1) := by decide +kernel
theorem dX6_least_84 : decode cX6_least 84 = .ok (.getfield 10, 3) := by decide +kernel
theorem dX6_least_87 : decode cX6_least 87 = .ok (.aload_n 0, 1) := by decide +kernel
theorem dX6_least_88 : decode cX6_least 88 = .ok (.getfield 64, 3) := by decide +kernel
theorem dX6_least_91 : decode cX6_least 91 = .ok (.getfield 143, 3) := by decide +kernel
theorem dX6_least_94 : decode cX6_least 94 = .ok (.invokevirtual 213, 3) := by decide +kernel
theorem dX6_least_97 : decode cX6_least 97 = .ok (.ireturn, 1) := by decide +kernel
set_option maxRecDepth 20000 in
theorem ggX6_would_X3_hasSection : GoodIn wsX6_would wsX3_hasSection := goodIn_r _ [10, 11, 91, 92, 93, 94, 95, 96] (by decide +kernel) (by decide +kernel)
set_option maxRecDepth 20000 in
theorem gX6_would_X3_hasSection : GoodIn wsX6_would (wsV RX6 93 RX3 yX3_hasSection wsX3_hasSection) := goodIn_app (goodIn_of _ (by decide +kernel)) ggX6_would_X3_hasSection
set_option maxRecDepth 20000 in
theorem ggX6_would_X6_isTerm : GoodIn wsX6_would wsX6_isTerm := goodIn_r _ [15] (by decide +kernel) (by decide +kernel)
set_option maxRecDepth 20000 in
theorem gX6_would_X6_isTerm : GoodIn wsX6_would (va_wsS RX6 103 yX6_isTerm wsX6_isTerm) := goodIn_app (goodIn_of _ (by decide +kernel)) ggX6_would_X6_isTerm
set_option maxRecDepth 20000 in
theorem ggX6_would_X3_become : GoodIn wsX6_would wsX3_become := goodIn_r _ [19, 11, 20, 21, 22, 23, 24, 91, 92, 93, 94, 95, 96] (by decide +kernel) (by decide +kernel)
set_option maxRecDepth 20000 in
theorem gX6_would_X3_become : GoodIn wsX6_would (wsV RX6 79 RX3 yX3_become wsX3_become) := goodIn_app (goodIn_of _ (by decide +kernel)) ggX6_would_X3_become
set_option maxRecDepth 20000 in
theorem ggX6_would_X6_with : GoodIn wsX6_would wsX6_with := goodIn_r _ [27] (by decide +kernel) (by decide +kernel)
set_option maxRecDepth 20000 in
theorem gX6_would_X6_with : GoodIn wsX6_would (va_wsS RX6 109 yX6_with wsX6_with) := goodIn_app (goodIn_of _ (by decide +kernel)) ggX6_would_X6_with
set_option maxRecDepth 20000 in
theorem ggX6_would_X0_find : GoodIn wsX6_would wsX0_find := goodIn_r _ [32, 33, 34, 35, 36, 37, 38, 39, 40, 41, 9, 42, 11, 20, 21, 22, 23, 24, 43, 17, 18, 19, 44, 45, 46, 31, 47, 48, 49, 50, 51, 52, 53, 54, 26, 14, 27, 55, 56, 57, 58, 59, 60, 61, 62, 63, 64, 65, 66, 67, 68, 69, 70, 71, 72, 73, 74, 75, 76, 77, 78, 79, 80, 97, 98, 99, 100, 101, 102, 103, 104, 105, 91, 92, 93, 94, 95, 96] (by decide +kernel) (by decide +kernel)
set_option maxRecDepth 20000 in
theorem gX6_would_X0_find : GoodIn wsX6_would (wsV RX6 140 RX0 yX0_find wsX0_find) := goodIn_app (goodIn_of _ (by decide +kernel)) ggX6_would_X0_find
theorem dX6_would_0 : decode cX6_would 0 = .ok (.aload_n 0, 1) := by decide +kernel
theorem dX6_would_1 : decode cX6_would 1 = .ok (.getfield 10, 3) := by decide +kernel
theorem dX6_would_4 : decode cX6_would 4 = .ok (.iload_n 1, 1) := by decide +kernel
theorem dX6_would_5 : decode cX6_would 5 = .ok (.invokevirtual 93, 3) := by decide +kernel
theorem dX6_would_8 : decode cX6_would 8 = .ok (.ifCond .eq 10, 3) := by decide +kernel
theorem dX6_would_11 : decode cX6_would 11 = .ok (.iload_n 2, 1) := by decide +kernel
theorem dX6_would_12 : decode cX6_would 12 = .ok (.invokestatic 103, 3) := by decide +kernel
theorem dX6_would_15 : decode cX6_would 15 = .ok (.ifCond .ne 6, 3) := by decide +kernel
theorem dX6_would_18 : decode cX6_would 18 = .ok (.bipush (-2), 2) := by decide +kernel
theorem dX6_would_20 : decode cX6_would 20 = .ok (.ireturn, 1) := by decide +kernel
theorem dX6_would_21 : decode cX6_would 21 = .ok (.aload_n 0, 1) := by decide +kernel
theorem dX6_would_22 : decode cX6_would 22 = .ok (.getfield 16, 3) := by decide +kernel
theorem dX6_would_25 : decode cX6_would 25 = .ok (.aload_n 0, 1) := by decide +kernel
theorem dX6_would_26 : decode cX6_would 26 = .ok (.getfield 10, 3) := by decide +kernel
theorem dX6_would_29 : decode cX6_would 29 = .ok (.invokevirtual 79, 3) := by decide +kernel
theorem dX6_would_32 : decode cX6_would 32 = .ok (.aload_n 0, 1) := by decide +kernel
theorem dX6_would_33 : decode cX6_would 33 = .ok (.getfield 16, 3) := by decide +kernel
theorem dX6_would_36 : decode cX6_would 36 = .ok (.getfield 106, 3) := by decide +kernel
theorem dX6_would_39 : decode cX6_would 39 = .ok (.iload_n 1, 1) := by decide +kernel
theorem dX6_would_40 : decode cX6_would 40 = .ok (.aload_n 0, 1) := by decide +kernel
theorem dX6_would_41 : decode cX6_would 41 = .ok (.getfield 16, 3) := by decide +kernel
theorem dX6_would_44 : decode cX6_would 44 = .ok (.getfield 106, 3) := by decide +kernel
theorem dX6_would_47 : decode cX6_would 47 = .ok (.iload_n 1, 1) := by decide +kernel
theorem dX6_would_48 : decode cX6_would 48 = .ok (.iaload, 1) := by decide +kernel
theorem dX6_would_49 : decode cX6_would 49 = .ok (.iload_n 2, 1) := by decide +kernel
theorem dX6_would_50 : decode cX6_would 50 = .ok (.invokestatic 109, 3) := by decide +kernel
theorem dX6_would_53 : decode cX6_would 53 = .ok (.iastore, 1) := by decide +kernel
theorem dX6_would_54 : decode cX6_would 54 = .ok (.aload_n 0, 1) := by decide +kernel
theorem dX6_would_55 : decode cX6_would 55 = .ok (.getfield 64, 3) := by decide +kernel
theorem dX6_would_58 : decode cX6_would 58 = .ok (.aload_n 0, 1) := by decide +kernel
theorem dX6_would_59 : decode cX6_would 59 = .ok (.getfield 16, 3) := by decide +kernel
theorem dX6_would_62 : decode cX6_would 62 = .ok (.invokevirtual 140, 3) := by decide +kernel
theorem dX6_would_65 : decode cX6_would 65 = .ok (.aload_n 0, 1) := by decide +kernel
theorem dX6_would_66 : decode cX6_would 66 = .ok (.getfield 64, 3) := by decide +kernel
theorem dX6_would_69 : decode cX6_would 69 = .ok (.getfield 210, 3) := by decide +kernel
theorem dX6_would_72 : decode cX6_would 72 = .ok (.ireturn, 1) := by decide +kernel
set_option maxRecDepth 20000 in
theorem ggX6_after_X6_tryMove : GoodIn wsX6_after wsX6_tryMove := goodIn_r _ [5, 6, 7, 8, 9, 10, 11, 12, 13, 14, 15, 16, 17, 18, 19, 20, 21, 22, 23, 24, 25, 26, 27, 28, 29, 30, 31, 32, 4, 33, 34, 35, 36, 37, 38, 39, 40, 41, 42, 43, 44, 45, 46, 47, 48, 49, 50, 51, 52, 53, 54, 55, 56, 57, 58, 59, 60, 61, 62, 63, 64, 65, 66, 67, 68, 69, 70] (by decide +kernel) (by decide +kernel)
set_option maxRecDepth 20000 in
theorem gX6_after_X6_tryMove : GoodIn wsX6_after (wsV RX6 133 RX6 yX6_tryMove wsX6_tryMove) := goodIn_app (goodIn_of _ (by decide +kernel)) ggX6_after_X6_tryMove
theorem dX6_after_0 : decode cX6_after 0 = .ok (.aload_n 0, 1) := by decide +kernel
theorem dX6_after_1 : decode cX6_after 1 = .ok (.iload_n 1, 1) := by decide +kernel
theorem dX6_after_2 : decode cX6_after 2 = .ok (.iload_n 2, 1) := by decide +kernel
theorem dX6_after_3 : decode cX6_after 3 = .ok (.invokevirtual 133, 3) := by decide +kernel
theorem dX6_after_6 : decode cX6_after 6 = .ok (.ireturn, 1) := by decide +kernel
set_option maxRecDepth 20000 in
theorem ggX6_count_X3_countNotes : GoodIn wsX6_count wsX3_countNotes := goodIn_r _ [13, 14, 15, 16, 12, 17, 18, 19, 20, 21, 22, 23, 24, 25, 26, 27, 28, 29, 30, 31, 32, 33, 34, 120, 121, 122, 123, 124, 125] (by decide +kernel) (by decide +kernel)
set_option maxRecDepth 20000 in
theorem gX6_count_X3_countNotes : GoodIn wsX6_count (wsV RX6 156 RX3 yX3_countNotes wsX3_countNotes) := goodIn_app (goodIn_of _ (by decide +kernel)) ggX6_count_X3_countNotes
set_option maxRecDepth 20000 in
theorem ggX6_count_X3_countLoose : GoodIn wsX6_count wsX3_countLoose := goodIn_r _ [38, 39, 40, 41, 12, 42, 24, 43, 44, 45, 46, 18, 19, 47, 26, 48, 25, 27, 120, 121, 122, 123, 124, 125] (by decide +kernel) (by decide +kernel)
set_option maxRecDepth 20000 in
theorem gX6_count_X3_countLoose : GoodIn wsX6_count (wsV RX6 219 RX3 yX3_countLoose wsX3_countLoose) := goodIn_app (goodIn_of _ (by decide +kernel)) ggX6_count_X3_countLoose
set_option maxRecDepth 20000 in
theorem ggX6_count_X3_countHomes : GoodIn wsX6_count wsX3_countHomes := goodIn_r _ [52, 24, 120, 121, 122, 123, 124, 125] (by decide +kernel) (by decide +kernel)
set_option maxRecDepth 20000 in
theorem gX6_count_X3_countHomes : GoodIn wsX6_count (wsV RX6 222 RX3 yX3_countHomes wsX3_countHomes) := goodIn_app (goodIn_of _ (by decide +kernel)) ggX6_count_X3_countHomes
set_option maxRecDepth 20000 in
theorem ggX6_count_X3_countUses : GoodIn wsX6_count wsX3_countUses := goodIn_r _ [56, 18, 19, 28, 29, 30, 31, 32, 33, 34, 120, 121, 122, 123, 124, 125] (by decide +kernel) (by decide +kernel)
set_option maxRecDepth 20000 in
theorem gX6_count_X3_countUses : GoodIn wsX6_count (wsV RX6 225 RX3 yX3_countUses wsX3_countUses) := goodIn_app (goodIn_of _ (by decide +kernel)) ggX6_count_X3_countUses
set_option maxRecDepth 20000 in
theorem ggX6_count_X3_countEarly : GoodIn wsX6_count wsX3_countEarly := goodIn_r _ [60, 18, 61, 62, 63, 12, 64, 65, 19, 66, 67, 68, 69, 20, 21, 22, 23, 24, 25, 26, 27, 28, 29, 30, 31, 32, 33, 34, 120, 121, 122, 123, 124, 125] (by decide +kernel) (by decide +kernel)
set_option maxRecDepth 20000 in
theorem gX6_count_X3_countEarly : GoodIn wsX6_count (wsV RX6 228 RX3 yX3_countEarly wsX3_countEarly) := goodIn_app (goodIn_of _ (by decide +kernel)) ggX6_count_X3_countEarly
set_option maxRecDepth 20000 in
theorem ggX6_count_X3_countPrecedences : GoodIn wsX6_count wsX3_countPrecedences := goodIn_r _ [73, 18, 74, 28, 29, 30, 31, 32, 33, 34, 120, 121, 122, 123, 124, 125] (by decide +kernel) (by decide +kernel)
set_option maxRecDepth 20000 in
theorem gX6_count_X3_countPrecedences : GoodIn wsX6_count (wsV RX6 126 RX3 yX3_countPrecedences wsX3_countPrecedences) := goodIn_app (goodIn_of _ (by decide +kernel)) ggX6_count_X3_countPrecedences
set_option maxRecDepth 20000 in
theorem ggX6_count_X3_sumNoteLengths : GoodIn wsX6_count wsX3_sumNoteLengths := goodIn_r _ [78, 79, 80, 81, 12, 82, 24, 18, 19, 83, 47, 26, 48, 120, 121, 122, 123, 124, 125] (by decide +kernel) (by decide +kernel)
set_option maxRecDepth 20000 in
theorem gX6_count_X3_sumNoteLengths : GoodIn wsX6_count (wsV RX6 213 RX3 yX3_sumNoteLengths wsX3_sumNoteLengths) := goodIn_app (goodIn_of _ (by decide +kernel)) ggX6_count_X3_sumNoteLengths
set_option maxRecDepth 20000 in
theorem ggX6_count_X4_draw : GoodIn wsX6_count wsX4_draw := goodIn_r _ [88, 89, 90, 91, 92, 93, 94, 95, 12, 96, 24, 19, 47, 26, 48, 25, 27, 120, 121, 122, 123, 124, 125, 134, 135, 136, 137, 138, 139] (by decide +kernel) (by decide +kernel)
set_option maxRecDepth 20000 in
theorem gX6_count_X4_draw : GoodIn wsX6_count (wsV RX6 179 RX4 yX4_draw wsX4_draw) := goodIn_app (goodIn_of _ (by decide +kernel)) ggX6_count_X4_draw
set_option maxRecDepth 20000 in
theorem ggX6_count_X4_countLargeComponents : GoodIn wsX6_count wsX4_countLargeComponents := goodIn_r _ [100, 90, 101, 102, 103, 87, 104, 92, 47, 26, 48, 25, 27, 105, 29, 30, 31, 32, 33, 34, 134, 135, 136, 137, 138, 139] (by decide +kernel) (by decide +kernel)
set_option maxRecDepth 20000 in
theorem gX6_count_X4_countLargeComponents : GoodIn wsX6_count (wsV RX6 231 RX4 yX4_countLargeComponents wsX4_countLargeComponents) := goodIn_app (goodIn_of _ (by decide +kernel)) ggX6_count_X4_countLargeComponents
set_option maxRecDepth 20000 in
theorem ggX6_count_X3_sumPages : GoodIn wsX6_count wsX3_sumPages := goodIn_r _ [109, 18, 83, 120, 121, 122, 123, 124, 125] (by decide +kernel) (by decide +kernel)
set_option maxRecDepth 20000 in
theorem gX6_count_X3_sumPages : GoodIn wsX6_count (wsV RX6 234 RX3 yX3_sumPages wsX3_sumPages) := goodIn_app (goodIn_of _ (by decide +kernel)) ggX6_count_X3_sumPages
theorem dX6_count_0 : decode cX6_count 0 = .ok (.iload_n 1, 1) := by decide +kernel
theorem dX6_count_1 : decode cX6_count 1 = .ok (.tableswitch 184 0 11 #[63, 71, 86, 94, 102, 110, 118, 126, 141, 160, 168, 176], 63) := by decide +kernel
theorem dX6_count_64 : decode cX6_count 64 = .ok (.aload_n 0, 1) := by decide +kernel
theorem dX6_count_65 : decode cX6_count 65 = .ok (.getfield 10, 3) := by decide +kernel
theorem dX6_count_68 : decode cX6_count 68 = .ok (.getfield 216, 3) := by decide +kernel
theorem dX6_count_71 : decode cX6_count 71 = .ok (.ireturn, 1) := by decide +kernel
theorem dX6_count_72 : decode cX6_count 72 = .ok (.aload_n 0, 1) := by decide +kernel
theorem dX6_count_73 : decode cX6_count 73 = .ok (.getfield 10, 3) := by decide +kernel
theorem dX6_count_76 : decode cX6_count 76 = .ok (.aload_n 0, 1) := by decide +kernel
theorem dX6_count_77 : decode cX6_count 77 = .ok (.getfield 10, 3) := by decide +kernel
theorem dX6_count_80 : decode cX6_count 80 = .ok (.getfield 155, 3) := by decide +kernel
theorem dX6_count_83 : decode cX6_count 83 = .ok (.invokevirtual 156, 3) := by decide +kernel
theorem dX6_count_86 : decode cX6_count 86 = .ok (.ireturn, 1) := by decide +kernel
theorem dX6_count_87 : decode cX6_count 87 = .ok (.aload_n 0, 1) := by decide +kernel
theorem dX6_count_88 : decode cX6_count 88 = .ok (.getfield 10, 3) := by decide +kernel
theorem dX6_count_91 : decode cX6_count 91 = .ok (.invokevirtual 219, 3) := by decide +kernel
theorem dX6_count_94 : decode cX6_count 94 = .ok (.ireturn, 1) := by decide +kernel
theorem dX6_count_95 : decode cX6_count 95 = .ok (.aload_n 0, 1) := by decide +kernel
theorem dX6_count_96 : decode cX6_count 96 = .ok (.getfield 10, 3) := by decide +kernel
theorem dX6_count_99 : decode cX6_count 99 = .ok (.invokevirtual 222, 3) := by decide +kernel
theorem dX6_count_102 : decode cX6_count 102 = .ok (.ireturn, 1) := by decide +kernel
theorem dX6_count_103 : decode cX6_count 103 = .ok (.aload_n 0, 1) := by decide +kernel
theorem dX6_count_104 : decode cX6_count 104 = .ok (.getfield 10, 3) := by decide +kernel
theorem dX6_count_107 : decode cX6_count 107 = .ok (.invokevirtual 225, 3) := by decide +kernel
theorem dX6_count_110 : decode cX6_count 110 = .ok (.ireturn, 1) := by decide +kernel
theorem dX6_count_111 : decode cX6_count 111 = .ok (.aload_n 0, 1) := by decide +kernel
theorem dX6_count_112 : decode cX6_count 112 = .ok (.getfield 10, 3) := by decide +kernel
theorem dX6_count_115 : decode cX6_count 115 = .ok (.invokevirtual 228, 3) := by decide +kernel
theorem dX6_count_118 : decode cX6_count 118 = .ok (.ireturn, 1) := by decide +kernel
theorem dX6_count_119 : decode cX6_count 119 = .ok (.aload_n 0, 1) := by decide +kernel
theorem dX6_count_120 : decode cX6_count 120 = .ok (.getfield 10, 3) := by decide +kernel
theorem dX6_count_123 : decode cX6_count 123 = .ok (.invokevirtual 126, 3) := by decide +kernel
theorem dX6_count_126 : decode cX6_count 126 = .ok (.ireturn, 1) := by decide +kernel
theorem dX6_count_127 : decode cX6_count 127 = .ok (.aload_n 0, 1) := by decide +kernel
theorem dX6_count_128 : decode cX6_count 128 = .ok (.getfield 10, 3) := by decide +kernel
theorem dX6_count_131 : decode cX6_count 131 = .ok (.aload_n 0, 1) := by decide +kernel
theorem dX6_count_132 : decode cX6_count 132 = .ok (.getfield 10, 3) := by decide +kernel
theorem dX6_count_135 : decode cX6_count 135 = .ok (.getfield 155, 3) := by decide +kernel
theorem dX6_count_138 : decode cX6_count 138 = .ok (.invokevirtual 213, 3) := by decide +kernel
theorem dX6_count_141 : decode cX6_count 141 = .ok (.ireturn, 1) := by decide +kernel
theorem dX6_count_142 : decode cX6_count 142 = .ok (.aload_n 0, 1) := by decide +kernel
theorem dX6_count_143 : decode cX6_count 143 = .ok (.getfield 57, 3) := by decide +kernel
theorem dX6_count_146 : decode cX6_count 146 = .ok (.aload_n 0, 1) := by decide +kernel
theorem dX6_count_147 : decode cX6_count 147 = .ok (.getfield 10, 3) := by decide +kernel
theorem dX6_count_150 : decode cX6_count 150 = .ok (.invokevirtual 179, 3) := by decide +kernel
theorem dX6_count_153 : decode cX6_count 153 = .ok (.aload_n 0, 1) := by decide +kernel
theorem dX6_count_154 : decode cX6_count 154 = .ok (.getfield 57, 3) := by decide +kernel
theorem dX6_count_157 : decode cX6_count 157 = .ok (.invokevirtual 231, 3) := by decide +kernel
theorem dX6_count_160 : decode cX6_count 160 = .ok (.ireturn, 1) := by decide +kernel
theorem dX6_count_161 : decode cX6_count 161 = .ok (.aload_n 0, 1) := by decide +kernel
theorem dX6_count_162 : decode cX6_count 162 = .ok (.getfield 42, 3) := by decide +kernel
theorem dX6_count_165 : decode cX6_count 165 = .ok (.getfield 149, 3) := by decide +kernel
theorem dX6_count_168 : decode cX6_count 168 = .ok (.ireturn, 1) := by decide +kernel
theorem dX6_count_169 : decode cX6_count 169 = .ok (.aload_n 0, 1) := by decide +kernel
theorem dX6_count_170 : decode cX6_count 170 = .ok (.getfield 26, 3) := by decide +kernel
theorem dX6_count_173 : decode cX6_count 173 = .ok (.getfield 68, 3) := by decide +kernel
theorem dX6_count_176 : decode cX6_count 176 = .ok (.ireturn, 1) := by decide +kernel
theorem dX6_count_177 : decode cX6_count 177 = .ok (.aload_n 0, 1) := by decide +kernel
theorem dX6_count_178 : decode cX6_count 178 = .ok (.getfield 10, 3) := by decide +kernel
theorem dX6_count_181 : decode cX6_count 181 = .ok (.invokevirtual 234, 3) := by decide +kernel
theorem dX6_count_184 : decode cX6_count 184 = .ok (.ireturn, 1) := by decide +kernel
theorem dX6_count_185 : decode cX6_count 185 = .ok (.bipush (-3), 2) := by decide +kernel
theorem dX6_count_187 : decode cX6_count 187 = .ok (.ireturn, 1) := by decide +kernel
set_option maxRecDepth 20000 in
theorem ggX6_tryMove_X3_hasSection : GoodIn wsX6_tryMove wsX3_hasSection := goodIn_r _ [7, 8, 61, 62, 63, 64, 65, 66] (by decide +kernel) (by decide +kernel)
set_option maxRecDepth 20000 in
theorem gX6_tryMove_X3_hasSection : GoodIn wsX6_tryMove (wsV RX6 93 RX3 yX3_hasSection wsX3_hasSection) := goodIn_app (goodIn_of _ (by decide +kernel)) ggX6_tryMove_X3_hasSection
set_option maxRecDepth 20000 in
theorem ggX6_tryMove_X3_hasPlace : GoodIn wsX6_tryMove wsX3_hasPlace := goodIn_r _ [12, 8, 61, 62, 63, 64, 65, 66] (by decide +kernel) (by decide +kernel)
set_option maxRecDepth 20000 in
theorem gX6_tryMove_X3_hasPlace : GoodIn wsX6_tryMove (wsV RX6 160 RX3 yX3_hasPlace wsX3_hasPlace) := goodIn_app (goodIn_of _ (by decide +kernel)) ggX6_tryMove_X3_hasPlace
set_option maxRecDepth 20000 in
theorem ggX6_tryMove_X3_orderAfterMove : GoodIn wsX6_tryMove wsX3_orderAfterMove := goodIn_r _ [16, 8, 17, 18, 19, 20, 6, 21, 61, 62, 63, 64, 65, 66] (by decide +kernel) (by decide +kernel)
set_option maxRecDepth 20000 in
theorem gX6_tryMove_X3_orderAfterMove : GoodIn wsX6_tryMove (wsV RX6 237 RX3 yX3_orderAfterMove wsX3_orderAfterMove) := goodIn_app (goodIn_of _ (by decide +kernel)) ggX6_tryMove_X3_orderAfterMove
set_option maxRecDepth 20000 in
theorem ggX6_tryMove_X3_respectsPrecedences : GoodIn wsX6_tryMove wsX3_respectsPrecedences := goodIn_r _ [25, 8, 26, 27, 28, 29, 61, 62, 63, 64, 65, 66] (by decide +kernel) (by decide +kernel)
set_option maxRecDepth 20000 in
theorem gX6_tryMove_X3_respectsPrecedences : GoodIn wsX6_tryMove (wsV RX6 241 RX3 yX3_respectsPrecedences wsX3_respectsPrecedences) := goodIn_app (goodIn_of _ (by decide +kernel)) ggX6_tryMove_X3_respectsPrecedences
set_option maxRecDepth 20000 in
theorem ggX6_tryMove_X3_countNotes : GoodIn wsX6_tryMove wsX3_countNotes := goodIn_r _ [33, 34, 35, 36, 6, 37, 8, 38, 39, 40, 41, 42, 43, 27, 28, 29, 44, 45, 46, 47, 48, 49, 50, 61, 62, 63, 64, 65, 66] (by decide +kernel) (by decide +kernel)
set_option maxRecDepth 20000 in
theorem gX6_tryMove_X3_countNotes : GoodIn wsX6_tryMove (wsV RX6 156 RX3 yX3_countNotes wsX3_countNotes) := goodIn_app (goodIn_of _ (by decide +kernel)) ggX6_tryMove_X3_countNotes
theorem dX6_tryMove_0 : decode cX6_tryMove 0 = .ok (.aload_n 0, 1) := by decide +kernel
theorem dX6_tryMove_1 : decode cX6_tryMove 1 = .ok (.getfield 10, 3) := by decide +kernel
theorem dX6_tryMove_4 : decode cX6_tryMove 4 = .ok (.iload_n 1, 1) := by decide +kernel
theorem dX6_tryMove_5 : decode cX6_tryMove 5 = .ok (.invokevirtual 93, 3) := by decide +kernel
theorem dX6_tryMove_8 : decode cX6_tryMove 8 = .ok (.ifCond .eq 14, 3) := by decide +kernel
theorem dX6_tryMove_11 : decode cX6_tryMove 11 = .ok (.aload_n 0, 1) := by decide +kernel
theorem dX6_tryMove_12 : decode cX6_tryMove 12 = .ok (.getfield 10, 3) := by decide +kernel
theorem dX6_tryMove_15 : decode cX6_tryMove 15 = .ok (.iload_n 2, 1) := by decide +kernel
theorem dX6_tryMove_16 : decode cX6_tryMove 16 = .ok (.invokevirtual 160, 3) := by decide +kernel
theorem dX6_tryMove_19 : decode cX6_tryMove 19 = .ok (.ifCond .ne 6, 3) := by decide +kernel
theorem dX6_tryMove_22 : decode cX6_tryMove 22 = .ok (.bipush (-2), 2) := by decide +kernel
theorem dX6_tryMove_24 : decode cX6_tryMove 24 = .ok (.ireturn, 1) := by decide +kernel
theorem dX6_tryMove_25 : decode cX6_tryMove 25 = .ok (.aload_n 0, 1) := by decide +kernel
theorem dX6_tryMove_26 : decode cX6_tryMove 26 = .ok (.getfield 10, 3) := by decide +kernel
theorem dX6_tryMove_29 : decode cX6_tryMove 29 = .ok (.iload_n 1, 1) := by decide +kernel
theorem dX6_tryMove_30 : decode cX6_tryMove 30 = .ok (.iload_n 2, 1) := by decide +kernel
theorem dX6_tryMove_31 : decode cX6_tryMove 31 = .ok (.aload_n 0, 1) := by decide +kernel
theorem dX6_tryMove_32 : decode cX6_tryMove 32 = .ok (.getfield 19, 3) := by decide +kernel
theorem dX6_tryMove_35 : decode cX6_tryMove 35 = .ok (.invokevirtual 237, 3) := by decide +kernel
theorem dX6_tryMove_38 : decode cX6_tryMove 38 = .ok (.aload_n 0, 1) := by decide +kernel
theorem dX6_tryMove_39 : decode cX6_tryMove 39 = .ok (.getfield 10, 3) := by decide +kernel
theorem dX6_tryMove_42 : decode cX6_tryMove 42 = .ok (.aload_n 0, 1) := by decide +kernel
theorem dX6_tryMove_43 : decode cX6_tryMove 43 = .ok (.getfield 19, 3) := by decide +kernel
theorem dX6_tryMove_46 : decode cX6_tryMove 46 = .ok (.invokevirtual 241, 3) := by decide +kernel
theorem dX6_tryMove_49 : decode cX6_tryMove 49 = .ok (.ifCond .ne 6, 3) := by decide +kernel
theorem dX6_tryMove_52 : decode cX6_tryMove 52 = .ok (.bipush (-4), 2) := by decide +kernel
theorem dX6_tryMove_54 : decode cX6_tryMove 54 = .ok (.ireturn, 1) := by decide +kernel
theorem dX6_tryMove_55 : decode cX6_tryMove 55 = .ok (.aload_n 0, 1) := by decide +kernel
theorem dX6_tryMove_56 : decode cX6_tryMove 56 = .ok (.getfield 10, 3) := by decide +kernel
theorem dX6_tryMove_59 : decode cX6_tryMove 59 = .ok (.aload_n 0, 1) := by decide +kernel
theorem dX6_tryMove_60 : decode cX6_tryMove 60 = .ok (.getfield 19, 3) := by decide +kernel
theorem dX6_tryMove_63 : decode cX6_tryMove 63 = .ok (.invokevirtual 156, 3) := by decide +kernel
theorem dX6_tryMove_66 : decode cX6_tryMove 66 = .ok (.ireturn, 1) := by decide +kernel
theorem dX6_isTerm_0 : decode cX6_isTerm 0 = .ok (.iload_n 0, 1) := by decide +kernel
theorem dX6_isTerm_1 : decode cX6_isTerm 1 = .ok (.ifCond .lt 13, 3) := by decide +kernel
theorem dX6_isTerm_4 : decode cX6_isTerm 4 = .ok (.iload_n 0, 1) := by decide +kernel
theorem dX6_isTerm_5 : decode cX6_isTerm 5 = .ok (.bipush 12, 2) := by decide +kernel
theorem dX6_isTerm_7 : decode cX6_isTerm 7 = .ok (.if_icmp .ge 7, 3) := by decide +kernel
theorem dX6_isTerm_10 : decode cX6_isTerm 10 = .ok (.iconst 1, 1) := by decide +kernel
theorem dX6_isTerm_11 : decode cX6_isTerm 11 = .ok (.goto 4, 3) := by decide +kernel
theorem dX6_isTerm_14 : decode cX6_isTerm 14 = .ok (.iconst 0, 1) := by decide +kernel
theorem dX6_isTerm_15 : decode cX6_isTerm 15 = .ok (.ireturn, 1) := by decide +kernel
theorem dX6_has_0 : decode cX6_has 0 = .ok (.iload_n 0, 1) := by decide +kernel
theorem dX6_has_1 : decode cX6_has 1 = .ok (.iconst 1, 1) := by decide +kernel
theorem dX6_has_2 : decode cX6_has 2 = .ok (.iload_n 1, 1) := by decide +kernel
theorem dX6_has_3 : decode cX6_has 3 = .ok (.ishl, 1) := by decide +kernel
theorem dX6_has_4 : decode cX6_has 4 = .ok (.iand, 1) := by decide +kernel
theorem dX6_has_5 : decode cX6_has 5 = .ok (.ifCond .eq 7, 3) := by decide +kernel
theorem dX6_has_8 : decode cX6_has 8 = .ok (.iconst 1, 1) := by decide +kernel
theorem dX6_has_9 : decode cX6_has 9 = .ok (.goto 4, 3) := by decide +kernel
theorem dX6_has_12 : decode cX6_has 12 = .ok (.iconst 0, 1) := by decide +kernel
theorem dX6_has_13 : decode cX6_has 13 = .ok (.ireturn, 1) := by decide +kernel
theorem dX6_with_0 : decode cX6_with 0 = .ok (.iload_n 0, 1) := by decide +kernel
theorem dX6_with_1 : decode cX6_with 1 = .ok (.iconst 1, 1) := by decide +kernel
theorem dX6_with_2 : decode cX6_with 2 = .ok (.iload_n 1, 1) := by decide +kernel
theorem dX6_with_3 : decode cX6_with 3 = .ok (.ishl, 1) := by decide +kernel
theorem dX6_with_4 : decode cX6_with 4 = .ok (.ior, 1) := by decide +kernel
theorem dX6_with_5 : decode cX6_with 5 = .ok (.ireturn, 1) := by decide +kernel
theorem dX6_without_0 : decode cX6_without 0 = .ok (.iload_n 0, 1) := by decide +kernel
theorem dX6_without_1 : decode cX6_without 1 = .ok (.iconst 1, 1) := by decide +kernel
theorem dX6_without_2 : decode cX6_without 2 = .ok (.iload_n 1, 1) := by decide +kernel
theorem dX6_without_3 : decode cX6_without 3 = .ok (.ishl, 1) := by decide +kernel
theorem dX6_without_4 : decode cX6_without 4 = .ok (.iconst (-1), 1) := by decide +kernel
theorem dX6_without_5 : decode cX6_without 5 = .ok (.ixor, 1) := by decide +kernel
theorem dX6_without_6 : decode cX6_without 6 = .ok (.iand, 1) := by decide +kernel
theorem dX6_without_7 : decode cX6_without 7 = .ok (.ireturn, 1) := by decide +kernel
set_option maxRecDepth 20000 in
theorem ggX7_init_X7_begins : GoodIn wsX7_init wsX7_begins := goodIn_r _ [17, 5, 18, 19, 20, 21, 22, 23, 24, 25, 26, 27, 28, 29, 30, 31] (by decide +kernel) (by decide +kernel)
set_option maxRecDepth 20000 in
theorem gX7_init_X7_begins : GoodIn wsX7_init (wsV RX7 32 RX7 yX7_begins wsX7_begins) := goodIn_app (goodIn_of _ (by decide +kernel)) ggX7_init_X7_begins
theorem dX7_init_0 : decode cX7_init 0 = .ok (.aload_n 0, 1) := by decide +kernel
theorem dX7_init_1 : decode cX7_init 1 = .ok (.invokespecial 1, 3) := by decide +kernel
theorem dX7_init_4 : decode cX7_init 4 = .ok (.aload_n 0, 1) := by decide +kernel
theorem dX7_init_5 : decode cX7_init 5 = .ok (.sipush 583, 3) := by decide +kernel
theorem dX7_init_8 : decode cX7_init 8 = .ok (.newarray .int, 2) := by decide +kernel
theorem dX7_init_10 : decode cX7_init 10 = .ok (.putfield 7, 3) := by decide +kernel
theorem dX7_init_13 : decode cX7_init 13 = .ok (.aload_n 0, 1) := by decide +kernel
theorem dX7_init_14 : decode cX7_init 14 = .ok (.iconst 2, 1) := by decide +kernel
theorem dX7_init_15 : decode cX7_init 15 = .ok (.newarray .boolean, 2) := by decide +kernel
theorem dX7_init_17 : decode cX7_init 17 = .ok (.putfield 13, 3) := by decide +kernel
theorem dX7_init_20 : decode cX7_init 20 = .ok (.aload_n 0, 1) := by decide +kernel
theorem dX7_init_21 : decode cX7_init 21 = .ok (.sipush 200, 3) := by decide +kernel
theorem dX7_init_24 : decode cX7_init 24 = .ok (.newarray .int, 2) := by decide +kernel
theorem dX7_init_26 : decode cX7_init 26 = .ok (.putfield 17, 3) := by decide +kernel
theorem dX7_init_29 : decode cX7_init 29 = .ok (.aload_n 0, 1) := by decide +kernel
theorem dX7_init_30 : decode cX7_init 30 = .ok (.bipush 10, 2) := by decide +kernel
theorem dX7_init_32 : decode cX7_init 32 = .ok (.newarray .int, 2) := by decide +kernel
theorem dX7_init_34 : decode cX7_init 34 = .ok (.putfield 20, 3) := by decide +kernel
theorem dX7_init_37 : decode cX7_init 37 = .ok (.aload_n 0, 1) := by decide +kernel
theorem dX7_init_38 : decode cX7_init 38 = .ok (.bipush 48, 2) := by decide +kernel
theorem dX7_init_40 : decode cX7_init 40 = .ok (.newarray .int, 2) := by decide +kernel
theorem dX7_init_42 : decode cX7_init 42 = .ok (.dup, 1) := by decide +kernel
theorem dX7_init_43 : decode cX7_init 43 = .ok (.iconst 0, 1) := by decide +kernel
theorem dX7_init_44 : decode cX7_init 44 = .ok (.bipush 115, 2) := by decide +kernel
theorem dX7_init_46 : decode cX7_init 46 = .ok (.iastore, 1) := by decide +kernel
theorem dX7_init_47 : decode cX7_init 47 = .ok (.dup, 1) := by decide +kernel
theorem dX7_init_48 : decode cX7_init 48 = .ok (.iconst 1, 1) := by decide +kernel
theorem dX7_init_49 : decode cX7_init 49 = .ok (.bipush 101, 2) := by decide +kernel
theorem dX7_init_51 : decode cX7_init 51 = .ok (.iastore, 1) := by decide +kernel
theorem dX7_init_52 : decode cX7_init 52 = .ok (.dup, 1) := by decide +kernel
theorem dX7_init_53 : decode cX7_init 53 = .ok (.iconst 2, 1) := by decide +kernel
theorem dX7_init_54 : decode cX7_init 54 = .ok (.bipush 99, 2) := by decide +kernel
theorem dX7_init_56 : decode cX7_init 56 = .ok (.iastore, 1) := by decide +kernel
theorem dX7_init_57 : decode cX7_init 57 = .ok (.dup, 1) := by decide +kernel
theorem dX7_init_58 : decode cX7_init 58 = .ok (.iconst 3, 1) := by decide +kernel
theorem dX7_init_59 : decode cX7_init 59 = .ok (.bipush 116, 2) := by decide +kernel
theorem dX7_init_61 : decode cX7_init 61 = .ok (.iastore, 1) := by decide +kernel
theorem dX7_init_62 : decode cX7_init 62 = .ok (.dup, 1) := by decide +kernel
theorem dX7_init_63 : decode cX7_init 63 = .ok (.iconst 4, 1) := by decide +kernel
theorem dX7_init_64 : decode cX7_init 64 = .ok (.bipush 105, 2) := by decide +kernel
theorem dX7_init_66 : decode cX7_init 66 = .ok (.iastore, 1) := by decide +kernel
theorem dX7_init_67 : decode cX7_init 67 = .ok (.dup, 1) := by decide +kernel
theorem dX7_init_68 : decode cX7_init 68 = .ok (.iconst 5, 1) := by decide +kernel
theorem dX7_init_69 : decode cX7_init 69 = .ok (.bipush 111, 2) := by decide +kernel
theorem dX7_init_71 : decode cX7_init 71 = .ok (.iastore, 1) := by decide +kernel
theorem dX7_init_72 : decode cX7_init 72 = .ok (.dup, 1) := by decide +kernel
theorem dX7_init_73 : decode cX7_init 73 = .ok (.bipush 6, 2) := by decide +kernel
theorem dX7_init_75 : decode cX7_init 75 = .ok (.bipush 110, 2) := by decide +kernel
theorem dX7_init_77 : decode cX7_init 77 = .ok (.iastore, 1) := by decide +kernel
theorem dX7_init_78 : decode cX7_init 78 = .ok (.dup, 1) := by decide +kernel
theorem dX7_init_79 : decode cX7_init 79 = .ok (.bipush 7, 2) := by decide +kernel
theorem dX7_init_81 : decode cX7_init 81 = .ok (.bipush 115, 2) := by decide +kernel
theorem dX7_init_83 : decode cX7_init 83 = .ok (.iastore, 1) := by decide +kernel
theorem dX7_init_84 : decode cX7_init 84 = .ok (.dup, 1) := by decide +kernel
theorem dX7_init_85 : decode cX7_init 85 = .ok (.bipush 8, 2) := by decide +kernel
theorem dX7_init_87 : decode cX7_init 87 = .ok (.bipush 112, 2) := by decide +kernel
