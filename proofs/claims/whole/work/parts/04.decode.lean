theorem dX8_addPattern_30 : decode cX8_addPattern 30 = .ok (.aload_n 0, 1) := by decide +kernel
theorem dX8_addPattern_31 : decode cX8_addPattern 31 = .ok (.invokevirtual 85, 3) := by decide +kernel
theorem dX8_addPattern_34 : decode cX8_addPattern 34 = .ok (.bipush 123, 2) := by decide +kernel
theorem dX8_addPattern_36 : decode cX8_addPattern 36 = .ok (.bipush 62, 2) := by decide +kernel
theorem dX8_addPattern_38 : decode cX8_addPattern 38 = .ok (.aload_n 0, 1) := by decide +kernel
theorem dX8_addPattern_39 : decode cX8_addPattern 39 = .ok (.getfield 7, 3) := by decide +kernel
theorem dX8_addPattern_42 : decode cX8_addPattern 42 = .ok (.iconst 1, 1) := by decide +kernel
theorem dX8_addPattern_43 : decode cX8_addPattern 43 = .ok (.iaload, 1) := by decide +kernel
theorem dX8_addPattern_44 : decode cX8_addPattern 44 = .ok (.imul, 1) := by decide +kernel
theorem dX8_addPattern_45 : decode cX8_addPattern 45 = .ok (.iadd, 1) := by decide +kernel
theorem dX8_addPattern_46 : decode cX8_addPattern 46 = .ok (.istore_n 2, 1) := by decide +kernel
theorem dX8_addPattern_47 : decode cX8_addPattern 47 = .ok (.aload_n 0, 1) := by decide +kernel
theorem dX8_addPattern_48 : decode cX8_addPattern 48 = .ok (.getfield 7, 3) := by decide +kernel
theorem dX8_addPattern_51 : decode cX8_addPattern 51 = .ok (.iload_n 2, 1) := by decide +kernel
theorem dX8_addPattern_52 : decode cX8_addPattern 52 = .ok (.aload_n 0, 1) := by decide +kernel
theorem dX8_addPattern_53 : decode cX8_addPattern 53 = .ok (.getfield 116, 3) := by decide +kernel
theorem dX8_addPattern_56 : decode cX8_addPattern 56 = .ok (.iastore, 1) := by decide +kernel
theorem dX8_addPattern_57 : decode cX8_addPattern 57 = .ok (.aload_n 0, 1) := by decide +kernel
theorem dX8_addPattern_58 : decode cX8_addPattern 58 = .ok (.getfield 7, 3) := by decide +kernel
theorem dX8_addPattern_61 : decode cX8_addPattern 61 = .ok (.iload_n 2, 1) := by decide +kernel
theorem dX8_addPattern_62 : decode cX8_addPattern 62 = .ok (.iconst 1, 1) := by decide +kernel
theorem dX8_addPattern_63 : decode cX8_addPattern 63 = .ok (.iadd, 1) := by decide +kernel
theorem dX8_addPattern_64 : decode cX8_addPattern 64 = .ok (.aload_n 0, 1) := by decide +kernel
theorem dX8_addPattern_65 : decode cX8_addPattern 65 = .ok (.getfield 132, 3) := by decide +kernel
theorem dX8_addPattern_68 : decode cX8_addPattern 68 = .ok (.iastore, 1) := by decide +kernel
theorem dX8_addPattern_69 : decode cX8_addPattern 69 = .ok (.iconst 0, 1) := by decide +kernel
theorem dX8_addPattern_70 : decode cX8_addPattern 70 = .ok (.istore_n 3, 1) := by decide +kernel
theorem dX8_addPattern_71 : decode cX8_addPattern 71 = .ok (.iload_n 3, 1) := by decide +kernel
theorem dX8_addPattern_72 : decode cX8_addPattern 72 = .ok (.aload_n 0, 1) := by decide +kernel
theorem dX8_addPattern_73 : decode cX8_addPattern 73 = .ok (.getfield 116, 3) := by decide +kernel
theorem dX8_addPattern_76 : decode cX8_addPattern 76 = .ok (.if_icmp .ge 25, 3) := by decide +kernel
theorem dX8_addPattern_79 : decode cX8_addPattern 79 = .ok (.aload_n 0, 1) := by decide +kernel
theorem dX8_addPattern_80 : decode cX8_addPattern 80 = .ok (.getfield 7, 3) := by decide +kernel
theorem dX8_addPattern_83 : decode cX8_addPattern 83 = .ok (.iload_n 2, 1) := by decide +kernel
theorem dX8_addPattern_84 : decode cX8_addPattern 84 = .ok (.iconst 2, 1) := by decide +kernel
theorem dX8_addPattern_85 : decode cX8_addPattern 85 = .ok (.iadd, 1) := by decide +kernel
theorem dX8_addPattern_86 : decode cX8_addPattern 86 = .ok (.iload_n 3, 1) := by decide +kernel
theorem dX8_addPattern_87 : decode cX8_addPattern 87 = .ok (.iadd, 1) := by decide +kernel
theorem dX8_addPattern_88 : decode cX8_addPattern 88 = .ok (.aload_n 0, 1) := by decide +kernel
theorem dX8_addPattern_89 : decode cX8_addPattern 89 = .ok (.getfield 34, 3) := by decide +kernel
theorem dX8_addPattern_92 : decode cX8_addPattern 92 = .ok (.iload_n 3, 1) := by decide +kernel
theorem dX8_addPattern_93 : decode cX8_addPattern 93 = .ok (.iaload, 1) := by decide +kernel
theorem dX8_addPattern_94 : decode cX8_addPattern 94 = .ok (.iastore, 1) := by decide +kernel
theorem dX8_addPattern_95 : decode cX8_addPattern 95 = .ok (.iinc 3 1, 3) := by decide +kernel
theorem dX8_addPattern_98 : decode cX8_addPattern 98 = .ok (.goto (-27), 3) := by decide +kernel
theorem dX8_addPattern_101 : decode cX8_addPattern 101 = .ok (.aload_n 0, 1) := by decide +kernel
theorem dX8_addPattern_102 : decode cX8_addPattern 102 = .ok (.getfield 7, 3) := by decide +kernel
theorem dX8_addPattern_105 : decode cX8_addPattern 105 = .ok (.iconst 1, 1) := by decide +kernel
theorem dX8_addPattern_106 : decode cX8_addPattern 106 = .ok (.dup2, 1) := by decide +kernel
theorem dX8_addPattern_107 : decode cX8_addPattern 107 = .ok (.iaload, 1) := by decide +kernel
theorem dX8_addPattern_108 : decode cX8_addPattern 108 = .ok (.iconst 1, 1) := by decide +kernel
theorem dX8_addPattern_109 : decode cX8_addPattern 109 = .ok (.iadd, 1) := by decide +kernel
theorem dX8_addPattern_110 : decode cX8_addPattern 110 = .ok (.iastore, 1) := by decide +kernel
theorem dX8_addPattern_111 : decode cX8_addPattern 111 = .ok (.aload_n 0, 1) := by decide +kernel
theorem dX8_addPattern_112 : decode cX8_addPattern 112 = .ok (.aload_n 0, 1) := by decide +kernel
theorem dX8_addPattern_113 : decode cX8_addPattern 113 = .ok (.getfield 7, 3) := by decide +kernel
theorem dX8_addPattern_116 : decode cX8_addPattern 116 = .ok (.iconst 1, 1) := by decide +kernel
theorem dX8_addPattern_117 : decode cX8_addPattern 117 = .ok (.iaload, 1) := by decide +kernel
theorem dX8_addPattern_118 : decode cX8_addPattern 118 = .ok (.iconst 1, 1) := by decide +kernel
theorem dX8_addPattern_119 : decode cX8_addPattern 119 = .ok (.isub, 1) := by decide +kernel
theorem dX8_addPattern_120 : decode cX8_addPattern 120 = .ok (.invokevirtual 91, 3) := by decide +kernel
theorem dX8_addPattern_123 : decode cX8_addPattern 123 = .ok (.ireturn, 1) := by decide +kernel
set_option maxRecDepth 20000 in
theorem ggX8_removePattern_X8_isPattern : GoodIn wsX8_removePattern wsX8_isPattern := goodIn_r _ [6, 1, 7, 8, 5, 9, 21, 22, 23, 24, 25, 26, 27, 28, 29, 30, 31, 32, 33, 34, 35, 36, 37, 38, 39, 40, 41] (by decide +kernel) (by decide +kernel)
set_option maxRecDepth 20000 in
theorem gX8_removePattern_X8_isPattern : GoodIn wsX8_removePattern (wsV RX8 99 RX8 yX8_isPattern wsX8_isPattern) := goodIn_app (goodIn_of _ (by decide +kernel)) ggX8_removePattern_X8_isPattern
set_option maxRecDepth 20000 in
theorem ggX8_removePattern_X8_remember : GoodIn wsX8_removePattern wsX8_remember := goodIn_r _ [13, 14, 1, 21, 22, 23, 24, 25, 26, 27, 28, 29, 30, 31, 32, 33, 34, 35, 36, 37, 38, 39, 40, 41] (by decide +kernel) (by decide +kernel)
set_option maxRecDepth 20000 in
theorem gX8_removePattern_X8_remember : GoodIn wsX8_removePattern (wsV RX8 85 RX8 yX8_remember wsX8_remember) := goodIn_app (goodIn_of _ (by decide +kernel)) ggX8_removePattern_X8_remember
set_option maxRecDepth 20000 in
theorem ggX8_removePattern_X8_acted : GoodIn wsX8_removePattern wsX8_acted := goodIn_r _ [18, 19, 20, 14, 21, 22, 23, 24, 25, 26, 27, 28, 29, 30, 31, 32, 33, 34, 35, 36, 37, 38, 39, 40, 41] (by decide +kernel) (by decide +kernel)
set_option maxRecDepth 20000 in
theorem gX8_removePattern_X8_acted : GoodIn wsX8_removePattern (wsV RX8 91 RX8 yX8_acted wsX8_acted) := goodIn_app (goodIn_of _ (by decide +kernel)) ggX8_removePattern_X8_acted
theorem dX8_removePattern_0 : decode cX8_removePattern 0 = .ok (.aload_n 0, 1) := by decide +kernel
theorem dX8_removePattern_1 : decode cX8_removePattern 1 = .ok (.iload_n 1, 1) := by decide +kernel
theorem dX8_removePattern_2 : decode cX8_removePattern 2 = .ok (.invokevirtual 99, 3) := by decide +kernel
theorem dX8_removePattern_5 : decode cX8_removePattern 5 = .ok (.ifCond .ne 5, 3) := by decide +kernel
theorem dX8_removePattern_8 : decode cX8_removePattern 8 = .ok (.iconst (-1), 1) := by decide +kernel
theorem dX8_removePattern_9 : decode cX8_removePattern 9 = .ok (.ireturn, 1) := by decide +kernel
theorem dX8_removePattern_10 : decode cX8_removePattern 10 = .ok (.aload_n 0, 1) := by decide +kernel
theorem dX8_removePattern_11 : decode cX8_removePattern 11 = .ok (.invokevirtual 85, 3) := by decide +kernel
theorem dX8_removePattern_14 : decode cX8_removePattern 14 = .ok (.aload_n 0, 1) := by decide +kernel
theorem dX8_removePattern_15 : decode cX8_removePattern 15 = .ok (.getfield 7, 3) := by decide +kernel
theorem dX8_removePattern_18 : decode cX8_removePattern 18 = .ok (.iconst 1, 1) := by decide +kernel
theorem dX8_removePattern_19 : decode cX8_removePattern 19 = .ok (.dup2, 1) := by decide +kernel
theorem dX8_removePattern_20 : decode cX8_removePattern 20 = .ok (.iaload, 1) := by decide +kernel
theorem dX8_removePattern_21 : decode cX8_removePattern 21 = .ok (.iconst 1, 1) := by decide +kernel
theorem dX8_removePattern_22 : decode cX8_removePattern 22 = .ok (.isub, 1) := by decide +kernel
theorem dX8_removePattern_23 : decode cX8_removePattern 23 = .ok (.iastore, 1) := by decide +kernel
theorem dX8_removePattern_24 : decode cX8_removePattern 24 = .ok (.bipush 62, 2) := by decide +kernel
theorem dX8_removePattern_26 : decode cX8_removePattern 26 = .ok (.iload_n 1, 1) := by decide +kernel
theorem dX8_removePattern_27 : decode cX8_removePattern 27 = .ok (.imul, 1) := by decide +kernel
theorem dX8_removePattern_28 : decode cX8_removePattern 28 = .ok (.istore_n 2, 1) := by decide +kernel
theorem dX8_removePattern_29 : decode cX8_removePattern 29 = .ok (.iload_n 2, 1) := by decide +kernel
theorem dX8_removePattern_30 : decode cX8_removePattern 30 = .ok (.bipush 62, 2) := by decide +kernel
theorem dX8_removePattern_32 : decode cX8_removePattern 32 = .ok (.aload_n 0, 1) := by decide +kernel
theorem dX8_removePattern_33 : decode cX8_removePattern 33 = .ok (.getfield 7, 3) := by decide +kernel
theorem dX8_removePattern_36 : decode cX8_removePattern 36 = .ok (.iconst 1, 1) := by decide +kernel
theorem dX8_removePattern_37 : decode cX8_removePattern 37 = .ok (.iaload, 1) := by decide +kernel
theorem dX8_removePattern_38 : decode cX8_removePattern 38 = .ok (.imul, 1) := by decide +kernel
theorem dX8_removePattern_39 : decode cX8_removePattern 39 = .ok (.if_icmp .ge 30, 3) := by decide +kernel
theorem dX8_removePattern_42 : decode cX8_removePattern 42 = .ok (.aload_n 0, 1) := by decide +kernel
theorem dX8_removePattern_43 : decode cX8_removePattern 43 = .ok (.getfield 7, 3) := by decide +kernel
theorem dX8_removePattern_46 : decode cX8_removePattern 46 = .ok (.bipush 123, 2) := by decide +kernel
theorem dX8_removePattern_48 : decode cX8_removePattern 48 = .ok (.iload_n 2, 1) := by decide +kernel
theorem dX8_removePattern_49 : decode cX8_removePattern 49 = .ok (.iadd, 1) := by decide +kernel
theorem dX8_removePattern_50 : decode cX8_removePattern 50 = .ok (.aload_n 0, 1) := by decide +kernel
theorem dX8_removePattern_51 : decode cX8_removePattern 51 = .ok (.getfield 7, 3) := by decide +kernel
theorem dX8_removePattern_54 : decode cX8_removePattern 54 = .ok (.bipush 123, 2) := by decide +kernel
theorem dX8_removePattern_56 : decode cX8_removePattern 56 = .ok (.iload_n 2, 1) := by decide +kernel
theorem dX8_removePattern_57 : decode cX8_removePattern 57 = .ok (.iadd, 1) := by decide +kernel
theorem dX8_removePattern_58 : decode cX8_removePattern 58 = .ok (.bipush 62, 2) := by decide +kernel
theorem dX8_removePattern_60 : decode cX8_removePattern 60 = .ok (.iadd, 1) := by decide +kernel
theorem dX8_removePattern_61 : decode cX8_removePattern 61 = .ok (.iaload, 1) := by decide +kernel
theorem dX8_removePattern_62 : decode cX8_removePattern 62 = .ok (.iastore, 1) := by decide +kernel
theorem dX8_removePattern_63 : decode cX8_removePattern 63 = .ok (.iinc 2 1, 3) := by decide +kernel
theorem dX8_removePattern_66 : decode cX8_removePattern 66 = .ok (.goto (-37), 3) := by decide +kernel
theorem dX8_removePattern_69 : decode cX8_removePattern 69 = .ok (.aload_n 0, 1) := by decide +kernel
theorem dX8_removePattern_70 : decode cX8_removePattern 70 = .ok (.aload_n 0, 1) := by decide +kernel
theorem dX8_removePattern_71 : decode cX8_removePattern 71 = .ok (.getfield 7, 3) := by decide +kernel
theorem dX8_removePattern_74 : decode cX8_removePattern 74 = .ok (.iconst 1, 1) := by decide +kernel
theorem dX8_removePattern_75 : decode cX8_removePattern 75 = .ok (.iaload, 1) := by decide +kernel
theorem dX8_removePattern_76 : decode cX8_removePattern 76 = .ok (.invokevirtual 91, 3) := by decide +kernel
theorem dX8_removePattern_79 : decode cX8_removePattern 79 = .ok (.ireturn, 1) := by decide +kernel
set_option maxRecDepth 20000 in
theorem ggX8_setSlips_X8_in : GoodIn wsX8_setSlips wsX8_in := goodIn_r _ [6] (by decide +kernel) (by decide +kernel)
set_option maxRecDepth 20000 in
theorem gX8_setSlips_X8_in : GoodIn wsX8_setSlips (va_wsS RX8 47 yX8_in wsX8_in) := goodIn_app (goodIn_of _ (by decide +kernel)) ggX8_setSlips_X8_in
set_option maxRecDepth 20000 in
theorem ggX8_setSlips_X8_remember : GoodIn wsX8_setSlips wsX8_remember := goodIn_r _ [10, 11, 2, 18, 19, 20, 21, 22, 23, 24, 25, 26, 27, 28, 29, 30, 31, 32, 33, 34, 35, 36, 37, 38] (by decide +kernel) (by decide +kernel)
set_option maxRecDepth 20000 in
theorem gX8_setSlips_X8_remember : GoodIn wsX8_setSlips (wsV RX8 85 RX8 yX8_remember wsX8_remember) := goodIn_app (goodIn_of _ (by decide +kernel)) ggX8_setSlips_X8_remember
set_option maxRecDepth 20000 in
theorem ggX8_setSlips_X8_acted : GoodIn wsX8_setSlips wsX8_acted := goodIn_r _ [15, 16, 17, 11, 18, 19, 20, 21, 22, 23, 24, 25, 26, 27, 28, 29, 30, 31, 32, 33, 34, 35, 36, 37, 38] (by decide +kernel) (by decide +kernel)
set_option maxRecDepth 20000 in
theorem gX8_setSlips_X8_acted : GoodIn wsX8_setSlips (wsV RX8 91 RX8 yX8_acted wsX8_acted) := goodIn_app (goodIn_of _ (by decide +kernel)) ggX8_setSlips_X8_acted
theorem dX8_setSlips_0 : decode cX8_setSlips 0 = .ok (.iload_n 1, 1) := by decide +kernel
theorem dX8_setSlips_1 : decode cX8_setSlips 1 = .ok (.i2l, 1) := by decide +kernel
theorem dX8_setSlips_2 : decode cX8_setSlips 2 = .ok (.lconst 0, 1) := by decide +kernel
theorem dX8_setSlips_3 : decode cX8_setSlips 3 = .ok (.ldc2_w 142, 3) := by decide +kernel
theorem dX8_setSlips_6 : decode cX8_setSlips 6 = .ok (.invokestatic 47, 3) := by decide +kernel
theorem dX8_setSlips_9 : decode cX8_setSlips 9 = .ok (.ifCond .ne 6, 3) := by decide +kernel
theorem dX8_setSlips_12 : decode cX8_setSlips 12 = .ok (.bipush (-2), 2) := by decide +kernel
theorem dX8_setSlips_14 : decode cX8_setSlips 14 = .ok (.ireturn, 1) := by decide +kernel
theorem dX8_setSlips_15 : decode cX8_setSlips 15 = .ok (.aload_n 0, 1) := by decide +kernel
theorem dX8_setSlips_16 : decode cX8_setSlips 16 = .ok (.getfield 7, 3) := by decide +kernel
theorem dX8_setSlips_19 : decode cX8_setSlips 19 = .ok (.iconst 2, 1) := by decide +kernel
theorem dX8_setSlips_20 : decode cX8_setSlips 20 = .ok (.iaload, 1) := by decide +kernel
theorem dX8_setSlips_21 : decode cX8_setSlips 21 = .ok (.istore_n 2, 1) := by decide +kernel
theorem dX8_setSlips_22 : decode cX8_setSlips 22 = .ok (.iload_n 2, 1) := by decide +kernel
theorem dX8_setSlips_23 : decode cX8_setSlips 23 = .ok (.iload_n 1, 1) := by decide +kernel
theorem dX8_setSlips_24 : decode cX8_setSlips 24 = .ok (.if_icmp .ne 6, 3) := by decide +kernel
theorem dX8_setSlips_27 : decode cX8_setSlips 27 = .ok (.bipush (-5), 2) := by decide +kernel
theorem dX8_setSlips_29 : decode cX8_setSlips 29 = .ok (.ireturn, 1) := by decide +kernel
theorem dX8_setSlips_30 : decode cX8_setSlips 30 = .ok (.aload_n 0, 1) := by decide +kernel
theorem dX8_setSlips_31 : decode cX8_setSlips 31 = .ok (.invokevirtual 85, 3) := by decide +kernel
theorem dX8_setSlips_34 : decode cX8_setSlips 34 = .ok (.aload_n 0, 1) := by decide +kernel
theorem dX8_setSlips_35 : decode cX8_setSlips 35 = .ok (.getfield 7, 3) := by decide +kernel
theorem dX8_setSlips_38 : decode cX8_setSlips 38 = .ok (.iconst 2, 1) := by decide +kernel
theorem dX8_setSlips_39 : decode cX8_setSlips 39 = .ok (.iload_n 1, 1) := by decide +kernel
theorem dX8_setSlips_40 : decode cX8_setSlips 40 = .ok (.iastore, 1) := by decide +kernel
theorem dX8_setSlips_41 : decode cX8_setSlips 41 = .ok (.aload_n 0, 1) := by decide +kernel
theorem dX8_setSlips_42 : decode cX8_setSlips 42 = .ok (.iload_n 2, 1) := by decide +kernel
theorem dX8_setSlips_43 : decode cX8_setSlips 43 = .ok (.invokevirtual 91, 3) := by decide +kernel
theorem dX8_setSlips_46 : decode cX8_setSlips 46 = .ok (.ireturn, 1) := by decide +kernel
theorem dX8_undo_0 : decode cX8_undo 0 = .ok (.aload_n 0, 1) := by decide +kernel
theorem dX8_undo_1 : decode cX8_undo 1 = .ok (.getfield 43, 3) := by decide +kernel
theorem dX8_undo_4 : decode cX8_undo 4 = .ok (.ifCond .ne 6, 3) := by decide +kernel
theorem dX8_undo_7 : decode cX8_undo 7 = .ok (.bipush (-5), 2) := by decide +kernel
theorem dX8_undo_9 : decode cX8_undo 9 = .ok (.ireturn, 1) := by decide +kernel
theorem dX8_undo_10 : decode cX8_undo 10 = .ok (.aload_n 0, 1) := by decide +kernel
theorem dX8_undo_11 : decode cX8_undo 11 = .ok (.dup, 1) := by decide +kernel
theorem dX8_undo_12 : decode cX8_undo 12 = .ok (.getfield 43, 3) := by decide +kernel
theorem dX8_undo_15 : decode cX8_undo 15 = .ok (.iconst 1, 1) := by decide +kernel
theorem dX8_undo_16 : decode cX8_undo 16 = .ok (.isub, 1) := by decide +kernel
theorem dX8_undo_17 : decode cX8_undo 17 = .ok (.putfield 43, 3) := by decide +kernel
theorem dX8_undo_20 : decode cX8_undo 20 = .ok (.iconst 0, 1) := by decide +kernel
theorem dX8_undo_21 : decode cX8_undo 21 = .ok (.istore_n 1, 1) := by decide +kernel
theorem dX8_undo_22 : decode cX8_undo 22 = .ok (.iload_n 1, 1) := by decide +kernel
theorem dX8_undo_23 : decode cX8_undo 23 = .ok (.sipush 496, 3) := by decide +kernel
theorem dX8_undo_26 : decode cX8_undo 26 = .ok (.if_icmp .ge 30, 3) := by decide +kernel
theorem dX8_undo_29 : decode cX8_undo 29 = .ok (.aload_n 0, 1) := by decide +kernel
theorem dX8_undo_30 : decode cX8_undo 30 = .ok (.getfield 7, 3) := by decide +kernel
theorem dX8_undo_33 : decode cX8_undo 33 = .ok (.iload_n 1, 1) := by decide +kernel
theorem dX8_undo_34 : decode cX8_undo 34 = .ok (.aload_n 0, 1) := by decide +kernel
theorem dX8_undo_35 : decode cX8_undo 35 = .ok (.getfield 16, 3) := by decide +kernel
theorem dX8_undo_38 : decode cX8_undo 38 = .ok (.sipush 496, 3) := by decide +kernel
theorem dX8_undo_41 : decode cX8_undo 41 = .ok (.aload_n 0, 1) := by decide +kernel
theorem dX8_undo_42 : decode cX8_undo 42 = .ok (.getfield 43, 3) := by decide +kernel
theorem dX8_undo_45 : decode cX8_undo 45 = .ok (.imul, 1) := by decide +kernel
theorem dX8_undo_46 : decode cX8_undo 46 = .ok (.iload_n 1, 1) := by decide +kernel
theorem dX8_undo_47 : decode cX8_undo 47 = .ok (.iadd, 1) := by decide +kernel
theorem dX8_undo_48 : decode cX8_undo 48 = .ok (.iaload, 1) := by decide +kernel
theorem dX8_undo_49 : decode cX8_undo 49 = .ok (.iastore, 1) := by decide +kernel
theorem dX8_undo_50 : decode cX8_undo 50 = .ok (.iinc 1 1, 3) := by decide +kernel
theorem dX8_undo_53 : decode cX8_undo 53 = .ok (.goto (-31), 3) := by decide +kernel
theorem dX8_undo_56 : decode cX8_undo 56 = .ok (.aload_n 0, 1) := by decide +kernel
theorem dX8_undo_57 : decode cX8_undo 57 = .ok (.getfield 43, 3) := by decide +kernel
theorem dX8_undo_60 : decode cX8_undo 60 = .ok (.ireturn, 1) := by decide +kernel
theorem dX8_keep_0 : decode cX8_keep 0 = .ok (.iconst 0, 1) := by decide +kernel
theorem dX8_keep_1 : decode cX8_keep 1 = .ok (.istore_n 1, 1) := by decide +kernel
theorem dX8_keep_2 : decode cX8_keep 2 = .ok (.iload_n 1, 1) := by decide +kernel
theorem dX8_keep_3 : decode cX8_keep 3 = .ok (.sipush 496, 3) := by decide +kernel
theorem dX8_keep_6 : decode cX8_keep 6 = .ok (.if_icmp .ge 21, 3) := by decide +kernel
theorem dX8_keep_9 : decode cX8_keep 9 = .ok (.aload_n 0, 1) := by decide +kernel
theorem dX8_keep_10 : decode cX8_keep 10 = .ok (.getfield 19, 3) := by decide +kernel
theorem dX8_keep_13 : decode cX8_keep 13 = .ok (.iload_n 1, 1) := by decide +kernel
theorem dX8_keep_14 : decode cX8_keep 14 = .ok (.aload_n 0, 1) := by decide +kernel
theorem dX8_keep_15 : decode cX8_keep 15 = .ok (.getfield 7, 3) := by decide +kernel
theorem dX8_keep_18 : decode cX8_keep 18 = .ok (.iload_n 1, 1) := by decide +kernel
theorem dX8_keep_19 : decode cX8_keep 19 = .ok (.iaload, 1) := by decide +kernel
theorem dX8_keep_20 : decode cX8_keep 20 = .ok (.iastore, 1) := by decide +kernel
theorem dX8_keep_21 : decode cX8_keep 21 = .ok (.iinc 1 1, 3) := by decide +kernel
theorem dX8_keep_24 : decode cX8_keep 24 = .ok (.goto (-22), 3) := by decide +kernel
theorem dX8_keep_27 : decode cX8_keep 27 = .ok (.aload_n 0, 1) := by decide +kernel
theorem dX8_keep_28 : decode cX8_keep 28 = .ok (.iconst 1, 1) := by decide +kernel
theorem dX8_keep_29 : decode cX8_keep 29 = .ok (.putfield 144, 3) := by decide +kernel
theorem dX8_keep_32 : decode cX8_keep 32 = .ok (.aload_n 0, 1) := by decide +kernel
theorem dX8_keep_33 : decode cX8_keep 33 = .ok (.getfield 7, 3) := by decide +kernel
theorem dX8_keep_36 : decode cX8_keep 36 = .ok (.iconst 0, 1) := by decide +kernel
theorem dX8_keep_37 : decode cX8_keep 37 = .ok (.iaload, 1) := by decide +kernel
theorem dX8_keep_38 : decode cX8_keep 38 = .ok (.ireturn, 1) := by decide +kernel
set_option maxRecDepth 20000 in
theorem ggX8_restore_X8_remember : GoodIn wsX8_restore wsX8_remember := goodIn_r _ [8, 9, 2, 16, 17, 18, 19, 20, 21, 22, 23, 24, 25, 26, 27, 28, 29, 30, 31, 32, 33, 34, 35, 36] (by decide +kernel) (by decide +kernel)
set_option maxRecDepth 20000 in
theorem gX8_restore_X8_remember : GoodIn wsX8_restore (wsV RX8 85 RX8 yX8_remember wsX8_remember) := goodIn_app (goodIn_of _ (by decide +kernel)) ggX8_restore_X8_remember
set_option maxRecDepth 20000 in
theorem ggX8_restore_X8_acted : GoodIn wsX8_restore wsX8_acted := goodIn_r _ [13, 14, 15, 9, 16, 17, 18, 19, 20, 21, 22, 23, 24, 25, 26, 27, 28, 29, 30, 31, 32, 33, 34, 35, 36] (by decide +kernel) (by decide +kernel)
set_option maxRecDepth 20000 in
theorem gX8_restore_X8_acted : GoodIn wsX8_restore (wsV RX8 91 RX8 yX8_acted wsX8_acted) := goodIn_app (goodIn_of _ (by decide +kernel)) ggX8_restore_X8_acted
theorem dX8_restore_0 : decode cX8_restore 0 = .ok (.aload_n 0, 1) := by decide +kernel
theorem dX8_restore_1 : decode cX8_restore 1 = .ok (.getfield 144, 3) := by decide +kernel
theorem dX8_restore_4 : decode cX8_restore 4 = .ok (.ifCond .ne 6, 3) := by decide +kernel
theorem dX8_restore_7 : decode cX8_restore 7 = .ok (.bipush (-5), 2) := by decide +kernel
theorem dX8_restore_9 : decode cX8_restore 9 = .ok (.ireturn, 1) := by decide +kernel
theorem dX8_restore_10 : decode cX8_restore 10 = .ok (.aload_n 0, 1) := by decide +kernel
theorem dX8_restore_11 : decode cX8_restore 11 = .ok (.invokevirtual 85, 3) := by decide +kernel
theorem dX8_restore_14 : decode cX8_restore 14 = .ok (.iconst 0, 1) := by decide +kernel
theorem dX8_restore_15 : decode cX8_restore 15 = .ok (.istore_n 1, 1) := by decide +kernel
theorem dX8_restore_16 : decode cX8_restore 16 = .ok (.iload_n 1, 1) := by decide +kernel
theorem dX8_restore_17 : decode cX8_restore 17 = .ok (.sipush 496, 3) := by decide +kernel
theorem dX8_restore_20 : decode cX8_restore 20 = .ok (.if_icmp .ge 21, 3) := by decide +kernel
theorem dX8_restore_23 : decode cX8_restore 23 = .ok (.aload_n 0, 1) := by decide +kernel
theorem dX8_restore_24 : decode cX8_restore 24 = .ok (.getfield 7, 3) := by decide +kernel
theorem dX8_restore_27 : decode cX8_restore 27 = .ok (.iload_n 1, 1) := by decide +kernel
theorem dX8_restore_28 : decode cX8_restore 28 = .ok (.aload_n 0, 1) := by decide +kernel
theorem dX8_restore_29 : decode cX8_restore 29 = .ok (.getfield 19, 3) := by decide +kernel
theorem dX8_restore_32 : decode cX8_restore 32 = .ok (.iload_n 1, 1) := by decide +kernel
theorem dX8_restore_33 : decode cX8_restore 33 = .ok (.iaload, 1) := by decide +kernel
theorem dX8_restore_34 : decode cX8_restore 34 = .ok (.iastore, 1) := by decide +kernel
theorem dX8_restore_35 : decode cX8_restore 35 = .ok (.iinc 1 1, 3) := by decide +kernel
theorem dX8_restore_38 : decode cX8_restore 38 = .ok (.goto (-22), 3) := by decide +kernel
theorem dX8_restore_41 : decode cX8_restore 41 = .ok (.aload_n 0, 1) := by decide +kernel
theorem dX8_restore_42 : decode cX8_restore 42 = .ok (.aload_n 0, 1) := by decide +kernel
theorem dX8_restore_43 : decode cX8_restore 43 = .ok (.getfield 7, 3) := by decide +kernel
theorem dX8_restore_46 : decode cX8_restore 46 = .ok (.iconst 0, 1) := by decide +kernel
theorem dX8_restore_47 : decode cX8_restore 47 = .ok (.iaload, 1) := by decide +kernel
theorem dX8_restore_48 : decode cX8_restore 48 = .ok (.invokevirtual 91, 3) := by decide +kernel
theorem dX8_restore_51 : decode cX8_restore 51 = .ok (.ireturn, 1) := by decide +kernel
set_option maxRecDepth 20000 in
theorem ggX8_at_X8_in : GoodIn wsX8_at wsX8_in := goodIn_r _ [5] (by decide +kernel) (by decide +kernel)
set_option maxRecDepth 20000 in
theorem gX8_at_X8_in : GoodIn wsX8_at (va_wsS RX8 47 yX8_in wsX8_in) := goodIn_app (goodIn_of _ (by decide +kernel)) ggX8_at_X8_in
theorem dX8_at_0 : decode cX8_at 0 = .ok (.iload_n 1, 1) := by decide +kernel
theorem dX8_at_1 : decode cX8_at 1 = .ok (.i2l, 1) := by decide +kernel
theorem dX8_at_2 : decode cX8_at 2 = .ok (.lconst 0, 1) := by decide +kernel
theorem dX8_at_3 : decode cX8_at 3 = .ok (.aload_n 0, 1) := by decide +kernel
theorem dX8_at_4 : decode cX8_at 4 = .ok (.getfield 7, 3) := by decide +kernel
theorem dX8_at_7 : decode cX8_at 7 = .ok (.iconst 0, 1) := by decide +kernel
theorem dX8_at_8 : decode cX8_at 8 = .ok (.iaload, 1) := by decide +kernel
theorem dX8_at_9 : decode cX8_at 9 = .ok (.i2l, 1) := by decide +kernel
theorem dX8_at_10 : decode cX8_at 10 = .ok (.lconst 1, 1) := by decide +kernel
theorem dX8_at_11 : decode cX8_at 11 = .ok (.lsub, 1) := by decide +kernel
theorem dX8_at_12 : decode cX8_at 12 = .ok (.invokestatic 47, 3) := by decide +kernel
theorem dX8_at_15 : decode cX8_at 15 = .ok (.ifCond .ne 5, 3) := by decide +kernel
theorem dX8_at_18 : decode cX8_at 18 = .ok (.iconst (-1), 1) := by decide +kernel
theorem dX8_at_19 : decode cX8_at 19 = .ok (.ireturn, 1) := by decide +kernel
theorem dX8_at_20 : decode cX8_at 20 = .ok (.aload_n 0, 1) := by decide +kernel
theorem dX8_at_21 : decode cX8_at 21 = .ok (.getfield 7, 3) := by decide +kernel
theorem dX8_at_24 : decode cX8_at 24 = .ok (.iconst 3, 1) := by decide +kernel
theorem dX8_at_25 : decode cX8_at 25 = .ok (.iload_n 1, 1) := by decide +kernel
theorem dX8_at_26 : decode cX8_at 26 = .ok (.iadd, 1) := by decide +kernel
theorem dX8_at_27 : decode cX8_at 27 = .ok (.iaload, 1) := by decide +kernel
theorem dX8_at_28 : decode cX8_at 28 = .ok (.istore_n 2, 1) := by decide +kernel
theorem dX8_at_29 : decode cX8_at 29 = .ok (.iload_n 2, 1) := by decide +kernel
theorem dX8_at_30 : decode cX8_at 30 = .ok (.bipush 26, 2) := by decide +kernel
theorem dX8_at_32 : decode cX8_at 32 = .ok (.if_icmp .ne 8, 3) := by decide +kernel
theorem dX8_at_35 : decode cX8_at 35 = .ok (.bipush 32, 2) := by decide +kernel
theorem dX8_at_37 : decode cX8_at 37 = .ok (.goto 7, 3) := by decide +kernel
theorem dX8_at_40 : decode cX8_at 40 = .ok (.bipush 97, 2) := by decide +kernel
theorem dX8_at_42 : decode cX8_at 42 = .ok (.iload_n 2, 1) := by decide +kernel
theorem dX8_at_43 : decode cX8_at 43 = .ok (.iadd, 1) := by decide +kernel
theorem dX8_at_44 : decode cX8_at 44 = .ok (.ireturn, 1) := by decide +kernel
set_option maxRecDepth 20000 in
theorem ggX8_manyEnds_X8_findsEnds : GoodIn wsX8_manyEnds wsX8_findsEnds := goodIn_r _ [6, 1, 7, 8, 9, 10, 11, 12, 13, 5, 14, 15, 16, 17, 18, 19, 20, 21, 22, 23, 24, 25, 26, 27, 28, 29, 30, 31, 32, 33, 34, 35, 36, 37, 38, 39, 40, 41, 42, 43, 44, 45, 46, 47, 48, 49, 50, 51, 52, 53, 54, 55] (by decide +kernel) (by decide +kernel)
set_option maxRecDepth 20000 in
theorem gX8_manyEnds_X8_findsEnds : GoodIn wsX8_manyEnds (wsV RX8 103 RX8 yX8_findsEnds wsX8_findsEnds) := goodIn_app (goodIn_of _ (by decide +kernel)) ggX8_manyEnds_X8_findsEnds
theorem dX8_manyEnds_0 : decode cX8_manyEnds 0 = .ok (.aload_n 0, 1) := by decide +kernel
theorem dX8_manyEnds_1 : decode cX8_manyEnds 1 = .ok (.iload_n 1, 1) := by decide +kernel
theorem dX8_manyEnds_2 : decode cX8_manyEnds 2 = .ok (.iload_n 2, 1) := by decide +kernel
theorem dX8_manyEnds_3 : decode cX8_manyEnds 3 = .ok (.invokevirtual 103, 3) := by decide +kernel
theorem dX8_manyEnds_6 : decode cX8_manyEnds 6 = .ok (.aload_n 0, 1) := by decide +kernel
theorem dX8_manyEnds_7 : decode cX8_manyEnds 7 = .ok (.getfield 75, 3) := by decide +kernel
theorem dX8_manyEnds_10 : decode cX8_manyEnds 10 = .ok (.ireturn, 1) := by decide +kernel
set_option maxRecDepth 20000 in
theorem ggX8_bestRank_X8_findsEnds : GoodIn wsX8_bestRank wsX8_findsEnds := goodIn_r _ [6, 1, 7, 8, 9, 10, 11, 12, 13, 5, 14, 15, 16, 17, 18, 19, 20, 21, 22, 23, 24, 25, 26, 27, 28, 29, 30, 31, 32, 33, 34, 39, 40, 41, 42, 43, 44, 45, 46, 47, 48, 49, 50, 51, 52, 53, 54, 55, 56, 57, 58, 59] (by decide +kernel) (by decide +kernel)
set_option maxRecDepth 20000 in
theorem gX8_bestRank_X8_findsEnds : GoodIn wsX8_bestRank (wsV RX8 103 RX8 yX8_findsEnds wsX8_findsEnds) := goodIn_app (goodIn_of _ (by decide +kernel)) ggX8_bestRank_X8_findsEnds
set_option maxRecDepth 20000 in
theorem ggX8_bestRank_X8_slipsOf : GoodIn wsX8_bestRank wsX8_slipsOf := goodIn_r _ [38, 8, 10, 15, 16, 17, 5, 18, 7, 39, 40, 41, 42, 43, 44, 45, 46, 47, 48, 49, 50, 51, 52, 53, 54, 55, 56, 57, 58, 59] (by decide +kernel) (by decide +kernel)
set_option maxRecDepth 20000 in
theorem gX8_bestRank_X8_slipsOf : GoodIn wsX8_bestRank (wsV RX8 146 RX8 yX8_slipsOf wsX8_slipsOf) := goodIn_app (goodIn_of _ (by decide +kernel)) ggX8_bestRank_X8_slipsOf
theorem dX8_bestRank_0 : decode cX8_bestRank 0 = .ok (.aload_n 0, 1) := by decide +kernel
theorem dX8_bestRank_1 : decode cX8_bestRank 1 = .ok (.iload_n 1, 1) := by decide +kernel
theorem dX8_bestRank_2 : decode cX8_bestRank 2 = .ok (.iconst 0, 1) := by decide +kernel
theorem dX8_bestRank_3 : decode cX8_bestRank 3 = .ok (.invokevirtual 103, 3) := by decide +kernel
theorem dX8_bestRank_6 : decode cX8_bestRank 6 = .ok (.bipush (-5), 2) := by decide +kernel
theorem dX8_bestRank_8 : decode cX8_bestRank 8 = .ok (.istore_n 2, 1) := by decide +kernel
theorem dX8_bestRank_9 : decode cX8_bestRank 9 = .ok (.iconst 0, 1) := by decide +kernel
theorem dX8_bestRank_10 : decode cX8_bestRank 10 = .ok (.istore_n 3, 1) := by decide +kernel
theorem dX8_bestRank_11 : decode cX8_bestRank 11 = .ok (.iload_n 3, 1) := by decide +kernel
theorem dX8_bestRank_12 : decode cX8_bestRank 12 = .ok (.aload_n 0, 1) := by decide +kernel
theorem dX8_bestRank_13 : decode cX8_bestRank 13 = .ok (.getfield 75, 3) := by decide +kernel
theorem dX8_bestRank_16 : decode cX8_bestRank 16 = .ok (.if_icmp .ge 36, 3) := by decide +kernel
theorem dX8_bestRank_19 : decode cX8_bestRank 19 = .ok (.iload_n 2, 1) := by decide +kernel
theorem dX8_bestRank_20 : decode cX8_bestRank 20 = .ok (.bipush (-5), 2) := by decide +kernel
theorem dX8_bestRank_22 : decode cX8_bestRank 22 = .ok (.if_icmp .eq 18, 3) := by decide +kernel
theorem dX8_bestRank_25 : decode cX8_bestRank 25 = .ok (.aload_n 0, 1) := by decide +kernel
theorem dX8_bestRank_26 : decode cX8_bestRank 26 = .ok (.iload_n 1, 1) := by decide +kernel
theorem dX8_bestRank_27 : decode cX8_bestRank 27 = .ok (.iload_n 3, 1) := by decide +kernel
theorem dX8_bestRank_28 : decode cX8_bestRank 28 = .ok (.invokevirtual 146, 3) := by decide +kernel
theorem dX8_bestRank_31 : decode cX8_bestRank 31 = .ok (.aload_n 0, 1) := by decide +kernel
theorem dX8_bestRank_32 : decode cX8_bestRank 32 = .ok (.iload_n 1, 1) := by decide +kernel
theorem dX8_bestRank_33 : decode cX8_bestRank 33 = .ok (.iload_n 2, 1) := by decide +kernel
theorem dX8_bestRank_34 : decode cX8_bestRank 34 = .ok (.invokevirtual 146, 3) := by decide +kernel
theorem dX8_bestRank_37 : decode cX8_bestRank 37 = .ok (.if_icmp .ge 7, 3) := by decide +kernel
theorem dX8_bestRank_40 : decode cX8_bestRank 40 = .ok (.iload_n 3, 1) := by decide +kernel
theorem dX8_bestRank_41 : decode cX8_bestRank 41 = .ok (.goto 4, 3) := by decide +kernel
theorem dX8_bestRank_44 : decode cX8_bestRank 44 = .ok (.iload_n 2, 1) := by decide +kernel
theorem dX8_bestRank_45 : decode cX8_bestRank 45 = .ok (.istore_n 2, 1) := by decide +kernel
theorem dX8_bestRank_46 : decode cX8_bestRank 46 = .ok (.iinc 3 1, 3) := by decide +kernel
theorem dX8_bestRank_49 : decode cX8_bestRank 49 = .ok (.goto (-38), 3) := by decide +kernel
theorem dX8_bestRank_52 : decode cX8_bestRank 52 = .ok (.iload_n 2, 1) := by decide +kernel
theorem dX8_bestRank_53 : decode cX8_bestRank 53 = .ok (.ireturn, 1) := by decide +kernel
set_option maxRecDepth 20000 in
theorem ggX8_fewestSlips_X8_bestRank : GoodIn wsX8_fewestSlips wsX8_bestRank := goodIn_r _ [5, 6, 7, 8, 9, 4, 10, 11, 12, 13, 14, 15, 16, 17, 18, 19, 20, 21, 22, 23, 24, 25, 26, 27, 28, 29, 30, 31, 32, 33, 34, 35, 36, 37, 38, 39, 40, 41, 42, 43, 44, 45, 46, 47, 48, 49, 50, 51, 52, 53, 54, 55, 56, 57, 58, 59, 60, 61, 62, 63] (by decide +kernel) (by decide +kernel)
set_option maxRecDepth 20000 in
theorem gX8_fewestSlips_X8_bestRank : GoodIn wsX8_fewestSlips (wsV RX8 149 RX8 yX8_bestRank wsX8_bestRank) := goodIn_app (goodIn_of _ (by decide +kernel)) ggX8_fewestSlips_X8_bestRank
set_option maxRecDepth 20000 in
theorem ggX8_fewestSlips_X8_slipsOf : GoodIn wsX8_fewestSlips wsX8_slipsOf := goodIn_r _ [42, 12, 14, 19, 20, 21, 4, 22, 11, 43, 44, 45, 46, 47, 48, 49, 50, 51, 52, 53, 54, 55, 56, 57, 58, 59, 60, 61, 62, 63] (by decide +kernel) (by decide +kernel)
set_option maxRecDepth 20000 in
theorem gX8_fewestSlips_X8_slipsOf : GoodIn wsX8_fewestSlips (wsV RX8 146 RX8 yX8_slipsOf wsX8_slipsOf) := goodIn_app (goodIn_of _ (by decide +kernel)) ggX8_fewestSlips_X8_slipsOf
theorem dX8_fewestSlips_0 : decode cX8_fewestSlips 0 = .ok (.aload_n 0, 1) := by decide +kernel
theorem dX8_fewestSlips_1 : decode cX8_fewestSlips 1 = .ok (.iload_n 1, 1) := by decide +kernel
theorem dX8_fewestSlips_2 : decode cX8_fewestSlips 2 = .ok (.invokevirtual 149, 3) := by decide +kernel
theorem dX8_fewestSlips_5 : decode cX8_fewestSlips 5 = .ok (.istore_n 2, 1) := by decide +kernel
theorem dX8_fewestSlips_6 : decode cX8_fewestSlips 6 = .ok (.iload_n 2, 1) := by decide +kernel
theorem dX8_fewestSlips_7 : decode cX8_fewestSlips 7 = .ok (.bipush (-5), 2) := by decide +kernel
theorem dX8_fewestSlips_9 : decode cX8_fewestSlips 9 = .ok (.if_icmp .ne 8, 3) := by decide +kernel
theorem dX8_fewestSlips_12 : decode cX8_fewestSlips 12 = .ok (.bipush (-5), 2) := by decide +kernel
theorem dX8_fewestSlips_14 : decode cX8_fewestSlips 14 = .ok (.goto 9, 3) := by decide +kernel
theorem dX8_fewestSlips_17 : decode cX8_fewestSlips 17 = .ok (.aload_n 0, 1) := by decide +kernel
theorem dX8_fewestSlips_18 : decode cX8_fewestSlips 18 = .ok (.iload_n 1, 1) := by decide +kernel
theorem dX8_fewestSlips_19 : decode cX8_fewestSlips 19 = .ok (.iload_n 2, 1) := by decide +kernel
theorem dX8_fewestSlips_20 : decode cX8_fewestSlips 20 = .ok (.invokevirtual 146, 3) := by decide +kernel
theorem dX8_fewestSlips_23 : decode cX8_fewestSlips 23 = .ok (.ireturn, 1) := by decide +kernel
set_option maxRecDepth 20000 in
theorem ggX8_firstBest_X8_bestRank : GoodIn wsX8_firstBest wsX8_bestRank := goodIn_r _ [6, 7, 8, 9, 10, 5, 11, 12, 13, 14, 1, 15, 16, 17, 18, 19, 20, 21, 22, 23, 24, 25, 26, 27, 28, 29, 30, 31, 32, 33, 34, 35, 36, 37, 38, 39, 40, 41, 42, 43, 44, 45, 46, 47, 48, 49, 50, 51, 52, 53, 54, 55, 56, 57, 58, 59, 60, 61, 62, 63] (by decide +kernel) (by decide +kernel)
set_option maxRecDepth 20000 in
theorem gX8_firstBest_X8_bestRank : GoodIn wsX8_firstBest (wsV RX8 149 RX8 yX8_bestRank wsX8_bestRank) := goodIn_app (goodIn_of _ (by decide +kernel)) ggX8_firstBest_X8_bestRank
theorem dX8_firstBest_0 : decode cX8_firstBest 0 = .ok (.aload_n 0, 1) := by decide +kernel
theorem dX8_firstBest_1 : decode cX8_firstBest 1 = .ok (.iload_n 1, 1) := by decide +kernel
theorem dX8_firstBest_2 : decode cX8_firstBest 2 = .ok (.invokevirtual 149, 3) := by decide +kernel
theorem dX8_firstBest_5 : decode cX8_firstBest 5 = .ok (.istore_n 2, 1) := by decide +kernel
theorem dX8_firstBest_6 : decode cX8_firstBest 6 = .ok (.iload_n 2, 1) := by decide +kernel
theorem dX8_firstBest_7 : decode cX8_firstBest 7 = .ok (.bipush (-5), 2) := by decide +kernel
theorem dX8_firstBest_9 : decode cX8_firstBest 9 = .ok (.if_icmp .ne 8, 3) := by decide +kernel
theorem dX8_firstBest_12 : decode cX8_firstBest 12 = .ok (.bipush (-5), 2) := by decide +kernel
theorem dX8_firstBest_14 : decode cX8_firstBest 14 = .ok (.goto 9, 3) := by decide +kernel
theorem dX8_firstBest_17 : decode cX8_firstBest 17 = .ok (.aload_n 0, 1) := by decide +kernel
theorem dX8_firstBest_18 : decode cX8_firstBest 18 = .ok (.getfield 28, 3) := by decide +kernel
theorem dX8_firstBest_21 : decode cX8_firstBest 21 = .ok (.iload_n 2, 1) := by decide +kernel
theorem dX8_firstBest_22 : decode cX8_firstBest 22 = .ok (.iaload, 1) := by decide +kernel
theorem dX8_firstBest_23 : decode cX8_firstBest 23 = .ok (.ireturn, 1) := by decide +kernel
set_option maxRecDepth 20000 in
theorem ggX8_wildPlaces_X8_places : GoodIn wsX8_wildPlaces wsX8_places := goodIn_r _ [6, 7, 12, 13, 14, 15, 16, 17, 18, 19, 20, 21, 22, 23, 24, 25, 26, 27, 28, 29, 30, 31, 32] (by decide +kernel) (by decide +kernel)
set_option maxRecDepth 20000 in
theorem gX8_wildPlaces_X8_places : GoodIn wsX8_wildPlaces (wsV RX8 55 RX8 yX8_places wsX8_places) := goodIn_app (goodIn_of _ (by decide +kernel)) ggX8_wildPlaces_X8_places
set_option maxRecDepth 20000 in
theorem ggX8_wildPlaces_X8_taking : GoodIn wsX8_wildPlaces wsX8_taking := goodIn_r _ [11, 7, 12, 13, 14, 15, 16, 17, 18, 19, 20, 21, 22, 23, 24, 25, 26, 27, 28, 29, 30, 31, 32] (by decide +kernel) (by decide +kernel)
set_option maxRecDepth 20000 in
theorem gX8_wildPlaces_X8_taking : GoodIn wsX8_wildPlaces (wsV RX8 51 RX8 yX8_taking wsX8_taking) := goodIn_app (goodIn_of _ (by decide +kernel)) ggX8_wildPlaces_X8_taking
theorem dX8_wildPlaces_0 : decode cX8_wildPlaces 0 = .ok (.iconst 0, 1) := by decide +kernel
theorem dX8_wildPlaces_1 : decode cX8_wildPlaces 1 = .ok (.istore_n 2, 1) := by decide +kernel
theorem dX8_wildPlaces_2 : decode cX8_wildPlaces 2 = .ok (.iconst 0, 1) := by decide +kernel
theorem dX8_wildPlaces_3 : decode cX8_wildPlaces 3 = .ok (.istore_n 3, 1) := by decide +kernel
theorem dX8_wildPlaces_4 : decode cX8_wildPlaces 4 = .ok (.iload_n 3, 1) := by decide +kernel
theorem dX8_wildPlaces_5 : decode cX8_wildPlaces 5 = .ok (.aload_n 0, 1) := by decide +kernel
theorem dX8_wildPlaces_6 : decode cX8_wildPlaces 6 = .ok (.iload_n 1, 1) := by decide +kernel
theorem dX8_wildPlaces_7 : decode cX8_wildPlaces 7 = .ok (.invokevirtual 55, 3) := by decide +kernel
theorem dX8_wildPlaces_10 : decode cX8_wildPlaces 10 = .ok (.if_icmp .ge 28, 3) := by decide +kernel
theorem dX8_wildPlaces_13 : decode cX8_wildPlaces 13 = .ok (.iload_n 2, 1) := by decide +kernel
theorem dX8_wildPlaces_14 : decode cX8_wildPlaces 14 = .ok (.aload_n 0, 1) := by decide +kernel
theorem dX8_wildPlaces_15 : decode cX8_wildPlaces 15 = .ok (.iload_n 1, 1) := by decide +kernel
theorem dX8_wildPlaces_16 : decode cX8_wildPlaces 16 = .ok (.iload_n 3, 1) := by decide +kernel
theorem dX8_wildPlaces_17 : decode cX8_wildPlaces 17 = .ok (.invokevirtual 51, 3) := by decide +kernel
theorem dX8_wildPlaces_20 : decode cX8_wildPlaces 20 = .ok (.ldc 130, 2) := by decide +kernel
theorem dX8_wildPlaces_22 : decode cX8_wildPlaces 22 = .ok (.if_icmp .ne 7, 3) := by decide +kernel
theorem dX8_wildPlaces_25 : decode cX8_wildPlaces 25 = .ok (.iconst 1, 1) := by decide +kernel
theorem dX8_wildPlaces_26 : decode cX8_wildPlaces 26 = .ok (.goto 4, 3) := by decide +kernel
theorem dX8_wildPlaces_29 : decode cX8_wildPlaces 29 = .ok (.iconst 0, 1) := by decide +kernel
theorem dX8_wildPlaces_30 : decode cX8_wildPlaces 30 = .ok (.iadd, 1) := by decide +kernel
theorem dX8_wildPlaces_31 : decode cX8_wildPlaces 31 = .ok (.istore_n 2, 1) := by decide +kernel
theorem dX8_wildPlaces_32 : decode cX8_wildPlaces 32 = .ok (.iinc 3 1, 3) := by decide +kernel
theorem dX8_wildPlaces_35 : decode cX8_wildPlaces 35 = .ok (.goto (-31), 3) := by decide +kernel
theorem dX8_wildPlaces_38 : decode cX8_wildPlaces 38 = .ok (.iload_n 2, 1) := by decide +kernel
theorem dX8_wildPlaces_39 : decode cX8_wildPlaces 39 = .ok (.ireturn, 1) := by decide +kernel
set_option maxRecDepth 20000 in
theorem ggX8_isPlain_X8_places : GoodIn wsX8_isPlain wsX8_places := goodIn_r _ [5, 6, 14, 15, 16, 17, 18, 19, 20, 21, 22, 23, 24, 25, 26, 27, 28, 29, 30, 31, 32, 33, 34] (by decide +kernel) (by decide +kernel)
set_option maxRecDepth 20000 in
theorem gX8_isPlain_X8_places : GoodIn wsX8_isPlain (wsV RX8 55 RX8 yX8_places wsX8_places) := goodIn_app (goodIn_of _ (by decide +kernel)) ggX8_isPlain_X8_places
set_option maxRecDepth 20000 in
theorem ggX8_isPlain_X8_taking : GoodIn wsX8_isPlain wsX8_taking := goodIn_r _ [10, 6, 14, 15, 16, 17, 18, 19, 20, 21, 22, 23, 24, 25, 26, 27, 28, 29, 30, 31, 32, 33, 34] (by decide +kernel) (by decide +kernel)
set_option maxRecDepth 20000 in
theorem gX8_isPlain_X8_taking : GoodIn wsX8_isPlain (wsV RX8 51 RX8 yX8_taking wsX8_taking) := goodIn_app (goodIn_of _ (by decide +kernel)) ggX8_isPlain_X8_taking
set_option maxRecDepth 20000 in
theorem ggX8_isPlain_X8_bits : GoodIn wsX8_isPlain wsX8_bits := goodIn_r _ [13] (by decide +kernel) (by decide +kernel)
set_option maxRecDepth 20000 in
theorem gX8_isPlain_X8_bits : GoodIn wsX8_isPlain (va_wsS RX8 152 yX8_bits wsX8_bits) := goodIn_app (goodIn_of _ (by decide +kernel)) ggX8_isPlain_X8_bits
theorem dX8_isPlain_0 : decode cX8_isPlain 0 = .ok (.iconst 1, 1) := by decide +kernel
theorem dX8_isPlain_1 : decode cX8_isPlain 1 = .ok (.istore_n 2, 1) := by decide +kernel
theorem dX8_isPlain_2 : decode cX8_isPlain 2 = .ok (.iconst 0, 1) := by decide +kernel
theorem dX8_isPlain_3 : decode cX8_isPlain 3 = .ok (.istore_n 3, 1) := by decide +kernel
theorem dX8_isPlain_4 : decode cX8_isPlain 4 = .ok (.iload_n 3, 1) := by decide +kernel
theorem dX8_isPlain_5 : decode cX8_isPlain 5 = .ok (.aload_n 0, 1) := by decide +kernel
theorem dX8_isPlain_6 : decode cX8_isPlain 6 = .ok (.iload_n 1, 1) := by decide +kernel
theorem dX8_isPlain_7 : decode cX8_isPlain 7 = .ok (.invokevirtual 55, 3) := by decide +kernel
theorem dX8_isPlain_10 : decode cX8_isPlain 10 = .ok (.if_icmp .ge 32, 3) := by decide +kernel
theorem dX8_isPlain_13 : decode cX8_isPlain 13 = .ok (.iload_n 2, 1) := by decide +kernel
theorem dX8_isPlain_14 : decode cX8_isPlain 14 = .ok (.ifCond .eq 20, 3) := by decide +kernel
theorem dX8_isPlain_17 : decode cX8_isPlain 17 = .ok (.aload_n 0, 1) := by decide +kernel
theorem dX8_isPlain_18 : decode cX8_isPlain 18 = .ok (.iload_n 1, 1) := by decide +kernel
theorem dX8_isPlain_19 : decode cX8_isPlain 19 = .ok (.iload_n 3, 1) := by decide +kernel
theorem dX8_isPlain_20 : decode cX8_isPlain 20 = .ok (.invokevirtual 51, 3) := by decide +kernel
theorem dX8_isPlain_23 : decode cX8_isPlain 23 = .ok (.invokestatic 152, 3) := by decide +kernel
theorem dX8_isPlain_26 : decode cX8_isPlain 26 = .ok (.iconst 1, 1) := by decide +kernel
theorem dX8_isPlain_27 : decode cX8_isPlain 27 = .ok (.if_icmp .ne 7, 3) := by decide +kernel
theorem dX8_isPlain_30 : decode cX8_isPlain 30 = .ok (.iconst 1, 1) := by decide +kernel
theorem dX8_isPlain_31 : decode cX8_isPlain 31 = .ok (.goto 4, 3) := by decide +kernel
theorem dX8_isPlain_34 : decode cX8_isPlain 34 = .ok (.iconst 0, 1) := by decide +kernel
theorem dX8_isPlain_35 : decode cX8_isPlain 35 = .ok (.istore_n 2, 1) := by decide +kernel
theorem dX8_isPlain_36 : decode cX8_isPlain 36 = .ok (.iinc 3 1, 3) := by decide +kernel
theorem dX8_isPlain_39 : decode cX8_isPlain 39 = .ok (.goto (-35), 3) := by decide +kernel
theorem dX8_isPlain_42 : decode cX8_isPlain 42 = .ok (.iload_n 2, 1) := by decide +kernel
theorem dX8_isPlain_43 : decode cX8_isPlain 43 = .ok (.ireturn, 1) := by decide +kernel
set_option maxRecDepth 20000 in
theorem ggX8_pattern_X8_isPattern : GoodIn wsX8_pattern wsX8_isPattern := goodIn_r _ [6, 1, 7, 8, 5, 9, 74, 75, 76, 77, 78, 79, 80, 81, 82, 83, 84, 85, 86, 87, 88, 89, 90, 91, 92, 93, 94] (by decide +kernel) (by decide +kernel)
set_option maxRecDepth 20000 in
theorem gX8_pattern_X8_isPattern : GoodIn wsX8_pattern (wsV RX8 99 RX8 yX8_isPattern wsX8_isPattern) := goodIn_app (goodIn_of _ (by decide +kernel)) ggX8_pattern_X8_isPattern
set_option maxRecDepth 20000 in
theorem ggX8_pattern_X8_manyEnds : GoodIn wsX8_pattern wsX8_manyEnds := goodIn_r _ [13, 14, 15, 16, 17, 5, 18, 1, 19, 20, 21, 22, 23, 24, 25, 26, 27, 28, 29, 30, 31, 32, 33, 34, 35, 36, 37, 38, 39, 40, 41, 42, 43, 44, 45, 74, 75, 76, 77, 78, 79, 80, 81, 82, 83, 84, 85, 86, 87, 88, 89, 90, 91, 92, 93, 94] (by decide +kernel) (by decide +kernel)
set_option maxRecDepth 20000 in
theorem gX8_pattern_X8_manyEnds : GoodIn wsX8_pattern (wsV RX8 155 RX8 yX8_manyEnds wsX8_manyEnds) := goodIn_app (goodIn_of _ (by decide +kernel)) ggX8_pattern_X8_manyEnds
set_option maxRecDepth 20000 in
theorem ggX8_pattern_X8_fewestSlips : GoodIn wsX8_pattern wsX8_fewestSlips := goodIn_r _ [49, 50, 51, 52, 5, 53, 14, 15, 16, 17, 18, 1, 19, 20, 21, 22, 23, 24, 25, 26, 27, 28, 29, 30, 31, 32, 33, 34, 35, 36, 37, 38, 39, 40, 41, 42, 43, 44, 45, 54, 55, 56, 57, 74, 75, 76, 77, 78, 79, 80, 81, 82, 83, 84, 85, 86, 87, 88, 89, 90, 91, 92, 93, 94] (by decide +kernel) (by decide +kernel)
set_option maxRecDepth 20000 in
theorem gX8_pattern_X8_fewestSlips : GoodIn wsX8_pattern (wsV RX8 159 RX8 yX8_fewestSlips wsX8_fewestSlips) := goodIn_app (goodIn_of _ (by decide +kernel)) ggX8_pattern_X8_fewestSlips
set_option maxRecDepth 20000 in
theorem ggX8_pattern_X8_firstBest : GoodIn wsX8_pattern wsX8_firstBest := goodIn_r _ [61, 21, 50, 51, 52, 5, 53, 14, 15, 16, 17, 18, 1, 19, 20, 22, 23, 24, 25, 26, 27, 28, 29, 30, 31, 32, 33, 34, 35, 36, 37, 38, 39, 40, 41, 42, 43, 44, 45, 54, 55, 56, 57, 74, 75, 76, 77, 78, 79, 80, 81, 82, 83, 84, 85, 86, 87, 88, 89, 90, 91, 92, 93, 94] (by decide +kernel) (by decide +kernel)
set_option maxRecDepth 20000 in
theorem gX8_pattern_X8_firstBest : GoodIn wsX8_pattern (wsV RX8 162 RX8 yX8_firstBest wsX8_firstBest) := goodIn_app (goodIn_of _ (by decide +kernel)) ggX8_pattern_X8_firstBest
set_option maxRecDepth 20000 in
theorem ggX8_pattern_X8_wildPlaces : GoodIn wsX8_pattern wsX8_wildPlaces := goodIn_r _ [65, 66, 26, 27, 28, 5, 29, 1, 42, 43, 44, 45, 74, 75, 76, 77, 78, 79, 80, 81, 82, 83, 84, 85, 86, 87, 88, 89, 90, 91, 92, 93, 94] (by decide +kernel) (by decide +kernel)
set_option maxRecDepth 20000 in
theorem gX8_pattern_X8_wildPlaces : GoodIn wsX8_pattern (wsV RX8 165 RX8 yX8_wildPlaces wsX8_wildPlaces) := goodIn_app (goodIn_of _ (by decide +kernel)) ggX8_pattern_X8_wildPlaces
set_option maxRecDepth 20000 in
theorem ggX8_pattern_X8_isPlain : GoodIn wsX8_pattern wsX8_isPlain := goodIn_r _ [70, 26, 27, 28, 5, 29, 1, 42, 43, 44, 45, 71, 72, 73, 74, 75, 76, 77, 78, 79, 80, 81, 82, 83, 84, 85, 86, 87, 88, 89, 90, 91, 92, 93, 94] (by decide +kernel) (by decide +kernel)
set_option maxRecDepth 20000 in
theorem gX8_pattern_X8_isPlain : GoodIn wsX8_pattern (wsV RX8 168 RX8 yX8_isPlain wsX8_isPlain) := goodIn_app (goodIn_of _ (by decide +kernel)) ggX8_pattern_X8_isPlain
theorem dX8_pattern_0 : decode cX8_pattern 0 = .ok (.aload_n 0, 1) := by decide +kernel
theorem dX8_pattern_1 : decode cX8_pattern 1 = .ok (.iload_n 1, 1) := by decide +kernel
theorem dX8_pattern_2 : decode cX8_pattern 2 = .ok (.invokevirtual 99, 3) := by decide +kernel
theorem dX8_pattern_5 : decode cX8_pattern 5 = .ok (.ifCond .ne 5, 3) := by decide +kernel
theorem dX8_pattern_8 : decode cX8_pattern 8 = .ok (.iconst (-1), 1) := by decide +kernel
theorem dX8_pattern_9 : decode cX8_pattern 9 = .ok (.ireturn, 1) := by decide +kernel
theorem dX8_pattern_10 : decode cX8_pattern 10 = .ok (.iload_n 2, 1) := by decide +kernel
theorem dX8_pattern_11 : decode cX8_pattern 11 = .ok (.tableswitch 106 0 7 #[45, 45, 60, 67, 74, 80, 86, 92], 45) := by decide +kernel
theorem dX8_pattern_56 : decode cX8_pattern 56 = .ok (.aload_n 0, 1) := by decide +kernel
theorem dX8_pattern_57 : decode cX8_pattern 57 = .ok (.getfield 7, 3) := by decide +kernel
theorem dX8_pattern_60 : decode cX8_pattern 60 = .ok (.bipush 123, 2) := by decide +kernel
theorem dX8_pattern_62 : decode cX8_pattern 62 = .ok (.bipush 62, 2) := by decide +kernel
theorem dX8_pattern_64 : decode cX8_pattern 64 = .ok (.iload_n 1, 1) := by decide +kernel
theorem dX8_pattern_65 : decode cX8_pattern 65 = .ok (.imul, 1) := by decide +kernel
theorem dX8_pattern_66 : decode cX8_pattern 66 = .ok (.iadd, 1) := by decide +kernel
theorem dX8_pattern_67 : decode cX8_pattern 67 = .ok (.iload_n 2, 1) := by decide +kernel
theorem dX8_pattern_68 : decode cX8_pattern 68 = .ok (.iadd, 1) := by decide +kernel
theorem dX8_pattern_69 : decode cX8_pattern 69 = .ok (.iaload, 1) := by decide +kernel
theorem dX8_pattern_70 : decode cX8_pattern 70 = .ok (.ireturn, 1) := by decide +kernel
theorem dX8_pattern_71 : decode cX8_pattern 71 = .ok (.aload_n 0, 1) := by decide +kernel
theorem dX8_pattern_72 : decode cX8_pattern 72 = .ok (.iload_n 1, 1) := by decide +kernel
theorem dX8_pattern_73 : decode cX8_pattern 73 = .ok (.iconst 0, 1) := by decide +kernel
theorem dX8_pattern_74 : decode cX8_pattern 74 = .ok (.invokevirtual 155, 3) := by decide +kernel
theorem dX8_pattern_77 : decode cX8_pattern 77 = .ok (.ireturn, 1) := by decide +kernel
theorem dX8_pattern_78 : decode cX8_pattern 78 = .ok (.aload_n 0, 1) := by decide +kernel
theorem dX8_pattern_79 : decode cX8_pattern 79 = .ok (.iload_n 1, 1) := by decide +kernel
theorem dX8_pattern_80 : decode cX8_pattern 80 = .ok (.iconst 1, 1) := by decide +kernel
theorem dX8_pattern_81 : decode cX8_pattern 81 = .ok (.invokevirtual 155, 3) := by decide +kernel
theorem dX8_pattern_84 : decode cX8_pattern 84 = .ok (.ireturn, 1) := by decide +kernel
theorem dX8_pattern_85 : decode cX8_pattern 85 = .ok (.aload_n 0, 1) := by decide +kernel
theorem dX8_pattern_86 : decode cX8_pattern 86 = .ok (.iload_n 1, 1) := by decide +kernel
theorem dX8_pattern_87 : decode cX8_pattern 87 = .ok (.invokevirtual 159, 3) := by decide +kernel
theorem dX8_pattern_90 : decode cX8_pattern 90 = .ok (.ireturn, 1) := by decide +kernel
theorem dX8_pattern_91 : decode cX8_pattern 91 = .ok (.aload_n 0, 1) := by decide +kernel
theorem dX8_pattern_92 : decode cX8_pattern 92 = .ok (.iload_n 1, 1) := by decide +kernel
theorem dX8_pattern_93 : decode cX8_pattern 93 = .ok (.invokevirtual 162, 3) := by decide +kernel
theorem dX8_pattern_96 : decode cX8_pattern 96 = .ok (.ireturn, 1) := by decide +kernel
theorem dX8_pattern_97 : decode cX8_pattern 97 = .ok (.aload_n 0, 1) := by decide +kernel
theorem dX8_pattern_98 : decode cX8_pattern 98 = .ok (.iload_n 1, 1) := by decide +kernel
theorem dX8_pattern_99 : decode cX8_pattern 99 = .ok (.invokevirtual 165, 3) := by decide +kernel
theorem dX8_pattern_102 : decode cX8_pattern 102 = .ok (.ireturn, 1) := by decide +kernel
theorem dX8_pattern_103 : decode cX8_pattern 103 = .ok (.aload_n 0, 1) := by decide +kernel
theorem dX8_pattern_104 : decode cX8_pattern 104 = .ok (.iload_n 1, 1) := by decide +kernel
theorem dX8_pattern_105 : decode cX8_pattern 105 = .ok (.invokevirtual 168, 3) := by decide +kernel
theorem dX8_pattern_108 : decode cX8_pattern 108 = .ok (.ifCond .eq 7, 3) := by decide +kernel
theorem dX8_pattern_111 : decode cX8_pattern 111 = .ok (.iconst 1, 1) := by decide +kernel
theorem dX8_pattern_112 : decode cX8_pattern 112 = .ok (.goto 4, 3) := by decide +kernel
theorem dX8_pattern_115 : decode cX8_pattern 115 = .ok (.iconst 0, 1) := by decide +kernel
theorem dX8_pattern_116 : decode cX8_pattern 116 = .ok (.ireturn, 1) := by decide +kernel
theorem dX8_pattern_117 : decode cX8_pattern 117 = .ok (.bipush (-2), 2) := by decide +kernel
theorem dX8_pattern_119 : decode cX8_pattern 119 = .ok (.ireturn, 1) := by decide +kernel
set_option maxRecDepth 20000 in
theorem ggX8_takes_X8_isPattern : GoodIn wsX8_takes wsX8_isPattern := goodIn_r _ [5, 6, 7, 8, 4, 9, 18, 19, 20, 21, 22, 23, 24, 25, 26, 27, 28, 29, 30, 31, 32, 33, 34, 35, 36, 37, 38] (by decide +kernel) (by decide +kernel)
set_option maxRecDepth 20000 in
theorem gX8_takes_X8_isPattern : GoodIn wsX8_takes (wsV RX8 99 RX8 yX8_isPattern wsX8_isPattern) := goodIn_app (goodIn_of _ (by decide +kernel)) ggX8_takes_X8_isPattern
set_option maxRecDepth 20000 in
theorem ggX8_takes_X8_places : GoodIn wsX8_takes wsX8_places := goodIn_r _ [13, 6, 18, 19, 20, 21, 22, 23, 24, 25, 26, 27, 28, 29, 30, 31, 32, 33, 34, 35, 36, 37, 38] (by decide +kernel) (by decide +kernel)
set_option maxRecDepth 20000 in
theorem gX8_takes_X8_places : GoodIn wsX8_takes (wsV RX8 55 RX8 yX8_places wsX8_places) := goodIn_app (goodIn_of _ (by decide +kernel)) ggX8_takes_X8_places
set_option maxRecDepth 20000 in
theorem ggX8_takes_X8_in : GoodIn wsX8_takes wsX8_in := goodIn_r _ [9] (by decide +kernel) (by decide +kernel)
set_option maxRecDepth 20000 in
theorem gX8_takes_X8_in : GoodIn wsX8_takes (va_wsS RX8 47 yX8_in wsX8_in) := goodIn_app (goodIn_of _ (by decide +kernel)) ggX8_takes_X8_in
set_option maxRecDepth 20000 in
theorem ggX8_takes_X8_taking : GoodIn wsX8_takes wsX8_taking := goodIn_r _ [17, 6, 18, 19, 20, 21, 22, 23, 24, 25, 26, 27, 28, 29, 30, 31, 32, 33, 34, 35, 36, 37, 38] (by decide +kernel) (by decide +kernel)
set_option maxRecDepth 20000 in
theorem gX8_takes_X8_taking : GoodIn wsX8_takes (wsV RX8 51 RX8 yX8_taking wsX8_taking) := goodIn_app (goodIn_of _ (by decide +kernel)) ggX8_takes_X8_taking
theorem dX8_takes_0 : decode cX8_takes 0 = .ok (.aload_n 0, 1) := by decide +kernel
theorem dX8_takes_1 : decode cX8_takes 1 = .ok (.iload_n 1, 1) := by decide +kernel
theorem dX8_takes_2 : decode cX8_takes 2 = .ok (.invokevirtual 99, 3) := by decide +kernel
theorem dX8_takes_5 : decode cX8_takes 5 = .ok (.ifCond .eq 29, 3) := by decide +kernel
theorem dX8_takes_8 : decode cX8_takes 8 = .ok (.iload_n 2, 1) := by decide +kernel
theorem dX8_takes_9 : decode cX8_takes 9 = .ok (.i2l, 1) := by decide +kernel
theorem dX8_takes_10 : decode cX8_takes 10 = .ok (.lconst 0, 1) := by decide +kernel
theorem dX8_takes_11 : decode cX8_takes 11 = .ok (.aload_n 0, 1) := by decide +kernel
theorem dX8_takes_12 : decode cX8_takes 12 = .ok (.iload_n 1, 1) := by decide +kernel
theorem dX8_takes_13 : decode cX8_takes 13 = .ok (.invokevirtual 55, 3) := by decide +kernel
theorem dX8_takes_16 : decode cX8_takes 16 = .ok (.i2l, 1) := by decide +kernel
theorem dX8_takes_17 : decode cX8_takes 17 = .ok (.lconst 1, 1) := by decide +kernel
theorem dX8_takes_18 : decode cX8_takes 18 = .ok (.lsub, 1) := by decide +kernel
theorem dX8_takes_19 : decode cX8_takes 19 = .ok (.invokestatic 47, 3) := by decide +kernel
theorem dX8_takes_22 : decode cX8_takes 22 = .ok (.ifCond .eq 12, 3) := by decide +kernel
theorem dX8_takes_25 : decode cX8_takes 25 = .ok (.aload_n 0, 1) := by decide +kernel
theorem dX8_takes_26 : decode cX8_takes 26 = .ok (.iload_n 1, 1) := by decide +kernel
theorem dX8_takes_27 : decode cX8_takes 27 = .ok (.iload_n 2, 1) := by decide +kernel
theorem dX8_takes_28 : decode cX8_takes 28 = .ok (.invokevirtual 51, 3) := by decide +kernel
theorem dX8_takes_31 : decode cX8_takes 31 = .ok (.goto 4, 3) := by decide +kernel
theorem dX8_takes_34 : decode cX8_takes 34 = .ok (.iconst (-1), 1) := by decide +kernel
theorem dX8_takes_35 : decode cX8_takes 35 = .ok (.ireturn, 1) := by decide +kernel
set_option maxRecDepth 20000 in
theorem ggX8_end_X8_isPattern : GoodIn wsX8_end wsX8_isPattern := goodIn_r _ [8, 9, 10, 11, 7, 12, 51, 52, 53, 54, 55, 56, 57, 58, 59, 60, 61, 62, 63, 64, 65, 66, 67, 68, 69, 70, 71] (by decide +kernel) (by decide +kernel)
set_option maxRecDepth 20000 in
theorem gX8_end_X8_isPattern : GoodIn wsX8_end (wsV RX8 99 RX8 yX8_isPattern wsX8_isPattern) := goodIn_app (goodIn_of _ (by decide +kernel)) ggX8_end_X8_isPattern
set_option maxRecDepth 20000 in
theorem ggX8_end_X8_in : GoodIn wsX8_end wsX8_in := goodIn_r _ [12] (by decide +kernel) (by decide +kernel)
set_option maxRecDepth 20000 in
theorem gX8_end_X8_in : GoodIn wsX8_end (va_wsS RX8 47 yX8_in wsX8_in) := goodIn_app (goodIn_of _ (by decide +kernel)) ggX8_end_X8_in
set_option maxRecDepth 20000 in
theorem ggX8_end_X8_findsEnds : GoodIn wsX8_end wsX8_findsEnds := goodIn_r _ [16, 2, 9, 17, 18, 3, 19, 20, 21, 7, 22, 23, 24, 25, 26, 27, 28, 29, 30, 31, 32, 33, 34, 35, 36, 37, 38, 39, 40, 41, 42, 51, 52, 53, 54, 55, 56, 57, 58, 59, 60, 61, 62, 63, 64, 65, 66, 67, 68, 69, 70, 71] (by decide +kernel) (by decide +kernel)
set_option maxRecDepth 20000 in
theorem gX8_end_X8_findsEnds : GoodIn wsX8_end (wsV RX8 103 RX8 yX8_findsEnds wsX8_findsEnds) := goodIn_app (goodIn_of _ (by decide +kernel)) ggX8_end_X8_findsEnds
set_option maxRecDepth 20000 in
theorem ggX8_end_X8_slipsOf : GoodIn wsX8_end wsX8_slipsOf := goodIn_r _ [46, 17, 3, 23, 24, 25, 7, 26, 9, 51, 52, 53, 54, 55, 56, 57, 58, 59, 60, 61, 62, 63, 64, 65, 66, 67, 68, 69, 70, 71] (by decide +kernel) (by decide +kernel)
set_option maxRecDepth 20000 in
theorem gX8_end_X8_slipsOf : GoodIn wsX8_end (wsV RX8 146 RX8 yX8_slipsOf wsX8_slipsOf) := goodIn_app (goodIn_of _ (by decide +kernel)) ggX8_end_X8_slipsOf
set_option maxRecDepth 20000 in
theorem ggX8_end_X8_beginOf : GoodIn wsX8_end wsX8_beginOf := goodIn_r _ [50, 18, 3, 23, 24, 25, 7, 26, 9, 51, 52, 53, 54, 55, 56, 57, 58, 59, 60, 61, 62, 63, 64, 65, 66, 67, 68, 69, 70, 71] (by decide +kernel) (by decide +kernel)
set_option maxRecDepth 20000 in
theorem gX8_end_X8_beginOf : GoodIn wsX8_end (wsV RX8 107 RX8 yX8_beginOf wsX8_beginOf) := goodIn_app (goodIn_of _ (by decide +kernel)) ggX8_end_X8_beginOf
theorem dX8_end_0 : decode cX8_end 0 = .ok (.aload_n 0, 1) := by decide +kernel
theorem dX8_end_1 : decode cX8_end 1 = .ok (.iload_n 1, 1) := by decide +kernel
theorem dX8_end_2 : decode cX8_end 2 = .ok (.invokevirtual 99, 3) := by decide +kernel
theorem dX8_end_5 : decode cX8_end 5 = .ok (.ifCond .ne 5, 3) := by decide +kernel
theorem dX8_end_8 : decode cX8_end 8 = .ok (.iconst (-1), 1) := by decide +kernel
theorem dX8_end_9 : decode cX8_end 9 = .ok (.ireturn, 1) := by decide +kernel
theorem dX8_end_10 : decode cX8_end 10 = .ok (.iload_n 2, 1) := by decide +kernel
theorem dX8_end_11 : decode cX8_end 11 = .ok (.ifCond .lt 16, 3) := by decide +kernel
theorem dX8_end_14 : decode cX8_end 14 = .ok (.iload 4, 2) := by decide +kernel
theorem dX8_end_16 : decode cX8_end 16 = .ok (.i2l, 1) := by decide +kernel
theorem dX8_end_17 : decode cX8_end 17 = .ok (.lconst 0, 1) := by decide +kernel
theorem dX8_end_18 : decode cX8_end 18 = .ok (.ldc2_w 171, 3) := by decide +kernel
theorem dX8_end_21 : decode cX8_end 21 = .ok (.invokestatic 47, 3) := by decide +kernel
theorem dX8_end_24 : decode cX8_end 24 = .ok (.ifCond .ne 6, 3) := by decide +kernel
theorem dX8_end_27 : decode cX8_end 27 = .ok (.bipush (-2), 2) := by decide +kernel
theorem dX8_end_29 : decode cX8_end 29 = .ok (.ireturn, 1) := by decide +kernel
theorem dX8_end_30 : decode cX8_end 30 = .ok (.aload_n 0, 1) := by decide +kernel
theorem dX8_end_31 : decode cX8_end 31 = .ok (.iload_n 1, 1) := by decide +kernel
theorem dX8_end_32 : decode cX8_end 32 = .ok (.iload_n 3, 1) := by decide +kernel
theorem dX8_end_33 : decode cX8_end 33 = .ok (.invokevirtual 103, 3) := by decide +kernel
theorem dX8_end_36 : decode cX8_end 36 = .ok (.iload_n 2, 1) := by decide +kernel
theorem dX8_end_37 : decode cX8_end 37 = .ok (.aload_n 0, 1) := by decide +kernel
theorem dX8_end_38 : decode cX8_end 38 = .ok (.getfield 75, 3) := by decide +kernel
theorem dX8_end_41 : decode cX8_end 41 = .ok (.if_icmp .lt 6, 3) := by decide +kernel
theorem dX8_end_44 : decode cX8_end 44 = .ok (.bipush (-5), 2) := by decide +kernel
theorem dX8_end_46 : decode cX8_end 46 = .ok (.ireturn, 1) := by decide +kernel
theorem dX8_end_47 : decode cX8_end 47 = .ok (.iload 4, 2) := by decide +kernel
theorem dX8_end_49 : decode cX8_end 49 = .ok (.ifCond .ne 12, 3) := by decide +kernel
theorem dX8_end_52 : decode cX8_end 52 = .ok (.aload_n 0, 1) := by decide +kernel
theorem dX8_end_53 : decode cX8_end 53 = .ok (.getfield 28, 3) := by decide +kernel
theorem dX8_end_56 : decode cX8_end 56 = .ok (.iload_n 2, 1) := by decide +kernel
theorem dX8_end_57 : decode cX8_end 57 = .ok (.iaload, 1) := by decide +kernel
theorem dX8_end_58 : decode cX8_end 58 = .ok (.goto 24, 3) := by decide +kernel
theorem dX8_end_61 : decode cX8_end 61 = .ok (.iload 4, 2) := by decide +kernel
theorem dX8_end_63 : decode cX8_end 63 = .ok (.iconst 1, 1) := by decide +kernel
theorem dX8_end_64 : decode cX8_end 64 = .ok (.if_icmp .ne 12, 3) := by decide +kernel
theorem dX8_end_67 : decode cX8_end 67 = .ok (.aload_n 0, 1) := by decide +kernel
theorem dX8_end_68 : decode cX8_end 68 = .ok (.iload_n 1, 1) := by decide +kernel
theorem dX8_end_69 : decode cX8_end 69 = .ok (.iload_n 2, 1) := by decide +kernel
theorem dX8_end_70 : decode cX8_end 70 = .ok (.invokevirtual 146, 3) := by decide +kernel
theorem dX8_end_73 : decode cX8_end 73 = .ok (.goto 9, 3) := by decide +kernel
theorem dX8_end_76 : decode cX8_end 76 = .ok (.aload_n 0, 1) := by decide +kernel
theorem dX8_end_77 : decode cX8_end 77 = .ok (.iload_n 1, 1) := by decide +kernel
theorem dX8_end_78 : decode cX8_end 78 = .ok (.iload_n 2, 1) := by decide +kernel
theorem dX8_end_79 : decode cX8_end 79 = .ok (.invokevirtual 107, 3) := by decide +kernel
theorem dX8_end_82 : decode cX8_end 82 = .ok (.ireturn, 1) := by decide +kernel
set_option maxRecDepth 20000 in
theorem ggX8_column_X8_isPattern : GoodIn wsX8_column wsX8_isPattern := goodIn_r _ [9, 2, 10, 11, 8, 12, 38, 39, 40, 41, 42, 43, 44, 45, 46, 47, 48, 49, 50, 51, 52, 53, 54, 55, 56, 57, 58] (by decide +kernel) (by decide +kernel)
set_option maxRecDepth 20000 in
theorem gX8_column_X8_isPattern : GoodIn wsX8_column (wsV RX8 99 RX8 yX8_isPattern wsX8_isPattern) := goodIn_app (goodIn_of _ (by decide +kernel)) ggX8_column_X8_isPattern
set_option maxRecDepth 20000 in
theorem ggX8_column_X8_in : GoodIn wsX8_column wsX8_in := goodIn_r _ [12] (by decide +kernel) (by decide +kernel)
set_option maxRecDepth 20000 in
theorem gX8_column_X8_in : GoodIn wsX8_column (va_wsS RX8 47 yX8_in wsX8_in) := goodIn_app (goodIn_of _ (by decide +kernel)) ggX8_column_X8_in
set_option maxRecDepth 20000 in
theorem ggX8_column_X8_finds : GoodIn wsX8_column wsX8_finds := goodIn_r _ [16, 2, 4, 17, 18, 19, 20, 8, 21, 22, 23, 24, 25, 26, 27, 28, 29, 30, 31, 32, 33, 34, 35, 36, 37, 38, 39, 40, 41, 42, 43, 44, 45, 46, 47, 48, 49, 50, 51, 52, 53, 54, 55, 56, 57, 58] (by decide +kernel) (by decide +kernel)
set_option maxRecDepth 20000 in
theorem gX8_column_X8_finds : GoodIn wsX8_column (wsV RX8 71 RX8 yX8_finds wsX8_finds) := goodIn_app (goodIn_of _ (by decide +kernel)) ggX8_column_X8_finds
set_option maxRecDepth 20000 in
theorem ggX8_column_X8_places : GoodIn wsX8_column wsX8_places := goodIn_r _ [21, 2, 38, 39, 40, 41, 42, 43, 44, 45, 46, 47, 48, 49, 50, 51, 52, 53, 54, 55, 56, 57, 58] (by decide +kernel) (by decide +kernel)
set_option maxRecDepth 20000 in
theorem gX8_column_X8_places : GoodIn wsX8_column (wsV RX8 55 RX8 yX8_places wsX8_places) := goodIn_app (goodIn_of _ (by decide +kernel)) ggX8_column_X8_places
theorem dX8_column_0 : decode cX8_column 0 = .ok (.aload_n 0, 1) := by decide +kernel
theorem dX8_column_1 : decode cX8_column 1 = .ok (.iload_n 1, 1) := by decide +kernel
theorem dX8_column_2 : decode cX8_column 2 = .ok (.invokevirtual 99, 3) := by decide +kernel
theorem dX8_column_5 : decode cX8_column 5 = .ok (.ifCond .ne 7, 3) := by decide +kernel
theorem dX8_column_8 : decode cX8_column 8 = .ok (.ldc2_w 173, 3) := by decide +kernel
theorem dX8_column_11 : decode cX8_column 11 = .ok (.lreturn, 1) := by decide +kernel
theorem dX8_column_12 : decode cX8_column 12 = .ok (.iload_n 2, 1) := by decide +kernel
theorem dX8_column_13 : decode cX8_column 13 = .ok (.i2l, 1) := by decide +kernel
theorem dX8_column_14 : decode cX8_column 14 = .ok (.lconst 0, 1) := by decide +kernel
theorem dX8_column_15 : decode cX8_column 15 = .ok (.aload_n 0, 1) := by decide +kernel
theorem dX8_column_16 : decode cX8_column 16 = .ok (.getfield 7, 3) := by decide +kernel
theorem dX8_column_19 : decode cX8_column 19 = .ok (.iconst 2, 1) := by decide +kernel
theorem dX8_column_20 : decode cX8_column 20 = .ok (.iaload, 1) := by decide +kernel
theorem dX8_column_21 : decode cX8_column 21 = .ok (.i2l, 1) := by decide +kernel
theorem dX8_column_22 : decode cX8_column 22 = .ok (.invokestatic 47, 3) := by decide +kernel
theorem dX8_column_25 : decode cX8_column 25 = .ok (.ifCond .eq 19, 3) := by decide +kernel
theorem dX8_column_28 : decode cX8_column 28 = .ok (.iload_n 3, 1) := by decide +kernel
theorem dX8_column_29 : decode cX8_column 29 = .ok (.i2l, 1) := by decide +kernel
theorem dX8_column_30 : decode cX8_column 30 = .ok (.lconst 0, 1) := by decide +kernel
theorem dX8_column_31 : decode cX8_column 31 = .ok (.aload_n 0, 1) := by decide +kernel
theorem dX8_column_32 : decode cX8_column 32 = .ok (.getfield 7, 3) := by decide +kernel
theorem dX8_column_35 : decode cX8_column 35 = .ok (.iconst 0, 1) := by decide +kernel
theorem dX8_column_36 : decode cX8_column 36 = .ok (.iaload, 1) := by decide +kernel
theorem dX8_column_37 : decode cX8_column 37 = .ok (.i2l, 1) := by decide +kernel
theorem dX8_column_38 : decode cX8_column 38 = .ok (.invokestatic 47, 3) := by decide +kernel
theorem dX8_column_41 : decode cX8_column 41 = .ok (.ifCond .ne 7, 3) := by decide +kernel
theorem dX8_column_44 : decode cX8_column 44 = .ok (.ldc2_w 175, 3) := by decide +kernel
theorem dX8_column_47 : decode cX8_column 47 = .ok (.lreturn, 1) := by decide +kernel
theorem dX8_column_48 : decode cX8_column 48 = .ok (.aload_n 0, 1) := by decide +kernel
theorem dX8_column_49 : decode cX8_column 49 = .ok (.iload_n 1, 1) := by decide +kernel
theorem dX8_column_50 : decode cX8_column 50 = .ok (.invokevirtual 71, 3) := by decide +kernel
theorem dX8_column_53 : decode cX8_column 53 = .ok (.lconst 0, 1) := by decide +kernel
theorem dX8_column_54 : decode cX8_column 54 = .ok (.lstore 4, 2) := by decide +kernel
theorem dX8_column_56 : decode cX8_column 56 = .ok (.iconst 0, 1) := by decide +kernel
theorem dX8_column_57 : decode cX8_column 57 = .ok (.istore 6, 2) := by decide +kernel
theorem dX8_column_59 : decode cX8_column 59 = .ok (.iload 6, 2) := by decide +kernel
theorem dX8_column_61 : decode cX8_column 61 = .ok (.aload_n 0, 1) := by decide +kernel
theorem dX8_column_62 : decode cX8_column 62 = .ok (.iload_n 1, 1) := by decide +kernel
theorem dX8_column_63 : decode cX8_column 63 = .ok (.invokevirtual 55, 3) := by decide +kernel
theorem dX8_column_66 : decode cX8_column 66 = .ok (.if_icmp .ge 40, 3) := by decide +kernel
theorem dX8_column_69 : decode cX8_column 69 = .ok (.lload 4, 2) := by decide +kernel
theorem dX8_column_71 : decode cX8_column 71 = .ok (.aload_n 0, 1) := by decide +kernel
theorem dX8_column_72 : decode cX8_column 72 = .ok (.getfield 22, 3) := by decide +kernel
theorem dX8_column_75 : decode cX8_column 75 = .ok (.bipush 121, 2) := by decide +kernel
theorem dX8_column_77 : decode cX8_column 77 = .ok (.iload 6, 2) := by decide +kernel
theorem dX8_column_79 : decode cX8_column 79 = .ok (.iconst 1, 1) := by decide +kernel
theorem dX8_column_80 : decode cX8_column 80 = .ok (.iadd, 1) := by decide +kernel
theorem dX8_column_81 : decode cX8_column 81 = .ok (.imul, 1) := by decide +kernel
theorem dX8_column_82 : decode cX8_column 82 = .ok (.iload_n 3, 1) := by decide +kernel
theorem dX8_column_83 : decode cX8_column 83 = .ok (.iadd, 1) := by decide +kernel
theorem dX8_column_84 : decode cX8_column 84 = .ok (.iaload, 1) := by decide +kernel
theorem dX8_column_85 : decode cX8_column 85 = .ok (.iload_n 2, 1) := by decide +kernel
theorem dX8_column_86 : decode cX8_column 86 = .ok (.if_icmp .gt 10, 3) := by decide +kernel
theorem dX8_column_89 : decode cX8_column 89 = .ok (.lconst 1, 1) := by decide +kernel
theorem dX8_column_90 : decode cX8_column 90 = .ok (.iload 6, 2) := by decide +kernel
theorem dX8_column_92 : decode cX8_column 92 = .ok (.lshl, 1) := by decide +kernel
theorem dX8_column_93 : decode cX8_column 93 = .ok (.goto 4, 3) := by decide +kernel
theorem dX8_column_96 : decode cX8_column 96 = .ok (.lconst 0, 1) := by decide +kernel
theorem dX8_column_97 : decode cX8_column 97 = .ok (.lor, 1) := by decide +kernel
theorem dX8_column_98 : decode cX8_column 98 = .ok (.lstore 4, 2) := by decide +kernel
theorem dX8_column_100 : decode cX8_column 100 = .ok (.iinc 6 1, 3) := by decide +kernel
theorem dX8_column_103 : decode cX8_column 103 = .ok (.goto (-44), 3) := by decide +kernel
theorem dX8_column_106 : decode cX8_column 106 = .ok (.lload 4, 2) := by decide +kernel
theorem dX8_column_108 : decode cX8_column 108 = .ok (.lreturn, 1) := by decide +kernel
set_option maxRecDepth 20000 in
theorem ggX8_fits_X8_places : GoodIn wsX8_fits wsX8_places := goodIn_r _ [6, 7, 16, 17, 18, 19, 20, 21, 22, 23, 24, 25, 26, 27, 28, 29, 30, 31, 32, 33, 34, 35, 36] (by decide +kernel) (by decide +kernel)
set_option maxRecDepth 20000 in
theorem gX8_fits_X8_places : GoodIn wsX8_fits (wsV RX8 55 RX8 yX8_places wsX8_places) := goodIn_app (goodIn_of _ (by decide +kernel)) ggX8_fits_X8_places
set_option maxRecDepth 20000 in
theorem ggX8_fits_X8_isTaken : GoodIn wsX8_fits wsX8_isTaken := goodIn_r _ [11, 7, 12, 13, 14, 5, 15, 16, 17, 18, 19, 20, 21, 22, 23, 24, 25, 26, 27, 28, 29, 30, 31, 32, 33, 34, 35, 36] (by decide +kernel) (by decide +kernel)
set_option maxRecDepth 20000 in
theorem gX8_fits_X8_isTaken : GoodIn wsX8_fits (wsV RX8 67 RX8 yX8_isTaken wsX8_isTaken) := goodIn_app (goodIn_of _ (by decide +kernel)) ggX8_fits_X8_isTaken
theorem dX8_fits_0 : decode cX8_fits 0 = .ok (.iconst 0, 1) := by decide +kernel
theorem dX8_fits_1 : decode cX8_fits 1 = .ok (.istore 4, 2) := by decide +kernel
theorem dX8_fits_3 : decode cX8_fits 3 = .ok (.iload 4, 2) := by decide +kernel
theorem dX8_fits_5 : decode cX8_fits 5 = .ok (.aload_n 0, 1) := by decide +kernel
theorem dX8_fits_6 : decode cX8_fits 6 = .ok (.iload_n 1, 1) := by decide +kernel
theorem dX8_fits_7 : decode cX8_fits 7 = .ok (.invokevirtual 55, 3) := by decide +kernel
theorem dX8_fits_10 : decode cX8_fits 10 = .ok (.if_icmp .gt 231, 3) := by decide +kernel
theorem dX8_fits_13 : decode cX8_fits 13 = .ok (.iconst 0, 1) := by decide +kernel
theorem dX8_fits_14 : decode cX8_fits 14 = .ok (.istore 5, 2) := by decide +kernel
theorem dX8_fits_16 : decode cX8_fits 16 = .ok (.iload 5, 2) := by decide +kernel
theorem dX8_fits_18 : decode cX8_fits 18 = .ok (.iload_n 3, 1) := by decide +kernel
theorem dX8_fits_19 : decode cX8_fits 19 = .ok (.iload_n 2, 1) := by decide +kernel
theorem dX8_fits_20 : decode cX8_fits 20 = .ok (.isub, 1) := by decide +kernel
theorem dX8_fits_21 : decode cX8_fits 21 = .ok (.if_icmp .gt 214, 3) := by decide +kernel
theorem dX8_fits_24 : decode cX8_fits 24 = .ok (.bipush 121, 2) := by decide +kernel
theorem dX8_fits_26 : decode cX8_fits 26 = .ok (.iload 4, 2) := by decide +kernel
theorem dX8_fits_28 : decode cX8_fits 28 = .ok (.imul, 1) := by decide +kernel
theorem dX8_fits_29 : decode cX8_fits 29 = .ok (.iload 5, 2) := by decide +kernel
theorem dX8_fits_31 : decode cX8_fits 31 = .ok (.iadd, 1) := by decide +kernel
theorem dX8_fits_32 : decode cX8_fits 32 = .ok (.istore 6, 2) := by decide +kernel
theorem dX8_fits_34 : decode cX8_fits 34 = .ok (.iload 4, 2) := by decide +kernel
theorem dX8_fits_36 : decode cX8_fits 36 = .ok (.ifCond .ne 12, 3) := by decide +kernel
theorem dX8_fits_39 : decode cX8_fits 39 = .ok (.iload 5, 2) := by decide +kernel
theorem dX8_fits_41 : decode cX8_fits 41 = .ok (.ifCond .ne 7, 3) := by decide +kernel
theorem dX8_fits_44 : decode cX8_fits 44 = .ok (.iconst 0, 1) := by decide +kernel
theorem dX8_fits_45 : decode cX8_fits 45 = .ok (.goto 6, 3) := by decide +kernel
theorem dX8_fits_48 : decode cX8_fits 48 = .ok (.sipush 1000, 3) := by decide +kernel
theorem dX8_fits_51 : decode cX8_fits 51 = .ok (.istore 7, 2) := by decide +kernel
theorem dX8_fits_53 : decode cX8_fits 53 = .ok (.iload 5, 2) := by decide +kernel
theorem dX8_fits_55 : decode cX8_fits 55 = .ok (.ifCond .le 33, 3) := by decide +kernel
theorem dX8_fits_58 : decode cX8_fits 58 = .ok (.aload_n 0, 1) := by decide +kernel
theorem dX8_fits_59 : decode cX8_fits 59 = .ok (.getfield 37, 3) := by decide +kernel
theorem dX8_fits_62 : decode cX8_fits 62 = .ok (.iload 6, 2) := by decide +kernel
theorem dX8_fits_64 : decode cX8_fits 64 = .ok (.iconst 1, 1) := by decide +kernel
theorem dX8_fits_65 : decode cX8_fits 65 = .ok (.isub, 1) := by decide +kernel
theorem dX8_fits_66 : decode cX8_fits 66 = .ok (.iaload, 1) := by decide +kernel
theorem dX8_fits_67 : decode cX8_fits 67 = .ok (.iconst 1, 1) := by decide +kernel
theorem dX8_fits_68 : decode cX8_fits 68 = .ok (.iadd, 1) := by decide +kernel
theorem dX8_fits_69 : decode cX8_fits 69 = .ok (.iload 7, 2) := by decide +kernel
theorem dX8_fits_71 : decode cX8_fits 71 = .ok (.if_icmp .ge 17, 3) := by decide +kernel
theorem dX8_fits_74 : decode cX8_fits 74 = .ok (.aload_n 0, 1) := by decide +kernel
theorem dX8_fits_75 : decode cX8_fits 75 = .ok (.getfield 37, 3) := by decide +kernel
theorem dX8_fits_78 : decode cX8_fits 78 = .ok (.iload 6, 2) := by decide +kernel
theorem dX8_fits_80 : decode cX8_fits 80 = .ok (.iconst 1, 1) := by decide +kernel
theorem dX8_fits_81 : decode cX8_fits 81 = .ok (.isub, 1) := by decide +kernel
theorem dX8_fits_82 : decode cX8_fits 82 = .ok (.iaload, 1) := by decide +kernel
theorem dX8_fits_83 : decode cX8_fits 83 = .ok (.iconst 1, 1) := by decide +kernel
theorem dX8_fits_84 : decode cX8_fits 84 = .ok (.iadd, 1) := by decide +kernel
theorem dX8_fits_85 : decode cX8_fits 85 = .ok (.goto 5, 3) := by decide +kernel
theorem dX8_fits_88 : decode cX8_fits 88 = .ok (.iload 7, 2) := by decide +kernel
theorem dX8_fits_90 : decode cX8_fits 90 = .ok (.istore 7, 2) := by decide +kernel
theorem dX8_fits_92 : decode cX8_fits 92 = .ok (.iload 4, 2) := by decide +kernel
theorem dX8_fits_94 : decode cX8_fits 94 = .ok (.ifCond .le 35, 3) := by decide +kernel
theorem dX8_fits_97 : decode cX8_fits 97 = .ok (.aload_n 0, 1) := by decide +kernel
theorem dX8_fits_98 : decode cX8_fits 98 = .ok (.getfield 37, 3) := by decide +kernel
theorem dX8_fits_101 : decode cX8_fits 101 = .ok (.iload 6, 2) := by decide +kernel
theorem dX8_fits_103 : decode cX8_fits 103 = .ok (.bipush 121, 2) := by decide +kernel
theorem dX8_fits_105 : decode cX8_fits 105 = .ok (.isub, 1) := by decide +kernel
theorem dX8_fits_106 : decode cX8_fits 106 = .ok (.iaload, 1) := by decide +kernel
theorem dX8_fits_107 : decode cX8_fits 107 = .ok (.iconst 1, 1) := by decide +kernel
theorem dX8_fits_108 : decode cX8_fits 108 = .ok (.iadd, 1) := by decide +kernel
theorem dX8_fits_109 : decode cX8_fits 109 = .ok (.iload 7, 2) := by decide +kernel
theorem dX8_fits_111 : decode cX8_fits 111 = .ok (.if_icmp .ge 18, 3) := by decide +kernel
theorem dX8_fits_114 : decode cX8_fits 114 = .ok (.aload_n 0, 1) := by decide +kernel
theorem dX8_fits_115 : decode cX8_fits 115 = .ok (.getfield 37, 3) := by decide +kernel
theorem dX8_fits_118 : decode cX8_fits 118 = .ok (.iload 6, 2) := by decide +kernel
theorem dX8_fits_120 : decode cX8_fits 120 = .ok (.bipush 121, 2) := by decide +kernel
theorem dX8_fits_122 : decode cX8_fits 122 = .ok (.isub, 1) := by decide +kernel
theorem dX8_fits_123 : decode cX8_fits 123 = .ok (.iaload, 1) := by decide +kernel
theorem dX8_fits_124 : decode cX8_fits 124 = .ok (.iconst 1, 1) := by decide +kernel
theorem dX8_fits_125 : decode cX8_fits 125 = .ok (.iadd, 1) := by decide +kernel
theorem dX8_fits_126 : decode cX8_fits 126 = .ok (.goto 5, 3) := by decide +kernel
theorem dX8_fits_129 : decode cX8_fits 129 = .ok (.iload 7, 2) := by decide +kernel
theorem dX8_fits_131 : decode cX8_fits 131 = .ok (.istore 7, 2) := by decide +kernel
theorem dX8_fits_133 : decode cX8_fits 133 = .ok (.iload 4, 2) := by decide +kernel
theorem dX8_fits_135 : decode cX8_fits 135 = .ok (.ifCond .le 30, 3) := by decide +kernel
theorem dX8_fits_138 : decode cX8_fits 138 = .ok (.iload 5, 2) := by decide +kernel
theorem dX8_fits_140 : decode cX8_fits 140 = .ok (.ifCond .le 25, 3) := by decide +kernel
theorem dX8_fits_143 : decode cX8_fits 143 = .ok (.aload_n 0, 1) := by decide +kernel
theorem dX8_fits_144 : decode cX8_fits 144 = .ok (.iload_n 1, 1) := by decide +kernel
theorem dX8_fits_145 : decode cX8_fits 145 = .ok (.iload 4, 2) := by decide +kernel
theorem dX8_fits_147 : decode cX8_fits 147 = .ok (.iconst 1, 1) := by decide +kernel
theorem dX8_fits_148 : decode cX8_fits 148 = .ok (.isub, 1) := by decide +kernel
theorem dX8_fits_149 : decode cX8_fits 149 = .ok (.iload_n 2, 1) := by decide +kernel
theorem dX8_fits_150 : decode cX8_fits 150 = .ok (.iload 5, 2) := by decide +kernel
theorem dX8_fits_152 : decode cX8_fits 152 = .ok (.iadd, 1) := by decide +kernel
theorem dX8_fits_153 : decode cX8_fits 153 = .ok (.iconst 1, 1) := by decide +kernel
theorem dX8_fits_154 : decode cX8_fits 154 = .ok (.isub, 1) := by decide +kernel
theorem dX8_fits_155 : decode cX8_fits 155 = .ok (.invokevirtual 67, 3) := by decide +kernel
theorem dX8_fits_158 : decode cX8_fits 158 = .ok (.ifCond .eq 7, 3) := by decide +kernel
theorem dX8_fits_161 : decode cX8_fits 161 = .ok (.iconst 0, 1) := by decide +kernel
theorem dX8_fits_162 : decode cX8_fits 162 = .ok (.goto 4, 3) := by decide +kernel
theorem dX8_fits_165 : decode cX8_fits 165 = .ok (.iconst 1, 1) := by decide +kernel
theorem dX8_fits_166 : decode cX8_fits 166 = .ok (.istore 8, 2) := by decide +kernel
theorem dX8_fits_168 : decode cX8_fits 168 = .ok (.iload 4, 2) := by decide +kernel
theorem dX8_fits_170 : decode cX8_fits 170 = .ok (.ifCond .le 46, 3) := by decide +kernel
theorem dX8_fits_173 : decode cX8_fits 173 = .ok (.iload 5, 2) := by decide +kernel
theorem dX8_fits_175 : decode cX8_fits 175 = .ok (.ifCond .le 41, 3) := by decide +kernel
theorem dX8_fits_178 : decode cX8_fits 178 = .ok (.aload_n 0, 1) := by decide +kernel
theorem dX8_fits_179 : decode cX8_fits 179 = .ok (.getfield 37, 3) := by decide +kernel
theorem dX8_fits_182 : decode cX8_fits 182 = .ok (.iload 6, 2) := by decide +kernel
theorem dX8_fits_184 : decode cX8_fits 184 = .ok (.bipush 121, 2) := by decide +kernel
theorem dX8_fits_186 : decode cX8_fits 186 = .ok (.isub, 1) := by decide +kernel
theorem dX8_fits_187 : decode cX8_fits 187 = .ok (.iconst 1, 1) := by decide +kernel
theorem dX8_fits_188 : decode cX8_fits 188 = .ok (.isub, 1) := by decide +kernel
theorem dX8_fits_189 : decode cX8_fits 189 = .ok (.iaload, 1) := by decide +kernel
theorem dX8_fits_190 : decode cX8_fits 190 = .ok (.iload 8, 2) := by decide +kernel
theorem dX8_fits_192 : decode cX8_fits 192 = .ok (.iadd, 1) := by decide +kernel
theorem dX8_fits_193 : decode cX8_fits 193 = .ok (.iload 7, 2) := by decide +kernel
theorem dX8_fits_195 : decode cX8_fits 195 = .ok (.if_icmp .ge 21, 3) := by decide +kernel
theorem dX8_fits_198 : decode cX8_fits 198 = .ok (.aload_n 0, 1) := by decide +kernel
theorem dX8_fits_199 : decode cX8_fits 199 = .ok (.getfield 37, 3) := by decide +kernel
theorem dX8_fits_202 : decode cX8_fits 202 = .ok (.iload 6, 2) := by decide +kernel
theorem dX8_fits_204 : decode cX8_fits 204 = .ok (.bipush 121, 2) := by decide +kernel
theorem dX8_fits_206 : decode cX8_fits 206 = .ok (.isub, 1) := by decide +kernel
theorem dX8_fits_207 : decode cX8_fits 207 = .ok (.iconst 1, 1) := by decide +kernel
theorem dX8_fits_208 : decode cX8_fits 208 = .ok (.isub, 1) := by decide +kernel
theorem dX8_fits_209 : decode cX8_fits 209 = .ok (.iaload, 1) := by decide +kernel
theorem dX8_fits_210 : decode cX8_fits 210 = .ok (.iload 8, 2) := by decide +kernel
theorem dX8_fits_212 : decode cX8_fits 212 = .ok (.iadd, 1) := by decide +kernel
theorem dX8_fits_213 : decode cX8_fits 213 = .ok (.goto 5, 3) := by decide +kernel
theorem dX8_fits_216 : decode cX8_fits 216 = .ok (.iload 7, 2) := by decide +kernel
theorem dX8_fits_218 : decode cX8_fits 218 = .ok (.istore 7, 2) := by decide +kernel
theorem dX8_fits_220 : decode cX8_fits 220 = .ok (.aload_n 0, 1) := by decide +kernel
theorem dX8_fits_221 : decode cX8_fits 221 = .ok (.getfield 37, 3) := by decide +kernel
theorem dX8_fits_224 : decode cX8_fits 224 = .ok (.iload 6, 2) := by decide +kernel
theorem dX8_fits_226 : decode cX8_fits 226 = .ok (.iload 7, 2) := by decide +kernel
theorem dX8_fits_228 : decode cX8_fits 228 = .ok (.iastore, 1) := by decide +kernel
theorem dX8_fits_229 : decode cX8_fits 229 = .ok (.iinc 5 1, 3) := by decide +kernel
theorem dX8_fits_232 : decode cX8_fits 232 = .ok (.goto (-216), 3) := by decide +kernel
theorem dX8_fits_235 : decode cX8_fits 235 = .ok (.iinc 4 1, 3) := by decide +kernel
theorem dX8_fits_238 : decode cX8_fits 238 = .ok (.goto (-235), 3) := by decide +kernel
theorem dX8_fits_241 : decode cX8_fits 241 = .ok (.return_, 1) := by decide +kernel
set_option maxRecDepth 20000 in
theorem ggX8_goesBack_X8_places : GoodIn wsX8_goesBack wsX8_places := goodIn_r _ [9, 10, 19, 20, 21, 22, 23, 24, 25, 26, 27, 28, 29, 30, 31, 32, 33, 34, 35, 36, 37, 38, 39] (by decide +kernel) (by decide +kernel)
set_option maxRecDepth 20000 in
theorem gX8_goesBack_X8_places : GoodIn wsX8_goesBack (wsV RX8 55 RX8 yX8_places wsX8_places) := goodIn_app (goodIn_of _ (by decide +kernel)) ggX8_goesBack_X8_places
set_option maxRecDepth 20000 in
theorem ggX8_goesBack_X8_isTaken : GoodIn wsX8_goesBack wsX8_isTaken := goodIn_r _ [14, 10, 15, 16, 17, 8, 18, 19, 20, 21, 22, 23, 24, 25, 26, 27, 28, 29, 30, 31, 32, 33, 34, 35, 36, 37, 38, 39] (by decide +kernel) (by decide +kernel)
set_option maxRecDepth 20000 in
theorem gX8_goesBack_X8_isTaken : GoodIn wsX8_goesBack (wsV RX8 67 RX8 yX8_isTaken wsX8_isTaken) := goodIn_app (goodIn_of _ (by decide +kernel)) ggX8_goesBack_X8_isTaken
theorem dX8_goesBack_0 : decode cX8_goesBack 0 = .ok (.aload_n 0, 1) := by decide +kernel
theorem dX8_goesBack_1 : decode cX8_goesBack 1 = .ok (.iconst 0, 1) := by decide +kernel
theorem dX8_goesBack_2 : decode cX8_goesBack 2 = .ok (.putfield 177, 3) := by decide +kernel
theorem dX8_goesBack_5 : decode cX8_goesBack 5 = .ok (.aload_n 0, 1) := by decide +kernel
theorem dX8_goesBack_6 : decode cX8_goesBack 6 = .ok (.iconst 0, 1) := by decide +kernel
theorem dX8_goesBack_7 : decode cX8_goesBack 7 = .ok (.putfield 180, 3) := by decide +kernel
theorem dX8_goesBack_10 : decode cX8_goesBack 10 = .ok (.aload_n 0, 1) := by decide +kernel
theorem dX8_goesBack_11 : decode cX8_goesBack 11 = .ok (.iconst 0, 1) := by decide +kernel
theorem dX8_goesBack_12 : decode cX8_goesBack 12 = .ok (.putfield 183, 3) := by decide +kernel
theorem dX8_goesBack_15 : decode cX8_goesBack 15 = .ok (.aload_n 0, 1) := by decide +kernel
theorem dX8_goesBack_16 : decode cX8_goesBack 16 = .ok (.iload_n 1, 1) := by decide +kernel
theorem dX8_goesBack_17 : decode cX8_goesBack 17 = .ok (.invokevirtual 55, 3) := by decide +kernel
theorem dX8_goesBack_20 : decode cX8_goesBack 20 = .ok (.istore 4, 2) := by decide +kernel
theorem dX8_goesBack_22 : decode cX8_goesBack 22 = .ok (.iload_n 3, 1) := by decide +kernel
theorem dX8_goesBack_23 : decode cX8_goesBack 23 = .ok (.iload_n 2, 1) := by decide +kernel
theorem dX8_goesBack_24 : decode cX8_goesBack 24 = .ok (.isub, 1) := by decide +kernel
theorem dX8_goesBack_25 : decode cX8_goesBack 25 = .ok (.istore 5, 2) := by decide +kernel
theorem dX8_goesBack_27 : decode cX8_goesBack 27 = .ok (.iload 4, 2) := by decide +kernel
theorem dX8_goesBack_29 : decode cX8_goesBack 29 = .ok (.ifCond .gt 8, 3) := by decide +kernel
theorem dX8_goesBack_32 : decode cX8_goesBack 32 = .ok (.iload 5, 2) := by decide +kernel
theorem dX8_goesBack_34 : decode cX8_goesBack 34 = .ok (.ifCond .le 207, 3) := by decide +kernel
theorem dX8_goesBack_37 : decode cX8_goesBack 37 = .ok (.bipush 121, 2) := by decide +kernel
theorem dX8_goesBack_39 : decode cX8_goesBack 39 = .ok (.iload 4, 2) := by decide +kernel
theorem dX8_goesBack_41 : decode cX8_goesBack 41 = .ok (.imul, 1) := by decide +kernel
theorem dX8_goesBack_42 : decode cX8_goesBack 42 = .ok (.iload 5, 2) := by decide +kernel
theorem dX8_goesBack_44 : decode cX8_goesBack 44 = .ok (.iadd, 1) := by decide +kernel
theorem dX8_goesBack_45 : decode cX8_goesBack 45 = .ok (.istore 6, 2) := by decide +kernel
theorem dX8_goesBack_47 : decode cX8_goesBack 47 = .ok (.iload 4, 2) := by decide +kernel
theorem dX8_goesBack_49 : decode cX8_goesBack 49 = .ok (.ifCond .le 12, 3) := by decide +kernel
theorem dX8_goesBack_52 : decode cX8_goesBack 52 = .ok (.iload 5, 2) := by decide +kernel
theorem dX8_goesBack_54 : decode cX8_goesBack 54 = .ok (.ifCond .le 7, 3) := by decide +kernel
theorem dX8_goesBack_57 : decode cX8_goesBack 57 = .ok (.iconst 1, 1) := by decide +kernel
theorem dX8_goesBack_58 : decode cX8_goesBack 58 = .ok (.goto 4, 3) := by decide +kernel
theorem dX8_goesBack_61 : decode cX8_goesBack 61 = .ok (.iconst 0, 1) := by decide +kernel
theorem dX8_goesBack_62 : decode cX8_goesBack 62 = .ok (.istore 7, 2) := by decide +kernel
theorem dX8_goesBack_64 : decode cX8_goesBack 64 = .ok (.iload 7, 2) := by decide +kernel
theorem dX8_goesBack_66 : decode cX8_goesBack 66 = .ok (.ifCond .eq 25, 3) := by decide +kernel
theorem dX8_goesBack_69 : decode cX8_goesBack 69 = .ok (.aload_n 0, 1) := by decide +kernel
theorem dX8_goesBack_70 : decode cX8_goesBack 70 = .ok (.iload_n 1, 1) := by decide +kernel
theorem dX8_goesBack_71 : decode cX8_goesBack 71 = .ok (.iload 4, 2) := by decide +kernel
theorem dX8_goesBack_73 : decode cX8_goesBack 73 = .ok (.iconst 1, 1) := by decide +kernel
theorem dX8_goesBack_74 : decode cX8_goesBack 74 = .ok (.isub, 1) := by decide +kernel
theorem dX8_goesBack_75 : decode cX8_goesBack 75 = .ok (.iload_n 2, 1) := by decide +kernel
theorem dX8_goesBack_76 : decode cX8_goesBack 76 = .ok (.iload 5, 2) := by decide +kernel
theorem dX8_goesBack_78 : decode cX8_goesBack 78 = .ok (.iadd, 1) := by decide +kernel
theorem dX8_goesBack_79 : decode cX8_goesBack 79 = .ok (.iconst 1, 1) := by decide +kernel
theorem dX8_goesBack_80 : decode cX8_goesBack 80 = .ok (.isub, 1) := by decide +kernel
theorem dX8_goesBack_81 : decode cX8_goesBack 81 = .ok (.invokevirtual 67, 3) := by decide +kernel
theorem dX8_goesBack_84 : decode cX8_goesBack 84 = .ok (.ifCond .eq 7, 3) := by decide +kernel
theorem dX8_goesBack_87 : decode cX8_goesBack 87 = .ok (.iconst 1, 1) := by decide +kernel
theorem dX8_goesBack_88 : decode cX8_goesBack 88 = .ok (.goto 4, 3) := by decide +kernel
theorem dX8_goesBack_91 : decode cX8_goesBack 91 = .ok (.iconst 0, 1) := by decide +kernel
theorem dX8_goesBack_92 : decode cX8_goesBack 92 = .ok (.istore 8, 2) := by decide +kernel
theorem dX8_goesBack_94 : decode cX8_goesBack 94 = .ok (.iload 8, 2) := by decide +kernel
theorem dX8_goesBack_96 : decode cX8_goesBack 96 = .ok (.ifCond .eq 34, 3) := by decide +kernel
theorem dX8_goesBack_99 : decode cX8_goesBack 99 = .ok (.aload_n 0, 1) := by decide +kernel
theorem dX8_goesBack_100 : decode cX8_goesBack 100 = .ok (.getfield 37, 3) := by decide +kernel
theorem dX8_goesBack_103 : decode cX8_goesBack 103 = .ok (.iload 6, 2) := by decide +kernel
theorem dX8_goesBack_105 : decode cX8_goesBack 105 = .ok (.iaload, 1) := by decide +kernel
theorem dX8_goesBack_106 : decode cX8_goesBack 106 = .ok (.aload_n 0, 1) := by decide +kernel
theorem dX8_goesBack_107 : decode cX8_goesBack 107 = .ok (.getfield 37, 3) := by decide +kernel
theorem dX8_goesBack_110 : decode cX8_goesBack 110 = .ok (.iload 6, 2) := by decide +kernel
theorem dX8_goesBack_112 : decode cX8_goesBack 112 = .ok (.bipush 121, 2) := by decide +kernel
theorem dX8_goesBack_114 : decode cX8_goesBack 114 = .ok (.isub, 1) := by decide +kernel
theorem dX8_goesBack_115 : decode cX8_goesBack 115 = .ok (.iconst 1, 1) := by decide +kernel
theorem dX8_goesBack_116 : decode cX8_goesBack 116 = .ok (.isub, 1) := by decide +kernel
theorem dX8_goesBack_117 : decode cX8_goesBack 117 = .ok (.iaload, 1) := by decide +kernel
theorem dX8_goesBack_118 : decode cX8_goesBack 118 = .ok (.if_icmp .ne 12, 3) := by decide +kernel
theorem dX8_goesBack_121 : decode cX8_goesBack 121 = .ok (.iinc 4 (-1), 3) := by decide +kernel
theorem dX8_goesBack_124 : decode cX8_goesBack 124 = .ok (.iinc 5 (-1), 3) := by decide +kernel
theorem dX8_goesBack_127 : decode cX8_goesBack 127 = .ok (.goto 111, 3) := by decide +kernel
theorem dX8_goesBack_130 : decode cX8_goesBack 130 = .ok (.iload 7, 2) := by decide +kernel
theorem dX8_goesBack_132 : decode cX8_goesBack 132 = .ok (.ifCond .eq 51, 3) := by decide +kernel
theorem dX8_goesBack_135 : decode cX8_goesBack 135 = .ok (.iload 8, 2) := by decide +kernel
theorem dX8_goesBack_137 : decode cX8_goesBack 137 = .ok (.ifCond .ne 46, 3) := by decide +kernel
theorem dX8_goesBack_140 : decode cX8_goesBack 140 = .ok (.aload_n 0, 1) := by decide +kernel
theorem dX8_goesBack_141 : decode cX8_goesBack 141 = .ok (.getfield 37, 3) := by decide +kernel
theorem dX8_goesBack_144 : decode cX8_goesBack 144 = .ok (.iload 6, 2) := by decide +kernel
theorem dX8_goesBack_146 : decode cX8_goesBack 146 = .ok (.iaload, 1) := by decide +kernel
theorem dX8_goesBack_147 : decode cX8_goesBack 147 = .ok (.aload_n 0, 1) := by decide +kernel
theorem dX8_goesBack_148 : decode cX8_goesBack 148 = .ok (.getfield 37, 3) := by decide +kernel
theorem dX8_goesBack_151 : decode cX8_goesBack 151 = .ok (.iload 6, 2) := by decide +kernel
theorem dX8_goesBack_153 : decode cX8_goesBack 153 = .ok (.bipush 121, 2) := by decide +kernel
theorem dX8_goesBack_155 : decode cX8_goesBack 155 = .ok (.isub, 1) := by decide +kernel
theorem dX8_goesBack_156 : decode cX8_goesBack 156 = .ok (.iconst 1, 1) := by decide +kernel
theorem dX8_goesBack_157 : decode cX8_goesBack 157 = .ok (.isub, 1) := by decide +kernel
theorem dX8_goesBack_158 : decode cX8_goesBack 158 = .ok (.iaload, 1) := by decide +kernel
theorem dX8_goesBack_159 : decode cX8_goesBack 159 = .ok (.iconst 1, 1) := by decide +kernel
theorem dX8_goesBack_160 : decode cX8_goesBack 160 = .ok (.iadd, 1) := by decide +kernel
theorem dX8_goesBack_161 : decode cX8_goesBack 161 = .ok (.if_icmp .ne 22, 3) := by decide +kernel
theorem dX8_goesBack_164 : decode cX8_goesBack 164 = .ok (.aload_n 0, 1) := by decide +kernel
theorem dX8_goesBack_165 : decode cX8_goesBack 165 = .ok (.dup, 1) := by decide +kernel
theorem dX8_goesBack_166 : decode cX8_goesBack 166 = .ok (.getfield 183, 3) := by decide +kernel
theorem dX8_goesBack_169 : decode cX8_goesBack 169 = .ok (.iconst 1, 1) := by decide +kernel
theorem dX8_goesBack_170 : decode cX8_goesBack 170 = .ok (.iadd, 1) := by decide +kernel
theorem dX8_goesBack_171 : decode cX8_goesBack 171 = .ok (.putfield 183, 3) := by decide +kernel
theorem dX8_goesBack_174 : decode cX8_goesBack 174 = .ok (.iinc 4 (-1), 3) := by decide +kernel
theorem dX8_goesBack_177 : decode cX8_goesBack 177 = .ok (.iinc 5 (-1), 3) := by decide +kernel
theorem dX8_goesBack_180 : decode cX8_goesBack 180 = .ok (.goto 58, 3) := by decide +kernel
theorem dX8_goesBack_183 : decode cX8_goesBack 183 = .ok (.iload 5, 2) := by decide +kernel
theorem dX8_goesBack_185 : decode cX8_goesBack 185 = .ok (.ifCond .le 40, 3) := by decide +kernel
theorem dX8_goesBack_188 : decode cX8_goesBack 188 = .ok (.aload_n 0, 1) := by decide +kernel
theorem dX8_goesBack_189 : decode cX8_goesBack 189 = .ok (.getfield 37, 3) := by decide +kernel
theorem dX8_goesBack_192 : decode cX8_goesBack 192 = .ok (.iload 6, 2) := by decide +kernel
theorem dX8_goesBack_194 : decode cX8_goesBack 194 = .ok (.iaload, 1) := by decide +kernel
theorem dX8_goesBack_195 : decode cX8_goesBack 195 = .ok (.aload_n 0, 1) := by decide +kernel
theorem dX8_goesBack_196 : decode cX8_goesBack 196 = .ok (.getfield 37, 3) := by decide +kernel
theorem dX8_goesBack_199 : decode cX8_goesBack 199 = .ok (.iload 6, 2) := by decide +kernel
theorem dX8_goesBack_201 : decode cX8_goesBack 201 = .ok (.iconst 1, 1) := by decide +kernel
theorem dX8_goesBack_202 : decode cX8_goesBack 202 = .ok (.isub, 1) := by decide +kernel
theorem dX8_goesBack_203 : decode cX8_goesBack 203 = .ok (.iaload, 1) := by decide +kernel
theorem dX8_goesBack_204 : decode cX8_goesBack 204 = .ok (.iconst 1, 1) := by decide +kernel
theorem dX8_goesBack_205 : decode cX8_goesBack 205 = .ok (.iadd, 1) := by decide +kernel
theorem dX8_goesBack_206 : decode cX8_goesBack 206 = .ok (.if_icmp .ne 19, 3) := by decide +kernel
theorem dX8_goesBack_209 : decode cX8_goesBack 209 = .ok (.aload_n 0, 1) := by decide +kernel
theorem dX8_goesBack_210 : decode cX8_goesBack 210 = .ok (.dup, 1) := by decide +kernel
theorem dX8_goesBack_211 : decode cX8_goesBack 211 = .ok (.getfield 177, 3) := by decide +kernel
theorem dX8_goesBack_214 : decode cX8_goesBack 214 = .ok (.iconst 1, 1) := by decide +kernel
theorem dX8_goesBack_215 : decode cX8_goesBack 215 = .ok (.iadd, 1) := by decide +kernel
theorem dX8_goesBack_216 : decode cX8_goesBack 216 = .ok (.putfield 177, 3) := by decide +kernel
theorem dX8_goesBack_219 : decode cX8_goesBack 219 = .ok (.iinc 5 (-1), 3) := by decide +kernel
theorem dX8_goesBack_222 : decode cX8_goesBack 222 = .ok (.goto 16, 3) := by decide +kernel
theorem dX8_goesBack_225 : decode cX8_goesBack 225 = .ok (.aload_n 0, 1) := by decide +kernel
theorem dX8_goesBack_226 : decode cX8_goesBack 226 = .ok (.dup, 1) := by decide +kernel
theorem dX8_goesBack_227 : decode cX8_goesBack 227 = .ok (.getfield 180, 3) := by decide +kernel
theorem dX8_goesBack_230 : decode cX8_goesBack 230 = .ok (.iconst 1, 1) := by decide +kernel
theorem dX8_goesBack_231 : decode cX8_goesBack 231 = .ok (.iadd, 1) := by decide +kernel
theorem dX8_goesBack_232 : decode cX8_goesBack 232 = .ok (.putfield 180, 3) := by decide +kernel
theorem dX8_goesBack_235 : decode cX8_goesBack 235 = .ok (.iinc 4 (-1), 3) := by decide +kernel
theorem dX8_goesBack_238 : decode cX8_goesBack 238 = .ok (.goto (-211), 3) := by decide +kernel
theorem dX8_goesBack_241 : decode cX8_goesBack 241 = .ok (.return_, 1) := by decide +kernel
set_option maxRecDepth 20000 in
theorem ggX8_slips_X8_isPattern : GoodIn wsX8_slips wsX8_isPattern := goodIn_r _ [10, 1, 11, 12, 9, 13, 35, 36, 37, 38, 39, 40, 41, 42, 43, 44, 45, 46, 47, 48, 49, 50, 51, 52, 53, 54, 55] (by decide +kernel) (by decide +kernel)
set_option maxRecDepth 20000 in
theorem gX8_slips_X8_isPattern : GoodIn wsX8_slips (wsV RX8 99 RX8 yX8_isPattern wsX8_isPattern) := goodIn_app (goodIn_of _ (by decide +kernel)) ggX8_slips_X8_isPattern
set_option maxRecDepth 20000 in
theorem ggX8_slips_X8_in : GoodIn wsX8_slips wsX8_in := goodIn_r _ [13] (by decide +kernel) (by decide +kernel)
set_option maxRecDepth 20000 in
theorem gX8_slips_X8_in : GoodIn wsX8_slips (va_wsS RX8 47 yX8_in wsX8_in) := goodIn_app (goodIn_of _ (by decide +kernel)) ggX8_slips_X8_in
set_option maxRecDepth 20000 in
theorem ggX8_slips_X8_fits : GoodIn wsX8_slips wsX8_fits := goodIn_r _ [17, 18, 19, 20, 21, 9, 22, 1, 23, 24, 25, 26, 27, 28, 29, 30, 35, 36, 37, 38, 39, 40, 41, 42, 43, 44, 45, 46, 47, 48, 49, 50, 51, 52, 53, 54, 55] (by decide +kernel) (by decide +kernel)
set_option maxRecDepth 20000 in
theorem gX8_slips_X8_fits : GoodIn wsX8_slips (wsV RX8 188 RX8 yX8_fits wsX8_fits) := goodIn_app (goodIn_of _ (by decide +kernel)) ggX8_slips_X8_fits
set_option maxRecDepth 20000 in
theorem ggX8_slips_X8_goesBack : GoodIn wsX8_slips wsX8_goesBack := goodIn_r _ [34, 3, 4, 5, 18, 19, 20, 21, 9, 22, 1, 23, 24, 25, 26, 27, 28, 29, 30, 35, 36, 37, 38, 39, 40, 41, 42, 43, 44, 45, 46, 47, 48, 49, 50, 51, 52, 53, 54, 55] (by decide +kernel) (by decide +kernel)
set_option maxRecDepth 20000 in
theorem gX8_slips_X8_goesBack : GoodIn wsX8_slips (wsV RX8 191 RX8 yX8_goesBack wsX8_goesBack) := goodIn_app (goodIn_of _ (by decide +kernel)) ggX8_slips_X8_goesBack
theorem dX8_slips_0 : decode cX8_slips 0 = .ok (.aload_n 0, 1) := by decide +kernel
theorem dX8_slips_1 : decode cX8_slips 1 = .ok (.iload_n 1, 1) := by decide +kernel
theorem dX8_slips_2 : decode cX8_slips 2 = .ok (.invokevirtual 99, 3) := by decide +kernel
theorem dX8_slips_5 : decode cX8_slips 5 = .ok (.ifCond .ne 5, 3) := by decide +kernel
theorem dX8_slips_8 : decode cX8_slips 8 = .ok (.iconst (-1), 1) := by decide +kernel
theorem dX8_slips_9 : decode cX8_slips 9 = .ok (.ireturn, 1) := by decide +kernel
theorem dX8_slips_10 : decode cX8_slips 10 = .ok (.iload_n 2, 1) := by decide +kernel
theorem dX8_slips_11 : decode cX8_slips 11 = .ok (.i2l, 1) := by decide +kernel
theorem dX8_slips_12 : decode cX8_slips 12 = .ok (.lconst 0, 1) := by decide +kernel
theorem dX8_slips_13 : decode cX8_slips 13 = .ok (.aload_n 0, 1) := by decide +kernel
theorem dX8_slips_14 : decode cX8_slips 14 = .ok (.getfield 7, 3) := by decide +kernel
theorem dX8_slips_17 : decode cX8_slips 17 = .ok (.iconst 0, 1) := by decide +kernel
theorem dX8_slips_18 : decode cX8_slips 18 = .ok (.iaload, 1) := by decide +kernel
theorem dX8_slips_19 : decode cX8_slips 19 = .ok (.i2l, 1) := by decide +kernel
theorem dX8_slips_20 : decode cX8_slips 20 = .ok (.invokestatic 47, 3) := by decide +kernel
theorem dX8_slips_23 : decode cX8_slips 23 = .ok (.ifCond .eq 33, 3) := by decide +kernel
theorem dX8_slips_26 : decode cX8_slips 26 = .ok (.iload_n 3, 1) := by decide +kernel
theorem dX8_slips_27 : decode cX8_slips 27 = .ok (.i2l, 1) := by decide +kernel
theorem dX8_slips_28 : decode cX8_slips 28 = .ok (.iload_n 2, 1) := by decide +kernel
theorem dX8_slips_29 : decode cX8_slips 29 = .ok (.i2l, 1) := by decide +kernel
theorem dX8_slips_30 : decode cX8_slips 30 = .ok (.aload_n 0, 1) := by decide +kernel
theorem dX8_slips_31 : decode cX8_slips 31 = .ok (.getfield 7, 3) := by decide +kernel
theorem dX8_slips_34 : decode cX8_slips 34 = .ok (.iconst 0, 1) := by decide +kernel
theorem dX8_slips_35 : decode cX8_slips 35 = .ok (.iaload, 1) := by decide +kernel
theorem dX8_slips_36 : decode cX8_slips 36 = .ok (.i2l, 1) := by decide +kernel
theorem dX8_slips_37 : decode cX8_slips 37 = .ok (.invokestatic 47, 3) := by decide +kernel
theorem dX8_slips_40 : decode cX8_slips 40 = .ok (.ifCond .eq 16, 3) := by decide +kernel
theorem dX8_slips_43 : decode cX8_slips 43 = .ok (.iload 4, 2) := by decide +kernel
theorem dX8_slips_45 : decode cX8_slips 45 = .ok (.i2l, 1) := by decide +kernel
theorem dX8_slips_46 : decode cX8_slips 46 = .ok (.lconst 0, 1) := by decide +kernel
theorem dX8_slips_47 : decode cX8_slips 47 = .ok (.ldc2_w 186, 3) := by decide +kernel
theorem dX8_slips_50 : decode cX8_slips 50 = .ok (.invokestatic 47, 3) := by decide +kernel
theorem dX8_slips_53 : decode cX8_slips 53 = .ok (.ifCond .ne 6, 3) := by decide +kernel
theorem dX8_slips_56 : decode cX8_slips 56 = .ok (.bipush (-2), 2) := by decide +kernel
theorem dX8_slips_58 : decode cX8_slips 58 = .ok (.ireturn, 1) := by decide +kernel
theorem dX8_slips_59 : decode cX8_slips 59 = .ok (.aload_n 0, 1) := by decide +kernel
theorem dX8_slips_60 : decode cX8_slips 60 = .ok (.iload_n 1, 1) := by decide +kernel
theorem dX8_slips_61 : decode cX8_slips 61 = .ok (.iload_n 2, 1) := by decide +kernel
theorem dX8_slips_62 : decode cX8_slips 62 = .ok (.iload_n 3, 1) := by decide +kernel
theorem dX8_slips_63 : decode cX8_slips 63 = .ok (.invokevirtual 188, 3) := by decide +kernel
theorem dX8_slips_66 : decode cX8_slips 66 = .ok (.aload_n 0, 1) := by decide +kernel
theorem dX8_slips_67 : decode cX8_slips 67 = .ok (.iload_n 1, 1) := by decide +kernel
theorem dX8_slips_68 : decode cX8_slips 68 = .ok (.iload_n 2, 1) := by decide +kernel
theorem dX8_slips_69 : decode cX8_slips 69 = .ok (.iload_n 3, 1) := by decide +kernel
theorem dX8_slips_70 : decode cX8_slips 70 = .ok (.invokevirtual 191, 3) := by decide +kernel
theorem dX8_slips_73 : decode cX8_slips 73 = .ok (.iload 4, 2) := by decide +kernel
theorem dX8_slips_75 : decode cX8_slips 75 = .ok (.ifCond .ne 20, 3) := by decide +kernel
theorem dX8_slips_78 : decode cX8_slips 78 = .ok (.aload_n 0, 1) := by decide +kernel
theorem dX8_slips_79 : decode cX8_slips 79 = .ok (.getfield 177, 3) := by decide +kernel
theorem dX8_slips_82 : decode cX8_slips 82 = .ok (.aload_n 0, 1) := by decide +kernel
theorem dX8_slips_83 : decode cX8_slips 83 = .ok (.getfield 180, 3) := by decide +kernel
theorem dX8_slips_86 : decode cX8_slips 86 = .ok (.iadd, 1) := by decide +kernel
theorem dX8_slips_87 : decode cX8_slips 87 = .ok (.aload_n 0, 1) := by decide +kernel
theorem dX8_slips_88 : decode cX8_slips 88 = .ok (.getfield 183, 3) := by decide +kernel
theorem dX8_slips_91 : decode cX8_slips 91 = .ok (.iadd, 1) := by decide +kernel
theorem dX8_slips_92 : decode cX8_slips 92 = .ok (.goto 33, 3) := by decide +kernel
theorem dX8_slips_95 : decode cX8_slips 95 = .ok (.iload 4, 2) := by decide +kernel
theorem dX8_slips_97 : decode cX8_slips 97 = .ok (.iconst 1, 1) := by decide +kernel
theorem dX8_slips_98 : decode cX8_slips 98 = .ok (.if_icmp .ne 10, 3) := by decide +kernel
theorem dX8_slips_101 : decode cX8_slips 101 = .ok (.aload_n 0, 1) := by decide +kernel
theorem dX8_slips_102 : decode cX8_slips 102 = .ok (.getfield 177, 3) := by decide +kernel
theorem dX8_slips_105 : decode cX8_slips 105 = .ok (.goto 20, 3) := by decide +kernel
theorem dX8_slips_108 : decode cX8_slips 108 = .ok (.iload 4, 2) := by decide +kernel
theorem dX8_slips_110 : decode cX8_slips 110 = .ok (.iconst 2, 1) := by decide +kernel
theorem dX8_slips_111 : decode cX8_slips 111 = .ok (.if_icmp .ne 10, 3) := by decide +kernel
theorem dX8_slips_114 : decode cX8_slips 114 = .ok (.aload_n 0, 1) := by decide +kernel
theorem dX8_slips_115 : decode cX8_slips 115 = .ok (.getfield 180, 3) := by decide +kernel
theorem dX8_slips_118 : decode cX8_slips 118 = .ok (.goto 7, 3) := by decide +kernel
theorem dX8_slips_121 : decode cX8_slips 121 = .ok (.aload_n 0, 1) := by decide +kernel
theorem dX8_slips_122 : decode cX8_slips 122 = .ok (.getfield 183, 3) := by decide +kernel
theorem dX8_slips_125 : decode cX8_slips 125 = .ok (.ireturn, 1) := by decide +kernel
set_option maxRecDepth 20000 in
theorem ggX8_densityOf_X8_findsEnds : GoodIn wsX8_densityOf wsX8_findsEnds := goodIn_r _ [7, 1, 2, 8, 9, 10, 11, 12, 13, 6, 14, 15, 16, 17, 18, 19, 20, 21, 22, 23, 24, 25, 26, 27, 28, 29, 30, 31, 32, 33, 34, 39, 40, 41, 42, 43, 44, 45, 46, 47, 48, 49, 50, 51, 52, 53, 54, 55, 56, 57, 58, 59] (by decide +kernel) (by decide +kernel)
set_option maxRecDepth 20000 in
theorem gX8_densityOf_X8_findsEnds : GoodIn wsX8_densityOf (wsV RX8 103 RX8 yX8_findsEnds wsX8_findsEnds) := goodIn_app (goodIn_of _ (by decide +kernel)) ggX8_densityOf_X8_findsEnds
set_option maxRecDepth 20000 in
theorem ggX8_densityOf_X8_slipsOf : GoodIn wsX8_densityOf wsX8_slipsOf := goodIn_r _ [38, 8, 10, 15, 16, 17, 6, 18, 2, 39, 40, 41, 42, 43, 44, 45, 46, 47, 48, 49, 50, 51, 52, 53, 54, 55, 56, 57, 58, 59] (by decide +kernel) (by decide +kernel)
set_option maxRecDepth 20000 in
theorem gX8_densityOf_X8_slipsOf : GoodIn wsX8_densityOf (wsV RX8 146 RX8 yX8_slipsOf wsX8_slipsOf) := goodIn_app (goodIn_of _ (by decide +kernel)) ggX8_densityOf_X8_slipsOf
theorem dX8_densityOf_0 : decode cX8_densityOf 0 = .ok (.aload_n 0, 1) := by decide +kernel
theorem dX8_densityOf_1 : decode cX8_densityOf 1 = .ok (.iload_n 1, 1) := by decide +kernel
theorem dX8_densityOf_2 : decode cX8_densityOf 2 = .ok (.iconst 0, 1) := by decide +kernel
theorem dX8_densityOf_3 : decode cX8_densityOf 3 = .ok (.invokevirtual 103, 3) := by decide +kernel
theorem dX8_densityOf_6 : decode cX8_densityOf 6 = .ok (.dconst 0, 1) := by decide +kernel
theorem dX8_densityOf_7 : decode cX8_densityOf 7 = .ok (.dstore_n 2, 1) := by decide +kernel
theorem dX8_densityOf_8 : decode cX8_densityOf 8 = .ok (.iconst 0, 1) := by decide +kernel
theorem dX8_densityOf_9 : decode cX8_densityOf 9 = .ok (.istore 4, 2) := by decide +kernel
theorem dX8_densityOf_11 : decode cX8_densityOf 11 = .ok (.iload 4, 2) := by decide +kernel
theorem dX8_densityOf_13 : decode cX8_densityOf 13 = .ok (.aload_n 0, 1) := by decide +kernel
theorem dX8_densityOf_14 : decode cX8_densityOf 14 = .ok (.getfield 75, 3) := by decide +kernel
theorem dX8_densityOf_17 : decode cX8_densityOf 17 = .ok (.if_icmp .ge 24, 3) := by decide +kernel
theorem dX8_densityOf_20 : decode cX8_densityOf 20 = .ok (.dload_n 2, 1) := by decide +kernel
theorem dX8_densityOf_21 : decode cX8_densityOf 21 = .ok (.dconst 1, 1) := by decide +kernel
theorem dX8_densityOf_22 : decode cX8_densityOf 22 = .ok (.iconst 1, 1) := by decide +kernel
theorem dX8_densityOf_23 : decode cX8_densityOf 23 = .ok (.aload_n 0, 1) := by decide +kernel
theorem dX8_densityOf_24 : decode cX8_densityOf 24 = .ok (.iload_n 1, 1) := by decide +kernel
theorem dX8_densityOf_25 : decode cX8_densityOf 25 = .ok (.iload 4, 2) := by decide +kernel
theorem dX8_densityOf_27 : decode cX8_densityOf 27 = .ok (.invokevirtual 146, 3) := by decide +kernel
theorem dX8_densityOf_30 : decode cX8_densityOf 30 = .ok (.iadd, 1) := by decide +kernel
theorem dX8_densityOf_31 : decode cX8_densityOf 31 = .ok (.i2d, 1) := by decide +kernel
theorem dX8_densityOf_32 : decode cX8_densityOf 32 = .ok (.ddiv, 1) := by decide +kernel
theorem dX8_densityOf_33 : decode cX8_densityOf 33 = .ok (.dadd, 1) := by decide +kernel
theorem dX8_densityOf_34 : decode cX8_densityOf 34 = .ok (.dstore_n 2, 1) := by decide +kernel
theorem dX8_densityOf_35 : decode cX8_densityOf 35 = .ok (.iinc 4 1, 3) := by decide +kernel
theorem dX8_densityOf_38 : decode cX8_densityOf 38 = .ok (.goto (-27), 3) := by decide +kernel
theorem dX8_densityOf_41 : decode cX8_densityOf 41 = .ok (.dload_n 2, 1) := by decide +kernel
theorem dX8_densityOf_42 : decode cX8_densityOf 42 = .ok (.aload_n 0, 1) := by decide +kernel
theorem dX8_densityOf_43 : decode cX8_densityOf 43 = .ok (.getfield 7, 3) := by decide +kernel
theorem dX8_densityOf_46 : decode cX8_densityOf 46 = .ok (.iconst 0, 1) := by decide +kernel
theorem dX8_densityOf_47 : decode cX8_densityOf 47 = .ok (.iaload, 1) := by decide +kernel
theorem dX8_densityOf_48 : decode cX8_densityOf 48 = .ok (.iconst 1, 1) := by decide +kernel
theorem dX8_densityOf_49 : decode cX8_densityOf 49 = .ok (.iadd, 1) := by decide +kernel
theorem dX8_densityOf_50 : decode cX8_densityOf 50 = .ok (.i2d, 1) := by decide +kernel
theorem dX8_densityOf_51 : decode cX8_densityOf 51 = .ok (.ddiv, 1) := by decide +kernel
theorem dX8_densityOf_52 : decode cX8_densityOf 52 = .ok (.dreturn, 1) := by decide +kernel
set_option maxRecDepth 20000 in
theorem ggX8_density_X8_isPattern : GoodIn wsX8_density wsX8_isPattern := goodIn_r _ [6, 7, 8, 9, 5, 10, 51, 52, 53, 54, 55, 56, 57, 58, 59, 60, 61, 62, 63, 64, 65, 66, 67, 68, 69, 70, 71] (by decide +kernel) (by decide +kernel)
set_option maxRecDepth 20000 in
theorem gX8_density_X8_isPattern : GoodIn wsX8_density (wsV RX8 99 RX8 yX8_isPattern wsX8_isPattern) := goodIn_app (goodIn_of _ (by decide +kernel)) ggX8_density_X8_isPattern
set_option maxRecDepth 20000 in
theorem ggX8_density_X8_densityOf : GoodIn wsX8_density wsX8_densityOf := goodIn_r _ [14, 15, 7, 16, 17, 18, 5, 19, 20, 21, 22, 23, 24, 25, 26, 27, 28, 29, 30, 31, 32, 33, 34, 35, 36, 37, 38, 39, 40, 41, 42, 43, 44, 45, 46, 47, 48, 49, 50, 51, 52, 53, 54, 55, 56, 57, 58, 59, 60, 61, 62, 63, 64, 65, 66, 67, 68, 69, 70, 71] (by decide +kernel) (by decide +kernel)
set_option maxRecDepth 20000 in
theorem gX8_density_X8_densityOf : GoodIn wsX8_density (wsV RX8 194 RX8 yX8_densityOf wsX8_densityOf) := goodIn_app (goodIn_of _ (by decide +kernel)) ggX8_density_X8_densityOf
theorem dX8_density_0 : decode cX8_density 0 = .ok (.aload_n 0, 1) := by decide +kernel
theorem dX8_density_1 : decode cX8_density 1 = .ok (.iload_n 1, 1) := by decide +kernel
theorem dX8_density_2 : decode cX8_density 2 = .ok (.invokevirtual 99, 3) := by decide +kernel
theorem dX8_density_5 : decode cX8_density 5 = .ok (.ifCond .eq 11, 3) := by decide +kernel
theorem dX8_density_8 : decode cX8_density 8 = .ok (.aload_n 0, 1) := by decide +kernel
theorem dX8_density_9 : decode cX8_density 9 = .ok (.iload_n 1, 1) := by decide +kernel
theorem dX8_density_10 : decode cX8_density 10 = .ok (.invokevirtual 194, 3) := by decide +kernel
theorem dX8_density_13 : decode cX8_density 13 = .ok (.goto 6, 3) := by decide +kernel
theorem dX8_density_16 : decode cX8_density 16 = .ok (.ldc2_w 198, 3) := by decide +kernel
theorem dX8_density_19 : decode cX8_density 19 = .ok (.dreturn, 1) := by decide +kernel
set_option maxRecDepth 20000 in
theorem ggX8_densityBits_X8_isPattern : GoodIn wsX8_densityBits wsX8_isPattern := goodIn_r _ [5, 6, 7, 8, 4, 9, 62, 63, 64, 65, 66, 67, 68, 69, 70, 71, 72, 73, 74, 75, 76, 77, 78, 79, 80, 81, 82] (by decide +kernel) (by decide +kernel)
set_option maxRecDepth 20000 in
theorem gX8_densityBits_X8_isPattern : GoodIn wsX8_densityBits (wsV RX8 99 RX8 yX8_isPattern wsX8_isPattern) := goodIn_app (goodIn_of _ (by decide +kernel)) ggX8_densityBits_X8_isPattern
set_option maxRecDepth 20000 in
theorem ggX8_densityBits_X8_densityOf : GoodIn wsX8_densityBits wsX8_densityOf := goodIn_r _ [13, 14, 6, 15, 16, 17, 4, 18, 19, 20, 21, 22, 23, 24, 25, 26, 27, 28, 29, 30, 31, 32, 33, 34, 35, 36, 37, 38, 39, 40, 41, 42, 43, 44, 45, 46, 47, 48, 49, 62, 63, 64, 65, 66, 67, 68, 69, 70, 71, 72, 73, 74, 75, 76, 77, 78, 79, 80, 81, 82] (by decide +kernel) (by decide +kernel)
set_option maxRecDepth 20000 in
theorem gX8_densityBits_X8_densityOf : GoodIn wsX8_densityBits (wsV RX8 194 RX8 yX8_densityOf wsX8_densityOf) := goodIn_app (goodIn_of _ (by decide +kernel)) ggX8_densityBits_X8_densityOf
set_option maxRecDepth 20000 in
theorem ggX8_densityBits_Jxf58ca_floatToIntBits_5c35a : GoodIn wsX8_densityBits wsJxf58ca_floatToIntBits_5c35a := goodIn_r _ [53, 54, 55, 56, 57, 58, 59, 60, 52, 61] (by decide +kernel) (by decide +kernel)
set_option maxRecDepth 20000 in
theorem gX8_densityBits_Jxf58ca_floatToIntBits_5c35a : GoodIn wsX8_densityBits (va_wsS RX8 200 yJxf58ca_floatToIntBits_5c35a wsJxf58ca_floatToIntBits_5c35a) := goodIn_app (goodIn_of _ (by decide +kernel)) ggX8_densityBits_Jxf58ca_floatToIntBits_5c35a
theorem dX8_densityBits_0 : decode cX8_densityBits 0 = .ok (.aload_n 0, 1) := by decide +kernel
theorem dX8_densityBits_1 : decode cX8_densityBits 1 = .ok (.iload_n 1, 1) := by decide +kernel
theorem dX8_densityBits_2 : decode cX8_densityBits 2 = .ok (.invokevirtual 99, 3) := by decide +kernel
theorem dX8_densityBits_5 : decode cX8_densityBits 5 = .ok (.ifCond .eq 15, 3) := by decide +kernel
theorem dX8_densityBits_8 : decode cX8_densityBits 8 = .ok (.aload_n 0, 1) := by decide +kernel
theorem dX8_densityBits_9 : decode cX8_densityBits 9 = .ok (.iload_n 1, 1) := by decide +kernel
theorem dX8_densityBits_10 : decode cX8_densityBits 10 = .ok (.invokevirtual 194, 3) := by decide +kernel
theorem dX8_densityBits_13 : decode cX8_densityBits 13 = .ok (.d2f, 1) := by decide +kernel
theorem dX8_densityBits_14 : decode cX8_densityBits 14 = .ok (.invokestatic 200, 3) := by decide +kernel
theorem dX8_densityBits_17 : decode cX8_densityBits 17 = .ok (.goto 4, 3) := by decide +kernel
theorem dX8_densityBits_20 : decode cX8_densityBits 20 = .ok (.iconst (-1), 1) := by decide +kernel
theorem dX8_densityBits_21 : decode cX8_densityBits 21 = .ok (.ireturn, 1) := by decide +kernel
set_option maxRecDepth 20000 in
theorem ggX8_allEnds_X8_manyEnds : GoodIn wsX8_allEnds wsX8_manyEnds := goodIn_r _ [6, 7, 8, 9, 10, 5, 11, 1, 12, 13, 14, 15, 16, 17, 18, 19, 20, 21, 22, 23, 24, 25, 26, 27, 28, 29, 30, 31, 32, 33, 34, 35, 36, 37, 38, 39, 40, 41, 42, 43, 44, 45, 46, 47, 48, 49, 50, 51, 52, 53, 54, 55, 56, 57, 58, 59] (by decide +kernel) (by decide +kernel)
set_option maxRecDepth 20000 in
theorem gX8_allEnds_X8_manyEnds : GoodIn wsX8_allEnds (wsV RX8 155 RX8 yX8_manyEnds wsX8_manyEnds) := goodIn_app (goodIn_of _ (by decide +kernel)) ggX8_allEnds_X8_manyEnds
theorem dX8_allEnds_0 : decode cX8_allEnds 0 = .ok (.iconst 0, 1) := by decide +kernel
theorem dX8_allEnds_1 : decode cX8_allEnds 1 = .ok (.istore_n 1, 1) := by decide +kernel
theorem dX8_allEnds_2 : decode cX8_allEnds 2 = .ok (.iconst 0, 1) := by decide +kernel
theorem dX8_allEnds_3 : decode cX8_allEnds 3 = .ok (.istore_n 2, 1) := by decide +kernel
theorem dX8_allEnds_4 : decode cX8_allEnds 4 = .ok (.iload_n 2, 1) := by decide +kernel
theorem dX8_allEnds_5 : decode cX8_allEnds 5 = .ok (.aload_n 0, 1) := by decide +kernel
theorem dX8_allEnds_6 : decode cX8_allEnds 6 = .ok (.getfield 7, 3) := by decide +kernel
theorem dX8_allEnds_9 : decode cX8_allEnds 9 = .ok (.iconst 1, 1) := by decide +kernel
theorem dX8_allEnds_10 : decode cX8_allEnds 10 = .ok (.iaload, 1) := by decide +kernel
theorem dX8_allEnds_11 : decode cX8_allEnds 11 = .ok (.if_icmp .ge 18, 3) := by decide +kernel
theorem dX8_allEnds_14 : decode cX8_allEnds 14 = .ok (.iload_n 1, 1) := by decide +kernel
theorem dX8_allEnds_15 : decode cX8_allEnds 15 = .ok (.aload_n 0, 1) := by decide +kernel
theorem dX8_allEnds_16 : decode cX8_allEnds 16 = .ok (.iload_n 2, 1) := by decide +kernel
theorem dX8_allEnds_17 : decode cX8_allEnds 17 = .ok (.iconst 0, 1) := by decide +kernel
theorem dX8_allEnds_18 : decode cX8_allEnds 18 = .ok (.invokevirtual 155, 3) := by decide +kernel
theorem dX8_allEnds_21 : decode cX8_allEnds 21 = .ok (.iadd, 1) := by decide +kernel
theorem dX8_allEnds_22 : decode cX8_allEnds 22 = .ok (.istore_n 1, 1) := by decide +kernel
theorem dX8_allEnds_23 : decode cX8_allEnds 23 = .ok (.iinc 2 1, 3) := by decide +kernel
theorem dX8_allEnds_26 : decode cX8_allEnds 26 = .ok (.goto (-22), 3) := by decide +kernel
theorem dX8_allEnds_29 : decode cX8_allEnds 29 = .ok (.iload_n 1, 1) := by decide +kernel
theorem dX8_allEnds_30 : decode cX8_allEnds 30 = .ok (.ireturn, 1) := by decide +kernel
set_option maxRecDepth 20000 in
theorem ggX8_placesOfEnds_X8_findsEnds : GoodIn wsX8_placesOfEnds wsX8_findsEnds := goodIn_r _ [9, 3, 1, 10, 11, 4, 12, 13, 14, 8, 15, 16, 17, 18, 19, 20, 21, 22, 23, 24, 25, 26, 27, 28, 29, 30, 31, 32, 33, 34, 35, 36, 37, 38, 39, 40, 41, 42, 43, 44, 45, 46, 47, 48, 49, 50, 51, 52, 53, 54, 55, 56] (by decide +kernel) (by decide +kernel)
set_option maxRecDepth 20000 in
theorem gX8_placesOfEnds_X8_findsEnds : GoodIn wsX8_placesOfEnds (wsV RX8 103 RX8 yX8_findsEnds wsX8_findsEnds) := goodIn_app (goodIn_of _ (by decide +kernel)) ggX8_placesOfEnds_X8_findsEnds
theorem dX8_placesOfEnds_0 : decode cX8_placesOfEnds 0 = .ok (.iconst 0, 1) := by decide +kernel
theorem dX8_placesOfEnds_1 : decode cX8_placesOfEnds 1 = .ok (.istore_n 1, 1) := by decide +kernel
theorem dX8_placesOfEnds_2 : decode cX8_placesOfEnds 2 = .ok (.iload_n 1, 1) := by decide +kernel
theorem dX8_placesOfEnds_3 : decode cX8_placesOfEnds 3 = .ok (.aload_n 0, 1) := by decide +kernel
theorem dX8_placesOfEnds_4 : decode cX8_placesOfEnds 4 = .ok (.getfield 7, 3) := by decide +kernel
theorem dX8_placesOfEnds_7 : decode cX8_placesOfEnds 7 = .ok (.iconst 0, 1) := by decide +kernel
theorem dX8_placesOfEnds_8 : decode cX8_placesOfEnds 8 = .ok (.iaload, 1) := by decide +kernel
theorem dX8_placesOfEnds_9 : decode cX8_placesOfEnds 9 = .ok (.if_icmp .gt 16, 3) := by decide +kernel
theorem dX8_placesOfEnds_12 : decode cX8_placesOfEnds 12 = .ok (.aload_n 0, 1) := by decide +kernel
theorem dX8_placesOfEnds_13 : decode cX8_placesOfEnds 13 = .ok (.getfield 40, 3) := by decide +kernel
theorem dX8_placesOfEnds_16 : decode cX8_placesOfEnds 16 = .ok (.iload_n 1, 1) := by decide +kernel
theorem dX8_placesOfEnds_17 : decode cX8_placesOfEnds 17 = .ok (.iconst 0, 1) := by decide +kernel
theorem dX8_placesOfEnds_18 : decode cX8_placesOfEnds 18 = .ok (.iastore, 1) := by decide +kernel
theorem dX8_placesOfEnds_19 : decode cX8_placesOfEnds 19 = .ok (.iinc 1 1, 3) := by decide +kernel
theorem dX8_placesOfEnds_22 : decode cX8_placesOfEnds 22 = .ok (.goto (-20), 3) := by decide +kernel
theorem dX8_placesOfEnds_25 : decode cX8_placesOfEnds 25 = .ok (.iconst 0, 1) := by decide +kernel
theorem dX8_placesOfEnds_26 : decode cX8_placesOfEnds 26 = .ok (.istore_n 1, 1) := by decide +kernel
theorem dX8_placesOfEnds_27 : decode cX8_placesOfEnds 27 = .ok (.iload_n 1, 1) := by decide +kernel
theorem dX8_placesOfEnds_28 : decode cX8_placesOfEnds 28 = .ok (.aload_n 0, 1) := by decide +kernel
theorem dX8_placesOfEnds_29 : decode cX8_placesOfEnds 29 = .ok (.getfield 7, 3) := by decide +kernel
theorem dX8_placesOfEnds_32 : decode cX8_placesOfEnds 32 = .ok (.iconst 1, 1) := by decide +kernel
theorem dX8_placesOfEnds_33 : decode cX8_placesOfEnds 33 = .ok (.iaload, 1) := by decide +kernel
theorem dX8_placesOfEnds_34 : decode cX8_placesOfEnds 34 = .ok (.if_icmp .ge 43, 3) := by decide +kernel
theorem dX8_placesOfEnds_37 : decode cX8_placesOfEnds 37 = .ok (.aload_n 0, 1) := by decide +kernel
theorem dX8_placesOfEnds_38 : decode cX8_placesOfEnds 38 = .ok (.iload_n 1, 1) := by decide +kernel
theorem dX8_placesOfEnds_39 : decode cX8_placesOfEnds 39 = .ok (.iconst 0, 1) := by decide +kernel
theorem dX8_placesOfEnds_40 : decode cX8_placesOfEnds 40 = .ok (.invokevirtual 103, 3) := by decide +kernel
theorem dX8_placesOfEnds_43 : decode cX8_placesOfEnds 43 = .ok (.iconst 0, 1) := by decide +kernel
theorem dX8_placesOfEnds_44 : decode cX8_placesOfEnds 44 = .ok (.istore_n 2, 1) := by decide +kernel
theorem dX8_placesOfEnds_45 : decode cX8_placesOfEnds 45 = .ok (.iload_n 2, 1) := by decide +kernel
theorem dX8_placesOfEnds_46 : decode cX8_placesOfEnds 46 = .ok (.aload_n 0, 1) := by decide +kernel
theorem dX8_placesOfEnds_47 : decode cX8_placesOfEnds 47 = .ok (.getfield 75, 3) := by decide +kernel
theorem dX8_placesOfEnds_50 : decode cX8_placesOfEnds 50 = .ok (.if_icmp .ge 21, 3) := by decide +kernel
theorem dX8_placesOfEnds_53 : decode cX8_placesOfEnds 53 = .ok (.aload_n 0, 1) := by decide +kernel
theorem dX8_placesOfEnds_54 : decode cX8_placesOfEnds 54 = .ok (.getfield 40, 3) := by decide +kernel
theorem dX8_placesOfEnds_57 : decode cX8_placesOfEnds 57 = .ok (.aload_n 0, 1) := by decide +kernel
theorem dX8_placesOfEnds_58 : decode cX8_placesOfEnds 58 = .ok (.getfield 28, 3) := by decide +kernel
theorem dX8_placesOfEnds_61 : decode cX8_placesOfEnds 61 = .ok (.iload_n 2, 1) := by decide +kernel
theorem dX8_placesOfEnds_62 : decode cX8_placesOfEnds 62 = .ok (.iaload, 1) := by decide +kernel
theorem dX8_placesOfEnds_63 : decode cX8_placesOfEnds 63 = .ok (.iconst 1, 1) := by decide +kernel
theorem dX8_placesOfEnds_64 : decode cX8_placesOfEnds 64 = .ok (.iastore, 1) := by decide +kernel
theorem dX8_placesOfEnds_65 : decode cX8_placesOfEnds 65 = .ok (.iinc 2 1, 3) := by decide +kernel
theorem dX8_placesOfEnds_68 : decode cX8_placesOfEnds 68 = .ok (.goto (-23), 3) := by decide +kernel
theorem dX8_placesOfEnds_71 : decode cX8_placesOfEnds 71 = .ok (.iinc 1 1, 3) := by decide +kernel
theorem dX8_placesOfEnds_74 : decode cX8_placesOfEnds 74 = .ok (.goto (-47), 3) := by decide +kernel
theorem dX8_placesOfEnds_77 : decode cX8_placesOfEnds 77 = .ok (.iconst 0, 1) := by decide +kernel
theorem dX8_placesOfEnds_78 : decode cX8_placesOfEnds 78 = .ok (.istore_n 1, 1) := by decide +kernel
theorem dX8_placesOfEnds_79 : decode cX8_placesOfEnds 79 = .ok (.iconst 0, 1) := by decide +kernel
theorem dX8_placesOfEnds_80 : decode cX8_placesOfEnds 80 = .ok (.istore_n 2, 1) := by decide +kernel
theorem dX8_placesOfEnds_81 : decode cX8_placesOfEnds 81 = .ok (.iload_n 2, 1) := by decide +kernel
theorem dX8_placesOfEnds_82 : decode cX8_placesOfEnds 82 = .ok (.aload_n 0, 1) := by decide +kernel
theorem dX8_placesOfEnds_83 : decode cX8_placesOfEnds 83 = .ok (.getfield 7, 3) := by decide +kernel
theorem dX8_placesOfEnds_86 : decode cX8_placesOfEnds 86 = .ok (.iconst 0, 1) := by decide +kernel
theorem dX8_placesOfEnds_87 : decode cX8_placesOfEnds 87 = .ok (.iaload, 1) := by decide +kernel
theorem dX8_placesOfEnds_88 : decode cX8_placesOfEnds 88 = .ok (.if_icmp .gt 18, 3) := by decide +kernel
theorem dX8_placesOfEnds_91 : decode cX8_placesOfEnds 91 = .ok (.iload_n 1, 1) := by decide +kernel
theorem dX8_placesOfEnds_92 : decode cX8_placesOfEnds 92 = .ok (.aload_n 0, 1) := by decide +kernel
theorem dX8_placesOfEnds_93 : decode cX8_placesOfEnds 93 = .ok (.getfield 40, 3) := by decide +kernel
theorem dX8_placesOfEnds_96 : decode cX8_placesOfEnds 96 = .ok (.iload_n 2, 1) := by decide +kernel
theorem dX8_placesOfEnds_97 : decode cX8_placesOfEnds 97 = .ok (.iaload, 1) := by decide +kernel
theorem dX8_placesOfEnds_98 : decode cX8_placesOfEnds 98 = .ok (.iadd, 1) := by decide +kernel
theorem dX8_placesOfEnds_99 : decode cX8_placesOfEnds 99 = .ok (.istore_n 1, 1) := by decide +kernel
theorem dX8_placesOfEnds_100 : decode cX8_placesOfEnds 100 = .ok (.iinc 2 1, 3) := by decide +kernel
theorem dX8_placesOfEnds_103 : decode cX8_placesOfEnds 103 = .ok (.goto (-22), 3) := by decide +kernel
theorem dX8_placesOfEnds_106 : decode cX8_placesOfEnds 106 = .ok (.iload_n 1, 1) := by decide +kernel
theorem dX8_placesOfEnds_107 : decode cX8_placesOfEnds 107 = .ok (.ireturn, 1) := by decide +kernel
theorem dX8_blanks_0 : decode cX8_blanks 0 = .ok (.iconst 0, 1) := by decide +kernel
theorem dX8_blanks_1 : decode cX8_blanks 1 = .ok (.istore_n 1, 1) := by decide +kernel
theorem dX8_blanks_2 : decode cX8_blanks 2 = .ok (.iconst 0, 1) := by decide +kernel
theorem dX8_blanks_3 : decode cX8_blanks 3 = .ok (.istore_n 2, 1) := by decide +kernel
theorem dX8_blanks_4 : decode cX8_blanks 4 = .ok (.iload_n 2, 1) := by decide +kernel
theorem dX8_blanks_5 : decode cX8_blanks 5 = .ok (.aload_n 0, 1) := by decide +kernel
theorem dX8_blanks_6 : decode cX8_blanks 6 = .ok (.getfield 7, 3) := by decide +kernel
theorem dX8_blanks_9 : decode cX8_blanks 9 = .ok (.iconst 0, 1) := by decide +kernel
theorem dX8_blanks_10 : decode cX8_blanks 10 = .ok (.iaload, 1) := by decide +kernel
theorem dX8_blanks_11 : decode cX8_blanks 11 = .ok (.if_icmp .ge 30, 3) := by decide +kernel
theorem dX8_blanks_14 : decode cX8_blanks 14 = .ok (.iload_n 1, 1) := by decide +kernel
theorem dX8_blanks_15 : decode cX8_blanks 15 = .ok (.aload_n 0, 1) := by decide +kernel
theorem dX8_blanks_16 : decode cX8_blanks 16 = .ok (.getfield 7, 3) := by decide +kernel
theorem dX8_blanks_19 : decode cX8_blanks 19 = .ok (.iconst 3, 1) := by decide +kernel
theorem dX8_blanks_20 : decode cX8_blanks 20 = .ok (.iload_n 2, 1) := by decide +kernel
theorem dX8_blanks_21 : decode cX8_blanks 21 = .ok (.iadd, 1) := by decide +kernel
theorem dX8_blanks_22 : decode cX8_blanks 22 = .ok (.iaload, 1) := by decide +kernel
theorem dX8_blanks_23 : decode cX8_blanks 23 = .ok (.bipush 26, 2) := by decide +kernel
theorem dX8_blanks_25 : decode cX8_blanks 25 = .ok (.if_icmp .ne 7, 3) := by decide +kernel
theorem dX8_blanks_28 : decode cX8_blanks 28 = .ok (.iconst 1, 1) := by decide +kernel
theorem dX8_blanks_29 : decode cX8_blanks 29 = .ok (.goto 4, 3) := by decide +kernel
theorem dX8_blanks_32 : decode cX8_blanks 32 = .ok (.iconst 0, 1) := by decide +kernel
theorem dX8_blanks_33 : decode cX8_blanks 33 = .ok (.iadd, 1) := by decide +kernel
theorem dX8_blanks_34 : decode cX8_blanks 34 = .ok (.istore_n 1, 1) := by decide +kernel
theorem dX8_blanks_35 : decode cX8_blanks 35 = .ok (.iinc 2 1, 3) := by decide +kernel
theorem dX8_blanks_38 : decode cX8_blanks 38 = .ok (.goto (-34), 3) := by decide +kernel
theorem dX8_blanks_41 : decode cX8_blanks 41 = .ok (.iload_n 1, 1) := by decide +kernel
theorem dX8_blanks_42 : decode cX8_blanks 42 = .ok (.ireturn, 1) := by decide +kernel
set_option maxRecDepth 20000 in
theorem ggX8_count_X8_allEnds : GoodIn wsX8_count wsX8_allEnds := goodIn_r _ [8, 1, 9, 10, 11, 7, 12, 13, 14, 15, 16, 17, 18, 19, 20, 21, 22, 23, 24, 25, 26, 27, 28, 29, 30, 31, 32, 33, 34, 35, 36, 37, 38, 39, 40, 41, 42, 43, 44, 54, 55, 56, 57, 58, 59, 60, 61, 62, 63, 64, 65, 66, 67, 68, 69, 70, 71, 72, 73, 74] (by decide +kernel) (by decide +kernel)
set_option maxRecDepth 20000 in
theorem gX8_count_X8_allEnds : GoodIn wsX8_count (wsV RX8 206 RX8 yX8_allEnds wsX8_allEnds) := goodIn_app (goodIn_of _ (by decide +kernel)) ggX8_count_X8_allEnds
set_option maxRecDepth 20000 in
theorem ggX8_count_X8_placesOfEnds : GoodIn wsX8_count wsX8_placesOfEnds := goodIn_r _ [48, 1, 49, 13, 20, 14, 15, 16, 7, 17, 18, 19, 21, 22, 23, 24, 25, 26, 27, 28, 29, 30, 31, 32, 33, 34, 35, 36, 37, 38, 39, 40, 41, 42, 43, 44, 54, 55, 56, 57, 58, 59, 60, 61, 62, 63, 64, 65, 66, 67, 68, 69, 70, 71, 72, 73, 74] (by decide +kernel) (by decide +kernel)
set_option maxRecDepth 20000 in
theorem gX8_count_X8_placesOfEnds : GoodIn wsX8_count (wsV RX8 209 RX8 yX8_placesOfEnds wsX8_placesOfEnds) := goodIn_app (goodIn_of _ (by decide +kernel)) ggX8_count_X8_placesOfEnds
set_option maxRecDepth 20000 in
theorem ggX8_count_X8_blanks : GoodIn wsX8_count wsX8_blanks := goodIn_r _ [53, 1, 54, 55, 56, 57, 58, 59, 60, 61, 62, 63, 64, 65, 66, 67, 68, 69, 70, 71, 72, 73, 74] (by decide +kernel) (by decide +kernel)
set_option maxRecDepth 20000 in
theorem gX8_count_X8_blanks : GoodIn wsX8_count (wsV RX8 212 RX8 yX8_blanks wsX8_blanks) := goodIn_app (goodIn_of _ (by decide +kernel)) ggX8_count_X8_blanks
theorem dX8_count_0 : decode cX8_count 0 = .ok (.iload_n 1, 1) := by decide +kernel
theorem dX8_count_1 : decode cX8_count 1 = .ok (.tableswitch 93 0 7 #[47, 54, 61, 68, 73, 78, 83, 88], 47) := by decide +kernel
theorem dX8_count_48 : decode cX8_count 48 = .ok (.aload_n 0, 1) := by decide +kernel
theorem dX8_count_49 : decode cX8_count 49 = .ok (.getfield 7, 3) := by decide +kernel
theorem dX8_count_52 : decode cX8_count 52 = .ok (.iconst 0, 1) := by decide +kernel
theorem dX8_count_53 : decode cX8_count 53 = .ok (.iaload, 1) := by decide +kernel
theorem dX8_count_54 : decode cX8_count 54 = .ok (.ireturn, 1) := by decide +kernel
theorem dX8_count_55 : decode cX8_count 55 = .ok (.aload_n 0, 1) := by decide +kernel
theorem dX8_count_56 : decode cX8_count 56 = .ok (.getfield 7, 3) := by decide +kernel
theorem dX8_count_59 : decode cX8_count 59 = .ok (.iconst 1, 1) := by decide +kernel
theorem dX8_count_60 : decode cX8_count 60 = .ok (.iaload, 1) := by decide +kernel
theorem dX8_count_61 : decode cX8_count 61 = .ok (.ireturn, 1) := by decide +kernel
theorem dX8_count_62 : decode cX8_count 62 = .ok (.aload_n 0, 1) := by decide +kernel
theorem dX8_count_63 : decode cX8_count 63 = .ok (.getfield 7, 3) := by decide +kernel
theorem dX8_count_66 : decode cX8_count 66 = .ok (.iconst 2, 1) := by decide +kernel
theorem dX8_count_67 : decode cX8_count 67 = .ok (.iaload, 1) := by decide +kernel
theorem dX8_count_68 : decode cX8_count 68 = .ok (.ireturn, 1) := by decide +kernel
theorem dX8_count_69 : decode cX8_count 69 = .ok (.aload_n 0, 1) := by decide +kernel
theorem dX8_count_70 : decode cX8_count 70 = .ok (.invokevirtual 206, 3) := by decide +kernel
theorem dX8_count_73 : decode cX8_count 73 = .ok (.ireturn, 1) := by decide +kernel
theorem dX8_count_74 : decode cX8_count 74 = .ok (.aload_n 0, 1) := by decide +kernel
theorem dX8_count_75 : decode cX8_count 75 = .ok (.invokevirtual 209, 3) := by decide +kernel
theorem dX8_count_78 : decode cX8_count 78 = .ok (.ireturn, 1) := by decide +kernel
theorem dX8_count_79 : decode cX8_count 79 = .ok (.aload_n 0, 1) := by decide +kernel
theorem dX8_count_80 : decode cX8_count 80 = .ok (.invokevirtual 212, 3) := by decide +kernel
theorem dX8_count_83 : decode cX8_count 83 = .ok (.ireturn, 1) := by decide +kernel
theorem dX8_count_84 : decode cX8_count 84 = .ok (.aload_n 0, 1) := by decide +kernel
theorem dX8_count_85 : decode cX8_count 85 = .ok (.getfield 43, 3) := by decide +kernel
theorem dX8_count_88 : decode cX8_count 88 = .ok (.ireturn, 1) := by decide +kernel
theorem dX8_count_89 : decode cX8_count 89 = .ok (.aload_n 0, 1) := by decide +kernel
theorem dX8_count_90 : decode cX8_count 90 = .ok (.getfield 94, 3) := by decide +kernel
theorem dX8_count_93 : decode cX8_count 93 = .ok (.ireturn, 1) := by decide +kernel
theorem dX8_count_94 : decode cX8_count 94 = .ok (.bipush (-2), 2) := by decide +kernel
theorem dX8_count_96 : decode cX8_count 96 = .ok (.ireturn, 1) := by decide +kernel
theorem dJxf58ca_isNaN_12338_0 : decode cJxf58ca_isNaN_12338 0 = .ok (.fload_n 0, 1) := by decide +kernel
theorem dJxf58ca_isNaN_12338_1 : decode cJxf58ca_isNaN_12338 1 = .ok (.fload_n 0, 1) := by decide +kernel
theorem dJxf58ca_isNaN_12338_2 : decode cJxf58ca_isNaN_12338 2 = .ok (.fcmp .l, 1) := by decide +kernel
theorem dJxf58ca_isNaN_12338_3 : decode cJxf58ca_isNaN_12338 3 = .ok (.ifCond .eq 7, 3) := by decide +kernel
theorem dJxf58ca_isNaN_12338_6 : decode cJxf58ca_isNaN_12338 6 = .ok (.iconst 1, 1) := by decide +kernel
theorem dJxf58ca_isNaN_12338_7 : decode cJxf58ca_isNaN_12338 7 = .ok (.goto 4, 3) := by decide +kernel
theorem dJxf58ca_isNaN_12338_10 : decode cJxf58ca_isNaN_12338 10 = .ok (.iconst 0, 1) := by decide +kernel
theorem dJxf58ca_isNaN_12338_11 : decode cJxf58ca_isNaN_12338 11 = .ok (.ireturn, 1) := by decide +kernel
set_option maxRecDepth 20000 in
theorem ggJxf58ca_floatToIntBits_5c35a_Jxf58ca_isNaN_12338 : GoodIn wsJxf58ca_floatToIntBits_5c35a wsJxf58ca_isNaN_12338 := goodIn_r _ [9] (by decide +kernel) (by decide +kernel)
set_option maxRecDepth 20000 in
theorem gJxf58ca_floatToIntBits_5c35a_Jxf58ca_isNaN_12338 : GoodIn wsJxf58ca_floatToIntBits_5c35a (va_wsS RJxf58ca 59 yJxf58ca_isNaN_12338 wsJxf58ca_isNaN_12338) := goodIn_app (goodIn_of _ (by decide +kernel)) ggJxf58ca_floatToIntBits_5c35a_Jxf58ca_isNaN_12338
theorem dJxf58ca_floatToIntBits_5c35a_0 : decode cJxf58ca_floatToIntBits_5c35a 0 = .ok (.fload_n 0, 1) := by decide +kernel
theorem dJxf58ca_floatToIntBits_5c35a_1 : decode cJxf58ca_floatToIntBits_5c35a 1 = .ok (.invokestatic 59, 3) := by decide +kernel
theorem dJxf58ca_floatToIntBits_5c35a_4 : decode cJxf58ca_floatToIntBits_5c35a 4 = .ok (.ifCond .ne 8, 3) := by decide +kernel
theorem dJxf58ca_floatToIntBits_5c35a_7 : decode cJxf58ca_floatToIntBits_5c35a 7 = .ok (.fload_n 0, 1) := by decide +kernel
theorem dJxf58ca_floatToIntBits_5c35a_8 : decode cJxf58ca_floatToIntBits_5c35a 8 = .ok (.invokestatic 74, 3) := by decide +kernel
theorem dJxf58ca_floatToIntBits_5c35a_11 : decode cJxf58ca_floatToIntBits_5c35a 11 = .ok (.ireturn, 1) := by decide +kernel
theorem dJxf58ca_floatToIntBits_5c35a_12 : decode cJxf58ca_floatToIntBits_5c35a 12 = .ok (.ldc 77, 2) := by decide +kernel
theorem dJxf58ca_floatToIntBits_5c35a_14 : decode cJxf58ca_floatToIntBits_5c35a 14 = .ok (.ireturn, 1) := by decide +kernel
theorem dJ6_bitCount_0f7a4_0 : decode cJ6_bitCount_0f7a4 0 = .ok (.iload_n 0, 1) := by decide +kernel
theorem dJ6_bitCount_0f7a4_1 : decode cJ6_bitCount_0f7a4 1 = .ok (.iload_n 0, 1) := by decide +kernel
theorem dJ6_bitCount_0f7a4_2 : decode cJ6_bitCount_0f7a4 2 = .ok (.iconst 1, 1) := by decide +kernel
theorem dJ6_bitCount_0f7a4_3 : decode cJ6_bitCount_0f7a4 3 = .ok (.iushr, 1) := by decide +kernel
theorem dJ6_bitCount_0f7a4_4 : decode cJ6_bitCount_0f7a4 4 = .ok (.ldc_w 265, 3) := by decide +kernel
theorem dJ6_bitCount_0f7a4_7 : decode cJ6_bitCount_0f7a4 7 = .ok (.iand, 1) := by decide +kernel
theorem dJ6_bitCount_0f7a4_8 : decode cJ6_bitCount_0f7a4 8 = .ok (.isub, 1) := by decide +kernel
theorem dJ6_bitCount_0f7a4_9 : decode cJ6_bitCount_0f7a4 9 = .ok (.istore_n 0, 1) := by decide +kernel
theorem dJ6_bitCount_0f7a4_10 : decode cJ6_bitCount_0f7a4 10 = .ok (.iload_n 0, 1) := by decide +kernel
theorem dJ6_bitCount_0f7a4_11 : decode cJ6_bitCount_0f7a4 11 = .ok (.ldc_w 266, 3) := by decide +kernel
theorem dJ6_bitCount_0f7a4_14 : decode cJ6_bitCount_0f7a4 14 = .ok (.iand, 1) := by decide +kernel
theorem dJ6_bitCount_0f7a4_15 : decode cJ6_bitCount_0f7a4 15 = .ok (.iload_n 0, 1) := by decide +kernel
theorem dJ6_bitCount_0f7a4_16 : decode cJ6_bitCount_0f7a4 16 = .ok (.iconst 2, 1) := by decide +kernel
theorem dJ6_bitCount_0f7a4_17 : decode cJ6_bitCount_0f7a4 17 = .ok (.iushr, 1) := by decide +kernel
theorem dJ6_bitCount_0f7a4_18 : decode cJ6_bitCount_0f7a4 18 = .ok (.ldc_w 266, 3) := by decide +kernel
theorem dJ6_bitCount_0f7a4_21 : decode cJ6_bitCount_0f7a4 21 = .ok (.iand, 1) := by decide +kernel
theorem dJ6_bitCount_0f7a4_22 : decode cJ6_bitCount_0f7a4 22 = .ok (.iadd, 1) := by decide +kernel
theorem dJ6_bitCount_0f7a4_23 : decode cJ6_bitCount_0f7a4 23 = .ok (.istore_n 0, 1) := by decide +kernel
theorem dJ6_bitCount_0f7a4_24 : decode cJ6_bitCount_0f7a4 24 = .ok (.iload_n 0, 1) := by decide +kernel
theorem dJ6_bitCount_0f7a4_25 : decode cJ6_bitCount_0f7a4 25 = .ok (.iload_n 0, 1) := by decide +kernel
theorem dJ6_bitCount_0f7a4_26 : decode cJ6_bitCount_0f7a4 26 = .ok (.iconst 4, 1) := by decide +kernel
theorem dJ6_bitCount_0f7a4_27 : decode cJ6_bitCount_0f7a4 27 = .ok (.iushr, 1) := by decide +kernel
theorem dJ6_bitCount_0f7a4_28 : decode cJ6_bitCount_0f7a4 28 = .ok (.iadd, 1) := by decide +kernel
theorem dJ6_bitCount_0f7a4_29 : decode cJ6_bitCount_0f7a4 29 = .ok (.ldc_w 267, 3) := by decide +kernel
theorem dJ6_bitCount_0f7a4_32 : decode cJ6_bitCount_0f7a4 32 = .ok (.iand, 1) := by decide +kernel
theorem dJ6_bitCount_0f7a4_33 : decode cJ6_bitCount_0f7a4 33 = .ok (.istore_n 0, 1) := by decide +kernel
theorem dJ6_bitCount_0f7a4_34 : decode cJ6_bitCount_0f7a4 34 = .ok (.iload_n 0, 1) := by decide +kernel
theorem dJ6_bitCount_0f7a4_35 : decode cJ6_bitCount_0f7a4 35 = .ok (.iload_n 0, 1) := by decide +kernel
theorem dJ6_bitCount_0f7a4_36 : decode cJ6_bitCount_0f7a4 36 = .ok (.bipush 8, 2) := by decide +kernel
theorem dJ6_bitCount_0f7a4_38 : decode cJ6_bitCount_0f7a4 38 = .ok (.iushr, 1) := by decide +kernel
theorem dJ6_bitCount_0f7a4_39 : decode cJ6_bitCount_0f7a4 39 = .ok (.iadd, 1) := by decide +kernel
theorem dJ6_bitCount_0f7a4_40 : decode cJ6_bitCount_0f7a4 40 = .ok (.istore_n 0, 1) := by decide +kernel
theorem dJ6_bitCount_0f7a4_41 : decode cJ6_bitCount_0f7a4 41 = .ok (.iload_n 0, 1) := by decide +kernel
theorem dJ6_bitCount_0f7a4_42 : decode cJ6_bitCount_0f7a4 42 = .ok (.iload_n 0, 1) := by decide +kernel
theorem dJ6_bitCount_0f7a4_43 : decode cJ6_bitCount_0f7a4 43 = .ok (.bipush 16, 2) := by decide +kernel
theorem dJ6_bitCount_0f7a4_45 : decode cJ6_bitCount_0f7a4 45 = .ok (.iushr, 1) := by decide +kernel
theorem dJ6_bitCount_0f7a4_46 : decode cJ6_bitCount_0f7a4 46 = .ok (.iadd, 1) := by decide +kernel
theorem dJ6_bitCount_0f7a4_47 : decode cJ6_bitCount_0f7a4 47 = .ok (.istore_n 0, 1) := by decide +kernel
theorem dJ6_bitCount_0f7a4_48 : decode cJ6_bitCount_0f7a4 48 = .ok (.iload_n 0, 1) := by decide +kernel
theorem dJ6_bitCount_0f7a4_49 : decode cJ6_bitCount_0f7a4 49 = .ok (.bipush 63, 2) := by decide +kernel
theorem dJ6_bitCount_0f7a4_51 : decode cJ6_bitCount_0f7a4 51 = .ok (.iand, 1) := by decide +kernel
theorem dJ6_bitCount_0f7a4_52 : decode cJ6_bitCount_0f7a4 52 = .ok (.ireturn, 1) := by decide +kernel
theorem dJ9_min_7cf53_0 : decode cJ9_min_7cf53 0 = .ok (.iload_n 0, 1) := by decide +kernel
theorem dJ9_min_7cf53_1 : decode cJ9_min_7cf53 1 = .ok (.iload_n 1, 1) := by decide +kernel
theorem dJ9_min_7cf53_2 : decode cJ9_min_7cf53 2 = .ok (.if_icmp .gt 7, 3) := by decide +kernel
theorem dJ9_min_7cf53_5 : decode cJ9_min_7cf53 5 = .ok (.iload_n 0, 1) := by decide +kernel
theorem dJ9_min_7cf53_6 : decode cJ9_min_7cf53 6 = .ok (.goto 4, 3) := by decide +kernel
theorem dJ9_min_7cf53_9 : decode cJ9_min_7cf53 9 = .ok (.iload_n 1, 1) := by decide +kernel
theorem dJ9_min_7cf53_10 : decode cJ9_min_7cf53 10 = .ok (.ireturn, 1) := by decide +kernel
set_option maxRecDepth 20000 in
theorem ggL_law_X7_init : GoodIn wsL_law wsX7_init := goodIn_r _ [8, 9, 10, 11, 12, 13, 14, 15, 16, 17, 18, 19, 20, 21, 22, 23, 24, 25, 26, 27, 28, 29, 30, 31, 32, 33, 34, 35, 36, 37, 38, 39, 40, 41, 42, 43, 44, 45, 46, 47, 48, 49, 50, 51, 52, 53, 54, 55, 56, 57, 58, 59, 60, 61, 62, 63, 64, 65, 66, 67, 68, 69, 70, 71, 72, 73, 74, 75, 76, 77, 78, 79, 80, 81, 82, 83, 84, 85, 86, 87, 742, 743, 744, 745, 746, 713, 714, 715, 716, 717, 718, 719, 720, 747, 748, 749, 750, 751, 752, 753, 754, 755, 756, 757, 758, 759, 760, 761, 762, 763, 764, 765, 766] (by decide +kernel) (by decide +kernel)
set_option maxRecDepth 20000 in
theorem gL_law_X7_init : GoodIn wsL_law (wsX7_init) := ggL_law_X7_init
set_option maxRecDepth 20000 in
theorem ggL_law_X8_init : GoodIn wsL_law wsX8_init := goodIn_r _ [90, 91, 10, 11, 63, 92, 93, 94, 95, 96, 97, 98, 99, 100, 101, 102, 721, 722, 723, 724, 725, 726, 727, 728, 729, 730, 731, 732, 733, 734, 735, 736, 737, 738, 739, 740, 741] (by decide +kernel) (by decide +kernel)
set_option maxRecDepth 20000 in
theorem gL_law_X8_init : GoodIn wsL_law (wsX8_init) := ggL_law_X8_init
set_option maxRecDepth 20000 in
theorem ggL_law_X7_write : GoodIn wsL_law wsX7_write := goodIn_r _ [106, 15, 21, 107, 108, 2, 109, 110, 111, 112, 113, 114, 115, 20, 116, 54, 117, 118, 119, 120, 53, 121, 122, 123, 124, 125, 126, 127, 14, 128, 42, 129, 130, 131, 132, 43, 45, 46, 47, 133, 134, 135, 136, 713, 714, 715, 716, 717, 718, 719, 720, 742, 743, 744, 745, 746, 747, 748] (by decide +kernel) (by decide +kernel)
set_option maxRecDepth 20000 in
theorem gL_law_X7_write : GoodIn wsL_law (wsV RL 13 RX7 yX7_write wsX7_write) := goodIn_app (goodIn_of _ (by decide +kernel)) ggL_law_X7_write
set_option maxRecDepth 20000 in
theorem ggL_law_X8_write : GoodIn wsL_law wsX8_write := goodIn_r _ [140, 92, 141, 142, 5, 143, 144, 145, 146, 147, 148, 149, 150, 151, 152, 93, 153, 154, 155, 156, 157, 158, 159, 160, 161, 94, 721, 722, 723, 724, 725, 726, 727, 728, 729, 730, 731, 732, 733, 734, 735, 736, 737, 738, 739, 740, 741] (by decide +kernel) (by decide +kernel)
set_option maxRecDepth 20000 in
theorem gL_law_X8_write : GoodIn wsL_law (wsV RL 17 RX8 yX8_write wsX8_write) := goodIn_app (goodIn_of _ (by decide +kernel)) ggL_law_X8_write
set_option maxRecDepth 20000 in
theorem ggL_law_X7_writePad : GoodIn wsL_law wsX7_writePad := goodIn_r _ [165, 25, 15, 21, 166, 167, 168, 24, 169, 59, 170, 171, 172, 173, 58, 111, 2, 112, 113, 114, 115, 20, 116, 54, 117, 118, 119, 120, 53, 121, 122, 123, 124, 125, 126, 127, 14, 128, 42, 129, 130, 131, 132, 43, 45, 46, 47, 174, 133, 134, 135, 136, 713, 714, 715, 716, 717, 718, 719, 720, 742, 743, 744, 745, 746, 749, 750, 747, 748] (by decide +kernel) (by decide +kernel)
set_option maxRecDepth 20000 in
theorem gL_law_X7_writePad : GoodIn wsL_law (wsV RL 18 RX7 yX7_writePad wsX7_writePad) := goodIn_app (goodIn_of _ (by decide +kernel)) ggL_law_X7_writePad
set_option maxRecDepth 20000 in
theorem ggL_law_X8_writePad : GoodIn wsL_law wsX8_writePad := goodIn_r _ [178, 179, 99, 144, 145, 92, 146, 147, 5, 148, 149, 150, 151, 152, 93, 153, 154, 155, 156, 157, 158, 159, 160, 161, 94, 721, 722, 723, 724, 725, 726, 727, 728, 729, 730, 731, 732, 733, 734, 735, 736, 737, 738, 739, 740, 741] (by decide +kernel) (by decide +kernel)
set_option maxRecDepth 20000 in
theorem gL_law_X8_writePad : GoodIn wsL_law (wsV RL 22 RX8 yX8_writePad wsX8_writePad) := goodIn_app (goodIn_of _ (by decide +kernel)) ggL_law_X8_writePad
set_option maxRecDepth 20000 in
theorem ggL_law_X7_cut : GoodIn wsL_law wsX7_cut := goodIn_r _ [183, 15, 21, 113, 114, 115, 20, 116, 54, 117, 118, 119, 120, 53, 121, 122, 123, 124, 125, 126, 127, 14, 128, 42, 129, 130, 131, 132, 43, 45, 46, 47, 713, 714, 715, 716, 717, 718, 719, 720, 742, 743, 744, 745, 746, 747, 748] (by decide +kernel) (by decide +kernel)
set_option maxRecDepth 20000 in
theorem gL_law_X7_cut : GoodIn wsL_law (wsV RL 23 RX7 yX7_cut wsX7_cut) := goodIn_app (goodIn_of _ (by decide +kernel)) ggL_law_X7_cut
set_option maxRecDepth 20000 in
theorem ggL_law_X8_cut : GoodIn wsL_law wsX8_cut := goodIn_r _ [187, 188, 92, 146, 147, 5, 148, 149, 150, 151, 152, 93, 157, 158, 159, 160, 161, 94, 721, 722, 723, 724, 725, 726, 727, 728, 729, 730, 731, 732, 733, 734, 735, 736, 737, 738, 739, 740, 741] (by decide +kernel) (by decide +kernel)
set_option maxRecDepth 20000 in
theorem gL_law_X8_cut : GoodIn wsL_law (wsV RL 27 RX8 yX8_cut wsX8_cut) := goodIn_app (goodIn_of _ (by decide +kernel)) ggL_law_X8_cut
set_option maxRecDepth 20000 in
theorem ggL_law_X7_replace : GoodIn wsL_law wsX7_replace := goodIn_r _ [192, 15, 33, 21, 193, 194, 195, 14, 196, 46, 45, 110, 111, 2, 112, 197, 198, 199, 32, 200, 83, 82, 201, 202, 203, 204, 205, 206, 207, 208, 75, 209, 210, 211, 212, 213, 214, 215, 216, 77, 217, 218, 219, 220, 221, 222, 223, 224, 225, 226, 227, 228, 42, 229, 230, 231, 232, 233, 234, 235, 236, 237, 238, 239, 240, 241, 242, 243, 76, 244, 245, 246, 247, 78, 248, 249, 250, 251, 252, 253, 254, 255, 256, 257, 258, 259, 260, 261, 262, 263, 113, 114, 115, 20, 116, 54, 117, 118, 119, 120, 53, 121, 122, 123, 124, 125, 126, 127, 128, 129, 130, 131, 132, 43, 47, 264, 265, 266, 267, 81, 268, 269, 134, 135, 136, 713, 714, 715, 716, 717, 718, 719, 720, 758, 759, 760, 761, 762, 763, 764, 765, 742, 743, 744, 745, 746, 767, 768, 769, 770, 747, 748] (by decide +kernel) (by decide +kernel)
set_option maxRecDepth 20000 in
theorem gL_law_X7_replace : GoodIn wsL_law (wsV RL 28 RX7 yX7_replace wsX7_replace) := goodIn_app (goodIn_of _ (by decide +kernel)) ggL_law_X7_replace
set_option maxRecDepth 20000 in
theorem ggL_law_X8_replace : GoodIn wsL_law wsX8_replace := goodIn_r _ [273, 144, 145, 274, 92, 98, 93, 275, 276, 277, 5, 278, 146, 147, 148, 279, 280, 281, 282, 96, 97, 283, 284, 285, 286, 287, 288, 289, 290, 291, 292, 293, 294, 295, 296, 297, 298, 299, 300, 301, 302, 303, 304, 305, 306, 307, 308, 309, 310, 149, 150, 151, 152, 153, 154, 155, 156, 157, 158, 159, 160, 161, 94, 721, 722, 723, 724, 725, 726, 727, 728, 729, 730, 731, 732, 733, 734, 735, 736, 737, 738, 739, 740, 741] (by decide +kernel) (by decide +kernel)
set_option maxRecDepth 20000 in
theorem gL_law_X8_replace : GoodIn wsL_law (wsV RL 32 RX8 yX8_replace wsX8_replace) := goodIn_app (goodIn_of _ (by decide +kernel)) ggL_law_X8_replace
set_option maxRecDepth 20000 in
theorem ggL_law_X7_addPattern : GoodIn wsL_law wsX7_addPattern := goodIn_r _ [314, 29, 25, 15, 21, 315, 316, 317, 28, 318, 65, 66, 67, 319, 171, 172, 24, 173, 58, 320, 321, 322, 323, 324, 325, 326, 327, 328, 329, 330, 331, 69, 68, 332, 333, 111, 2, 112, 334, 335, 336, 337, 64, 338, 339, 340, 341, 342, 343, 344, 345, 70, 346, 347, 348, 349, 350, 113, 114, 115, 20, 116, 54, 117, 118, 119, 120, 53, 121, 122, 123, 124, 125, 126, 127, 14, 128, 42, 129, 130, 131, 132, 43, 45, 46, 47, 351, 352, 353, 354, 355, 356, 232, 357, 358, 359, 360, 10, 11, 63, 361, 74, 234, 362, 363, 364, 365, 366, 367, 713, 714, 715, 716, 717, 718, 719, 720, 742, 743, 744, 745, 746, 751, 752, 753, 754, 755, 756, 757, 749, 750, 747, 748, 767, 768, 769, 770] (by decide +kernel) (by decide +kernel)
set_option maxRecDepth 20000 in
theorem gL_law_X7_addPattern : GoodIn wsL_law (wsV RL 33 RX7 yX7_addPattern wsX7_addPattern) := goodIn_app (goodIn_of _ (by decide +kernel)) ggL_law_X7_addPattern
set_option maxRecDepth 20000 in
theorem ggL_law_X8_addPattern : GoodIn wsL_law wsX8_addPattern := goodIn_r _ [371, 92, 372, 373, 100, 374, 375, 376, 5, 377, 378, 179, 379, 380, 381, 382, 383, 384, 385, 386, 99, 146, 147, 148, 387, 388, 389, 390, 391, 392, 393, 394, 395, 396, 397, 398, 399, 400, 401, 149, 150, 151, 152, 93, 157, 158, 159, 160, 161, 94, 721, 722, 723, 724, 725, 726, 727, 728, 729, 730, 731, 732, 733, 734, 735, 736, 737, 738, 739, 740, 741] (by decide +kernel) (by decide +kernel)
set_option maxRecDepth 20000 in
theorem gL_law_X8_addPattern : GoodIn wsL_law (wsV RL 36 RX8 yX8_addPattern wsX8_addPattern) := goodIn_app (goodIn_of _ (by decide +kernel)) ggL_law_X8_addPattern
set_option maxRecDepth 20000 in
theorem ggL_law_X7_removePattern : GoodIn wsL_law wsX7_removePattern := goodIn_r _ [405, 15, 21, 193, 194, 195, 14, 196, 46, 45, 113, 114, 115, 20, 116, 54, 117, 118, 119, 120, 53, 121, 122, 123, 124, 125, 126, 127, 128, 42, 129, 130, 131, 132, 43, 47, 406, 407, 408, 409, 713, 714, 715, 716, 717, 718, 719, 720, 742, 743, 744, 745, 746, 747, 748] (by decide +kernel) (by decide +kernel)
set_option maxRecDepth 20000 in
theorem gL_law_X7_removePattern : GoodIn wsL_law (wsV RL 37 RX7 yX7_removePattern wsX7_removePattern) := goodIn_app (goodIn_of _ (by decide +kernel)) ggL_law_X7_removePattern
set_option maxRecDepth 20000 in
theorem ggL_law_X8_removePattern : GoodIn wsL_law wsX8_removePattern := goodIn_r _ [413, 92, 275, 276, 277, 5, 278, 146, 147, 148, 149, 150, 151, 152, 93, 157, 158, 159, 160, 161, 94, 721, 722, 723, 724, 725, 726, 727, 728, 729, 730, 731, 732, 733, 734, 735, 736, 737, 738, 739, 740, 741] (by decide +kernel) (by decide +kernel)
set_option maxRecDepth 20000 in
theorem gL_law_X8_removePattern : GoodIn wsL_law (wsV RL 40 RX8 yX8_removePattern wsX8_removePattern) := goodIn_app (goodIn_of _ (by decide +kernel)) ggL_law_X8_removePattern
set_option maxRecDepth 20000 in
theorem ggL_law_X7_setSlips : GoodIn wsL_law wsX7_setSlips := goodIn_r _ [417, 15, 21, 113, 114, 115, 20, 116, 54, 117, 118, 119, 120, 53, 121, 122, 123, 124, 125, 126, 127, 14, 128, 42, 129, 130, 131, 132, 43, 45, 46, 47, 713, 714, 715, 716, 717, 718, 719, 720, 742, 743, 744, 745, 746, 747, 748] (by decide +kernel) (by decide +kernel)
set_option maxRecDepth 20000 in
theorem gL_law_X7_setSlips : GoodIn wsL_law (wsV RL 41 RX7 yX7_setSlips wsX7_setSlips) := goodIn_app (goodIn_of _ (by decide +kernel)) ggL_law_X7_setSlips
set_option maxRecDepth 20000 in
theorem ggL_law_X8_setSlips : GoodIn wsL_law wsX8_setSlips := goodIn_r _ [421, 422, 92, 146, 147, 5, 148, 149, 150, 151, 152, 93, 157, 158, 159, 160, 161, 94, 721, 722, 723, 724, 725, 726, 727, 728, 729, 730, 731, 732, 733, 734, 735, 736, 737, 738, 739, 740, 741] (by decide +kernel) (by decide +kernel)
set_option maxRecDepth 20000 in
theorem gL_law_X8_setSlips : GoodIn wsL_law (wsV RL 44 RX8 yX8_setSlips wsX8_setSlips) := goodIn_app (goodIn_of _ (by decide +kernel)) ggL_law_X8_setSlips
set_option maxRecDepth 20000 in
theorem ggL_law_X7_type : GoodIn wsL_law wsX7_type := goodIn_r _ [426, 25, 427, 428, 429, 24, 430, 59, 58, 713, 714, 715, 716, 717, 718, 719, 720, 749, 750] (by decide +kernel) (by decide +kernel)
set_option maxRecDepth 20000 in
theorem gL_law_X7_type : GoodIn wsL_law (wsV RL 45 RX7 yX7_type wsX7_type) := goodIn_app (goodIn_of _ (by decide +kernel)) ggL_law_X7_type
set_option maxRecDepth 20000 in
theorem ggL_law_X8_type : GoodIn wsL_law wsX8_type := goodIn_r _ [434, 179, 99, 721, 722, 723, 724, 725, 726, 727, 728, 729, 730, 731, 732, 733, 734, 735, 736, 737, 738, 739, 740, 741] (by decide +kernel) (by decide +kernel)
set_option maxRecDepth 20000 in
theorem gL_law_X8_type : GoodIn wsL_law (wsV RL 48 RX8 yX8_type wsX8_type) := goodIn_app (goodIn_of _ (by decide +kernel)) ggL_law_X8_type
set_option maxRecDepth 20000 in
theorem ggL_law_X7_clearPad : GoodIn wsL_law wsX7_clearPad := goodIn_r _ [438, 25, 713, 714, 715, 716, 717, 718, 719, 720, 749, 750] (by decide +kernel) (by decide +kernel)
set_option maxRecDepth 20000 in
theorem gL_law_X7_clearPad : GoodIn wsL_law (wsV RL 49 RX7 yX7_clearPad wsX7_clearPad) := goodIn_app (goodIn_of _ (by decide +kernel)) ggL_law_X7_clearPad
set_option maxRecDepth 20000 in
theorem ggL_law_X8_clearPad : GoodIn wsL_law wsX8_clearPad := goodIn_r _ [442, 179, 721, 722, 723, 724, 725, 726, 727, 728, 729, 730, 731, 732, 733, 734, 735, 736, 737, 738, 739, 740, 741] (by decide +kernel) (by decide +kernel)
set_option maxRecDepth 20000 in
theorem gL_law_X8_clearPad : GoodIn wsL_law (wsV RL 52 RX8 yX8_clearPad wsX8_clearPad) := goodIn_app (goodIn_of _ (by decide +kernel)) ggL_law_X8_clearPad
set_option maxRecDepth 20000 in
theorem ggL_law_X7_undo : GoodIn wsL_law wsX7_undo := goodIn_r _ [446, 21, 15, 447, 448, 449, 20, 450, 54, 121, 122, 123, 124, 53, 125, 126, 127, 14, 128, 42, 129, 130, 131, 132, 43, 45, 46, 47, 713, 714, 715, 716, 717, 718, 719, 720, 747, 748, 742, 743, 744, 745, 746] (by decide +kernel) (by decide +kernel)
set_option maxRecDepth 20000 in
theorem gL_law_X7_undo : GoodIn wsL_law (wsV RL 53 RX7 yX7_undo wsX7_undo) := goodIn_app (goodIn_of _ (by decide +kernel)) ggL_law_X7_undo
set_option maxRecDepth 20000 in
theorem ggL_law_X8_undo : GoodIn wsL_law wsX8_undo := goodIn_r _ [454, 161, 92, 94, 721, 722, 723, 724, 725, 726, 727, 728, 729, 730, 731, 732, 733, 734, 735, 736, 737, 738, 739, 740, 741] (by decide +kernel) (by decide +kernel)
set_option maxRecDepth 20000 in
theorem gL_law_X8_undo : GoodIn wsL_law (wsV RL 56 RX8 yX8_undo wsX8_undo) := goodIn_app (goodIn_of _ (by decide +kernel)) ggL_law_X8_undo
set_option maxRecDepth 20000 in
theorem ggL_law_X7_keep : GoodIn wsL_law wsX7_keep := goodIn_r _ [458, 16, 15, 17, 459, 126, 127, 14, 128, 42, 129, 130, 131, 132, 43, 45, 46, 47, 713, 714, 715, 716, 717, 718, 719, 720, 742, 743, 744, 745, 746] (by decide +kernel) (by decide +kernel)
set_option maxRecDepth 20000 in
theorem gL_law_X7_keep : GoodIn wsL_law (wsV RL 57 RX7 yX7_keep wsX7_keep) := goodIn_app (goodIn_of _ (by decide +kernel)) ggL_law_X7_keep
set_option maxRecDepth 20000 in
theorem ggL_law_X8_keep : GoodIn wsL_law wsX8_keep := goodIn_r _ [463, 95, 92, 464, 721, 722, 723, 724, 725, 726, 727, 728, 729, 730, 731, 732, 733, 734, 735, 736, 737, 738, 739, 740, 741] (by decide +kernel) (by decide +kernel)
set_option maxRecDepth 20000 in
theorem gL_law_X8_keep : GoodIn wsL_law (wsV RL 60 RX8 yX8_keep wsX8_keep) := goodIn_app (goodIn_of _ (by decide +kernel)) ggL_law_X8_keep
set_option maxRecDepth 20000 in
theorem ggL_law_X7_restore : GoodIn wsL_law wsX7_restore := goodIn_r _ [468, 17, 21, 15, 16, 113, 114, 115, 20, 116, 54, 117, 118, 119, 120, 53, 121, 122, 123, 124, 125, 126, 127, 14, 128, 42, 129, 130, 131, 132, 43, 45, 46, 47, 459, 713, 714, 715, 716, 717, 718, 719, 720, 742, 743, 744, 745, 746, 747, 748] (by decide +kernel) (by decide +kernel)
set_option maxRecDepth 20000 in
theorem gL_law_X7_restore : GoodIn wsL_law (wsV RL 61 RX7 yX7_restore wsX7_restore) := goodIn_app (goodIn_of _ (by decide +kernel)) ggL_law_X7_restore
set_option maxRecDepth 20000 in
theorem ggL_law_X8_restore : GoodIn wsL_law wsX8_restore := goodIn_r _ [472, 464, 92, 95, 149, 150, 151, 5, 152, 93, 157, 158, 159, 160, 161, 94, 721, 722, 723, 724, 725, 726, 727, 728, 729, 730, 731, 732, 733, 734, 735, 736, 737, 738, 739, 740, 741] (by decide +kernel) (by decide +kernel)
set_option maxRecDepth 20000 in
theorem gL_law_X8_restore : GoodIn wsL_law (wsV RL 64 RX8 yX8_restore wsX8_restore) := goodIn_app (goodIn_of _ (by decide +kernel)) ggL_law_X8_restore
set_option maxRecDepth 20000 in
theorem ggL_law_X7_at : GoodIn wsL_law wsX7_at := goodIn_r _ [476, 15, 477, 226, 227, 14, 228, 42, 713, 714, 715, 716, 717, 718, 719, 720, 742, 743, 744, 745, 746] (by decide +kernel) (by decide +kernel)
set_option maxRecDepth 20000 in
theorem gL_law_X7_at : GoodIn wsL_law (wsV RL 65 RX7 yX7_at wsX7_at) := goodIn_app (goodIn_of _ (by decide +kernel)) ggL_law_X7_at
set_option maxRecDepth 20000 in
theorem ggL_law_X8_at : GoodIn wsL_law wsX8_at := goodIn_r _ [481, 92, 146, 147, 5, 148, 721, 722, 723, 724, 725, 726, 727, 728, 729, 730, 731, 732, 733, 734, 735, 736, 737, 738, 739, 740, 741] (by decide +kernel) (by decide +kernel)
set_option maxRecDepth 20000 in
theorem gL_law_X8_at : GoodIn wsL_law (wsV RL 68 RX8 yX8_at wsX8_at) := goodIn_app (goodIn_of _ (by decide +kernel)) ggL_law_X8_at
set_option maxRecDepth 20000 in
theorem ggL_law_X7_pattern : GoodIn wsL_law wsX7_pattern := goodIn_r _ [485, 15, 33, 193, 194, 195, 14, 196, 46, 45, 486, 202, 203, 32, 204, 83, 205, 206, 207, 208, 75, 209, 210, 211, 212, 213, 214, 215, 216, 77, 82, 217, 218, 219, 220, 221, 222, 223, 224, 225, 226, 227, 228, 42, 229, 230, 231, 232, 233, 234, 235, 236, 237, 238, 239, 197, 198, 199, 200, 201, 240, 241, 242, 243, 76, 244, 245, 246, 247, 78, 248, 249, 250, 251, 252, 253, 254, 255, 256, 257, 258, 259, 487, 488, 489, 490, 491, 492, 493, 494, 495, 496, 497, 498, 499, 362, 500, 501, 502, 503, 504, 361, 505, 506, 507, 508, 509, 510, 511, 512, 513, 514, 515, 713, 714, 715, 716, 717, 718, 719, 720, 767, 768, 769, 770, 758, 759, 760, 761, 762, 763, 764, 765, 742, 743, 744, 745, 746] (by decide +kernel) (by decide +kernel)
set_option maxRecDepth 20000 in
theorem gL_law_X7_pattern : GoodIn wsL_law (wsV RL 69 RX7 yX7_pattern wsX7_pattern) := goodIn_app (goodIn_of _ (by decide +kernel)) ggL_law_X7_pattern
set_option maxRecDepth 20000 in
theorem ggL_law_X8_pattern : GoodIn wsL_law wsX8_pattern := goodIn_r _ [519, 92, 275, 276, 277, 5, 278, 146, 147, 148, 520, 521, 522, 523, 274, 279, 280, 281, 282, 96, 97, 98, 283, 284, 285, 286, 287, 288, 289, 290, 291, 292, 293, 294, 295, 296, 297, 298, 299, 300, 301, 302, 303, 304, 305, 306, 524, 525, 526, 527, 528, 529, 530, 531, 532, 533, 534, 535, 536, 537, 538, 539, 540, 541, 542, 543, 391, 544, 545, 546, 547, 548, 549, 550, 721, 722, 723, 724, 725, 726, 727, 728, 729, 730, 731, 732, 733, 734, 735, 736, 737, 738, 739, 740, 741] (by decide +kernel) (by decide +kernel)
set_option maxRecDepth 20000 in
theorem gL_law_X8_pattern : GoodIn wsL_law (wsV RL 73 RX8 yX8_pattern wsX8_pattern) := goodIn_app (goodIn_of _ (by decide +kernel)) ggL_law_X8_pattern
set_option maxRecDepth 20000 in
theorem ggL_law_X7_takes : GoodIn wsL_law wsX7_takes := goodIn_r _ [554, 15, 193, 194, 195, 14, 196, 46, 45, 555, 502, 503, 232, 504, 361, 713, 714, 715, 716, 717, 718, 719, 720, 767, 768, 769, 770, 742, 743, 744, 745, 746] (by decide +kernel) (by decide +kernel)
set_option maxRecDepth 20000 in
theorem gL_law_X7_takes : GoodIn wsL_law (wsV RL 74 RX7 yX7_takes wsX7_takes) := goodIn_app (goodIn_of _ (by decide +kernel)) ggL_law_X7_takes
set_option maxRecDepth 20000 in
theorem ggL_law_X8_takes : GoodIn wsL_law wsX8_takes := goodIn_r _ [559, 275, 276, 277, 5, 278, 92, 146, 147, 148, 287, 288, 289, 290, 303, 304, 305, 306, 721, 722, 723, 724, 725, 726, 727, 728, 729, 730, 731, 732, 733, 734, 735, 736, 737, 738, 739, 740, 741] (by decide +kernel) (by decide +kernel)
set_option maxRecDepth 20000 in
theorem gL_law_X8_takes : GoodIn wsL_law (wsV RL 77 RX8 yX8_takes wsX8_takes) := goodIn_app (goodIn_of _ (by decide +kernel)) ggL_law_X8_takes
set_option maxRecDepth 20000 in
theorem ggL_law_X7_end : GoodIn wsL_law wsX7_end := goodIn_r _ [563, 15, 33, 193, 194, 195, 14, 196, 46, 45, 197, 198, 199, 32, 200, 83, 82, 201, 202, 203, 204, 205, 206, 207, 208, 75, 209, 210, 211, 212, 213, 214, 215, 216, 77, 217, 218, 219, 220, 221, 222, 223, 224, 225, 226, 227, 228, 42, 229, 230, 231, 232, 233, 234, 235, 236, 237, 238, 239, 240, 241, 242, 243, 76, 244, 245, 246, 247, 78, 248, 249, 250, 251, 252, 253, 254, 255, 256, 257, 258, 259, 486, 564, 565, 713, 714, 715, 716, 717, 718, 719, 720, 758, 759, 760, 761, 762, 763, 764, 765, 742, 743, 744, 745, 746, 767, 768, 769, 770] (by decide +kernel) (by decide +kernel)
set_option maxRecDepth 20000 in
theorem gL_law_X7_end : GoodIn wsL_law (wsV RL 78 RX7 yX7_end wsX7_end) := goodIn_app (goodIn_of _ (by decide +kernel)) ggL_law_X7_end
set_option maxRecDepth 20000 in
theorem ggL_law_X8_end : GoodIn wsL_law wsX8_end := goodIn_r _ [569, 570, 274, 98, 275, 276, 277, 5, 278, 92, 146, 147, 148, 279, 280, 281, 282, 96, 97, 283, 284, 285, 286, 287, 288, 289, 290, 291, 292, 293, 294, 295, 296, 297, 298, 299, 300, 301, 302, 303, 304, 305, 306, 532, 533, 534, 535, 307, 308, 309, 310, 721, 722, 723, 724, 725, 726, 727, 728, 729, 730, 731, 732, 733, 734, 735, 736, 737, 738, 739, 740, 741] (by decide +kernel) (by decide +kernel)
set_option maxRecDepth 20000 in
theorem gL_law_X8_end : GoodIn wsL_law (wsV RL 82 RX8 yX8_end wsX8_end) := goodIn_app (goodIn_of _ (by decide +kernel)) ggL_law_X8_end
set_option maxRecDepth 20000 in
theorem ggL_law_X7_column : GoodIn wsL_law wsX7_column := goodIn_r _ [574, 15, 575, 576, 33, 193, 194, 195, 14, 196, 46, 45, 577, 578, 579, 32, 580, 75, 205, 206, 207, 208, 209, 210, 211, 212, 221, 222, 223, 224, 225, 226, 227, 228, 42, 229, 230, 231, 232, 233, 234, 235, 236, 237, 238, 239, 713, 714, 715, 716, 717, 718, 719, 720, 742, 743, 744, 745, 746, 758, 759, 760, 761, 762, 763, 764, 765, 767, 768, 769, 770] (by decide +kernel) (by decide +kernel)
set_option maxRecDepth 20000 in
theorem gL_law_X7_column : GoodIn wsL_law (wsV RL 83 RX7 yX7_column wsX7_column) := goodIn_app (goodIn_of _ (by decide +kernel)) ggL_law_X7_column
set_option maxRecDepth 20000 in
theorem ggL_law_X8_column : GoodIn wsL_law wsX8_column := goodIn_r _ [584, 585, 92, 586, 96, 275, 276, 277, 5, 278, 146, 147, 148, 283, 284, 285, 286, 97, 287, 288, 289, 290, 291, 292, 293, 294, 295, 296, 297, 298, 299, 300, 301, 302, 303, 304, 305, 306, 721, 722, 723, 724, 725, 726, 727, 728, 729, 730, 731, 732, 733, 734, 735, 736, 737, 738, 739, 740, 741] (by decide +kernel) (by decide +kernel)
set_option maxRecDepth 20000 in
theorem gL_law_X8_column : GoodIn wsL_law (wsV RL 87 RX8 yX8_column wsX8_column) := goodIn_app (goodIn_of _ (by decide +kernel)) ggL_law_X8_column
set_option maxRecDepth 20000 in
theorem ggL_law_X7_slips : GoodIn wsL_law wsX7_slips := goodIn_r _ [590, 15, 37, 193, 194, 195, 14, 196, 46, 45, 591, 592, 593, 36, 594, 87, 595, 596, 597, 598, 599, 600, 601, 602, 226, 227, 228, 42, 603, 230, 231, 232, 233, 234, 604, 605, 606, 713, 714, 715, 716, 717, 718, 719, 720, 742, 743, 744, 745, 746, 766, 767, 768, 769, 770] (by decide +kernel) (by decide +kernel)
set_option maxRecDepth 20000 in
theorem gL_law_X7_slips : GoodIn wsL_law (wsV RL 88 RX7 yX7_slips wsX7_slips) := goodIn_app (goodIn_of _ (by decide +kernel)) ggL_law_X7_slips
set_option maxRecDepth 20000 in
theorem ggL_law_X8_slips : GoodIn wsL_law wsX8_slips := goodIn_r _ [610, 92, 611, 612, 613, 614, 275, 276, 277, 5, 278, 146, 147, 148, 615, 616, 617, 618, 101, 287, 288, 289, 290, 299, 300, 301, 302, 303, 304, 305, 306, 619, 620, 621, 622, 721, 722, 723, 724, 725, 726, 727, 728, 729, 730, 731, 732, 733, 734, 735, 736, 737, 738, 739, 740, 741] (by decide +kernel) (by decide +kernel)
set_option maxRecDepth 20000 in
theorem gL_law_X8_slips : GoodIn wsL_law (wsV RL 92 RX8 yX8_slips wsX8_slips) := goodIn_app (goodIn_of _ (by decide +kernel)) ggL_law_X8_slips
set_option maxRecDepth 20000 in
theorem ggL_law_X7_density : GoodIn wsL_law wsX7_density := goodIn_r _ [626, 15, 627, 193, 194, 195, 14, 196, 46, 45, 628, 629, 630, 2, 631, 33, 486, 202, 203, 32, 204, 83, 205, 206, 207, 208, 75, 209, 210, 211, 212, 213, 214, 215, 216, 77, 82, 217, 218, 219, 220, 221, 222, 223, 224, 225, 226, 227, 228, 42, 229, 230, 231, 232, 233, 234, 235, 236, 237, 238, 239, 632, 633, 634, 635, 256, 257, 258, 259, 78, 713, 714, 715, 716, 717, 718, 719, 720, 742, 743, 744, 745, 746, 758, 759, 760, 761, 762, 763, 764, 765, 767, 768, 769, 770] (by decide +kernel) (by decide +kernel)
set_option maxRecDepth 20000 in
theorem gL_law_X7_density : GoodIn wsL_law (wsV RL 93 RX7 yX7_density wsX7_density) := goodIn_app (goodIn_of _ (by decide +kernel)) ggL_law_X7_density
set_option maxRecDepth 20000 in
theorem ggL_law_X8_density : GoodIn wsL_law wsX8_density := goodIn_r _ [639, 640, 275, 276, 277, 5, 278, 92, 146, 147, 148, 641, 642, 643, 644, 274, 279, 280, 281, 282, 96, 97, 98, 283, 284, 285, 286, 287, 288, 289, 290, 291, 292, 293, 294, 295, 296, 297, 298, 299, 300, 301, 302, 303, 304, 305, 306, 532, 533, 534, 535, 721, 722, 723, 724, 725, 726, 727, 728, 729, 730, 731, 732, 733, 734, 735, 736, 737, 738, 739, 740, 741] (by decide +kernel) (by decide +kernel)
set_option maxRecDepth 20000 in
theorem gL_law_X8_density : GoodIn wsL_law (wsV RL 97 RX8 yX8_density wsX8_density) := goodIn_app (goodIn_of _ (by decide +kernel)) ggL_law_X8_density
set_option maxRecDepth 20000 in
theorem ggL_law_X7_densityBits : GoodIn wsL_law wsX7_densityBits := goodIn_r _ [648, 15, 193, 194, 195, 14, 196, 46, 45, 628, 629, 630, 2, 631, 33, 486, 202, 203, 32, 204, 83, 205, 206, 207, 208, 75, 209, 210, 211, 212, 213, 214, 215, 216, 77, 82, 217, 218, 219, 220, 221, 222, 223, 224, 225, 226, 227, 228, 42, 229, 230, 231, 232, 233, 234, 235, 236, 237, 238, 239, 632, 633, 634, 635, 256, 257, 258, 259, 78, 649, 650, 651, 652, 713, 714, 715, 716, 717, 718, 719, 720, 742, 743, 744, 745, 746, 758, 759, 760, 761, 762, 763, 764, 765, 767, 768, 769, 770] (by decide +kernel) (by decide +kernel)
set_option maxRecDepth 20000 in
theorem gL_law_X7_densityBits : GoodIn wsL_law (wsV RL 98 RX7 yX7_densityBits wsX7_densityBits) := goodIn_app (goodIn_of _ (by decide +kernel)) ggL_law_X7_densityBits
set_option maxRecDepth 20000 in
theorem ggL_law_X8_densityBits : GoodIn wsL_law wsX8_densityBits := goodIn_r _ [656, 275, 276, 277, 5, 278, 92, 146, 147, 148, 641, 642, 643, 644, 274, 279, 280, 281, 282, 96, 97, 98, 283, 284, 285, 286, 287, 288, 289, 290, 291, 292, 293, 294, 295, 296, 297, 298, 299, 300, 301, 302, 303, 304, 305, 306, 532, 533, 534, 535, 657, 658, 659, 660, 661, 662, 663, 664, 665, 666, 667, 668, 721, 722, 723, 724, 725, 726, 727, 728, 729, 730, 731, 732, 733, 734, 735, 736, 737, 738, 739, 740, 741] (by decide +kernel) (by decide +kernel)
set_option maxRecDepth 20000 in
theorem gL_law_X8_densityBits : GoodIn wsL_law (wsV RL 101 RX8 yX8_densityBits wsX8_densityBits) := goodIn_app (goodIn_of _ (by decide +kernel)) ggL_law_X8_densityBits
set_option maxRecDepth 20000 in
theorem ggL_law_X7_count : GoodIn wsL_law wsX7_count := goodIn_r _ [672, 15, 21, 25, 673, 674, 675, 2, 676, 33, 193, 194, 195, 14, 196, 46, 45, 486, 202, 203, 32, 204, 83, 205, 206, 207, 208, 75, 209, 210, 211, 212, 213, 214, 215, 216, 77, 82, 217, 218, 219, 220, 221, 222, 223, 224, 225, 226, 227, 228, 42, 229, 230, 231, 232, 233, 234, 235, 236, 237, 238, 239, 677, 678, 679, 680, 681, 682, 683, 684, 80, 685, 686, 687, 688, 256, 257, 258, 259, 78, 689, 690, 691, 692, 693, 694, 695, 696, 43, 713, 714, 715, 716, 717, 718, 719, 720, 742, 743, 744, 745, 746, 747, 748, 749, 750, 758, 759, 760, 761, 762, 763, 764, 765, 767, 768, 769, 770] (by decide +kernel) (by decide +kernel)
set_option maxRecDepth 20000 in
theorem gL_law_X7_count : GoodIn wsL_law (wsV RL 102 RX7 yX7_count wsX7_count) := goodIn_app (goodIn_of _ (by decide +kernel)) ggL_law_X7_count
set_option maxRecDepth 20000 in
theorem ggL_law_X8_count : GoodIn wsL_law wsX8_count := goodIn_r _ [700, 92, 161, 179, 701, 702, 703, 5, 704, 520, 521, 522, 523, 274, 279, 280, 281, 282, 96, 97, 98, 283, 284, 285, 286, 287, 288, 289, 290, 291, 292, 293, 294, 295, 296, 297, 298, 299, 300, 301, 302, 303, 304, 305, 306, 705, 706, 707, 708, 102, 709, 710, 711, 712, 721, 722, 723, 724, 725, 726, 727, 728, 729, 730, 731, 732, 733, 734, 735, 736, 737, 738, 739, 740, 741] (by decide +kernel) (by decide +kernel)
set_option maxRecDepth 20000 in
theorem gL_law_X8_count : GoodIn wsL_law (wsV RL 105 RX8 yX8_count wsX8_count) := goodIn_app (goodIn_of _ (by decide +kernel)) ggL_law_X8_count
theorem dL_law_0 : decode cL_law 0 = .ok (.new 7, 3) := by decide +kernel
theorem dL_law_3 : decode cL_law 3 = .ok (.dup, 1) := by decide +kernel
theorem dL_law_4 : decode cL_law 4 = .ok (.invokespecial 9, 3) := by decide +kernel
theorem dL_law_7 : decode cL_law 7 = .ok (.astore_n 1, 1) := by decide +kernel
theorem dL_law_8 : decode cL_law 8 = .ok (.new 10, 3) := by decide +kernel
theorem dL_law_11 : decode cL_law 11 = .ok (.dup, 1) := by decide +kernel
theorem dL_law_12 : decode cL_law 12 = .ok (.invokespecial 12, 3) := by decide +kernel
theorem dL_law_15 : decode cL_law 15 = .ok (.astore_n 2, 1) := by decide +kernel
theorem dL_law_16 : decode cL_law 16 = .ok (.iconst 0, 1) := by decide +kernel
theorem dL_law_17 : decode cL_law 17 = .ok (.istore_n 3, 1) := by decide +kernel
theorem dL_law_18 : decode cL_law 18 = .ok (.iload_n 3, 1) := by decide +kernel
theorem dL_law_19 : decode cL_law 19 = .ok (.aload_n 0, 1) := by decide +kernel
theorem dL_law_20 : decode cL_law 20 = .ok (.arraylength, 1) := by decide +kernel
theorem dL_law_21 : decode cL_law 21 = .ok (.iconst 5, 1) := by decide +kernel
theorem dL_law_22 : decode cL_law 22 = .ok (.isub, 1) := by decide +kernel
theorem dL_law_23 : decode cL_law 23 = .ok (.if_icmp .gt 699, 3) := by decide +kernel
theorem dL_law_26 : decode cL_law 26 = .ok (.aload_n 0, 1) := by decide +kernel
theorem dL_law_27 : decode cL_law 27 = .ok (.iload_n 3, 1) := by decide +kernel
theorem dL_law_28 : decode cL_law 28 = .ok (.iaload, 1) := by decide +kernel
theorem dL_law_29 : decode cL_law 29 = .ok (.bipush 31, 2) := by decide +kernel
theorem dL_law_31 : decode cL_law 31 = .ok (.iand, 1) := by decide +kernel
theorem dL_law_32 : decode cL_law 32 = .ok (.tableswitch 684 0 20 #[100, 125, 138, 161, 196, 209, 232, 255, 280, 293, 306, 319, 332, 355, 388, 421, 490, 534, 587, 638, 661], 100) := by decide +kernel
theorem dL_law_132 : decode cL_law 132 = .ok (.aload_n 1, 1) := by decide +kernel
theorem dL_law_133 : decode cL_law 133 = .ok (.aload_n 0, 1) := by decide +kernel
theorem dL_law_134 : decode cL_law 134 = .ok (.iload_n 3, 1) := by decide +kernel
theorem dL_law_135 : decode cL_law 135 = .ok (.iconst 1, 1) := by decide +kernel
theorem dL_law_136 : decode cL_law 136 = .ok (.iadd, 1) := by decide +kernel
theorem dL_law_137 : decode cL_law 137 = .ok (.iaload, 1) := by decide +kernel
theorem dL_law_138 : decode cL_law 138 = .ok (.i2c, 1) := by decide +kernel
theorem dL_law_139 : decode cL_law 139 = .ok (.invokevirtual 13, 3) := by decide +kernel
theorem dL_law_142 : decode cL_law 142 = .ok (.aload_n 2, 1) := by decide +kernel
theorem dL_law_143 : decode cL_law 143 = .ok (.aload_n 0, 1) := by decide +kernel
theorem dL_law_144 : decode cL_law 144 = .ok (.iload_n 3, 1) := by decide +kernel
theorem dL_law_145 : decode cL_law 145 = .ok (.iconst 1, 1) := by decide +kernel
theorem dL_law_146 : decode cL_law 146 = .ok (.iadd, 1) := by decide +kernel
theorem dL_law_147 : decode cL_law 147 = .ok (.iaload, 1) := by decide +kernel
theorem dL_law_148 : decode cL_law 148 = .ok (.i2c, 1) := by decide +kernel
theorem dL_law_149 : decode cL_law 149 = .ok (.invokevirtual 17, 3) := by decide +kernel
theorem dL_law_152 : decode cL_law 152 = .ok (.if_icmp .eq 564, 3) := by decide +kernel
theorem dL_law_155 : decode cL_law 155 = .ok (.iconst 0, 1) := by decide +kernel
theorem dL_law_156 : decode cL_law 156 = .ok (.ireturn, 1) := by decide +kernel
theorem dL_law_157 : decode cL_law 157 = .ok (.aload_n 1, 1) := by decide +kernel
theorem dL_law_158 : decode cL_law 158 = .ok (.invokevirtual 18, 3) := by decide +kernel
theorem dL_law_161 : decode cL_law 161 = .ok (.aload_n 2, 1) := by decide +kernel
theorem dL_law_162 : decode cL_law 162 = .ok (.invokevirtual 22, 3) := by decide +kernel
theorem dL_law_165 : decode cL_law 165 = .ok (.if_icmp .eq 551, 3) := by decide +kernel
theorem dL_law_168 : decode cL_law 168 = .ok (.iconst 0, 1) := by decide +kernel
theorem dL_law_169 : decode cL_law 169 = .ok (.ireturn, 1) := by decide +kernel
theorem dL_law_170 : decode cL_law 170 = .ok (.aload_n 1, 1) := by decide +kernel
theorem dL_law_171 : decode cL_law 171 = .ok (.aload_n 0, 1) := by decide +kernel
theorem dL_law_172 : decode cL_law 172 = .ok (.iload_n 3, 1) := by decide +kernel
theorem dL_law_173 : decode cL_law 173 = .ok (.iconst 1, 1) := by decide +kernel
theorem dL_law_174 : decode cL_law 174 = .ok (.iadd, 1) := by decide +kernel
theorem dL_law_175 : decode cL_law 175 = .ok (.iaload, 1) := by decide +kernel
theorem dL_law_176 : decode cL_law 176 = .ok (.invokevirtual 23, 3) := by decide +kernel
theorem dL_law_179 : decode cL_law 179 = .ok (.aload_n 2, 1) := by decide +kernel
theorem dL_law_180 : decode cL_law 180 = .ok (.aload_n 0, 1) := by decide +kernel
theorem dL_law_181 : decode cL_law 181 = .ok (.iload_n 3, 1) := by decide +kernel
theorem dL_law_182 : decode cL_law 182 = .ok (.iconst 1, 1) := by decide +kernel
theorem dL_law_183 : decode cL_law 183 = .ok (.iadd, 1) := by decide +kernel
theorem dL_law_184 : decode cL_law 184 = .ok (.iaload, 1) := by decide +kernel
theorem dL_law_185 : decode cL_law 185 = .ok (.invokevirtual 27, 3) := by decide +kernel
theorem dL_law_188 : decode cL_law 188 = .ok (.if_icmp .eq 528, 3) := by decide +kernel
theorem dL_law_191 : decode cL_law 191 = .ok (.iconst 0, 1) := by decide +kernel
theorem dL_law_192 : decode cL_law 192 = .ok (.ireturn, 1) := by decide +kernel
theorem dL_law_193 : decode cL_law 193 = .ok (.aload_n 1, 1) := by decide +kernel
theorem dL_law_194 : decode cL_law 194 = .ok (.aload_n 0, 1) := by decide +kernel
theorem dL_law_195 : decode cL_law 195 = .ok (.iload_n 3, 1) := by decide +kernel
theorem dL_law_196 : decode cL_law 196 = .ok (.iconst 1, 1) := by decide +kernel
theorem dL_law_197 : decode cL_law 197 = .ok (.iadd, 1) := by decide +kernel
theorem dL_law_198 : decode cL_law 198 = .ok (.iaload, 1) := by decide +kernel
theorem dL_law_199 : decode cL_law 199 = .ok (.aload_n 0, 1) := by decide +kernel
theorem dL_law_200 : decode cL_law 200 = .ok (.iload_n 3, 1) := by decide +kernel
theorem dL_law_201 : decode cL_law 201 = .ok (.iconst 2, 1) := by decide +kernel
theorem dL_law_202 : decode cL_law 202 = .ok (.iadd, 1) := by decide +kernel
theorem dL_law_203 : decode cL_law 203 = .ok (.iaload, 1) := by decide +kernel
theorem dL_law_204 : decode cL_law 204 = .ok (.i2c, 1) := by decide +kernel
theorem dL_law_205 : decode cL_law 205 = .ok (.invokevirtual 28, 3) := by decide +kernel
theorem dL_law_208 : decode cL_law 208 = .ok (.aload_n 2, 1) := by decide +kernel
theorem dL_law_209 : decode cL_law 209 = .ok (.aload_n 0, 1) := by decide +kernel
theorem dL_law_210 : decode cL_law 210 = .ok (.iload_n 3, 1) := by decide +kernel
theorem dL_law_211 : decode cL_law 211 = .ok (.iconst 1, 1) := by decide +kernel
theorem dL_law_212 : decode cL_law 212 = .ok (.iadd, 1) := by decide +kernel
theorem dL_law_213 : decode cL_law 213 = .ok (.iaload, 1) := by decide +kernel
theorem dL_law_214 : decode cL_law 214 = .ok (.aload_n 0, 1) := by decide +kernel
theorem dL_law_215 : decode cL_law 215 = .ok (.iload_n 3, 1) := by decide +kernel
theorem dL_law_216 : decode cL_law 216 = .ok (.iconst 2, 1) := by decide +kernel
theorem dL_law_217 : decode cL_law 217 = .ok (.iadd, 1) := by decide +kernel
theorem dL_law_218 : decode cL_law 218 = .ok (.iaload, 1) := by decide +kernel
theorem dL_law_219 : decode cL_law 219 = .ok (.i2c, 1) := by decide +kernel
theorem dL_law_220 : decode cL_law 220 = .ok (.invokevirtual 32, 3) := by decide +kernel
theorem dL_law_223 : decode cL_law 223 = .ok (.if_icmp .eq 493, 3) := by decide +kernel
theorem dL_law_226 : decode cL_law 226 = .ok (.iconst 0, 1) := by decide +kernel
theorem dL_law_227 : decode cL_law 227 = .ok (.ireturn, 1) := by decide +kernel
theorem dL_law_228 : decode cL_law 228 = .ok (.aload_n 1, 1) := by decide +kernel
theorem dL_law_229 : decode cL_law 229 = .ok (.invokevirtual 33, 3) := by decide +kernel
theorem dL_law_232 : decode cL_law 232 = .ok (.aload_n 2, 1) := by decide +kernel
theorem dL_law_233 : decode cL_law 233 = .ok (.invokevirtual 36, 3) := by decide +kernel
theorem dL_law_236 : decode cL_law 236 = .ok (.if_icmp .eq 480, 3) := by decide +kernel
theorem dL_law_239 : decode cL_law 239 = .ok (.iconst 0, 1) := by decide +kernel
theorem dL_law_240 : decode cL_law 240 = .ok (.ireturn, 1) := by decide +kernel
theorem dL_law_241 : decode cL_law 241 = .ok (.aload_n 1, 1) := by decide +kernel
theorem dL_law_242 : decode cL_law 242 = .ok (.aload_n 0, 1) := by decide +kernel
theorem dL_law_243 : decode cL_law 243 = .ok (.iload_n 3, 1) := by decide +kernel
theorem dL_law_244 : decode cL_law 244 = .ok (.iconst 1, 1) := by decide +kernel
theorem dL_law_245 : decode cL_law 245 = .ok (.iadd, 1) := by decide +kernel
theorem dL_law_246 : decode cL_law 246 = .ok (.iaload, 1) := by decide +kernel
theorem dL_law_247 : decode cL_law 247 = .ok (.invokevirtual 37, 3) := by decide +kernel
theorem dL_law_250 : decode cL_law 250 = .ok (.aload_n 2, 1) := by decide +kernel
theorem dL_law_251 : decode cL_law 251 = .ok (.aload_n 0, 1) := by decide +kernel
theorem dL_law_252 : decode cL_law 252 = .ok (.iload_n 3, 1) := by decide +kernel
theorem dL_law_253 : decode cL_law 253 = .ok (.iconst 1, 1) := by decide +kernel
theorem dL_law_254 : decode cL_law 254 = .ok (.iadd, 1) := by decide +kernel
theorem dL_law_255 : decode cL_law 255 = .ok (.iaload, 1) := by decide +kernel
theorem dL_law_256 : decode cL_law 256 = .ok (.invokevirtual 40, 3) := by decide +kernel
theorem dL_law_259 : decode cL_law 259 = .ok (.if_icmp .eq 457, 3) := by decide +kernel
theorem dL_law_262 : decode cL_law 262 = .ok (.iconst 0, 1) := by decide +kernel
theorem dL_law_263 : decode cL_law 263 = .ok (.ireturn, 1) := by decide +kernel
theorem dL_law_264 : decode cL_law 264 = .ok (.aload_n 1, 1) := by decide +kernel
theorem dL_law_265 : decode cL_law 265 = .ok (.aload_n 0, 1) := by decide +kernel
theorem dL_law_266 : decode cL_law 266 = .ok (.iload_n 3, 1) := by decide +kernel
theorem dL_law_267 : decode cL_law 267 = .ok (.iconst 1, 1) := by decide +kernel
theorem dL_law_268 : decode cL_law 268 = .ok (.iadd, 1) := by decide +kernel
theorem dL_law_269 : decode cL_law 269 = .ok (.iaload, 1) := by decide +kernel
theorem dL_law_270 : decode cL_law 270 = .ok (.invokevirtual 41, 3) := by decide +kernel
theorem dL_law_273 : decode cL_law 273 = .ok (.aload_n 2, 1) := by decide +kernel
theorem dL_law_274 : decode cL_law 274 = .ok (.aload_n 0, 1) := by decide +kernel
theorem dL_law_275 : decode cL_law 275 = .ok (.iload_n 3, 1) := by decide +kernel
theorem dL_law_276 : decode cL_law 276 = .ok (.iconst 1, 1) := by decide +kernel
theorem dL_law_277 : decode cL_law 277 = .ok (.iadd, 1) := by decide +kernel
theorem dL_law_278 : decode cL_law 278 = .ok (.iaload, 1) := by decide +kernel
theorem dL_law_279 : decode cL_law 279 = .ok (.invokevirtual 44, 3) := by decide +kernel
theorem dL_law_282 : decode cL_law 282 = .ok (.if_icmp .eq 434, 3) := by decide +kernel
theorem dL_law_285 : decode cL_law 285 = .ok (.iconst 0, 1) := by decide +kernel
theorem dL_law_286 : decode cL_law 286 = .ok (.ireturn, 1) := by decide +kernel
theorem dL_law_287 : decode cL_law 287 = .ok (.aload_n 1, 1) := by decide +kernel
theorem dL_law_288 : decode cL_law 288 = .ok (.aload_n 0, 1) := by decide +kernel
theorem dL_law_289 : decode cL_law 289 = .ok (.iload_n 3, 1) := by decide +kernel
theorem dL_law_290 : decode cL_law 290 = .ok (.iconst 1, 1) := by decide +kernel
theorem dL_law_291 : decode cL_law 291 = .ok (.iadd, 1) := by decide +kernel
theorem dL_law_292 : decode cL_law 292 = .ok (.iaload, 1) := by decide +kernel
theorem dL_law_293 : decode cL_law 293 = .ok (.i2c, 1) := by decide +kernel
theorem dL_law_294 : decode cL_law 294 = .ok (.invokevirtual 45, 3) := by decide +kernel
theorem dL_law_297 : decode cL_law 297 = .ok (.aload_n 2, 1) := by decide +kernel
theorem dL_law_298 : decode cL_law 298 = .ok (.aload_n 0, 1) := by decide +kernel
theorem dL_law_299 : decode cL_law 299 = .ok (.iload_n 3, 1) := by decide +kernel
theorem dL_law_300 : decode cL_law 300 = .ok (.iconst 1, 1) := by decide +kernel
theorem dL_law_301 : decode cL_law 301 = .ok (.iadd, 1) := by decide +kernel
theorem dL_law_302 : decode cL_law 302 = .ok (.iaload, 1) := by decide +kernel
theorem dL_law_303 : decode cL_law 303 = .ok (.i2c, 1) := by decide +kernel
theorem dL_law_304 : decode cL_law 304 = .ok (.invokevirtual 48, 3) := by decide +kernel
theorem dL_law_307 : decode cL_law 307 = .ok (.if_icmp .eq 409, 3) := by decide +kernel
theorem dL_law_310 : decode cL_law 310 = .ok (.iconst 0, 1) := by decide +kernel
theorem dL_law_311 : decode cL_law 311 = .ok (.ireturn, 1) := by decide +kernel
theorem dL_law_312 : decode cL_law 312 = .ok (.aload_n 1, 1) := by decide +kernel
theorem dL_law_313 : decode cL_law 313 = .ok (.invokevirtual 49, 3) := by decide +kernel
theorem dL_law_316 : decode cL_law 316 = .ok (.aload_n 2, 1) := by decide +kernel
theorem dL_law_317 : decode cL_law 317 = .ok (.invokevirtual 52, 3) := by decide +kernel
theorem dL_law_320 : decode cL_law 320 = .ok (.if_icmp .eq 396, 3) := by decide +kernel
theorem dL_law_323 : decode cL_law 323 = .ok (.iconst 0, 1) := by decide +kernel
theorem dL_law_324 : decode cL_law 324 = .ok (.ireturn, 1) := by decide +kernel
theorem dL_law_325 : decode cL_law 325 = .ok (.aload_n 1, 1) := by decide +kernel
theorem dL_law_326 : decode cL_law 326 = .ok (.invokevirtual 53, 3) := by decide +kernel
theorem dL_law_329 : decode cL_law 329 = .ok (.aload_n 2, 1) := by decide +kernel
theorem dL_law_330 : decode cL_law 330 = .ok (.invokevirtual 56, 3) := by decide +kernel
theorem dL_law_333 : decode cL_law 333 = .ok (.if_icmp .eq 383, 3) := by decide +kernel
theorem dL_law_336 : decode cL_law 336 = .ok (.iconst 0, 1) := by decide +kernel
theorem dL_law_337 : decode cL_law 337 = .ok (.ireturn, 1) := by decide +kernel
theorem dL_law_338 : decode cL_law 338 = .ok (.aload_n 1, 1) := by decide +kernel
theorem dL_law_339 : decode cL_law 339 = .ok (.invokevirtual 57, 3) := by decide +kernel
theorem dL_law_342 : decode cL_law 342 = .ok (.aload_n 2, 1) := by decide +kernel
theorem dL_law_343 : decode cL_law 343 = .ok (.invokevirtual 60, 3) := by decide +kernel
theorem dL_law_346 : decode cL_law 346 = .ok (.if_icmp .eq 370, 3) := by decide +kernel
theorem dL_law_349 : decode cL_law 349 = .ok (.iconst 0, 1) := by decide +kernel
theorem dL_law_350 : decode cL_law 350 = .ok (.ireturn, 1) := by decide +kernel
theorem dL_law_351 : decode cL_law 351 = .ok (.aload_n 1, 1) := by decide +kernel
theorem dL_law_352 : decode cL_law 352 = .ok (.invokevirtual 61, 3) := by decide +kernel
theorem dL_law_355 : decode cL_law 355 = .ok (.aload_n 2, 1) := by decide +kernel
theorem dL_law_356 : decode cL_law 356 = .ok (.invokevirtual 64, 3) := by decide +kernel
theorem dL_law_359 : decode cL_law 359 = .ok (.if_icmp .eq 357, 3) := by decide +kernel
theorem dL_law_362 : decode cL_law 362 = .ok (.iconst 0, 1) := by decide +kernel
theorem dL_law_363 : decode cL_law 363 = .ok (.ireturn, 1) := by decide +kernel
theorem dL_law_364 : decode cL_law 364 = .ok (.aload_n 1, 1) := by decide +kernel
theorem dL_law_365 : decode cL_law 365 = .ok (.aload_n 0, 1) := by decide +kernel
theorem dL_law_366 : decode cL_law 366 = .ok (.iload_n 3, 1) := by decide +kernel
theorem dL_law_367 : decode cL_law 367 = .ok (.iconst 1, 1) := by decide +kernel
theorem dL_law_368 : decode cL_law 368 = .ok (.iadd, 1) := by decide +kernel
theorem dL_law_369 : decode cL_law 369 = .ok (.iaload, 1) := by decide +kernel
theorem dL_law_370 : decode cL_law 370 = .ok (.invokevirtual 65, 3) := by decide +kernel
theorem dL_law_373 : decode cL_law 373 = .ok (.aload_n 2, 1) := by decide +kernel
theorem dL_law_374 : decode cL_law 374 = .ok (.aload_n 0, 1) := by decide +kernel
theorem dL_law_375 : decode cL_law 375 = .ok (.iload_n 3, 1) := by decide +kernel
theorem dL_law_376 : decode cL_law 376 = .ok (.iconst 1, 1) := by decide +kernel
theorem dL_law_377 : decode cL_law 377 = .ok (.iadd, 1) := by decide +kernel
theorem dL_law_378 : decode cL_law 378 = .ok (.iaload, 1) := by decide +kernel
theorem dL_law_379 : decode cL_law 379 = .ok (.invokevirtual 68, 3) := by decide +kernel
theorem dL_law_382 : decode cL_law 382 = .ok (.if_icmp .eq 334, 3) := by decide +kernel
theorem dL_law_385 : decode cL_law 385 = .ok (.iconst 0, 1) := by decide +kernel
theorem dL_law_386 : decode cL_law 386 = .ok (.ireturn, 1) := by decide +kernel
theorem dL_law_387 : decode cL_law 387 = .ok (.aload_n 1, 1) := by decide +kernel
theorem dL_law_388 : decode cL_law 388 = .ok (.aload_n 0, 1) := by decide +kernel
theorem dL_law_389 : decode cL_law 389 = .ok (.iload_n 3, 1) := by decide +kernel
theorem dL_law_390 : decode cL_law 390 = .ok (.iconst 1, 1) := by decide +kernel
theorem dL_law_391 : decode cL_law 391 = .ok (.iadd, 1) := by decide +kernel
theorem dL_law_392 : decode cL_law 392 = .ok (.iaload, 1) := by decide +kernel
theorem dL_law_393 : decode cL_law 393 = .ok (.aload_n 0, 1) := by decide +kernel
theorem dL_law_394 : decode cL_law 394 = .ok (.iload_n 3, 1) := by decide +kernel
theorem dL_law_395 : decode cL_law 395 = .ok (.iconst 2, 1) := by decide +kernel
theorem dL_law_396 : decode cL_law 396 = .ok (.iadd, 1) := by decide +kernel
theorem dL_law_397 : decode cL_law 397 = .ok (.iaload, 1) := by decide +kernel
theorem dL_law_398 : decode cL_law 398 = .ok (.invokevirtual 69, 3) := by decide +kernel
theorem dL_law_401 : decode cL_law 401 = .ok (.aload_n 2, 1) := by decide +kernel
theorem dL_law_402 : decode cL_law 402 = .ok (.aload_n 0, 1) := by decide +kernel
theorem dL_law_403 : decode cL_law 403 = .ok (.iload_n 3, 1) := by decide +kernel
theorem dL_law_404 : decode cL_law 404 = .ok (.iconst 1, 1) := by decide +kernel
theorem dL_law_405 : decode cL_law 405 = .ok (.iadd, 1) := by decide +kernel
theorem dL_law_406 : decode cL_law 406 = .ok (.iaload, 1) := by decide +kernel
theorem dL_law_407 : decode cL_law 407 = .ok (.aload_n 0, 1) := by decide +kernel
theorem dL_law_408 : decode cL_law 408 = .ok (.iload_n 3, 1) := by decide +kernel
theorem dL_law_409 : decode cL_law 409 = .ok (.iconst 2, 1) := by decide +kernel
theorem dL_law_410 : decode cL_law 410 = .ok (.iadd, 1) := by decide +kernel
theorem dL_law_411 : decode cL_law 411 = .ok (.iaload, 1) := by decide +kernel
theorem dL_law_412 : decode cL_law 412 = .ok (.invokevirtual 73, 3) := by decide +kernel
theorem dL_law_415 : decode cL_law 415 = .ok (.if_icmp .eq 301, 3) := by decide +kernel
theorem dL_law_418 : decode cL_law 418 = .ok (.iconst 0, 1) := by decide +kernel
theorem dL_law_419 : decode cL_law 419 = .ok (.ireturn, 1) := by decide +kernel
theorem dL_law_420 : decode cL_law 420 = .ok (.aload_n 1, 1) := by decide +kernel
theorem dL_law_421 : decode cL_law 421 = .ok (.aload_n 0, 1) := by decide +kernel
theorem dL_law_422 : decode cL_law 422 = .ok (.iload_n 3, 1) := by decide +kernel
theorem dL_law_423 : decode cL_law 423 = .ok (.iconst 1, 1) := by decide +kernel
theorem dL_law_424 : decode cL_law 424 = .ok (.iadd, 1) := by decide +kernel
theorem dL_law_425 : decode cL_law 425 = .ok (.iaload, 1) := by decide +kernel
theorem dL_law_426 : decode cL_law 426 = .ok (.aload_n 0, 1) := by decide +kernel
theorem dL_law_427 : decode cL_law 427 = .ok (.iload_n 3, 1) := by decide +kernel
theorem dL_law_428 : decode cL_law 428 = .ok (.iconst 2, 1) := by decide +kernel
theorem dL_law_429 : decode cL_law 429 = .ok (.iadd, 1) := by decide +kernel
theorem dL_law_430 : decode cL_law 430 = .ok (.iaload, 1) := by decide +kernel
theorem dL_law_431 : decode cL_law 431 = .ok (.invokevirtual 74, 3) := by decide +kernel
theorem dL_law_434 : decode cL_law 434 = .ok (.aload_n 2, 1) := by decide +kernel
theorem dL_law_435 : decode cL_law 435 = .ok (.aload_n 0, 1) := by decide +kernel
theorem dL_law_436 : decode cL_law 436 = .ok (.iload_n 3, 1) := by decide +kernel
theorem dL_law_437 : decode cL_law 437 = .ok (.iconst 1, 1) := by decide +kernel
theorem dL_law_438 : decode cL_law 438 = .ok (.iadd, 1) := by decide +kernel
theorem dL_law_439 : decode cL_law 439 = .ok (.iaload, 1) := by decide +kernel
theorem dL_law_440 : decode cL_law 440 = .ok (.aload_n 0, 1) := by decide +kernel
theorem dL_law_441 : decode cL_law 441 = .ok (.iload_n 3, 1) := by decide +kernel
theorem dL_law_442 : decode cL_law 442 = .ok (.iconst 2, 1) := by decide +kernel
theorem dL_law_443 : decode cL_law 443 = .ok (.iadd, 1) := by decide +kernel
theorem dL_law_444 : decode cL_law 444 = .ok (.iaload, 1) := by decide +kernel
theorem dL_law_445 : decode cL_law 445 = .ok (.invokevirtual 77, 3) := by decide +kernel
theorem dL_law_448 : decode cL_law 448 = .ok (.if_icmp .eq 268, 3) := by decide +kernel
theorem dL_law_451 : decode cL_law 451 = .ok (.iconst 0, 1) := by decide +kernel
theorem dL_law_452 : decode cL_law 452 = .ok (.ireturn, 1) := by decide +kernel
theorem dL_law_453 : decode cL_law 453 = .ok (.aload_n 1, 1) := by decide +kernel
theorem dL_law_454 : decode cL_law 454 = .ok (.aload_n 0, 1) := by decide +kernel
theorem dL_law_455 : decode cL_law 455 = .ok (.iload_n 3, 1) := by decide +kernel
theorem dL_law_456 : decode cL_law 456 = .ok (.iconst 1, 1) := by decide +kernel
theorem dL_law_457 : decode cL_law 457 = .ok (.iadd, 1) := by decide +kernel
theorem dL_law_458 : decode cL_law 458 = .ok (.iaload, 1) := by decide +kernel
theorem dL_law_459 : decode cL_law 459 = .ok (.aload_n 0, 1) := by decide +kernel
theorem dL_law_460 : decode cL_law 460 = .ok (.iload_n 3, 1) := by decide +kernel
theorem dL_law_461 : decode cL_law 461 = .ok (.iconst 2, 1) := by decide +kernel
theorem dL_law_462 : decode cL_law 462 = .ok (.iadd, 1) := by decide +kernel
theorem dL_law_463 : decode cL_law 463 = .ok (.iaload, 1) := by decide +kernel
theorem dL_law_464 : decode cL_law 464 = .ok (.aload_n 0, 1) := by decide +kernel
theorem dL_law_465 : decode cL_law 465 = .ok (.iload_n 3, 1) := by decide +kernel
theorem dL_law_466 : decode cL_law 466 = .ok (.iconst 3, 1) := by decide +kernel
theorem dL_law_467 : decode cL_law 467 = .ok (.iadd, 1) := by decide +kernel
theorem dL_law_468 : decode cL_law 468 = .ok (.iaload, 1) := by decide +kernel
theorem dL_law_469 : decode cL_law 469 = .ok (.ifCond .eq 7, 3) := by decide +kernel
theorem dL_law_472 : decode cL_law 472 = .ok (.iconst 1, 1) := by decide +kernel
theorem dL_law_473 : decode cL_law 473 = .ok (.goto 4, 3) := by decide +kernel
theorem dL_law_476 : decode cL_law 476 = .ok (.iconst 0, 1) := by decide +kernel
theorem dL_law_477 : decode cL_law 477 = .ok (.aload_n 0, 1) := by decide +kernel
theorem dL_law_478 : decode cL_law 478 = .ok (.iload_n 3, 1) := by decide +kernel
theorem dL_law_479 : decode cL_law 479 = .ok (.iconst 4, 1) := by decide +kernel
theorem dL_law_480 : decode cL_law 480 = .ok (.iadd, 1) := by decide +kernel
theorem dL_law_481 : decode cL_law 481 = .ok (.iaload, 1) := by decide +kernel
theorem dL_law_482 : decode cL_law 482 = .ok (.invokevirtual 78, 3) := by decide +kernel
theorem dL_law_485 : decode cL_law 485 = .ok (.aload_n 2, 1) := by decide +kernel
theorem dL_law_486 : decode cL_law 486 = .ok (.aload_n 0, 1) := by decide +kernel
theorem dL_law_487 : decode cL_law 487 = .ok (.iload_n 3, 1) := by decide +kernel
theorem dL_law_488 : decode cL_law 488 = .ok (.iconst 1, 1) := by decide +kernel
theorem dL_law_489 : decode cL_law 489 = .ok (.iadd, 1) := by decide +kernel
theorem dL_law_490 : decode cL_law 490 = .ok (.iaload, 1) := by decide +kernel
theorem dL_law_491 : decode cL_law 491 = .ok (.aload_n 0, 1) := by decide +kernel
theorem dL_law_492 : decode cL_law 492 = .ok (.iload_n 3, 1) := by decide +kernel
theorem dL_law_493 : decode cL_law 493 = .ok (.iconst 2, 1) := by decide +kernel
theorem dL_law_494 : decode cL_law 494 = .ok (.iadd, 1) := by decide +kernel
theorem dL_law_495 : decode cL_law 495 = .ok (.iaload, 1) := by decide +kernel
theorem dL_law_496 : decode cL_law 496 = .ok (.aload_n 0, 1) := by decide +kernel
theorem dL_law_497 : decode cL_law 497 = .ok (.iload_n 3, 1) := by decide +kernel
theorem dL_law_498 : decode cL_law 498 = .ok (.iconst 3, 1) := by decide +kernel
theorem dL_law_499 : decode cL_law 499 = .ok (.iadd, 1) := by decide +kernel
theorem dL_law_500 : decode cL_law 500 = .ok (.iaload, 1) := by decide +kernel
theorem dL_law_501 : decode cL_law 501 = .ok (.ifCond .eq 7, 3) := by decide +kernel
theorem dL_law_504 : decode cL_law 504 = .ok (.iconst 1, 1) := by decide +kernel
theorem dL_law_505 : decode cL_law 505 = .ok (.goto 4, 3) := by decide +kernel
theorem dL_law_508 : decode cL_law 508 = .ok (.iconst 0, 1) := by decide +kernel
theorem dL_law_509 : decode cL_law 509 = .ok (.aload_n 0, 1) := by decide +kernel
theorem dL_law_510 : decode cL_law 510 = .ok (.iload_n 3, 1) := by decide +kernel
theorem dL_law_511 : decode cL_law 511 = .ok (.iconst 4, 1) := by decide +kernel
theorem dL_law_512 : decode cL_law 512 = .ok (.iadd, 1) := by decide +kernel
theorem dL_law_513 : decode cL_law 513 = .ok (.iaload, 1) := by decide +kernel
theorem dL_law_514 : decode cL_law 514 = .ok (.invokevirtual 82, 3) := by decide +kernel
theorem dL_law_517 : decode cL_law 517 = .ok (.if_icmp .eq 199, 3) := by decide +kernel
theorem dL_law_520 : decode cL_law 520 = .ok (.iconst 0, 1) := by decide +kernel
theorem dL_law_521 : decode cL_law 521 = .ok (.ireturn, 1) := by decide +kernel
theorem dL_law_522 : decode cL_law 522 = .ok (.aload_n 1, 1) := by decide +kernel
theorem dL_law_523 : decode cL_law 523 = .ok (.aload_n 0, 1) := by decide +kernel
theorem dL_law_524 : decode cL_law 524 = .ok (.iload_n 3, 1) := by decide +kernel
theorem dL_law_525 : decode cL_law 525 = .ok (.iconst 1, 1) := by decide +kernel
theorem dL_law_526 : decode cL_law 526 = .ok (.iadd, 1) := by decide +kernel
theorem dL_law_527 : decode cL_law 527 = .ok (.iaload, 1) := by decide +kernel
theorem dL_law_528 : decode cL_law 528 = .ok (.aload_n 0, 1) := by decide +kernel
theorem dL_law_529 : decode cL_law 529 = .ok (.iload_n 3, 1) := by decide +kernel
theorem dL_law_530 : decode cL_law 530 = .ok (.iconst 2, 1) := by decide +kernel
theorem dL_law_531 : decode cL_law 531 = .ok (.iadd, 1) := by decide +kernel
theorem dL_law_532 : decode cL_law 532 = .ok (.iaload, 1) := by decide +kernel
theorem dL_law_533 : decode cL_law 533 = .ok (.aload_n 0, 1) := by decide +kernel
theorem dL_law_534 : decode cL_law 534 = .ok (.iload_n 3, 1) := by decide +kernel
theorem dL_law_535 : decode cL_law 535 = .ok (.iconst 3, 1) := by decide +kernel
theorem dL_law_536 : decode cL_law 536 = .ok (.iadd, 1) := by decide +kernel
theorem dL_law_537 : decode cL_law 537 = .ok (.iaload, 1) := by decide +kernel
theorem dL_law_538 : decode cL_law 538 = .ok (.invokevirtual 83, 3) := by decide +kernel
theorem dL_law_541 : decode cL_law 541 = .ok (.aload_n 2, 1) := by decide +kernel
theorem dL_law_542 : decode cL_law 542 = .ok (.aload_n 0, 1) := by decide +kernel
theorem dL_law_543 : decode cL_law 543 = .ok (.iload_n 3, 1) := by decide +kernel
theorem dL_law_544 : decode cL_law 544 = .ok (.iconst 1, 1) := by decide +kernel
theorem dL_law_545 : decode cL_law 545 = .ok (.iadd, 1) := by decide +kernel
theorem dL_law_546 : decode cL_law 546 = .ok (.iaload, 1) := by decide +kernel
theorem dL_law_547 : decode cL_law 547 = .ok (.aload_n 0, 1) := by decide +kernel
theorem dL_law_548 : decode cL_law 548 = .ok (.iload_n 3, 1) := by decide +kernel
theorem dL_law_549 : decode cL_law 549 = .ok (.iconst 2, 1) := by decide +kernel
theorem dL_law_550 : decode cL_law 550 = .ok (.iadd, 1) := by decide +kernel
theorem dL_law_551 : decode cL_law 551 = .ok (.iaload, 1) := by decide +kernel
theorem dL_law_552 : decode cL_law 552 = .ok (.aload_n 0, 1) := by decide +kernel
theorem dL_law_553 : decode cL_law 553 = .ok (.iload_n 3, 1) := by decide +kernel
theorem dL_law_554 : decode cL_law 554 = .ok (.iconst 3, 1) := by decide +kernel
theorem dL_law_555 : decode cL_law 555 = .ok (.iadd, 1) := by decide +kernel
theorem dL_law_556 : decode cL_law 556 = .ok (.iaload, 1) := by decide +kernel
theorem dL_law_557 : decode cL_law 557 = .ok (.invokevirtual 87, 3) := by decide +kernel
theorem dL_law_560 : decode cL_law 560 = .ok (.lcmp, 1) := by decide +kernel
theorem dL_law_561 : decode cL_law 561 = .ok (.ifCond .eq 155, 3) := by decide +kernel
theorem dL_law_564 : decode cL_law 564 = .ok (.iconst 0, 1) := by decide +kernel
theorem dL_law_565 : decode cL_law 565 = .ok (.ireturn, 1) := by decide +kernel
theorem dL_law_566 : decode cL_law 566 = .ok (.aload_n 1, 1) := by decide +kernel
theorem dL_law_567 : decode cL_law 567 = .ok (.aload_n 0, 1) := by decide +kernel
theorem dL_law_568 : decode cL_law 568 = .ok (.iload_n 3, 1) := by decide +kernel
theorem dL_law_569 : decode cL_law 569 = .ok (.iconst 1, 1) := by decide +kernel
theorem dL_law_570 : decode cL_law 570 = .ok (.iadd, 1) := by decide +kernel
theorem dL_law_571 : decode cL_law 571 = .ok (.iaload, 1) := by decide +kernel
theorem dL_law_572 : decode cL_law 572 = .ok (.aload_n 0, 1) := by decide +kernel
theorem dL_law_573 : decode cL_law 573 = .ok (.iload_n 3, 1) := by decide +kernel
theorem dL_law_574 : decode cL_law 574 = .ok (.iconst 2, 1) := by decide +kernel
theorem dL_law_575 : decode cL_law 575 = .ok (.iadd, 1) := by decide +kernel
theorem dL_law_576 : decode cL_law 576 = .ok (.iaload, 1) := by decide +kernel
theorem dL_law_577 : decode cL_law 577 = .ok (.aload_n 0, 1) := by decide +kernel
theorem dL_law_578 : decode cL_law 578 = .ok (.iload_n 3, 1) := by decide +kernel
theorem dL_law_579 : decode cL_law 579 = .ok (.iconst 3, 1) := by decide +kernel
theorem dL_law_580 : decode cL_law 580 = .ok (.iadd, 1) := by decide +kernel
theorem dL_law_581 : decode cL_law 581 = .ok (.iaload, 1) := by decide +kernel
theorem dL_law_582 : decode cL_law 582 = .ok (.aload_n 0, 1) := by decide +kernel
theorem dL_law_583 : decode cL_law 583 = .ok (.iload_n 3, 1) := by decide +kernel
theorem dL_law_584 : decode cL_law 584 = .ok (.iconst 4, 1) := by decide +kernel
theorem dL_law_585 : decode cL_law 585 = .ok (.iadd, 1) := by decide +kernel
theorem dL_law_586 : decode cL_law 586 = .ok (.iaload, 1) := by decide +kernel
theorem dL_law_587 : decode cL_law 587 = .ok (.invokevirtual 88, 3) := by decide +kernel
theorem dL_law_590 : decode cL_law 590 = .ok (.aload_n 2, 1) := by decide +kernel
theorem dL_law_591 : decode cL_law 591 = .ok (.aload_n 0, 1) := by decide +kernel
theorem dL_law_592 : decode cL_law 592 = .ok (.iload_n 3, 1) := by decide +kernel
theorem dL_law_593 : decode cL_law 593 = .ok (.iconst 1, 1) := by decide +kernel
theorem dL_law_594 : decode cL_law 594 = .ok (.iadd, 1) := by decide +kernel
theorem dL_law_595 : decode cL_law 595 = .ok (.iaload, 1) := by decide +kernel
theorem dL_law_596 : decode cL_law 596 = .ok (.aload_n 0, 1) := by decide +kernel
theorem dL_law_597 : decode cL_law 597 = .ok (.iload_n 3, 1) := by decide +kernel
theorem dL_law_598 : decode cL_law 598 = .ok (.iconst 2, 1) := by decide +kernel
theorem dL_law_599 : decode cL_law 599 = .ok (.iadd, 1) := by decide +kernel
theorem dL_law_600 : decode cL_law 600 = .ok (.iaload, 1) := by decide +kernel
theorem dL_law_601 : decode cL_law 601 = .ok (.aload_n 0, 1) := by decide +kernel
theorem dL_law_602 : decode cL_law 602 = .ok (.iload_n 3, 1) := by decide +kernel
theorem dL_law_603 : decode cL_law 603 = .ok (.iconst 3, 1) := by decide +kernel
theorem dL_law_604 : decode cL_law 604 = .ok (.iadd, 1) := by decide +kernel
theorem dL_law_605 : decode cL_law 605 = .ok (.iaload, 1) := by decide +kernel
theorem dL_law_606 : decode cL_law 606 = .ok (.aload_n 0, 1) := by decide +kernel
theorem dL_law_607 : decode cL_law 607 = .ok (.iload_n 3, 1) := by decide +kernel
theorem dL_law_608 : decode cL_law 608 = .ok (.iconst 4, 1) := by decide +kernel
theorem dL_law_609 : decode cL_law 609 = .ok (.iadd, 1) := by decide +kernel
theorem dL_law_610 : decode cL_law 610 = .ok (.iaload, 1) := by decide +kernel
theorem dL_law_611 : decode cL_law 611 = .ok (.invokevirtual 92, 3) := by decide +kernel
theorem dL_law_614 : decode cL_law 614 = .ok (.if_icmp .eq 102, 3) := by decide +kernel
theorem dL_law_617 : decode cL_law 617 = .ok (.iconst 0, 1) := by decide +kernel
theorem dL_law_618 : decode cL_law 618 = .ok (.ireturn, 1) := by decide +kernel
theorem dL_law_619 : decode cL_law 619 = .ok (.aload_n 1, 1) := by decide +kernel
theorem dL_law_620 : decode cL_law 620 = .ok (.aload_n 0, 1) := by decide +kernel
theorem dL_law_621 : decode cL_law 621 = .ok (.iload_n 3, 1) := by decide +kernel
theorem dL_law_622 : decode cL_law 622 = .ok (.iconst 1, 1) := by decide +kernel
theorem dL_law_623 : decode cL_law 623 = .ok (.iadd, 1) := by decide +kernel
theorem dL_law_624 : decode cL_law 624 = .ok (.iaload, 1) := by decide +kernel
theorem dL_law_625 : decode cL_law 625 = .ok (.invokevirtual 93, 3) := by decide +kernel
theorem dL_law_628 : decode cL_law 628 = .ok (.dstore 4, 2) := by decide +kernel
theorem dL_law_630 : decode cL_law 630 = .ok (.aload_n 2, 1) := by decide +kernel
theorem dL_law_631 : decode cL_law 631 = .ok (.aload_n 0, 1) := by decide +kernel
theorem dL_law_632 : decode cL_law 632 = .ok (.iload_n 3, 1) := by decide +kernel
theorem dL_law_633 : decode cL_law 633 = .ok (.iconst 1, 1) := by decide +kernel
theorem dL_law_634 : decode cL_law 634 = .ok (.iadd, 1) := by decide +kernel
theorem dL_law_635 : decode cL_law 635 = .ok (.iaload, 1) := by decide +kernel
theorem dL_law_636 : decode cL_law 636 = .ok (.invokevirtual 97, 3) := by decide +kernel
theorem dL_law_639 : decode cL_law 639 = .ok (.dstore 6, 2) := by decide +kernel
theorem dL_law_641 : decode cL_law 641 = .ok (.dload 4, 2) := by decide +kernel
theorem dL_law_643 : decode cL_law 643 = .ok (.dload 6, 2) := by decide +kernel
theorem dL_law_645 : decode cL_law 645 = .ok (.dcmp .l, 1) := by decide +kernel
theorem dL_law_646 : decode cL_law 646 = .ok (.ifCond .eq 21, 3) := by decide +kernel
theorem dL_law_649 : decode cL_law 649 = .ok (.dload 4, 2) := by decide +kernel
theorem dL_law_651 : decode cL_law 651 = .ok (.dload 4, 2) := by decide +kernel
theorem dL_law_653 : decode cL_law 653 = .ok (.dcmp .l, 1) := by decide +kernel
theorem dL_law_654 : decode cL_law 654 = .ok (.ifCond .eq 11, 3) := by decide +kernel
theorem dL_law_657 : decode cL_law 657 = .ok (.dload 6, 2) := by decide +kernel
theorem dL_law_659 : decode cL_law 659 = .ok (.dload 6, 2) := by decide +kernel
theorem dL_law_661 : decode cL_law 661 = .ok (.dcmp .l, 1) := by decide +kernel
theorem dL_law_662 : decode cL_law 662 = .ok (.ifCond .ne 5, 3) := by decide +kernel
theorem dL_law_665 : decode cL_law 665 = .ok (.iconst 0, 1) := by decide +kernel
theorem dL_law_666 : decode cL_law 666 = .ok (.ireturn, 1) := by decide +kernel
theorem dL_law_667 : decode cL_law 667 = .ok (.goto 49, 3) := by decide +kernel
theorem dL_law_670 : decode cL_law 670 = .ok (.aload_n 1, 1) := by decide +kernel
theorem dL_law_671 : decode cL_law 671 = .ok (.aload_n 0, 1) := by decide +kernel
theorem dL_law_672 : decode cL_law 672 = .ok (.iload_n 3, 1) := by decide +kernel
theorem dL_law_673 : decode cL_law 673 = .ok (.iconst 1, 1) := by decide +kernel
theorem dL_law_674 : decode cL_law 674 = .ok (.iadd, 1) := by decide +kernel
theorem dL_law_675 : decode cL_law 675 = .ok (.iaload, 1) := by decide +kernel
theorem dL_law_676 : decode cL_law 676 = .ok (.invokevirtual 98, 3) := by decide +kernel
theorem dL_law_679 : decode cL_law 679 = .ok (.aload_n 2, 1) := by decide +kernel
theorem dL_law_680 : decode cL_law 680 = .ok (.aload_n 0, 1) := by decide +kernel
theorem dL_law_681 : decode cL_law 681 = .ok (.iload_n 3, 1) := by decide +kernel
theorem dL_law_682 : decode cL_law 682 = .ok (.iconst 1, 1) := by decide +kernel
theorem dL_law_683 : decode cL_law 683 = .ok (.iadd, 1) := by decide +kernel
theorem dL_law_684 : decode cL_law 684 = .ok (.iaload, 1) := by decide +kernel
theorem dL_law_685 : decode cL_law 685 = .ok (.invokevirtual 101, 3) := by decide +kernel
theorem dL_law_688 : decode cL_law 688 = .ok (.if_icmp .eq 28, 3) := by decide +kernel
theorem dL_law_691 : decode cL_law 691 = .ok (.iconst 0, 1) := by decide +kernel
theorem dL_law_692 : decode cL_law 692 = .ok (.ireturn, 1) := by decide +kernel
theorem dL_law_693 : decode cL_law 693 = .ok (.aload_n 1, 1) := by decide +kernel
theorem dL_law_694 : decode cL_law 694 = .ok (.aload_n 0, 1) := by decide +kernel
theorem dL_law_695 : decode cL_law 695 = .ok (.iload_n 3, 1) := by decide +kernel
theorem dL_law_696 : decode cL_law 696 = .ok (.iconst 1, 1) := by decide +kernel
theorem dL_law_697 : decode cL_law 697 = .ok (.iadd, 1) := by decide +kernel
theorem dL_law_698 : decode cL_law 698 = .ok (.iaload, 1) := by decide +kernel
theorem dL_law_699 : decode cL_law 699 = .ok (.invokevirtual 102, 3) := by decide +kernel
theorem dL_law_702 : decode cL_law 702 = .ok (.aload_n 2, 1) := by decide +kernel
theorem dL_law_703 : decode cL_law 703 = .ok (.aload_n 0, 1) := by decide +kernel
theorem dL_law_704 : decode cL_law 704 = .ok (.iload_n 3, 1) := by decide +kernel
theorem dL_law_705 : decode cL_law 705 = .ok (.iconst 1, 1) := by decide +kernel
theorem dL_law_706 : decode cL_law 706 = .ok (.iadd, 1) := by decide +kernel
theorem dL_law_707 : decode cL_law 707 = .ok (.iaload, 1) := by decide +kernel
theorem dL_law_708 : decode cL_law 708 = .ok (.invokevirtual 105, 3) := by decide +kernel
theorem dL_law_711 : decode cL_law 711 = .ok (.if_icmp .eq 5, 3) := by decide +kernel
theorem dL_law_714 : decode cL_law 714 = .ok (.iconst 0, 1) := by decide +kernel
theorem dL_law_715 : decode cL_law 715 = .ok (.ireturn, 1) := by decide +kernel
theorem dL_law_716 : decode cL_law 716 = .ok (.iinc 3 5, 3) := by decide +kernel
theorem dL_law_719 : decode cL_law 719 = .ok (.goto (-701), 3) := by decide +kernel
theorem dL_law_722 : decode cL_law 722 = .ok (.iconst 1, 1) := by decide +kernel
theorem dL_law_723 : decode cL_law 723 = .ok (.ireturn, 1) := by decide +kernel
