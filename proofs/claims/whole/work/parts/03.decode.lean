theorem dX7_write_1 : decode cX7_write 1 = .ok (.invokestatic 58, 3) := by decide +kernel
theorem dX7_write_4 : decode cX7_write 4 = .ok (.ifCond .ne 6, 3) := by decide +kernel
theorem dX7_write_7 : decode cX7_write 7 = .ok (.bipush (-2), 2) := by decide +kernel
theorem dX7_write_9 : decode cX7_write 9 = .ok (.ireturn, 1) := by decide +kernel
theorem dX7_write_10 : decode cX7_write 10 = .ok (.aload_n 0, 1) := by decide +kernel
theorem dX7_write_11 : decode cX7_write 11 = .ok (.getfield 12, 3) := by decide +kernel
theorem dX7_write_14 : decode cX7_write 14 = .ok (.getfield 62, 3) := by decide +kernel
theorem dX7_write_17 : decode cX7_write 17 = .ok (.bipush 120, 2) := by decide +kernel
theorem dX7_write_19 : decode cX7_write 19 = .ok (.if_icmp .lt 6, 3) := by decide +kernel
theorem dX7_write_22 : decode cX7_write 22 = .ok (.bipush (-3), 2) := by decide +kernel
theorem dX7_write_24 : decode cX7_write 24 = .ok (.ireturn, 1) := by decide +kernel
theorem dX7_write_25 : decode cX7_write 25 = .ok (.aload_n 0, 1) := by decide +kernel
theorem dX7_write_26 : decode cX7_write 26 = .ok (.getfield 26, 3) := by decide +kernel
theorem dX7_write_29 : decode cX7_write 29 = .ok (.aload_n 0, 1) := by decide +kernel
theorem dX7_write_30 : decode cX7_write 30 = .ok (.getfield 12, 3) := by decide +kernel
theorem dX7_write_33 : decode cX7_write 33 = .ok (.invokevirtual 66, 3) := by decide +kernel
theorem dX7_write_36 : decode cX7_write 36 = .ok (.aload_n 0, 1) := by decide +kernel
theorem dX7_write_37 : decode cX7_write 37 = .ok (.getfield 12, 3) := by decide +kernel
theorem dX7_write_40 : decode cX7_write 40 = .ok (.iload_n 1, 1) := by decide +kernel
theorem dX7_write_41 : decode cX7_write 41 = .ok (.invokevirtual 70, 3) := by decide +kernel
theorem dX7_write_44 : decode cX7_write 44 = .ok (.aload_n 0, 1) := by decide +kernel
theorem dX7_write_45 : decode cX7_write 45 = .ok (.getfield 12, 3) := by decide +kernel
theorem dX7_write_48 : decode cX7_write 48 = .ok (.getfield 62, 3) := by decide +kernel
theorem dX7_write_51 : decode cX7_write 51 = .ok (.ireturn, 1) := by decide +kernel
set_option maxRecDepth 20000 in
theorem ggX7_writePad_X1_canBeWritten : GoodIn wsX7_writePad wsX1_canBeWritten := goodIn_r _ [8, 9, 10, 11, 12, 7, 13, 14, 15, 16, 17, 65, 66] (by decide +kernel) (by decide +kernel)
set_option maxRecDepth 20000 in
theorem gX7_writePad_X1_canBeWritten : GoodIn wsX7_writePad (wsV RX7 74 RX1 yX1_canBeWritten wsX1_canBeWritten) := goodIn_app (goodIn_of _ (by decide +kernel)) ggX7_writePad_X1_canBeWritten
set_option maxRecDepth 20000 in
theorem ggX7_writePad_X0_record : GoodIn wsX7_writePad wsX0_record := goodIn_r _ [22, 23, 24, 25, 26, 21, 27, 28, 29, 30, 31, 32, 33, 34, 35, 36, 37, 38, 39, 40, 41, 42, 43, 44, 45, 46, 67, 68, 60, 61, 62, 63, 64] (by decide +kernel) (by decide +kernel)
set_option maxRecDepth 20000 in
theorem gX7_writePad_X0_record : GoodIn wsX7_writePad (wsV RX7 66 RX0 yX0_record wsX0_record) := goodIn_app (goodIn_of _ (by decide +kernel)) ggX7_writePad_X0_record
set_option maxRecDepth 20000 in
theorem ggX7_writePad_X1_signAt : GoodIn wsX7_writePad wsX1_signAt := goodIn_r _ [13, 14, 65, 66] (by decide +kernel) (by decide +kernel)
set_option maxRecDepth 20000 in
theorem gX7_writePad_X1_signAt : GoodIn wsX7_writePad (wsV RX7 79 RX1 yX1_signAt wsX1_signAt) := goodIn_app (goodIn_of _ (by decide +kernel)) ggX7_writePad_X1_signAt
set_option maxRecDepth 20000 in
theorem ggX7_writePad_X5_append : GoodIn wsX7_writePad wsX5_append := goodIn_r _ [51, 43, 38, 60, 61, 62, 63, 64] (by decide +kernel) (by decide +kernel)
set_option maxRecDepth 20000 in
theorem gX7_writePad_X5_append : GoodIn wsX7_writePad (wsV RX7 70 RX5 yX5_append wsX5_append) := goodIn_app (goodIn_of _ (by decide +kernel)) ggX7_writePad_X5_append
theorem dX7_writePad_0 : decode cX7_writePad 0 = .ok (.aload_n 0, 1) := by decide +kernel
theorem dX7_writePad_1 : decode cX7_writePad 1 = .ok (.getfield 33, 3) := by decide +kernel
theorem dX7_writePad_4 : decode cX7_writePad 4 = .ok (.invokevirtual 74, 3) := by decide +kernel
theorem dX7_writePad_7 : decode cX7_writePad 7 = .ok (.ifCond .ne 6, 3) := by decide +kernel
theorem dX7_writePad_10 : decode cX7_writePad 10 = .ok (.bipush (-2), 2) := by decide +kernel
theorem dX7_writePad_12 : decode cX7_writePad 12 = .ok (.ireturn, 1) := by decide +kernel
theorem dX7_writePad_13 : decode cX7_writePad 13 = .ok (.aload_n 0, 1) := by decide +kernel
theorem dX7_writePad_14 : decode cX7_writePad 14 = .ok (.getfield 12, 3) := by decide +kernel
theorem dX7_writePad_17 : decode cX7_writePad 17 = .ok (.getfield 62, 3) := by decide +kernel
theorem dX7_writePad_20 : decode cX7_writePad 20 = .ok (.aload_n 0, 1) := by decide +kernel
theorem dX7_writePad_21 : decode cX7_writePad 21 = .ok (.getfield 33, 3) := by decide +kernel
theorem dX7_writePad_24 : decode cX7_writePad 24 = .ok (.getfield 78, 3) := by decide +kernel
theorem dX7_writePad_27 : decode cX7_writePad 27 = .ok (.iadd, 1) := by decide +kernel
theorem dX7_writePad_28 : decode cX7_writePad 28 = .ok (.bipush 120, 2) := by decide +kernel
theorem dX7_writePad_30 : decode cX7_writePad 30 = .ok (.if_icmp .le 6, 3) := by decide +kernel
theorem dX7_writePad_33 : decode cX7_writePad 33 = .ok (.bipush (-3), 2) := by decide +kernel
theorem dX7_writePad_35 : decode cX7_writePad 35 = .ok (.ireturn, 1) := by decide +kernel
theorem dX7_writePad_36 : decode cX7_writePad 36 = .ok (.aload_n 0, 1) := by decide +kernel
theorem dX7_writePad_37 : decode cX7_writePad 37 = .ok (.getfield 26, 3) := by decide +kernel
theorem dX7_writePad_40 : decode cX7_writePad 40 = .ok (.aload_n 0, 1) := by decide +kernel
theorem dX7_writePad_41 : decode cX7_writePad 41 = .ok (.getfield 12, 3) := by decide +kernel
theorem dX7_writePad_44 : decode cX7_writePad 44 = .ok (.invokevirtual 66, 3) := by decide +kernel
theorem dX7_writePad_47 : decode cX7_writePad 47 = .ok (.iconst 0, 1) := by decide +kernel
theorem dX7_writePad_48 : decode cX7_writePad 48 = .ok (.istore_n 1, 1) := by decide +kernel
theorem dX7_writePad_49 : decode cX7_writePad 49 = .ok (.iload_n 1, 1) := by decide +kernel
theorem dX7_writePad_50 : decode cX7_writePad 50 = .ok (.aload_n 0, 1) := by decide +kernel
theorem dX7_writePad_51 : decode cX7_writePad 51 = .ok (.getfield 33, 3) := by decide +kernel
theorem dX7_writePad_54 : decode cX7_writePad 54 = .ok (.getfield 78, 3) := by decide +kernel
theorem dX7_writePad_57 : decode cX7_writePad 57 = .ok (.if_icmp .ge 37, 3) := by decide +kernel
theorem dX7_writePad_60 : decode cX7_writePad 60 = .ok (.aload_n 0, 1) := by decide +kernel
theorem dX7_writePad_61 : decode cX7_writePad 61 = .ok (.getfield 33, 3) := by decide +kernel
theorem dX7_writePad_64 : decode cX7_writePad 64 = .ok (.iload_n 1, 1) := by decide +kernel
theorem dX7_writePad_65 : decode cX7_writePad 65 = .ok (.invokevirtual 79, 3) := by decide +kernel
theorem dX7_writePad_68 : decode cX7_writePad 68 = .ok (.istore_n 2, 1) := by decide +kernel
theorem dX7_writePad_69 : decode cX7_writePad 69 = .ok (.aload_n 0, 1) := by decide +kernel
theorem dX7_writePad_70 : decode cX7_writePad 70 = .ok (.getfield 12, 3) := by decide +kernel
theorem dX7_writePad_73 : decode cX7_writePad 73 = .ok (.iload_n 2, 1) := by decide +kernel
theorem dX7_writePad_74 : decode cX7_writePad 74 = .ok (.bipush 95, 2) := by decide +kernel
theorem dX7_writePad_76 : decode cX7_writePad 76 = .ok (.if_icmp .ne 8, 3) := by decide +kernel
theorem dX7_writePad_79 : decode cX7_writePad 79 = .ok (.bipush 32, 2) := by decide +kernel
theorem dX7_writePad_81 : decode cX7_writePad 81 = .ok (.goto 4, 3) := by decide +kernel
theorem dX7_writePad_84 : decode cX7_writePad 84 = .ok (.iload_n 2, 1) := by decide +kernel
theorem dX7_writePad_85 : decode cX7_writePad 85 = .ok (.invokevirtual 70, 3) := by decide +kernel
theorem dX7_writePad_88 : decode cX7_writePad 88 = .ok (.iinc 1 1, 3) := by decide +kernel
theorem dX7_writePad_91 : decode cX7_writePad 91 = .ok (.goto (-42), 3) := by decide +kernel
theorem dX7_writePad_94 : decode cX7_writePad 94 = .ok (.aload_n 0, 1) := by decide +kernel
theorem dX7_writePad_95 : decode cX7_writePad 95 = .ok (.getfield 12, 3) := by decide +kernel
theorem dX7_writePad_98 : decode cX7_writePad 98 = .ok (.getfield 62, 3) := by decide +kernel
theorem dX7_writePad_101 : decode cX7_writePad 101 = .ok (.ireturn, 1) := by decide +kernel
set_option maxRecDepth 20000 in
theorem ggX7_cut_X0_record : GoodIn wsX7_cut wsX0_record := goodIn_r _ [7, 8, 9, 10, 11, 6, 12, 13, 14, 15, 16, 17, 18, 19, 20, 21, 22, 23, 24, 25, 26, 27, 28, 29, 30, 31, 45, 46, 40, 41, 42, 43, 44] (by decide +kernel) (by decide +kernel)
set_option maxRecDepth 20000 in
theorem gX7_cut_X0_record : GoodIn wsX7_cut (wsV RX7 66 RX0 yX0_record wsX0_record) := goodIn_app (goodIn_of _ (by decide +kernel)) ggX7_cut_X0_record
theorem dX7_cut_0 : decode cX7_cut 0 = .ok (.iload_n 1, 1) := by decide +kernel
theorem dX7_cut_1 : decode cX7_cut 1 = .ok (.iconst 1, 1) := by decide +kernel
theorem dX7_cut_2 : decode cX7_cut 2 = .ok (.if_icmp .lt 9, 3) := by decide +kernel
theorem dX7_cut_5 : decode cX7_cut 5 = .ok (.iload_n 1, 1) := by decide +kernel
theorem dX7_cut_6 : decode cX7_cut 6 = .ok (.bipush 120, 2) := by decide +kernel
theorem dX7_cut_8 : decode cX7_cut 8 = .ok (.if_icmp .le 6, 3) := by decide +kernel
theorem dX7_cut_11 : decode cX7_cut 11 = .ok (.bipush (-2), 2) := by decide +kernel
theorem dX7_cut_13 : decode cX7_cut 13 = .ok (.ireturn, 1) := by decide +kernel
theorem dX7_cut_14 : decode cX7_cut 14 = .ok (.iload_n 1, 1) := by decide +kernel
theorem dX7_cut_15 : decode cX7_cut 15 = .ok (.aload_n 0, 1) := by decide +kernel
theorem dX7_cut_16 : decode cX7_cut 16 = .ok (.getfield 12, 3) := by decide +kernel
theorem dX7_cut_19 : decode cX7_cut 19 = .ok (.getfield 62, 3) := by decide +kernel
theorem dX7_cut_22 : decode cX7_cut 22 = .ok (.if_icmp .le 6, 3) := by decide +kernel
theorem dX7_cut_25 : decode cX7_cut 25 = .ok (.bipush (-4), 2) := by decide +kernel
theorem dX7_cut_27 : decode cX7_cut 27 = .ok (.ireturn, 1) := by decide +kernel
theorem dX7_cut_28 : decode cX7_cut 28 = .ok (.aload_n 0, 1) := by decide +kernel
theorem dX7_cut_29 : decode cX7_cut 29 = .ok (.getfield 26, 3) := by decide +kernel
theorem dX7_cut_32 : decode cX7_cut 32 = .ok (.aload_n 0, 1) := by decide +kernel
theorem dX7_cut_33 : decode cX7_cut 33 = .ok (.getfield 12, 3) := by decide +kernel
theorem dX7_cut_36 : decode cX7_cut 36 = .ok (.invokevirtual 66, 3) := by decide +kernel
theorem dX7_cut_39 : decode cX7_cut 39 = .ok (.aload_n 0, 1) := by decide +kernel
theorem dX7_cut_40 : decode cX7_cut 40 = .ok (.getfield 12, 3) := by decide +kernel
theorem dX7_cut_43 : decode cX7_cut 43 = .ok (.dup, 1) := by decide +kernel
theorem dX7_cut_44 : decode cX7_cut 44 = .ok (.getfield 62, 3) := by decide +kernel
theorem dX7_cut_47 : decode cX7_cut 47 = .ok (.iload_n 1, 1) := by decide +kernel
theorem dX7_cut_48 : decode cX7_cut 48 = .ok (.isub, 1) := by decide +kernel
theorem dX7_cut_49 : decode cX7_cut 49 = .ok (.putfield 62, 3) := by decide +kernel
theorem dX7_cut_52 : decode cX7_cut 52 = .ok (.aload_n 0, 1) := by decide +kernel
theorem dX7_cut_53 : decode cX7_cut 53 = .ok (.getfield 12, 3) := by decide +kernel
theorem dX7_cut_56 : decode cX7_cut 56 = .ok (.getfield 62, 3) := by decide +kernel
theorem dX7_cut_59 : decode cX7_cut 59 = .ok (.ireturn, 1) := by decide +kernel
set_option maxRecDepth 20000 in
theorem ggX7_replace_X5_patternOrNull : GoodIn wsX7_replace wsX5_patternOrNull := goodIn_r _ [8, 9, 10, 141, 142, 143, 144, 145] (by decide +kernel) (by decide +kernel)
set_option maxRecDepth 20000 in
theorem gX7_replace_X5_patternOrNull : GoodIn wsX7_replace (wsV RX7 83 RX5 yX5_patternOrNull wsX5_patternOrNull) := goodIn_app (goodIn_of _ (by decide +kernel)) ggX7_replace_X5_patternOrNull
set_option maxRecDepth 20000 in
theorem ggX7_replace_X7_isLetter : GoodIn wsX7_replace wsX7_isLetter := goodIn_r _ [14] (by decide +kernel) (by decide +kernel)
set_option maxRecDepth 20000 in
theorem gX7_replace_X7_isLetter : GoodIn wsX7_replace (va_wsS RX7 87 yX7_isLetter wsX7_isLetter) := goodIn_app (goodIn_of _ (by decide +kernel)) ggX7_replace_X7_isLetter
set_option maxRecDepth 20000 in
theorem ggX7_replace_X4_findAlone : GoodIn wsX7_replace wsX4_findAlone := goodIn_r _ [19, 20, 21, 22, 23, 24, 18, 25, 26, 27, 28, 29, 30, 31, 32, 33, 34, 35, 36, 37, 38, 39, 40, 41, 42, 43, 44, 45, 46, 47, 48, 49, 50, 7, 51, 52, 53, 54, 55, 56, 57, 58, 59, 60, 61, 62, 63, 64, 65, 66, 67, 68, 69, 70, 71, 72, 73, 74, 75, 76, 77, 78, 79, 80, 81, 82, 83, 84, 85, 133, 134, 135, 136, 137, 138, 139, 140, 141, 142, 143, 144, 145, 146, 147, 148, 149] (by decide +kernel) (by decide +kernel)
set_option maxRecDepth 20000 in
theorem gX7_replace_X4_findAlone : GoodIn wsX7_replace (wsV RX7 90 RX4 yX4_findAlone wsX4_findAlone) := goodIn_app (goodIn_of _ (by decide +kernel)) ggX7_replace_X4_findAlone
set_option maxRecDepth 20000 in
theorem ggX7_replace_X4_lengthWithParts : GoodIn wsX7_replace wsX4_lengthWithParts := goodIn_r _ [89, 20, 82, 83, 84, 18, 85, 21, 39, 73, 133, 134, 135, 136, 137, 138, 139, 140] (by decide +kernel) (by decide +kernel)
set_option maxRecDepth 20000 in
theorem gX7_replace_X4_lengthWithParts : GoodIn wsX7_replace (wsV RX7 97 RX4 yX4_lengthWithParts wsX4_lengthWithParts) := goodIn_app (goodIn_of _ (by decide +kernel)) ggX7_replace_X4_lengthWithParts
set_option maxRecDepth 20000 in
theorem ggX7_replace_X0_record : GoodIn wsX7_replace wsX0_record := goodIn_r _ [94, 95, 96, 97, 98, 93, 99, 100, 101, 102, 103, 104, 105, 106, 107, 7, 108, 52, 109, 110, 111, 112, 113, 10, 9, 114, 150, 151, 141, 142, 143, 144, 145] (by decide +kernel) (by decide +kernel)
set_option maxRecDepth 20000 in
theorem gX7_replace_X0_record : GoodIn wsX7_replace (wsV RX7 66 RX0 yX0_record wsX0_record) := goodIn_app (goodIn_of _ (by decide +kernel)) ggX7_replace_X0_record
set_option maxRecDepth 20000 in
theorem ggX7_replace_X4_putLetterForParts : GoodIn wsX7_replace wsX4_putLetterForParts := goodIn_r _ [118, 119, 120, 110, 111, 112, 20, 82, 83, 84, 18, 85, 21, 39, 73, 121, 122, 123, 7, 124, 113, 52, 141, 142, 143, 144, 145, 133, 134, 135, 136, 137, 138, 139, 140] (by decide +kernel) (by decide +kernel)
set_option maxRecDepth 20000 in
theorem gX7_replace_X4_putLetterForParts : GoodIn wsX7_replace (wsV RX7 101 RX4 yX4_putLetterForParts wsX4_putLetterForParts) := goodIn_app (goodIn_of _ (by decide +kernel)) ggX7_replace_X4_putLetterForParts
theorem dX7_replace_0 : decode cX7_replace 0 = .ok (.aload_n 0, 1) := by decide +kernel
theorem dX7_replace_1 : decode cX7_replace 1 = .ok (.getfield 12, 3) := by decide +kernel
theorem dX7_replace_4 : decode cX7_replace 4 = .ok (.iload_n 1, 1) := by decide +kernel
theorem dX7_replace_5 : decode cX7_replace 5 = .ok (.invokevirtual 83, 3) := by decide +kernel
theorem dX7_replace_8 : decode cX7_replace 8 = .ok (.astore_n 3, 1) := by decide +kernel
theorem dX7_replace_9 : decode cX7_replace 9 = .ok (.aload_n 3, 1) := by decide +kernel
theorem dX7_replace_10 : decode cX7_replace 10 = .ok (.ifnonnull 5, 3) := by decide +kernel
theorem dX7_replace_13 : decode cX7_replace 13 = .ok (.iconst (-1), 1) := by decide +kernel
theorem dX7_replace_14 : decode cX7_replace 14 = .ok (.ireturn, 1) := by decide +kernel
theorem dX7_replace_15 : decode cX7_replace 15 = .ok (.iload_n 2, 1) := by decide +kernel
theorem dX7_replace_16 : decode cX7_replace 16 = .ok (.invokestatic 87, 3) := by decide +kernel
theorem dX7_replace_19 : decode cX7_replace 19 = .ok (.ifCond .ne 6, 3) := by decide +kernel
theorem dX7_replace_22 : decode cX7_replace 22 = .ok (.bipush (-2), 2) := by decide +kernel
theorem dX7_replace_24 : decode cX7_replace 24 = .ok (.ireturn, 1) := by decide +kernel
theorem dX7_replace_25 : decode cX7_replace 25 = .ok (.aload_n 0, 1) := by decide +kernel
theorem dX7_replace_26 : decode cX7_replace 26 = .ok (.getfield 47, 3) := by decide +kernel
theorem dX7_replace_29 : decode cX7_replace 29 = .ok (.aload_n 0, 1) := by decide +kernel
theorem dX7_replace_30 : decode cX7_replace 30 = .ok (.getfield 12, 3) := by decide +kernel
theorem dX7_replace_33 : decode cX7_replace 33 = .ok (.aload_n 3, 1) := by decide +kernel
theorem dX7_replace_34 : decode cX7_replace 34 = .ok (.invokevirtual 90, 3) := by decide +kernel
theorem dX7_replace_37 : decode cX7_replace 37 = .ok (.aload_n 0, 1) := by decide +kernel
theorem dX7_replace_38 : decode cX7_replace 38 = .ok (.getfield 47, 3) := by decide +kernel
theorem dX7_replace_41 : decode cX7_replace 41 = .ok (.getfield 94, 3) := by decide +kernel
theorem dX7_replace_44 : decode cX7_replace 44 = .ok (.ifCond .ne 6, 3) := by decide +kernel
theorem dX7_replace_47 : decode cX7_replace 47 = .ok (.bipush (-5), 2) := by decide +kernel
theorem dX7_replace_49 : decode cX7_replace 49 = .ok (.ireturn, 1) := by decide +kernel
theorem dX7_replace_50 : decode cX7_replace 50 = .ok (.aload_n 0, 1) := by decide +kernel
theorem dX7_replace_51 : decode cX7_replace 51 = .ok (.getfield 47, 3) := by decide +kernel
theorem dX7_replace_54 : decode cX7_replace 54 = .ok (.aload_n 0, 1) := by decide +kernel
theorem dX7_replace_55 : decode cX7_replace 55 = .ok (.getfield 12, 3) := by decide +kernel
theorem dX7_replace_58 : decode cX7_replace 58 = .ok (.getfield 62, 3) := by decide +kernel
theorem dX7_replace_61 : decode cX7_replace 61 = .ok (.invokevirtual 97, 3) := by decide +kernel
theorem dX7_replace_64 : decode cX7_replace 64 = .ok (.bipush 120, 2) := by decide +kernel
theorem dX7_replace_66 : decode cX7_replace 66 = .ok (.if_icmp .le 6, 3) := by decide +kernel
theorem dX7_replace_69 : decode cX7_replace 69 = .ok (.bipush (-3), 2) := by decide +kernel
theorem dX7_replace_71 : decode cX7_replace 71 = .ok (.ireturn, 1) := by decide +kernel
theorem dX7_replace_72 : decode cX7_replace 72 = .ok (.aload_n 0, 1) := by decide +kernel
theorem dX7_replace_73 : decode cX7_replace 73 = .ok (.getfield 26, 3) := by decide +kernel
theorem dX7_replace_76 : decode cX7_replace 76 = .ok (.aload_n 0, 1) := by decide +kernel
theorem dX7_replace_77 : decode cX7_replace 77 = .ok (.getfield 12, 3) := by decide +kernel
theorem dX7_replace_80 : decode cX7_replace 80 = .ok (.invokevirtual 66, 3) := by decide +kernel
theorem dX7_replace_83 : decode cX7_replace 83 = .ok (.aload_n 0, 1) := by decide +kernel
theorem dX7_replace_84 : decode cX7_replace 84 = .ok (.getfield 47, 3) := by decide +kernel
theorem dX7_replace_87 : decode cX7_replace 87 = .ok (.aload_n 0, 1) := by decide +kernel
theorem dX7_replace_88 : decode cX7_replace 88 = .ok (.getfield 12, 3) := by decide +kernel
theorem dX7_replace_91 : decode cX7_replace 91 = .ok (.iload_n 2, 1) := by decide +kernel
theorem dX7_replace_92 : decode cX7_replace 92 = .ok (.invokevirtual 101, 3) := by decide +kernel
theorem dX7_replace_95 : decode cX7_replace 95 = .ok (.aload_n 0, 1) := by decide +kernel
theorem dX7_replace_96 : decode cX7_replace 96 = .ok (.getfield 47, 3) := by decide +kernel
theorem dX7_replace_99 : decode cX7_replace 99 = .ok (.getfield 94, 3) := by decide +kernel
theorem dX7_replace_102 : decode cX7_replace 102 = .ok (.ireturn, 1) := by decide +kernel
set_option maxRecDepth 20000 in
theorem ggX7_addPattern_X3_readFault : GoodIn wsX7_addPattern wsX3_readFault := goodIn_r _ [9, 10, 11, 12, 13, 14, 15, 16, 17, 18, 19, 20, 21, 8, 22, 23, 24, 25, 26, 27, 28, 29, 30, 31, 32, 33, 34, 35, 36, 37, 38, 39, 40, 41, 42, 43, 44, 45, 46, 47, 48, 49, 50, 51, 52, 53, 54, 55, 56, 122, 123, 124, 125, 126, 127, 128, 129, 130] (by decide +kernel) (by decide +kernel)
set_option maxRecDepth 20000 in
theorem gX7_addPattern_X3_readFault : GoodIn wsX7_addPattern (wsV RX7 105 RX3 yX3_readFault wsX3_readFault) := goodIn_app (goodIn_of _ (by decide +kernel)) ggX7_addPattern_X3_readFault
set_option maxRecDepth 20000 in
theorem ggX7_addPattern_X0_record : GoodIn wsX7_addPattern wsX0_record := goodIn_r _ [61, 62, 63, 64, 65, 60, 66, 67, 68, 69, 70, 71, 72, 73, 74, 75, 76, 77, 78, 79, 80, 81, 82, 83, 84, 85, 131, 132, 117, 118, 119, 120, 121] (by decide +kernel) (by decide +kernel)
set_option maxRecDepth 20000 in
theorem gX7_addPattern_X0_record : GoodIn wsX7_addPattern (wsV RX7 66 RX0 yX0_record wsX0_record) := goodIn_app (goodIn_of _ (by decide +kernel)) ggX7_addPattern_X0_record
set_option maxRecDepth 20000 in
theorem ggX7_addPattern_X3_makePattern : GoodIn wsX7_addPattern wsX3_makePattern := goodIn_r _ [89, 90, 91, 92, 42, 10, 11, 93, 94, 95, 96, 97, 98, 99, 100, 101, 102, 103, 104, 133, 134, 135, 136, 122, 123, 124, 125, 126, 127, 128] (by decide +kernel) (by decide +kernel)
set_option maxRecDepth 20000 in
theorem gX7_addPattern_X3_makePattern : GoodIn wsX7_addPattern (wsV RX7 112 RX3 yX3_makePattern wsX3_makePattern) := goodIn_app (goodIn_of _ (by decide +kernel)) ggX7_addPattern_X3_makePattern
set_option maxRecDepth 20000 in
theorem ggX7_addPattern_X5_addLast : GoodIn wsX7_addPattern wsX5_addLast := goodIn_r _ [108, 84, 83, 117, 118, 119, 120, 121] (by decide +kernel) (by decide +kernel)
set_option maxRecDepth 20000 in
theorem gX7_addPattern_X5_addLast : GoodIn wsX7_addPattern (wsV RX7 116 RX5 yX5_addLast wsX5_addLast) := goodIn_app (goodIn_of _ (by decide +kernel)) ggX7_addPattern_X5_addLast
theorem dX7_addPattern_0 : decode cX7_addPattern 0 = .ok (.aload_n 0, 1) := by decide +kernel
theorem dX7_addPattern_1 : decode cX7_addPattern 1 = .ok (.getfield 40, 3) := by decide +kernel
theorem dX7_addPattern_4 : decode cX7_addPattern 4 = .ok (.aload_n 0, 1) := by decide +kernel
theorem dX7_addPattern_5 : decode cX7_addPattern 5 = .ok (.getfield 33, 3) := by decide +kernel
theorem dX7_addPattern_8 : decode cX7_addPattern 8 = .ok (.invokevirtual 105, 3) := by decide +kernel
theorem dX7_addPattern_11 : decode cX7_addPattern 11 = .ok (.istore_n 1, 1) := by decide +kernel
theorem dX7_addPattern_12 : decode cX7_addPattern 12 = .ok (.iload_n 1, 1) := by decide +kernel
theorem dX7_addPattern_13 : decode cX7_addPattern 13 = .ok (.iconst (-1), 1) := by decide +kernel
theorem dX7_addPattern_14 : decode cX7_addPattern 14 = .ok (.if_icmp .eq 8, 3) := by decide +kernel
theorem dX7_addPattern_17 : decode cX7_addPattern 17 = .ok (.bipush (-100), 2) := by decide +kernel
theorem dX7_addPattern_19 : decode cX7_addPattern 19 = .ok (.iload_n 1, 1) := by decide +kernel
theorem dX7_addPattern_20 : decode cX7_addPattern 20 = .ok (.isub, 1) := by decide +kernel
theorem dX7_addPattern_21 : decode cX7_addPattern 21 = .ok (.ireturn, 1) := by decide +kernel
theorem dX7_addPattern_22 : decode cX7_addPattern 22 = .ok (.aload_n 0, 1) := by decide +kernel
theorem dX7_addPattern_23 : decode cX7_addPattern 23 = .ok (.getfield 12, 3) := by decide +kernel
theorem dX7_addPattern_26 : decode cX7_addPattern 26 = .ok (.getfield 109, 3) := by decide +kernel
theorem dX7_addPattern_29 : decode cX7_addPattern 29 = .ok (.bipush 6, 2) := by decide +kernel
theorem dX7_addPattern_31 : decode cX7_addPattern 31 = .ok (.if_icmp .lt 6, 3) := by decide +kernel
theorem dX7_addPattern_34 : decode cX7_addPattern 34 = .ok (.bipush (-3), 2) := by decide +kernel
theorem dX7_addPattern_36 : decode cX7_addPattern 36 = .ok (.ireturn, 1) := by decide +kernel
theorem dX7_addPattern_37 : decode cX7_addPattern 37 = .ok (.aload_n 0, 1) := by decide +kernel
theorem dX7_addPattern_38 : decode cX7_addPattern 38 = .ok (.getfield 26, 3) := by decide +kernel
theorem dX7_addPattern_41 : decode cX7_addPattern 41 = .ok (.aload_n 0, 1) := by decide +kernel
theorem dX7_addPattern_42 : decode cX7_addPattern 42 = .ok (.getfield 12, 3) := by decide +kernel
theorem dX7_addPattern_45 : decode cX7_addPattern 45 = .ok (.invokevirtual 66, 3) := by decide +kernel
theorem dX7_addPattern_48 : decode cX7_addPattern 48 = .ok (.aload_n 0, 1) := by decide +kernel
theorem dX7_addPattern_49 : decode cX7_addPattern 49 = .ok (.getfield 12, 3) := by decide +kernel
theorem dX7_addPattern_52 : decode cX7_addPattern 52 = .ok (.aload_n 0, 1) := by decide +kernel
theorem dX7_addPattern_53 : decode cX7_addPattern 53 = .ok (.getfield 40, 3) := by decide +kernel
theorem dX7_addPattern_56 : decode cX7_addPattern 56 = .ok (.invokevirtual 112, 3) := by decide +kernel
theorem dX7_addPattern_59 : decode cX7_addPattern 59 = .ok (.invokevirtual 116, 3) := by decide +kernel
theorem dX7_addPattern_62 : decode cX7_addPattern 62 = .ok (.aload_n 0, 1) := by decide +kernel
theorem dX7_addPattern_63 : decode cX7_addPattern 63 = .ok (.getfield 12, 3) := by decide +kernel
theorem dX7_addPattern_66 : decode cX7_addPattern 66 = .ok (.getfield 109, 3) := by decide +kernel
theorem dX7_addPattern_69 : decode cX7_addPattern 69 = .ok (.iconst 1, 1) := by decide +kernel
theorem dX7_addPattern_70 : decode cX7_addPattern 70 = .ok (.isub, 1) := by decide +kernel
theorem dX7_addPattern_71 : decode cX7_addPattern 71 = .ok (.ireturn, 1) := by decide +kernel
set_option maxRecDepth 20000 in
theorem ggX7_removePattern_X5_patternOrNull : GoodIn wsX7_removePattern wsX5_patternOrNull := goodIn_r _ [7, 8, 9, 48, 49, 50, 51, 52] (by decide +kernel) (by decide +kernel)
set_option maxRecDepth 20000 in
theorem gX7_removePattern_X5_patternOrNull : GoodIn wsX7_removePattern (wsV RX7 83 RX5 yX5_patternOrNull wsX5_patternOrNull) := goodIn_app (goodIn_of _ (by decide +kernel)) ggX7_removePattern_X5_patternOrNull
set_option maxRecDepth 20000 in
theorem ggX7_removePattern_X0_record : GoodIn wsX7_removePattern wsX0_record := goodIn_r _ [14, 15, 16, 17, 18, 13, 19, 20, 21, 22, 23, 24, 25, 26, 27, 6, 28, 29, 30, 31, 32, 33, 34, 9, 8, 35, 53, 54, 48, 49, 50, 51, 52] (by decide +kernel) (by decide +kernel)
set_option maxRecDepth 20000 in
theorem gX7_removePattern_X0_record : GoodIn wsX7_removePattern (wsV RX7 66 RX0 yX0_record wsX0_record) := goodIn_app (goodIn_of _ (by decide +kernel)) ggX7_removePattern_X0_record
set_option maxRecDepth 20000 in
theorem ggX7_removePattern_X5_removeNumber : GoodIn wsX7_removePattern wsX5_removeNumber := goodIn_r _ [39, 9, 8, 48, 49, 50, 51, 52] (by decide +kernel) (by decide +kernel)
set_option maxRecDepth 20000 in
theorem gX7_removePattern_X5_removeNumber : GoodIn wsX7_removePattern (wsV RX7 120 RX5 yX5_removeNumber wsX5_removeNumber) := goodIn_app (goodIn_of _ (by decide +kernel)) ggX7_removePattern_X5_removeNumber
theorem dX7_removePattern_0 : decode cX7_removePattern 0 = .ok (.aload_n 0, 1) := by decide +kernel
theorem dX7_removePattern_1 : decode cX7_removePattern 1 = .ok (.getfield 12, 3) := by decide +kernel
theorem dX7_removePattern_4 : decode cX7_removePattern 4 = .ok (.iload_n 1, 1) := by decide +kernel
theorem dX7_removePattern_5 : decode cX7_removePattern 5 = .ok (.invokevirtual 83, 3) := by decide +kernel
theorem dX7_removePattern_8 : decode cX7_removePattern 8 = .ok (.ifnonnull 5, 3) := by decide +kernel
theorem dX7_removePattern_11 : decode cX7_removePattern 11 = .ok (.iconst (-1), 1) := by decide +kernel
theorem dX7_removePattern_12 : decode cX7_removePattern 12 = .ok (.ireturn, 1) := by decide +kernel
theorem dX7_removePattern_13 : decode cX7_removePattern 13 = .ok (.aload_n 0, 1) := by decide +kernel
theorem dX7_removePattern_14 : decode cX7_removePattern 14 = .ok (.getfield 26, 3) := by decide +kernel
theorem dX7_removePattern_17 : decode cX7_removePattern 17 = .ok (.aload_n 0, 1) := by decide +kernel
theorem dX7_removePattern_18 : decode cX7_removePattern 18 = .ok (.getfield 12, 3) := by decide +kernel
theorem dX7_removePattern_21 : decode cX7_removePattern 21 = .ok (.invokevirtual 66, 3) := by decide +kernel
theorem dX7_removePattern_24 : decode cX7_removePattern 24 = .ok (.aload_n 0, 1) := by decide +kernel
theorem dX7_removePattern_25 : decode cX7_removePattern 25 = .ok (.getfield 12, 3) := by decide +kernel
theorem dX7_removePattern_28 : decode cX7_removePattern 28 = .ok (.iload_n 1, 1) := by decide +kernel
theorem dX7_removePattern_29 : decode cX7_removePattern 29 = .ok (.invokevirtual 120, 3) := by decide +kernel
theorem dX7_removePattern_32 : decode cX7_removePattern 32 = .ok (.aload_n 0, 1) := by decide +kernel
theorem dX7_removePattern_33 : decode cX7_removePattern 33 = .ok (.getfield 12, 3) := by decide +kernel
theorem dX7_removePattern_36 : decode cX7_removePattern 36 = .ok (.getfield 109, 3) := by decide +kernel
theorem dX7_removePattern_39 : decode cX7_removePattern 39 = .ok (.ireturn, 1) := by decide +kernel
set_option maxRecDepth 20000 in
theorem ggX7_setSlips_X0_record : GoodIn wsX7_setSlips wsX0_record := goodIn_r _ [7, 8, 9, 10, 11, 6, 12, 13, 14, 15, 16, 17, 18, 19, 20, 21, 22, 23, 24, 25, 26, 27, 28, 29, 30, 31, 45, 46, 40, 41, 42, 43, 44] (by decide +kernel) (by decide +kernel)
set_option maxRecDepth 20000 in
theorem gX7_setSlips_X0_record : GoodIn wsX7_setSlips (wsV RX7 66 RX0 yX0_record wsX0_record) := goodIn_app (goodIn_of _ (by decide +kernel)) ggX7_setSlips_X0_record
theorem dX7_setSlips_0 : decode cX7_setSlips 0 = .ok (.iload_n 1, 1) := by decide +kernel
theorem dX7_setSlips_1 : decode cX7_setSlips 1 = .ok (.ifCond .lt 8, 3) := by decide +kernel
theorem dX7_setSlips_4 : decode cX7_setSlips 4 = .ok (.iload_n 1, 1) := by decide +kernel
theorem dX7_setSlips_5 : decode cX7_setSlips 5 = .ok (.iconst 4, 1) := by decide +kernel
theorem dX7_setSlips_6 : decode cX7_setSlips 6 = .ok (.if_icmp .le 6, 3) := by decide +kernel
theorem dX7_setSlips_9 : decode cX7_setSlips 9 = .ok (.bipush (-2), 2) := by decide +kernel
theorem dX7_setSlips_11 : decode cX7_setSlips 11 = .ok (.ireturn, 1) := by decide +kernel
theorem dX7_setSlips_12 : decode cX7_setSlips 12 = .ok (.aload_n 0, 1) := by decide +kernel
theorem dX7_setSlips_13 : decode cX7_setSlips 13 = .ok (.getfield 12, 3) := by decide +kernel
theorem dX7_setSlips_16 : decode cX7_setSlips 16 = .ok (.getfield 124, 3) := by decide +kernel
theorem dX7_setSlips_19 : decode cX7_setSlips 19 = .ok (.istore_n 2, 1) := by decide +kernel
theorem dX7_setSlips_20 : decode cX7_setSlips 20 = .ok (.iload_n 1, 1) := by decide +kernel
theorem dX7_setSlips_21 : decode cX7_setSlips 21 = .ok (.iload_n 2, 1) := by decide +kernel
theorem dX7_setSlips_22 : decode cX7_setSlips 22 = .ok (.if_icmp .ne 6, 3) := by decide +kernel
theorem dX7_setSlips_25 : decode cX7_setSlips 25 = .ok (.bipush (-5), 2) := by decide +kernel
theorem dX7_setSlips_27 : decode cX7_setSlips 27 = .ok (.ireturn, 1) := by decide +kernel
theorem dX7_setSlips_28 : decode cX7_setSlips 28 = .ok (.aload_n 0, 1) := by decide +kernel
theorem dX7_setSlips_29 : decode cX7_setSlips 29 = .ok (.getfield 26, 3) := by decide +kernel
theorem dX7_setSlips_32 : decode cX7_setSlips 32 = .ok (.aload_n 0, 1) := by decide +kernel
theorem dX7_setSlips_33 : decode cX7_setSlips 33 = .ok (.getfield 12, 3) := by decide +kernel
theorem dX7_setSlips_36 : decode cX7_setSlips 36 = .ok (.invokevirtual 66, 3) := by decide +kernel
theorem dX7_setSlips_39 : decode cX7_setSlips 39 = .ok (.aload_n 0, 1) := by decide +kernel
theorem dX7_setSlips_40 : decode cX7_setSlips 40 = .ok (.getfield 12, 3) := by decide +kernel
theorem dX7_setSlips_43 : decode cX7_setSlips 43 = .ok (.iload_n 1, 1) := by decide +kernel
theorem dX7_setSlips_44 : decode cX7_setSlips 44 = .ok (.putfield 124, 3) := by decide +kernel
theorem dX7_setSlips_47 : decode cX7_setSlips 47 = .ok (.iload_n 2, 1) := by decide +kernel
theorem dX7_setSlips_48 : decode cX7_setSlips 48 = .ok (.ireturn, 1) := by decide +kernel
set_option maxRecDepth 20000 in
theorem ggX7_type_X1_append : GoodIn wsX7_type wsX1_append := goodIn_r _ [6, 7, 8, 17, 18] (by decide +kernel) (by decide +kernel)
set_option maxRecDepth 20000 in
theorem gX7_type_X1_append : GoodIn wsX7_type (wsV RX7 127 RX1 yX1_append wsX1_append) := goodIn_app (goodIn_of _ (by decide +kernel)) ggX7_type_X1_append
theorem dX7_type_0 : decode cX7_type 0 = .ok (.aload_n 0, 1) := by decide +kernel
theorem dX7_type_1 : decode cX7_type 1 = .ok (.getfield 33, 3) := by decide +kernel
theorem dX7_type_4 : decode cX7_type 4 = .ok (.getfield 78, 3) := by decide +kernel
theorem dX7_type_7 : decode cX7_type 7 = .ok (.bipush 60, 2) := by decide +kernel
theorem dX7_type_9 : decode cX7_type 9 = .ok (.if_icmp .lt 6, 3) := by decide +kernel
theorem dX7_type_12 : decode cX7_type 12 = .ok (.bipush (-3), 2) := by decide +kernel
theorem dX7_type_14 : decode cX7_type 14 = .ok (.ireturn, 1) := by decide +kernel
theorem dX7_type_15 : decode cX7_type 15 = .ok (.aload_n 0, 1) := by decide +kernel
theorem dX7_type_16 : decode cX7_type 16 = .ok (.getfield 33, 3) := by decide +kernel
theorem dX7_type_19 : decode cX7_type 19 = .ok (.iload_n 1, 1) := by decide +kernel
theorem dX7_type_20 : decode cX7_type 20 = .ok (.invokevirtual 127, 3) := by decide +kernel
theorem dX7_type_23 : decode cX7_type 23 = .ok (.aload_n 0, 1) := by decide +kernel
theorem dX7_type_24 : decode cX7_type 24 = .ok (.getfield 33, 3) := by decide +kernel
theorem dX7_type_27 : decode cX7_type 27 = .ok (.getfield 78, 3) := by decide +kernel
theorem dX7_type_30 : decode cX7_type 30 = .ok (.ireturn, 1) := by decide +kernel
theorem dX7_clearPad_0 : decode cX7_clearPad 0 = .ok (.aload_n 0, 1) := by decide +kernel
theorem dX7_clearPad_1 : decode cX7_clearPad 1 = .ok (.getfield 33, 3) := by decide +kernel
theorem dX7_clearPad_4 : decode cX7_clearPad 4 = .ok (.getfield 78, 3) := by decide +kernel
theorem dX7_clearPad_7 : decode cX7_clearPad 7 = .ok (.istore_n 1, 1) := by decide +kernel
theorem dX7_clearPad_8 : decode cX7_clearPad 8 = .ok (.aload_n 0, 1) := by decide +kernel
theorem dX7_clearPad_9 : decode cX7_clearPad 9 = .ok (.getfield 33, 3) := by decide +kernel
theorem dX7_clearPad_12 : decode cX7_clearPad 12 = .ok (.iconst 0, 1) := by decide +kernel
theorem dX7_clearPad_13 : decode cX7_clearPad 13 = .ok (.putfield 78, 3) := by decide +kernel
theorem dX7_clearPad_16 : decode cX7_clearPad 16 = .ok (.iload_n 1, 1) := by decide +kernel
theorem dX7_clearPad_17 : decode cX7_clearPad 17 = .ok (.ireturn, 1) := by decide +kernel
set_option maxRecDepth 20000 in
theorem ggX7_undo_X0_takeLatestInto : GoodIn wsX7_undo wsX0_takeLatestInto := goodIn_r _ [7, 8, 9, 10, 11, 6, 12, 13, 14, 15, 16, 17, 18, 19, 20, 21, 22, 23, 24, 25, 26, 27, 36, 37, 38, 39, 40, 41, 42] (by decide +kernel) (by decide +kernel)
set_option maxRecDepth 20000 in
theorem gX7_undo_X0_takeLatestInto : GoodIn wsX7_undo (wsV RX7 131 RX0 yX0_takeLatestInto wsX0_takeLatestInto) := goodIn_app (goodIn_of _ (by decide +kernel)) ggX7_undo_X0_takeLatestInto
theorem dX7_undo_0 : decode cX7_undo 0 = .ok (.aload_n 0, 1) := by decide +kernel
theorem dX7_undo_1 : decode cX7_undo 1 = .ok (.getfield 26, 3) := by decide +kernel
theorem dX7_undo_4 : decode cX7_undo 4 = .ok (.getfield 128, 3) := by decide +kernel
theorem dX7_undo_7 : decode cX7_undo 7 = .ok (.ifCond .ne 6, 3) := by decide +kernel
theorem dX7_undo_10 : decode cX7_undo 10 = .ok (.bipush (-5), 2) := by decide +kernel
theorem dX7_undo_12 : decode cX7_undo 12 = .ok (.ireturn, 1) := by decide +kernel
theorem dX7_undo_13 : decode cX7_undo 13 = .ok (.aload_n 0, 1) := by decide +kernel
theorem dX7_undo_14 : decode cX7_undo 14 = .ok (.getfield 26, 3) := by decide +kernel
theorem dX7_undo_17 : decode cX7_undo 17 = .ok (.aload_n 0, 1) := by decide +kernel
theorem dX7_undo_18 : decode cX7_undo 18 = .ok (.getfield 12, 3) := by decide +kernel
theorem dX7_undo_21 : decode cX7_undo 21 = .ok (.invokevirtual 131, 3) := by decide +kernel
theorem dX7_undo_24 : decode cX7_undo 24 = .ok (.aload_n 0, 1) := by decide +kernel
theorem dX7_undo_25 : decode cX7_undo 25 = .ok (.getfield 26, 3) := by decide +kernel
theorem dX7_undo_28 : decode cX7_undo 28 = .ok (.getfield 128, 3) := by decide +kernel
theorem dX7_undo_31 : decode cX7_undo 31 = .ok (.ireturn, 1) := by decide +kernel
set_option maxRecDepth 20000 in
theorem ggX7_keep_X5_copyFrom : GoodIn wsX7_keep wsX5_copyFrom := goodIn_r _ [8, 9, 10, 11, 12, 13, 14, 15, 16, 17, 26, 27, 28, 29, 30] (by decide +kernel) (by decide +kernel)
set_option maxRecDepth 20000 in
theorem gX7_keep_X5_copyFrom : GoodIn wsX7_keep (wsV RX7 134 RX5 yX5_copyFrom wsX5_copyFrom) := goodIn_app (goodIn_of _ (by decide +kernel)) ggX7_keep_X5_copyFrom
theorem dX7_keep_0 : decode cX7_keep 0 = .ok (.aload_n 0, 1) := by decide +kernel
theorem dX7_keep_1 : decode cX7_keep 1 = .ok (.getfield 16, 3) := by decide +kernel
theorem dX7_keep_4 : decode cX7_keep 4 = .ok (.aload_n 0, 1) := by decide +kernel
theorem dX7_keep_5 : decode cX7_keep 5 = .ok (.getfield 12, 3) := by decide +kernel
theorem dX7_keep_8 : decode cX7_keep 8 = .ok (.invokevirtual 134, 3) := by decide +kernel
theorem dX7_keep_11 : decode cX7_keep 11 = .ok (.aload_n 0, 1) := by decide +kernel
theorem dX7_keep_12 : decode cX7_keep 12 = .ok (.iconst 1, 1) := by decide +kernel
theorem dX7_keep_13 : decode cX7_keep 13 = .ok (.putfield 19, 3) := by decide +kernel
theorem dX7_keep_16 : decode cX7_keep 16 = .ok (.aload_n 0, 1) := by decide +kernel
theorem dX7_keep_17 : decode cX7_keep 17 = .ok (.getfield 12, 3) := by decide +kernel
theorem dX7_keep_20 : decode cX7_keep 20 = .ok (.getfield 62, 3) := by decide +kernel
theorem dX7_keep_23 : decode cX7_keep 23 = .ok (.ireturn, 1) := by decide +kernel
set_option maxRecDepth 20000 in
theorem ggX7_restore_X0_record : GoodIn wsX7_restore wsX0_record := goodIn_r _ [9, 10, 11, 12, 13, 8, 14, 15, 16, 17, 18, 19, 20, 21, 22, 23, 24, 25, 26, 27, 28, 29, 30, 31, 32, 33, 48, 49, 43, 44, 45, 46, 47] (by decide +kernel) (by decide +kernel)
set_option maxRecDepth 20000 in
theorem gX7_restore_X0_record : GoodIn wsX7_restore (wsV RX7 66 RX0 yX0_record wsX0_record) := goodIn_app (goodIn_of _ (by decide +kernel)) ggX7_restore_X0_record
set_option maxRecDepth 20000 in
theorem ggX7_restore_X5_copyFrom : GoodIn wsX7_restore wsX5_copyFrom := goodIn_r _ [24, 25, 26, 27, 28, 29, 30, 31, 32, 33, 43, 44, 45, 46, 47] (by decide +kernel) (by decide +kernel)
set_option maxRecDepth 20000 in
theorem gX7_restore_X5_copyFrom : GoodIn wsX7_restore (wsV RX7 134 RX5 yX5_copyFrom wsX5_copyFrom) := goodIn_app (goodIn_of _ (by decide +kernel)) ggX7_restore_X5_copyFrom
theorem dX7_restore_0 : decode cX7_restore 0 = .ok (.aload_n 0, 1) := by decide +kernel
theorem dX7_restore_1 : decode cX7_restore 1 = .ok (.getfield 19, 3) := by decide +kernel
theorem dX7_restore_4 : decode cX7_restore 4 = .ok (.ifCond .ne 6, 3) := by decide +kernel
theorem dX7_restore_7 : decode cX7_restore 7 = .ok (.bipush (-5), 2) := by decide +kernel
theorem dX7_restore_9 : decode cX7_restore 9 = .ok (.ireturn, 1) := by decide +kernel
theorem dX7_restore_10 : decode cX7_restore 10 = .ok (.aload_n 0, 1) := by decide +kernel
theorem dX7_restore_11 : decode cX7_restore 11 = .ok (.getfield 26, 3) := by decide +kernel
theorem dX7_restore_14 : decode cX7_restore 14 = .ok (.aload_n 0, 1) := by decide +kernel
theorem dX7_restore_15 : decode cX7_restore 15 = .ok (.getfield 12, 3) := by decide +kernel
theorem dX7_restore_18 : decode cX7_restore 18 = .ok (.invokevirtual 66, 3) := by decide +kernel
theorem dX7_restore_21 : decode cX7_restore 21 = .ok (.aload_n 0, 1) := by decide +kernel
theorem dX7_restore_22 : decode cX7_restore 22 = .ok (.getfield 12, 3) := by decide +kernel
theorem dX7_restore_25 : decode cX7_restore 25 = .ok (.aload_n 0, 1) := by decide +kernel
theorem dX7_restore_26 : decode cX7_restore 26 = .ok (.getfield 16, 3) := by decide +kernel
theorem dX7_restore_29 : decode cX7_restore 29 = .ok (.invokevirtual 134, 3) := by decide +kernel
theorem dX7_restore_32 : decode cX7_restore 32 = .ok (.aload_n 0, 1) := by decide +kernel
theorem dX7_restore_33 : decode cX7_restore 33 = .ok (.getfield 12, 3) := by decide +kernel
theorem dX7_restore_36 : decode cX7_restore 36 = .ok (.getfield 62, 3) := by decide +kernel
theorem dX7_restore_39 : decode cX7_restore 39 = .ok (.ireturn, 1) := by decide +kernel
set_option maxRecDepth 20000 in
theorem ggX7_at_X5_signAt : GoodIn wsX7_at wsX5_signAt := goodIn_r _ [6, 7, 16, 17, 18, 19, 20] (by decide +kernel) (by decide +kernel)
set_option maxRecDepth 20000 in
theorem gX7_at_X5_signAt : GoodIn wsX7_at (wsV RX7 137 RX5 yX5_signAt wsX5_signAt) := goodIn_app (goodIn_of _ (by decide +kernel)) ggX7_at_X5_signAt
theorem dX7_at_0 : decode cX7_at 0 = .ok (.iload_n 1, 1) := by decide +kernel
theorem dX7_at_1 : decode cX7_at 1 = .ok (.ifCond .lt 14, 3) := by decide +kernel
theorem dX7_at_4 : decode cX7_at 4 = .ok (.iload_n 1, 1) := by decide +kernel
theorem dX7_at_5 : decode cX7_at 5 = .ok (.aload_n 0, 1) := by decide +kernel
theorem dX7_at_6 : decode cX7_at 6 = .ok (.getfield 12, 3) := by decide +kernel
theorem dX7_at_9 : decode cX7_at 9 = .ok (.getfield 62, 3) := by decide +kernel
theorem dX7_at_12 : decode cX7_at 12 = .ok (.if_icmp .lt 5, 3) := by decide +kernel
theorem dX7_at_15 : decode cX7_at 15 = .ok (.iconst (-1), 1) := by decide +kernel
theorem dX7_at_16 : decode cX7_at 16 = .ok (.ireturn, 1) := by decide +kernel
theorem dX7_at_17 : decode cX7_at 17 = .ok (.aload_n 0, 1) := by decide +kernel
theorem dX7_at_18 : decode cX7_at 18 = .ok (.getfield 12, 3) := by decide +kernel
theorem dX7_at_21 : decode cX7_at 21 = .ok (.iload_n 1, 1) := by decide +kernel
theorem dX7_at_22 : decode cX7_at 22 = .ok (.invokevirtual 137, 3) := by decide +kernel
theorem dX7_at_25 : decode cX7_at 25 = .ok (.ireturn, 1) := by decide +kernel
set_option maxRecDepth 20000 in
theorem ggX7_pattern_X5_patternOrNull : GoodIn wsX7_pattern wsX5_patternOrNull := goodIn_r _ [7, 8, 9, 133, 134, 135, 136, 137] (by decide +kernel) (by decide +kernel)
set_option maxRecDepth 20000 in
theorem gX7_pattern_X5_patternOrNull : GoodIn wsX7_pattern (wsV RX7 83 RX5 yX5_patternOrNull wsX5_patternOrNull) := goodIn_app (goodIn_of _ (by decide +kernel)) ggX7_pattern_X5_patternOrNull
set_option maxRecDepth 20000 in
theorem ggX7_pattern_X4_findEnds : GoodIn wsX7_pattern wsX4_findEnds := goodIn_r _ [14, 15, 16, 17, 18, 13, 19, 20, 21, 22, 23, 24, 25, 26, 27, 28, 29, 30, 31, 32, 33, 34, 35, 36, 37, 38, 39, 40, 41, 6, 42, 43, 44, 45, 46, 47, 48, 49, 50, 51, 52, 53, 54, 125, 126, 127, 128, 129, 130, 131, 132, 133, 134, 135, 136, 137, 121, 122, 123, 124] (by decide +kernel) (by decide +kernel)
set_option maxRecDepth 20000 in
theorem gX7_pattern_X4_findEnds : GoodIn wsX7_pattern (wsV RX7 146 RX4 yX4_findEnds wsX4_findEnds) := goodIn_app (goodIn_of _ (by decide +kernel)) ggX7_pattern_X4_findEnds
set_option maxRecDepth 20000 in
theorem ggX7_pattern_X4_findAlone : GoodIn wsX7_pattern wsX4_findAlone := goodIn_r _ [58, 15, 30, 59, 11, 12, 13, 14, 16, 17, 18, 19, 20, 21, 22, 23, 24, 25, 26, 27, 28, 29, 31, 32, 33, 34, 35, 36, 37, 38, 39, 40, 41, 6, 42, 43, 44, 45, 46, 47, 48, 49, 50, 51, 52, 53, 54, 60, 61, 62, 63, 64, 65, 66, 67, 68, 69, 70, 71, 72, 73, 74, 75, 76, 77, 78, 79, 80, 81, 125, 126, 127, 128, 129, 130, 131, 132, 133, 134, 135, 136, 137, 121, 122, 123, 124] (by decide +kernel) (by decide +kernel)
set_option maxRecDepth 20000 in
theorem gX7_pattern_X4_findAlone : GoodIn wsX7_pattern (wsV RX7 90 RX4 yX4_findAlone wsX4_findAlone) := goodIn_app (goodIn_of _ (by decide +kernel)) ggX7_pattern_X4_findAlone
set_option maxRecDepth 20000 in
theorem ggX7_pattern_X4_fewestSlips : GoodIn wsX7_pattern wsX4_fewestSlips := goodIn_r _ [85, 15, 78, 79, 80, 13, 81, 30, 29, 69, 125, 126, 127, 128, 129, 130, 131, 132] (by decide +kernel) (by decide +kernel)
set_option maxRecDepth 20000 in
theorem gX7_pattern_X4_fewestSlips : GoodIn wsX7_pattern (wsV RX7 149 RX4 yX4_fewestSlips wsX4_fewestSlips) := goodIn_app (goodIn_of _ (by decide +kernel)) ggX7_pattern_X4_fewestSlips
set_option maxRecDepth 20000 in
theorem ggX7_pattern_X4_firstWithFewest : GoodIn wsX7_pattern wsX4_firstWithFewest := goodIn_r _ [89, 15, 90, 83, 84, 13, 85, 78, 79, 80, 81, 30, 29, 69, 125, 126, 127, 128, 129, 130, 131, 132] (by decide +kernel) (by decide +kernel)
set_option maxRecDepth 20000 in
theorem gX7_pattern_X4_firstWithFewest : GoodIn wsX7_pattern (wsV RX7 153 RX4 yX4_firstWithFewest wsX4_firstWithFewest) := goodIn_app (goodIn_of _ (by decide +kernel)) ggX7_pattern_X4_firstWithFewest
set_option maxRecDepth 20000 in
theorem ggX7_pattern_X2_countWild : GoodIn wsX7_pattern wsX2_countWild := goodIn_r _ [94, 95, 96, 97, 98, 99, 47, 100, 101, 121, 122, 123, 124] (by decide +kernel) (by decide +kernel)
set_option maxRecDepth 20000 in
theorem gX7_pattern_X2_countWild : GoodIn wsX7_pattern (wsV RX7 156 RX2 yX2_countWild wsX2_countWild) := goodIn_app (goodIn_of _ (by decide +kernel)) ggX7_pattern_X2_countWild
set_option maxRecDepth 20000 in
theorem ggX7_pattern_X2_isPlain : GoodIn wsX7_pattern wsX2_isPlain := goodIn_r _ [105, 95, 97, 98, 99, 47, 100, 101, 106, 107, 108, 109, 110, 111, 112, 121, 122, 123, 124] (by decide +kernel) (by decide +kernel)
set_option maxRecDepth 20000 in
theorem gX7_pattern_X2_isPlain : GoodIn wsX7_pattern (wsV RX7 159 RX2 yX2_isPlain wsX2_isPlain) := goodIn_app (goodIn_of _ (by decide +kernel)) ggX7_pattern_X2_isPlain
theorem dX7_pattern_0 : decode cX7_pattern 0 = .ok (.aload_n 0, 1) := by decide +kernel
theorem dX7_pattern_1 : decode cX7_pattern 1 = .ok (.getfield 12, 3) := by decide +kernel
theorem dX7_pattern_4 : decode cX7_pattern 4 = .ok (.iload_n 1, 1) := by decide +kernel
theorem dX7_pattern_5 : decode cX7_pattern 5 = .ok (.invokevirtual 83, 3) := by decide +kernel
theorem dX7_pattern_8 : decode cX7_pattern 8 = .ok (.astore_n 3, 1) := by decide +kernel
theorem dX7_pattern_9 : decode cX7_pattern 9 = .ok (.aload_n 3, 1) := by decide +kernel
theorem dX7_pattern_10 : decode cX7_pattern 10 = .ok (.ifnonnull 5, 3) := by decide +kernel
theorem dX7_pattern_13 : decode cX7_pattern 13 = .ok (.iconst (-1), 1) := by decide +kernel
theorem dX7_pattern_14 : decode cX7_pattern 14 = .ok (.ireturn, 1) := by decide +kernel
theorem dX7_pattern_15 : decode cX7_pattern 15 = .ok (.iload_n 2, 1) := by decide +kernel
theorem dX7_pattern_16 : decode cX7_pattern 16 = .ok (.tableswitch 164 0 7 #[48, 53, 66, 86, 106, 126, 146, 151], 48) := by decide +kernel
theorem dX7_pattern_64 : decode cX7_pattern 64 = .ok (.aload_n 3, 1) := by decide +kernel
theorem dX7_pattern_65 : decode cX7_pattern 65 = .ok (.getfield 138, 3) := by decide +kernel
theorem dX7_pattern_68 : decode cX7_pattern 68 = .ok (.ireturn, 1) := by decide +kernel
theorem dX7_pattern_69 : decode cX7_pattern 69 = .ok (.aload_n 3, 1) := by decide +kernel
theorem dX7_pattern_70 : decode cX7_pattern 70 = .ok (.getfield 143, 3) := by decide +kernel
theorem dX7_pattern_73 : decode cX7_pattern 73 = .ok (.ifCond .eq 7, 3) := by decide +kernel
theorem dX7_pattern_76 : decode cX7_pattern 76 = .ok (.iconst 1, 1) := by decide +kernel
theorem dX7_pattern_77 : decode cX7_pattern 77 = .ok (.goto 4, 3) := by decide +kernel
theorem dX7_pattern_80 : decode cX7_pattern 80 = .ok (.iconst 0, 1) := by decide +kernel
theorem dX7_pattern_81 : decode cX7_pattern 81 = .ok (.ireturn, 1) := by decide +kernel
theorem dX7_pattern_82 : decode cX7_pattern 82 = .ok (.aload_n 0, 1) := by decide +kernel
theorem dX7_pattern_83 : decode cX7_pattern 83 = .ok (.getfield 47, 3) := by decide +kernel
theorem dX7_pattern_86 : decode cX7_pattern 86 = .ok (.aload_n 0, 1) := by decide +kernel
theorem dX7_pattern_87 : decode cX7_pattern 87 = .ok (.getfield 12, 3) := by decide +kernel
theorem dX7_pattern_90 : decode cX7_pattern 90 = .ok (.aload_n 3, 1) := by decide +kernel
theorem dX7_pattern_91 : decode cX7_pattern 91 = .ok (.invokevirtual 146, 3) := by decide +kernel
theorem dX7_pattern_94 : decode cX7_pattern 94 = .ok (.aload_n 0, 1) := by decide +kernel
theorem dX7_pattern_95 : decode cX7_pattern 95 = .ok (.getfield 47, 3) := by decide +kernel
theorem dX7_pattern_98 : decode cX7_pattern 98 = .ok (.getfield 94, 3) := by decide +kernel
theorem dX7_pattern_101 : decode cX7_pattern 101 = .ok (.ireturn, 1) := by decide +kernel
theorem dX7_pattern_102 : decode cX7_pattern 102 = .ok (.aload_n 0, 1) := by decide +kernel
theorem dX7_pattern_103 : decode cX7_pattern 103 = .ok (.getfield 47, 3) := by decide +kernel
theorem dX7_pattern_106 : decode cX7_pattern 106 = .ok (.aload_n 0, 1) := by decide +kernel
theorem dX7_pattern_107 : decode cX7_pattern 107 = .ok (.getfield 12, 3) := by decide +kernel
theorem dX7_pattern_110 : decode cX7_pattern 110 = .ok (.aload_n 3, 1) := by decide +kernel
theorem dX7_pattern_111 : decode cX7_pattern 111 = .ok (.invokevirtual 90, 3) := by decide +kernel
theorem dX7_pattern_114 : decode cX7_pattern 114 = .ok (.aload_n 0, 1) := by decide +kernel
theorem dX7_pattern_115 : decode cX7_pattern 115 = .ok (.getfield 47, 3) := by decide +kernel
theorem dX7_pattern_118 : decode cX7_pattern 118 = .ok (.getfield 94, 3) := by decide +kernel
theorem dX7_pattern_121 : decode cX7_pattern 121 = .ok (.ireturn, 1) := by decide +kernel
theorem dX7_pattern_122 : decode cX7_pattern 122 = .ok (.aload_n 0, 1) := by decide +kernel
theorem dX7_pattern_123 : decode cX7_pattern 123 = .ok (.getfield 47, 3) := by decide +kernel
theorem dX7_pattern_126 : decode cX7_pattern 126 = .ok (.aload_n 0, 1) := by decide +kernel
theorem dX7_pattern_127 : decode cX7_pattern 127 = .ok (.getfield 12, 3) := by decide +kernel
theorem dX7_pattern_130 : decode cX7_pattern 130 = .ok (.aload_n 3, 1) := by decide +kernel
theorem dX7_pattern_131 : decode cX7_pattern 131 = .ok (.invokevirtual 146, 3) := by decide +kernel
theorem dX7_pattern_134 : decode cX7_pattern 134 = .ok (.aload_n 0, 1) := by decide +kernel
theorem dX7_pattern_135 : decode cX7_pattern 135 = .ok (.getfield 47, 3) := by decide +kernel
theorem dX7_pattern_138 : decode cX7_pattern 138 = .ok (.invokevirtual 149, 3) := by decide +kernel
theorem dX7_pattern_141 : decode cX7_pattern 141 = .ok (.ireturn, 1) := by decide +kernel
theorem dX7_pattern_142 : decode cX7_pattern 142 = .ok (.aload_n 0, 1) := by decide +kernel
theorem dX7_pattern_143 : decode cX7_pattern 143 = .ok (.getfield 47, 3) := by decide +kernel
theorem dX7_pattern_146 : decode cX7_pattern 146 = .ok (.aload_n 0, 1) := by decide +kernel
theorem dX7_pattern_147 : decode cX7_pattern 147 = .ok (.getfield 12, 3) := by decide +kernel
theorem dX7_pattern_150 : decode cX7_pattern 150 = .ok (.aload_n 3, 1) := by decide +kernel
theorem dX7_pattern_151 : decode cX7_pattern 151 = .ok (.invokevirtual 146, 3) := by decide +kernel
theorem dX7_pattern_154 : decode cX7_pattern 154 = .ok (.aload_n 0, 1) := by decide +kernel
theorem dX7_pattern_155 : decode cX7_pattern 155 = .ok (.getfield 47, 3) := by decide +kernel
theorem dX7_pattern_158 : decode cX7_pattern 158 = .ok (.invokevirtual 153, 3) := by decide +kernel
theorem dX7_pattern_161 : decode cX7_pattern 161 = .ok (.ireturn, 1) := by decide +kernel
theorem dX7_pattern_162 : decode cX7_pattern 162 = .ok (.aload_n 3, 1) := by decide +kernel
theorem dX7_pattern_163 : decode cX7_pattern 163 = .ok (.invokevirtual 156, 3) := by decide +kernel
theorem dX7_pattern_166 : decode cX7_pattern 166 = .ok (.ireturn, 1) := by decide +kernel
theorem dX7_pattern_167 : decode cX7_pattern 167 = .ok (.aload_n 3, 1) := by decide +kernel
theorem dX7_pattern_168 : decode cX7_pattern 168 = .ok (.invokevirtual 159, 3) := by decide +kernel
theorem dX7_pattern_171 : decode cX7_pattern 171 = .ok (.ifCond .eq 7, 3) := by decide +kernel
theorem dX7_pattern_174 : decode cX7_pattern 174 = .ok (.iconst 1, 1) := by decide +kernel
theorem dX7_pattern_175 : decode cX7_pattern 175 = .ok (.goto 4, 3) := by decide +kernel
theorem dX7_pattern_178 : decode cX7_pattern 178 = .ok (.iconst 0, 1) := by decide +kernel
theorem dX7_pattern_179 : decode cX7_pattern 179 = .ok (.ireturn, 1) := by decide +kernel
theorem dX7_pattern_180 : decode cX7_pattern 180 = .ok (.bipush (-2), 2) := by decide +kernel
theorem dX7_pattern_182 : decode cX7_pattern 182 = .ok (.ireturn, 1) := by decide +kernel
set_option maxRecDepth 20000 in
theorem ggX7_takes_X5_patternOrNull : GoodIn wsX7_takes wsX5_patternOrNull := goodIn_r _ [6, 7, 8, 27, 28, 29, 30, 31] (by decide +kernel) (by decide +kernel)
set_option maxRecDepth 20000 in
theorem gX7_takes_X5_patternOrNull : GoodIn wsX7_takes (wsV RX7 83 RX5 yX5_patternOrNull wsX5_patternOrNull) := goodIn_app (goodIn_of _ (by decide +kernel)) ggX7_takes_X5_patternOrNull
set_option maxRecDepth 20000 in
theorem ggX7_takes_X2_signsOf : GoodIn wsX7_takes wsX2_signsOf := goodIn_r _ [13, 14, 23, 24, 25, 26] (by decide +kernel) (by decide +kernel)
set_option maxRecDepth 20000 in
theorem gX7_takes_X2_signsOf : GoodIn wsX7_takes (wsV RX7 162 RX2 yX2_signsOf wsX2_signsOf) := goodIn_app (goodIn_of _ (by decide +kernel)) ggX7_takes_X2_signsOf
theorem dX7_takes_0 : decode cX7_takes 0 = .ok (.aload_n 0, 1) := by decide +kernel
theorem dX7_takes_1 : decode cX7_takes 1 = .ok (.getfield 12, 3) := by decide +kernel
theorem dX7_takes_4 : decode cX7_takes 4 = .ok (.iload_n 1, 1) := by decide +kernel
theorem dX7_takes_5 : decode cX7_takes 5 = .ok (.invokevirtual 83, 3) := by decide +kernel
theorem dX7_takes_8 : decode cX7_takes 8 = .ok (.astore_n 3, 1) := by decide +kernel
theorem dX7_takes_9 : decode cX7_takes 9 = .ok (.aload_n 3, 1) := by decide +kernel
theorem dX7_takes_10 : decode cX7_takes 10 = .ok (.ifnull 15, 3) := by decide +kernel
theorem dX7_takes_13 : decode cX7_takes 13 = .ok (.iload_n 2, 1) := by decide +kernel
theorem dX7_takes_14 : decode cX7_takes 14 = .ok (.ifCond .lt 11, 3) := by decide +kernel
theorem dX7_takes_17 : decode cX7_takes 17 = .ok (.iload_n 2, 1) := by decide +kernel
theorem dX7_takes_18 : decode cX7_takes 18 = .ok (.aload_n 3, 1) := by decide +kernel
theorem dX7_takes_19 : decode cX7_takes 19 = .ok (.getfield 138, 3) := by decide +kernel
theorem dX7_takes_22 : decode cX7_takes 22 = .ok (.if_icmp .lt 5, 3) := by decide +kernel
theorem dX7_takes_25 : decode cX7_takes 25 = .ok (.iconst (-1), 1) := by decide +kernel
theorem dX7_takes_26 : decode cX7_takes 26 = .ok (.ireturn, 1) := by decide +kernel
theorem dX7_takes_27 : decode cX7_takes 27 = .ok (.aload_n 3, 1) := by decide +kernel
theorem dX7_takes_28 : decode cX7_takes 28 = .ok (.iload_n 2, 1) := by decide +kernel
theorem dX7_takes_29 : decode cX7_takes 29 = .ok (.invokevirtual 162, 3) := by decide +kernel
theorem dX7_takes_32 : decode cX7_takes 32 = .ok (.ireturn, 1) := by decide +kernel
set_option maxRecDepth 20000 in
theorem ggX7_end_X5_patternOrNull : GoodIn wsX7_end wsX5_patternOrNull := goodIn_r _ [7, 8, 9, 100, 101, 102, 103, 104] (by decide +kernel) (by decide +kernel)
set_option maxRecDepth 20000 in
theorem gX7_end_X5_patternOrNull : GoodIn wsX7_end (wsV RX7 83 RX5 yX5_patternOrNull wsX5_patternOrNull) := goodIn_app (goodIn_of _ (by decide +kernel)) ggX7_end_X5_patternOrNull
set_option maxRecDepth 20000 in
theorem ggX7_end_X4_findAlone : GoodIn wsX7_end wsX4_findAlone := goodIn_r _ [14, 15, 16, 17, 18, 19, 13, 20, 21, 22, 23, 24, 25, 26, 27, 28, 29, 30, 31, 32, 33, 34, 35, 36, 37, 38, 39, 40, 41, 42, 43, 44, 45, 6, 46, 47, 48, 49, 50, 51, 52, 53, 54, 55, 56, 57, 58, 59, 60, 61, 62, 63, 64, 65, 66, 67, 68, 69, 70, 71, 72, 73, 74, 75, 76, 77, 78, 79, 80, 92, 93, 94, 95, 96, 97, 98, 99, 100, 101, 102, 103, 104, 105, 106, 107, 108] (by decide +kernel) (by decide +kernel)
set_option maxRecDepth 20000 in
theorem gX7_end_X4_findAlone : GoodIn wsX7_end (wsV RX7 90 RX4 yX4_findAlone wsX4_findAlone) := goodIn_app (goodIn_of _ (by decide +kernel)) ggX7_end_X4_findAlone
set_option maxRecDepth 20000 in
theorem ggX7_end_X4_findEnds : GoodIn wsX7_end wsX4_findEnds := goodIn_r _ [20, 15, 21, 22, 23, 13, 24, 25, 26, 27, 28, 29, 30, 31, 32, 33, 34, 16, 35, 36, 37, 38, 39, 40, 41, 42, 43, 44, 45, 6, 46, 47, 48, 49, 50, 51, 52, 53, 54, 55, 56, 57, 58, 92, 93, 94, 95, 96, 97, 98, 99, 100, 101, 102, 103, 104, 105, 106, 107, 108] (by decide +kernel) (by decide +kernel)
set_option maxRecDepth 20000 in
theorem gX7_end_X4_findEnds : GoodIn wsX7_end (wsV RX7 146 RX4 yX4_findEnds wsX4_findEnds) := goodIn_app (goodIn_of _ (by decide +kernel)) ggX7_end_X4_findEnds
set_option maxRecDepth 20000 in
theorem ggX7_end_X4_findBeginnings : GoodIn wsX7_end wsX4_findBeginnings := goodIn_r _ [62, 63, 64, 65, 66, 13, 67, 68, 69, 70, 71, 72, 73, 74, 75, 76, 43, 44, 45, 6, 46, 47, 48, 49, 50, 51, 52, 53, 54, 55, 56, 57, 58, 92, 93, 94, 95, 96, 97, 98, 99, 100, 101, 102, 103, 104, 105, 106, 107, 108] (by decide +kernel) (by decide +kernel)
set_option maxRecDepth 20000 in
theorem gX7_end_X4_findBeginnings : GoodIn wsX7_end (wsV RX7 165 RX4 yX4_findBeginnings wsX4_findBeginnings) := goodIn_app (goodIn_of _ (by decide +kernel)) ggX7_end_X4_findBeginnings
set_option maxRecDepth 20000 in
theorem ggX7_end_X4_tell : GoodIn wsX7_end wsX4_tell := goodIn_r _ [80, 15, 16, 34, 68, 92, 93, 94, 95, 96, 97, 98, 99] (by decide +kernel) (by decide +kernel)
set_option maxRecDepth 20000 in
theorem gX7_end_X4_tell : GoodIn wsX7_end (wsV RX7 168 RX4 yX4_tell wsX4_tell) := goodIn_app (goodIn_of _ (by decide +kernel)) ggX7_end_X4_tell
theorem dX7_end_0 : decode cX7_end 0 = .ok (.aload_n 0, 1) := by decide +kernel
theorem dX7_end_1 : decode cX7_end 1 = .ok (.getfield 12, 3) := by decide +kernel
theorem dX7_end_4 : decode cX7_end 4 = .ok (.iload_n 1, 1) := by decide +kernel
theorem dX7_end_5 : decode cX7_end 5 = .ok (.invokevirtual 83, 3) := by decide +kernel
theorem dX7_end_8 : decode cX7_end 8 = .ok (.astore 5, 2) := by decide +kernel
theorem dX7_end_10 : decode cX7_end 10 = .ok (.aload 5, 2) := by decide +kernel
theorem dX7_end_12 : decode cX7_end 12 = .ok (.ifnonnull 5, 3) := by decide +kernel
theorem dX7_end_15 : decode cX7_end 15 = .ok (.iconst (-1), 1) := by decide +kernel
theorem dX7_end_16 : decode cX7_end 16 = .ok (.ireturn, 1) := by decide +kernel
theorem dX7_end_17 : decode cX7_end 17 = .ok (.iload_n 2, 1) := by decide +kernel
theorem dX7_end_18 : decode cX7_end 18 = .ok (.ifCond .lt 14, 3) := by decide +kernel
theorem dX7_end_21 : decode cX7_end 21 = .ok (.iload 4, 2) := by decide +kernel
theorem dX7_end_23 : decode cX7_end 23 = .ok (.ifCond .lt 9, 3) := by decide +kernel
theorem dX7_end_26 : decode cX7_end 26 = .ok (.iload 4, 2) := by decide +kernel
theorem dX7_end_28 : decode cX7_end 28 = .ok (.iconst 2, 1) := by decide +kernel
theorem dX7_end_29 : decode cX7_end 29 = .ok (.if_icmp .le 6, 3) := by decide +kernel
theorem dX7_end_32 : decode cX7_end 32 = .ok (.bipush (-2), 2) := by decide +kernel
theorem dX7_end_34 : decode cX7_end 34 = .ok (.ireturn, 1) := by decide +kernel
theorem dX7_end_35 : decode cX7_end 35 = .ok (.iload_n 3, 1) := by decide +kernel
theorem dX7_end_36 : decode cX7_end 36 = .ok (.ifCond .eq 19, 3) := by decide +kernel
theorem dX7_end_39 : decode cX7_end 39 = .ok (.aload_n 0, 1) := by decide +kernel
theorem dX7_end_40 : decode cX7_end 40 = .ok (.getfield 47, 3) := by decide +kernel
theorem dX7_end_43 : decode cX7_end 43 = .ok (.aload_n 0, 1) := by decide +kernel
theorem dX7_end_44 : decode cX7_end 44 = .ok (.getfield 12, 3) := by decide +kernel
theorem dX7_end_47 : decode cX7_end 47 = .ok (.aload 5, 2) := by decide +kernel
theorem dX7_end_49 : decode cX7_end 49 = .ok (.invokevirtual 90, 3) := by decide +kernel
theorem dX7_end_52 : decode cX7_end 52 = .ok (.goto 16, 3) := by decide +kernel
theorem dX7_end_55 : decode cX7_end 55 = .ok (.aload_n 0, 1) := by decide +kernel
theorem dX7_end_56 : decode cX7_end 56 = .ok (.getfield 47, 3) := by decide +kernel
theorem dX7_end_59 : decode cX7_end 59 = .ok (.aload_n 0, 1) := by decide +kernel
theorem dX7_end_60 : decode cX7_end 60 = .ok (.getfield 12, 3) := by decide +kernel
theorem dX7_end_63 : decode cX7_end 63 = .ok (.aload 5, 2) := by decide +kernel
theorem dX7_end_65 : decode cX7_end 65 = .ok (.invokevirtual 146, 3) := by decide +kernel
theorem dX7_end_68 : decode cX7_end 68 = .ok (.iload_n 2, 1) := by decide +kernel
theorem dX7_end_69 : decode cX7_end 69 = .ok (.aload_n 0, 1) := by decide +kernel
theorem dX7_end_70 : decode cX7_end 70 = .ok (.getfield 47, 3) := by decide +kernel
theorem dX7_end_73 : decode cX7_end 73 = .ok (.getfield 94, 3) := by decide +kernel
theorem dX7_end_76 : decode cX7_end 76 = .ok (.if_icmp .lt 6, 3) := by decide +kernel
theorem dX7_end_79 : decode cX7_end 79 = .ok (.bipush (-5), 2) := by decide +kernel
theorem dX7_end_81 : decode cX7_end 81 = .ok (.ireturn, 1) := by decide +kernel
theorem dX7_end_82 : decode cX7_end 82 = .ok (.iload 4, 2) := by decide +kernel
theorem dX7_end_84 : decode cX7_end 84 = .ok (.iconst 2, 1) := by decide +kernel
theorem dX7_end_85 : decode cX7_end 85 = .ok (.if_icmp .ne 20, 3) := by decide +kernel
theorem dX7_end_88 : decode cX7_end 88 = .ok (.iload_n 3, 1) := by decide +kernel
theorem dX7_end_89 : decode cX7_end 89 = .ok (.ifCond .ne 16, 3) := by decide +kernel
theorem dX7_end_92 : decode cX7_end 92 = .ok (.aload_n 0, 1) := by decide +kernel
theorem dX7_end_93 : decode cX7_end 93 = .ok (.getfield 47, 3) := by decide +kernel
theorem dX7_end_96 : decode cX7_end 96 = .ok (.aload_n 0, 1) := by decide +kernel
theorem dX7_end_97 : decode cX7_end 97 = .ok (.getfield 12, 3) := by decide +kernel
theorem dX7_end_100 : decode cX7_end 100 = .ok (.aload 5, 2) := by decide +kernel
theorem dX7_end_102 : decode cX7_end 102 = .ok (.invokevirtual 165, 3) := by decide +kernel
theorem dX7_end_105 : decode cX7_end 105 = .ok (.aload_n 0, 1) := by decide +kernel
theorem dX7_end_106 : decode cX7_end 106 = .ok (.getfield 47, 3) := by decide +kernel
theorem dX7_end_109 : decode cX7_end 109 = .ok (.iload_n 2, 1) := by decide +kernel
theorem dX7_end_110 : decode cX7_end 110 = .ok (.iload 4, 2) := by decide +kernel
theorem dX7_end_112 : decode cX7_end 112 = .ok (.invokevirtual 168, 3) := by decide +kernel
theorem dX7_end_115 : decode cX7_end 115 = .ok (.ireturn, 1) := by decide +kernel
set_option maxRecDepth 20000 in
theorem ggX7_column_X5_patternOrNull : GoodIn wsX7_column wsX5_patternOrNull := goodIn_r _ [9, 10, 11, 54, 55, 56, 57, 58] (by decide +kernel) (by decide +kernel)
set_option maxRecDepth 20000 in
theorem gX7_column_X5_patternOrNull : GoodIn wsX7_column (wsV RX7 83 RX5 yX5_patternOrNull wsX5_patternOrNull) := goodIn_app (goodIn_of _ (by decide +kernel)) ggX7_column_X5_patternOrNull
set_option maxRecDepth 20000 in
theorem ggX7_column_X4_columnAt : GoodIn wsX7_column wsX4_columnAt := goodIn_r _ [16, 17, 18, 19, 20, 15, 21, 22, 23, 24, 25, 26, 27, 28, 29, 30, 31, 32, 8, 33, 34, 35, 36, 37, 38, 39, 40, 41, 42, 43, 44, 45, 59, 60, 61, 62, 63, 64, 65, 66, 54, 55, 56, 57, 58, 67, 68, 69, 70] (by decide +kernel) (by decide +kernel)
set_option maxRecDepth 20000 in
theorem gX7_column_X4_columnAt : GoodIn wsX7_column (wsV RX7 176 RX4 yX4_columnAt wsX4_columnAt) := goodIn_app (goodIn_of _ (by decide +kernel)) ggX7_column_X4_columnAt
theorem dX7_column_0 : decode cX7_column 0 = .ok (.aload_n 0, 1) := by decide +kernel
theorem dX7_column_1 : decode cX7_column 1 = .ok (.getfield 12, 3) := by decide +kernel
theorem dX7_column_4 : decode cX7_column 4 = .ok (.iload_n 1, 1) := by decide +kernel
theorem dX7_column_5 : decode cX7_column 5 = .ok (.invokevirtual 83, 3) := by decide +kernel
theorem dX7_column_8 : decode cX7_column 8 = .ok (.astore 4, 2) := by decide +kernel
theorem dX7_column_10 : decode cX7_column 10 = .ok (.aload 4, 2) := by decide +kernel
theorem dX7_column_12 : decode cX7_column 12 = .ok (.ifnonnull 7, 3) := by decide +kernel
theorem dX7_column_15 : decode cX7_column 15 = .ok (.ldc2_w 172, 3) := by decide +kernel
theorem dX7_column_18 : decode cX7_column 18 = .ok (.lreturn, 1) := by decide +kernel
theorem dX7_column_19 : decode cX7_column 19 = .ok (.iload_n 2, 1) := by decide +kernel
theorem dX7_column_20 : decode cX7_column 20 = .ok (.ifCond .lt 29, 3) := by decide +kernel
theorem dX7_column_23 : decode cX7_column 23 = .ok (.iload_n 2, 1) := by decide +kernel
theorem dX7_column_24 : decode cX7_column 24 = .ok (.aload_n 0, 1) := by decide +kernel
theorem dX7_column_25 : decode cX7_column 25 = .ok (.getfield 12, 3) := by decide +kernel
theorem dX7_column_28 : decode cX7_column 28 = .ok (.getfield 124, 3) := by decide +kernel
theorem dX7_column_31 : decode cX7_column 31 = .ok (.if_icmp .gt 18, 3) := by decide +kernel
theorem dX7_column_34 : decode cX7_column 34 = .ok (.iload_n 3, 1) := by decide +kernel
theorem dX7_column_35 : decode cX7_column 35 = .ok (.ifCond .lt 14, 3) := by decide +kernel
theorem dX7_column_38 : decode cX7_column 38 = .ok (.iload_n 3, 1) := by decide +kernel
theorem dX7_column_39 : decode cX7_column 39 = .ok (.aload_n 0, 1) := by decide +kernel
theorem dX7_column_40 : decode cX7_column 40 = .ok (.getfield 12, 3) := by decide +kernel
theorem dX7_column_43 : decode cX7_column 43 = .ok (.getfield 62, 3) := by decide +kernel
theorem dX7_column_46 : decode cX7_column 46 = .ok (.if_icmp .le 7, 3) := by decide +kernel
theorem dX7_column_49 : decode cX7_column 49 = .ok (.ldc2_w 174, 3) := by decide +kernel
theorem dX7_column_52 : decode cX7_column 52 = .ok (.lreturn, 1) := by decide +kernel
theorem dX7_column_53 : decode cX7_column 53 = .ok (.aload_n 0, 1) := by decide +kernel
theorem dX7_column_54 : decode cX7_column 54 = .ok (.getfield 47, 3) := by decide +kernel
theorem dX7_column_57 : decode cX7_column 57 = .ok (.aload_n 0, 1) := by decide +kernel
theorem dX7_column_58 : decode cX7_column 58 = .ok (.getfield 12, 3) := by decide +kernel
theorem dX7_column_61 : decode cX7_column 61 = .ok (.aload 4, 2) := by decide +kernel
theorem dX7_column_63 : decode cX7_column 63 = .ok (.iload_n 2, 1) := by decide +kernel
theorem dX7_column_64 : decode cX7_column 64 = .ok (.iload_n 3, 1) := by decide +kernel
theorem dX7_column_65 : decode cX7_column 65 = .ok (.invokevirtual 176, 3) := by decide +kernel
theorem dX7_column_68 : decode cX7_column 68 = .ok (.lreturn, 1) := by decide +kernel
set_option maxRecDepth 20000 in
theorem ggX7_slips_X5_patternOrNull : GoodIn wsX7_slips wsX5_patternOrNull := goodIn_r _ [7, 8, 9, 45, 46, 47, 48, 49] (by decide +kernel) (by decide +kernel)
set_option maxRecDepth 20000 in
theorem gX7_slips_X5_patternOrNull : GoodIn wsX7_slips (wsV RX7 83 RX5 yX5_patternOrNull wsX5_patternOrNull) := goodIn_app (goodIn_of _ (by decide +kernel)) ggX7_slips_X5_patternOrNull
set_option maxRecDepth 20000 in
theorem ggX7_slips_X6_countSlips : GoodIn wsX7_slips wsX6_countSlips := goodIn_r _ [14, 15, 16, 17, 18, 19, 13, 20, 21, 22, 23, 24, 25, 6, 26, 27, 28, 29, 30, 31, 32, 33, 34, 35, 36, 50, 51, 52, 53, 54, 45, 46, 47, 48, 49] (by decide +kernel) (by decide +kernel)
set_option maxRecDepth 20000 in
theorem gX7_slips_X6_countSlips : GoodIn wsX7_slips (wsV RX7 180 RX6 yX6_countSlips wsX6_countSlips) := goodIn_app (goodIn_of _ (by decide +kernel)) ggX7_slips_X6_countSlips
theorem dX7_slips_0 : decode cX7_slips 0 = .ok (.aload_n 0, 1) := by decide +kernel
theorem dX7_slips_1 : decode cX7_slips 1 = .ok (.getfield 12, 3) := by decide +kernel
theorem dX7_slips_4 : decode cX7_slips 4 = .ok (.iload_n 1, 1) := by decide +kernel
theorem dX7_slips_5 : decode cX7_slips 5 = .ok (.invokevirtual 83, 3) := by decide +kernel
theorem dX7_slips_8 : decode cX7_slips 8 = .ok (.astore 5, 2) := by decide +kernel
theorem dX7_slips_10 : decode cX7_slips 10 = .ok (.aload 5, 2) := by decide +kernel
theorem dX7_slips_12 : decode cX7_slips 12 = .ok (.ifnonnull 5, 3) := by decide +kernel
theorem dX7_slips_15 : decode cX7_slips 15 = .ok (.iconst (-1), 1) := by decide +kernel
theorem dX7_slips_16 : decode cX7_slips 16 = .ok (.ireturn, 1) := by decide +kernel
theorem dX7_slips_17 : decode cX7_slips 17 = .ok (.iload_n 2, 1) := by decide +kernel
theorem dX7_slips_18 : decode cX7_slips 18 = .ok (.ifCond .lt 30, 3) := by decide +kernel
theorem dX7_slips_21 : decode cX7_slips 21 = .ok (.iload_n 3, 1) := by decide +kernel
theorem dX7_slips_22 : decode cX7_slips 22 = .ok (.iload_n 2, 1) := by decide +kernel
theorem dX7_slips_23 : decode cX7_slips 23 = .ok (.if_icmp .lt 25, 3) := by decide +kernel
theorem dX7_slips_26 : decode cX7_slips 26 = .ok (.iload_n 3, 1) := by decide +kernel
theorem dX7_slips_27 : decode cX7_slips 27 = .ok (.aload_n 0, 1) := by decide +kernel
theorem dX7_slips_28 : decode cX7_slips 28 = .ok (.getfield 12, 3) := by decide +kernel
theorem dX7_slips_31 : decode cX7_slips 31 = .ok (.getfield 62, 3) := by decide +kernel
theorem dX7_slips_34 : decode cX7_slips 34 = .ok (.if_icmp .gt 14, 3) := by decide +kernel
theorem dX7_slips_37 : decode cX7_slips 37 = .ok (.iload 4, 2) := by decide +kernel
theorem dX7_slips_39 : decode cX7_slips 39 = .ok (.ifCond .lt 9, 3) := by decide +kernel
theorem dX7_slips_42 : decode cX7_slips 42 = .ok (.iload 4, 2) := by decide +kernel
theorem dX7_slips_44 : decode cX7_slips 44 = .ok (.iconst 3, 1) := by decide +kernel
theorem dX7_slips_45 : decode cX7_slips 45 = .ok (.if_icmp .le 6, 3) := by decide +kernel
theorem dX7_slips_48 : decode cX7_slips 48 = .ok (.bipush (-2), 2) := by decide +kernel
theorem dX7_slips_50 : decode cX7_slips 50 = .ok (.ireturn, 1) := by decide +kernel
theorem dX7_slips_51 : decode cX7_slips 51 = .ok (.aload_n 0, 1) := by decide +kernel
theorem dX7_slips_52 : decode cX7_slips 52 = .ok (.getfield 54, 3) := by decide +kernel
theorem dX7_slips_55 : decode cX7_slips 55 = .ok (.aload_n 0, 1) := by decide +kernel
theorem dX7_slips_56 : decode cX7_slips 56 = .ok (.getfield 12, 3) := by decide +kernel
theorem dX7_slips_59 : decode cX7_slips 59 = .ok (.aload 5, 2) := by decide +kernel
theorem dX7_slips_61 : decode cX7_slips 61 = .ok (.iload_n 2, 1) := by decide +kernel
theorem dX7_slips_62 : decode cX7_slips 62 = .ok (.iload_n 3, 1) := by decide +kernel
theorem dX7_slips_63 : decode cX7_slips 63 = .ok (.iload 4, 2) := by decide +kernel
theorem dX7_slips_65 : decode cX7_slips 65 = .ok (.invokevirtual 180, 3) := by decide +kernel
theorem dX7_slips_68 : decode cX7_slips 68 = .ok (.ireturn, 1) := by decide +kernel
set_option maxRecDepth 20000 in
theorem ggX7_density_X5_patternOrNull : GoodIn wsX7_density wsX5_patternOrNull := goodIn_r _ [7, 8, 9, 78, 79, 80, 81, 82] (by decide +kernel) (by decide +kernel)
set_option maxRecDepth 20000 in
theorem gX7_density_X5_patternOrNull : GoodIn wsX7_density (wsV RX7 83 RX5 yX5_patternOrNull wsX5_patternOrNull) := goodIn_app (goodIn_of _ (by decide +kernel)) ggX7_density_X5_patternOrNull
set_option maxRecDepth 20000 in
theorem ggX7_density_X7_densityOf : GoodIn wsX7_density wsX7_densityOf := goodIn_r _ [14, 15, 1, 16, 17, 18, 19, 20, 21, 22, 23, 24, 25, 26, 27, 28, 29, 30, 31, 32, 33, 34, 35, 36, 37, 38, 39, 40, 41, 42, 43, 44, 45, 46, 47, 6, 48, 49, 50, 51, 52, 53, 54, 55, 56, 57, 58, 59, 60, 61, 62, 63, 64, 65, 66, 67, 68, 69, 70, 71, 72, 73, 74, 75, 76, 77, 78, 79, 80, 81, 82, 83, 84, 85, 86, 87, 88, 89, 90, 91, 92, 93, 94] (by decide +kernel) (by decide +kernel)
set_option maxRecDepth 20000 in
theorem gX7_density_X7_densityOf : GoodIn wsX7_density (wsV RX7 186 RX7 yX7_densityOf wsX7_densityOf) := goodIn_app (goodIn_of _ (by decide +kernel)) ggX7_density_X7_densityOf
theorem dX7_density_0 : decode cX7_density 0 = .ok (.aload_n 0, 1) := by decide +kernel
theorem dX7_density_1 : decode cX7_density 1 = .ok (.getfield 12, 3) := by decide +kernel
theorem dX7_density_4 : decode cX7_density 4 = .ok (.iload_n 1, 1) := by decide +kernel
theorem dX7_density_5 : decode cX7_density 5 = .ok (.invokevirtual 83, 3) := by decide +kernel
theorem dX7_density_8 : decode cX7_density 8 = .ok (.astore_n 2, 1) := by decide +kernel
theorem dX7_density_9 : decode cX7_density 9 = .ok (.aload_n 2, 1) := by decide +kernel
theorem dX7_density_10 : decode cX7_density 10 = .ok (.ifnonnull 7, 3) := by decide +kernel
theorem dX7_density_13 : decode cX7_density 13 = .ok (.ldc2_w 184, 3) := by decide +kernel
theorem dX7_density_16 : decode cX7_density 16 = .ok (.dreturn, 1) := by decide +kernel
theorem dX7_density_17 : decode cX7_density 17 = .ok (.aload_n 0, 1) := by decide +kernel
theorem dX7_density_18 : decode cX7_density 18 = .ok (.aload_n 2, 1) := by decide +kernel
theorem dX7_density_19 : decode cX7_density 19 = .ok (.invokevirtual 186, 3) := by decide +kernel
theorem dX7_density_22 : decode cX7_density 22 = .ok (.dreturn, 1) := by decide +kernel
set_option maxRecDepth 20000 in
theorem ggX7_densityBits_X5_patternOrNull : GoodIn wsX7_densityBits wsX5_patternOrNull := goodIn_r _ [6, 7, 8, 81, 82, 83, 84, 85] (by decide +kernel) (by decide +kernel)
set_option maxRecDepth 20000 in
theorem gX7_densityBits_X5_patternOrNull : GoodIn wsX7_densityBits (wsV RX7 83 RX5 yX5_patternOrNull wsX5_patternOrNull) := goodIn_app (goodIn_of _ (by decide +kernel)) ggX7_densityBits_X5_patternOrNull
set_option maxRecDepth 20000 in
theorem ggX7_densityBits_X7_densityOf : GoodIn wsX7_densityBits wsX7_densityOf := goodIn_r _ [13, 14, 1, 15, 16, 17, 18, 19, 20, 21, 22, 23, 24, 25, 26, 27, 28, 29, 30, 31, 32, 33, 34, 35, 36, 37, 38, 39, 40, 41, 42, 43, 44, 45, 46, 5, 47, 48, 49, 50, 51, 52, 53, 54, 55, 56, 57, 58, 59, 60, 61, 62, 63, 64, 65, 66, 67, 68, 73, 74, 75, 76, 77, 78, 79, 80, 81, 82, 83, 84, 85, 86, 87, 88, 89, 90, 91, 92, 93, 94, 95, 96, 97] (by decide +kernel) (by decide +kernel)
set_option maxRecDepth 20000 in
theorem gX7_densityBits_X7_densityOf : GoodIn wsX7_densityBits (wsV RX7 186 RX7 yX7_densityOf wsX7_densityOf) := goodIn_app (goodIn_of _ (by decide +kernel)) ggX7_densityBits_X7_densityOf
set_option maxRecDepth 20000 in
theorem ggX7_densityBits_X7_bitsOfFloat : GoodIn wsX7_densityBits wsX7_bitsOfFloat := goodIn_r _ [71, 72] (by decide +kernel) (by decide +kernel)
set_option maxRecDepth 20000 in
theorem gX7_densityBits_X7_bitsOfFloat : GoodIn wsX7_densityBits (va_wsS RX7 190 yX7_bitsOfFloat wsX7_bitsOfFloat) := goodIn_app (goodIn_of _ (by decide +kernel)) ggX7_densityBits_X7_bitsOfFloat
theorem dX7_densityBits_0 : decode cX7_densityBits 0 = .ok (.aload_n 0, 1) := by decide +kernel
theorem dX7_densityBits_1 : decode cX7_densityBits 1 = .ok (.getfield 12, 3) := by decide +kernel
theorem dX7_densityBits_4 : decode cX7_densityBits 4 = .ok (.iload_n 1, 1) := by decide +kernel
theorem dX7_densityBits_5 : decode cX7_densityBits 5 = .ok (.invokevirtual 83, 3) := by decide +kernel
theorem dX7_densityBits_8 : decode cX7_densityBits 8 = .ok (.astore_n 2, 1) := by decide +kernel
theorem dX7_densityBits_9 : decode cX7_densityBits 9 = .ok (.aload_n 2, 1) := by decide +kernel
theorem dX7_densityBits_10 : decode cX7_densityBits 10 = .ok (.ifnonnull 5, 3) := by decide +kernel
theorem dX7_densityBits_13 : decode cX7_densityBits 13 = .ok (.iconst (-1), 1) := by decide +kernel
theorem dX7_densityBits_14 : decode cX7_densityBits 14 = .ok (.ireturn, 1) := by decide +kernel
theorem dX7_densityBits_15 : decode cX7_densityBits 15 = .ok (.aload_n 0, 1) := by decide +kernel
theorem dX7_densityBits_16 : decode cX7_densityBits 16 = .ok (.aload_n 2, 1) := by decide +kernel
theorem dX7_densityBits_17 : decode cX7_densityBits 17 = .ok (.invokevirtual 186, 3) := by decide +kernel
theorem dX7_densityBits_20 : decode cX7_densityBits 20 = .ok (.d2f, 1) := by decide +kernel
theorem dX7_densityBits_21 : decode cX7_densityBits 21 = .ok (.invokestatic 190, 3) := by decide +kernel
theorem dX7_densityBits_24 : decode cX7_densityBits 24 = .ok (.ireturn, 1) := by decide +kernel
set_option maxRecDepth 20000 in
theorem ggX7_count_X7_countAllEnds : GoodIn wsX7_count wsX7_countAllEnds := goodIn_r _ [8, 1, 9, 10, 11, 12, 13, 14, 15, 16, 17, 18, 19, 20, 21, 22, 23, 24, 25, 26, 27, 28, 29, 30, 31, 32, 33, 34, 35, 36, 37, 38, 39, 40, 41, 42, 43, 44, 45, 46, 47, 48, 49, 50, 51, 52, 53, 54, 55, 56, 57, 58, 59, 60, 61, 89, 90, 91, 92, 93, 94, 95, 96, 106, 107, 108, 109, 110, 111, 112, 113, 97, 98, 99, 100, 101, 114, 115, 116, 117] (by decide +kernel) (by decide +kernel)
set_option maxRecDepth 20000 in
theorem gX7_count_X7_countAllEnds : GoodIn wsX7_count (wsV RX7 194 RX7 yX7_countAllEnds wsX7_countAllEnds) := goodIn_app (goodIn_of _ (by decide +kernel)) ggX7_count_X7_countAllEnds
set_option maxRecDepth 20000 in
theorem ggX7_count_X7_countPlacesWithEnds : GoodIn wsX7_count wsX7_countPlacesWithEnds := goodIn_r _ [65, 9, 1, 66, 67, 68, 20, 69, 70, 10, 11, 12, 13, 14, 15, 16, 17, 18, 19, 21, 22, 23, 24, 25, 26, 27, 28, 29, 30, 31, 32, 33, 34, 35, 36, 37, 38, 39, 40, 41, 42, 43, 44, 45, 46, 47, 48, 49, 50, 51, 52, 53, 54, 55, 56, 57, 58, 59, 60, 61, 71, 72, 73, 74, 75, 76, 77, 78, 79, 80, 81, 82, 83, 89, 90, 91, 92, 93, 94, 95, 96, 106, 107, 108, 109, 110, 111, 112, 113, 97, 98, 99, 100, 101, 114, 115, 116, 117] (by decide +kernel) (by decide +kernel)
set_option maxRecDepth 20000 in
theorem gX7_count_X7_countPlacesWithEnds : GoodIn wsX7_count (wsV RX7 197 RX7 yX7_countPlacesWithEnds wsX7_countPlacesWithEnds) := goodIn_app (goodIn_of _ (by decide +kernel)) ggX7_count_X7_countPlacesWithEnds
set_option maxRecDepth 20000 in
theorem ggX7_count_X5_countBlanks : GoodIn wsX7_count wsX5_countBlanks := goodIn_r _ [87, 88, 61, 47, 48, 13, 49, 50, 97, 98, 99, 100, 101] (by decide +kernel) (by decide +kernel)
set_option maxRecDepth 20000 in
theorem gX7_count_X5_countBlanks : GoodIn wsX7_count (wsV RX7 200 RX5 yX5_countBlanks wsX5_countBlanks) := goodIn_app (goodIn_of _ (by decide +kernel)) ggX7_count_X5_countBlanks
theorem dX7_count_0 : decode cX7_count 0 = .ok (.iload_n 1, 1) := by decide +kernel
theorem dX7_count_1 : decode cX7_count 1 = .ok (.tableswitch 105 0 7 #[47, 55, 63, 71, 76, 81, 89, 97], 47) := by decide +kernel
theorem dX7_count_48 : decode cX7_count 48 = .ok (.aload_n 0, 1) := by decide +kernel
theorem dX7_count_49 : decode cX7_count 49 = .ok (.getfield 12, 3) := by decide +kernel
theorem dX7_count_52 : decode cX7_count 52 = .ok (.getfield 62, 3) := by decide +kernel
theorem dX7_count_55 : decode cX7_count 55 = .ok (.ireturn, 1) := by decide +kernel
theorem dX7_count_56 : decode cX7_count 56 = .ok (.aload_n 0, 1) := by decide +kernel
theorem dX7_count_57 : decode cX7_count 57 = .ok (.getfield 12, 3) := by decide +kernel
theorem dX7_count_60 : decode cX7_count 60 = .ok (.getfield 109, 3) := by decide +kernel
theorem dX7_count_63 : decode cX7_count 63 = .ok (.ireturn, 1) := by decide +kernel
theorem dX7_count_64 : decode cX7_count 64 = .ok (.aload_n 0, 1) := by decide +kernel
theorem dX7_count_65 : decode cX7_count 65 = .ok (.getfield 12, 3) := by decide +kernel
theorem dX7_count_68 : decode cX7_count 68 = .ok (.getfield 124, 3) := by decide +kernel
theorem dX7_count_71 : decode cX7_count 71 = .ok (.ireturn, 1) := by decide +kernel
theorem dX7_count_72 : decode cX7_count 72 = .ok (.aload_n 0, 1) := by decide +kernel
theorem dX7_count_73 : decode cX7_count 73 = .ok (.invokevirtual 194, 3) := by decide +kernel
theorem dX7_count_76 : decode cX7_count 76 = .ok (.ireturn, 1) := by decide +kernel
theorem dX7_count_77 : decode cX7_count 77 = .ok (.aload_n 0, 1) := by decide +kernel
theorem dX7_count_78 : decode cX7_count 78 = .ok (.invokevirtual 197, 3) := by decide +kernel
theorem dX7_count_81 : decode cX7_count 81 = .ok (.ireturn, 1) := by decide +kernel
theorem dX7_count_82 : decode cX7_count 82 = .ok (.aload_n 0, 1) := by decide +kernel
theorem dX7_count_83 : decode cX7_count 83 = .ok (.getfield 12, 3) := by decide +kernel
theorem dX7_count_86 : decode cX7_count 86 = .ok (.invokevirtual 200, 3) := by decide +kernel
theorem dX7_count_89 : decode cX7_count 89 = .ok (.ireturn, 1) := by decide +kernel
theorem dX7_count_90 : decode cX7_count 90 = .ok (.aload_n 0, 1) := by decide +kernel
theorem dX7_count_91 : decode cX7_count 91 = .ok (.getfield 26, 3) := by decide +kernel
theorem dX7_count_94 : decode cX7_count 94 = .ok (.getfield 128, 3) := by decide +kernel
theorem dX7_count_97 : decode cX7_count 97 = .ok (.ireturn, 1) := by decide +kernel
theorem dX7_count_98 : decode cX7_count 98 = .ok (.aload_n 0, 1) := by decide +kernel
theorem dX7_count_99 : decode cX7_count 99 = .ok (.getfield 33, 3) := by decide +kernel
theorem dX7_count_102 : decode cX7_count 102 = .ok (.getfield 78, 3) := by decide +kernel
theorem dX7_count_105 : decode cX7_count 105 = .ok (.ireturn, 1) := by decide +kernel
theorem dX7_count_106 : decode cX7_count 106 = .ok (.bipush (-2), 2) := by decide +kernel
theorem dX7_count_108 : decode cX7_count 108 = .ok (.ireturn, 1) := by decide +kernel
set_option maxRecDepth 20000 in
theorem ggX7_densityOf_X4_findEnds : GoodIn wsX7_densityOf wsX4_findEnds := goodIn_r _ [7, 8, 9, 10, 11, 6, 12, 13, 14, 15, 16, 17, 18, 19, 20, 21, 22, 23, 24, 25, 26, 27, 28, 29, 30, 31, 32, 33, 34, 35, 36, 37, 38, 39, 40, 41, 42, 43, 44, 45, 46, 47, 48, 71, 72, 73, 74, 75, 76, 77, 78, 66, 67, 68, 69, 70, 79, 80, 81, 82] (by decide +kernel) (by decide +kernel)
set_option maxRecDepth 20000 in
theorem gX7_densityOf_X4_findEnds : GoodIn wsX7_densityOf (wsV RX7 146 RX4 yX4_findEnds wsX4_findEnds) := goodIn_app (goodIn_of _ (by decide +kernel)) ggX7_densityOf_X4_findEnds
set_option maxRecDepth 20000 in
theorem ggX7_densityOf_X4_sumOfShares : GoodIn wsX7_densityOf wsX4_sumOfShares := goodIn_r _ [52, 8, 53, 54, 55, 6, 56, 23, 22, 57, 71, 72, 73, 74, 75, 76, 77, 78] (by decide +kernel) (by decide +kernel)
set_option maxRecDepth 20000 in
theorem gX7_densityOf_X4_sumOfShares : GoodIn wsX7_densityOf (wsV RX7 203 RX4 yX4_sumOfShares wsX4_sumOfShares) := goodIn_app (goodIn_of _ (by decide +kernel)) ggX7_densityOf_X4_sumOfShares
theorem dX7_densityOf_0 : decode cX7_densityOf 0 = .ok (.aload_n 0, 1) := by decide +kernel
theorem dX7_densityOf_1 : decode cX7_densityOf 1 = .ok (.getfield 47, 3) := by decide +kernel
theorem dX7_densityOf_4 : decode cX7_densityOf 4 = .ok (.aload_n 0, 1) := by decide +kernel
theorem dX7_densityOf_5 : decode cX7_densityOf 5 = .ok (.getfield 12, 3) := by decide +kernel
theorem dX7_densityOf_8 : decode cX7_densityOf 8 = .ok (.aload_n 1, 1) := by decide +kernel
theorem dX7_densityOf_9 : decode cX7_densityOf 9 = .ok (.invokevirtual 146, 3) := by decide +kernel
theorem dX7_densityOf_12 : decode cX7_densityOf 12 = .ok (.aload_n 0, 1) := by decide +kernel
theorem dX7_densityOf_13 : decode cX7_densityOf 13 = .ok (.getfield 12, 3) := by decide +kernel
theorem dX7_densityOf_16 : decode cX7_densityOf 16 = .ok (.getfield 62, 3) := by decide +kernel
theorem dX7_densityOf_19 : decode cX7_densityOf 19 = .ok (.iconst 1, 1) := by decide +kernel
theorem dX7_densityOf_20 : decode cX7_densityOf 20 = .ok (.iadd, 1) := by decide +kernel
theorem dX7_densityOf_21 : decode cX7_densityOf 21 = .ok (.istore_n 2, 1) := by decide +kernel
theorem dX7_densityOf_22 : decode cX7_densityOf 22 = .ok (.iload_n 2, 1) := by decide +kernel
theorem dX7_densityOf_23 : decode cX7_densityOf 23 = .ok (.ifCond .le 16, 3) := by decide +kernel
theorem dX7_densityOf_26 : decode cX7_densityOf 26 = .ok (.aload_n 0, 1) := by decide +kernel
theorem dX7_densityOf_27 : decode cX7_densityOf 27 = .ok (.getfield 47, 3) := by decide +kernel
theorem dX7_densityOf_30 : decode cX7_densityOf 30 = .ok (.invokevirtual 203, 3) := by decide +kernel
theorem dX7_densityOf_33 : decode cX7_densityOf 33 = .ok (.iload_n 2, 1) := by decide +kernel
theorem dX7_densityOf_34 : decode cX7_densityOf 34 = .ok (.i2d, 1) := by decide +kernel
theorem dX7_densityOf_35 : decode cX7_densityOf 35 = .ok (.ddiv, 1) := by decide +kernel
theorem dX7_densityOf_36 : decode cX7_densityOf 36 = .ok (.goto 4, 3) := by decide +kernel
theorem dX7_densityOf_39 : decode cX7_densityOf 39 = .ok (.dconst 0, 1) := by decide +kernel
theorem dX7_densityOf_40 : decode cX7_densityOf 40 = .ok (.dreturn, 1) := by decide +kernel
set_option maxRecDepth 20000 in
theorem ggX7_countAllEnds_X5_patternOrNull : GoodIn wsX7_countAllEnds wsX5_patternOrNull := goodIn_r _ [7, 8, 9, 71, 72, 73, 74, 75] (by decide +kernel) (by decide +kernel)
set_option maxRecDepth 20000 in
theorem gX7_countAllEnds_X5_patternOrNull : GoodIn wsX7_countAllEnds (wsV RX7 83 RX5 yX5_patternOrNull wsX5_patternOrNull) := goodIn_app (goodIn_of _ (by decide +kernel)) ggX7_countAllEnds_X5_patternOrNull
set_option maxRecDepth 20000 in
theorem ggX7_countAllEnds_X4_findEnds : GoodIn wsX7_countAllEnds wsX4_findEnds := goodIn_r _ [14, 15, 16, 17, 18, 13, 19, 20, 21, 22, 23, 24, 25, 26, 27, 28, 29, 30, 31, 32, 33, 34, 35, 36, 37, 38, 39, 40, 41, 6, 42, 43, 44, 45, 46, 47, 48, 49, 50, 51, 52, 53, 54, 63, 64, 65, 66, 67, 68, 69, 70, 71, 72, 73, 74, 75, 76, 77, 78, 79] (by decide +kernel) (by decide +kernel)
set_option maxRecDepth 20000 in
theorem gX7_countAllEnds_X4_findEnds : GoodIn wsX7_countAllEnds (wsV RX7 146 RX4 yX4_findEnds wsX4_findEnds) := goodIn_app (goodIn_of _ (by decide +kernel)) ggX7_countAllEnds_X4_findEnds
theorem dX7_countAllEnds_0 : decode cX7_countAllEnds 0 = .ok (.iconst 0, 1) := by decide +kernel
theorem dX7_countAllEnds_1 : decode cX7_countAllEnds 1 = .ok (.istore_n 1, 1) := by decide +kernel
theorem dX7_countAllEnds_2 : decode cX7_countAllEnds 2 = .ok (.iconst 0, 1) := by decide +kernel
theorem dX7_countAllEnds_3 : decode cX7_countAllEnds 3 = .ok (.istore_n 2, 1) := by decide +kernel
theorem dX7_countAllEnds_4 : decode cX7_countAllEnds 4 = .ok (.iload_n 2, 1) := by decide +kernel
theorem dX7_countAllEnds_5 : decode cX7_countAllEnds 5 = .ok (.bipush 6, 2) := by decide +kernel
theorem dX7_countAllEnds_7 : decode cX7_countAllEnds 7 = .ok (.if_icmp .ge 44, 3) := by decide +kernel
theorem dX7_countAllEnds_10 : decode cX7_countAllEnds 10 = .ok (.aload_n 0, 1) := by decide +kernel
theorem dX7_countAllEnds_11 : decode cX7_countAllEnds 11 = .ok (.getfield 12, 3) := by decide +kernel
theorem dX7_countAllEnds_14 : decode cX7_countAllEnds 14 = .ok (.iload_n 2, 1) := by decide +kernel
theorem dX7_countAllEnds_15 : decode cX7_countAllEnds 15 = .ok (.invokevirtual 83, 3) := by decide +kernel
theorem dX7_countAllEnds_18 : decode cX7_countAllEnds 18 = .ok (.astore_n 3, 1) := by decide +kernel
theorem dX7_countAllEnds_19 : decode cX7_countAllEnds 19 = .ok (.aload_n 3, 1) := by decide +kernel
theorem dX7_countAllEnds_20 : decode cX7_countAllEnds 20 = .ok (.ifnull 25, 3) := by decide +kernel
theorem dX7_countAllEnds_23 : decode cX7_countAllEnds 23 = .ok (.aload_n 0, 1) := by decide +kernel
theorem dX7_countAllEnds_24 : decode cX7_countAllEnds 24 = .ok (.getfield 47, 3) := by decide +kernel
theorem dX7_countAllEnds_27 : decode cX7_countAllEnds 27 = .ok (.aload_n 0, 1) := by decide +kernel
theorem dX7_countAllEnds_28 : decode cX7_countAllEnds 28 = .ok (.getfield 12, 3) := by decide +kernel
theorem dX7_countAllEnds_31 : decode cX7_countAllEnds 31 = .ok (.aload_n 3, 1) := by decide +kernel
theorem dX7_countAllEnds_32 : decode cX7_countAllEnds 32 = .ok (.invokevirtual 146, 3) := by decide +kernel
theorem dX7_countAllEnds_35 : decode cX7_countAllEnds 35 = .ok (.iload_n 1, 1) := by decide +kernel
theorem dX7_countAllEnds_36 : decode cX7_countAllEnds 36 = .ok (.aload_n 0, 1) := by decide +kernel
theorem dX7_countAllEnds_37 : decode cX7_countAllEnds 37 = .ok (.getfield 47, 3) := by decide +kernel
theorem dX7_countAllEnds_40 : decode cX7_countAllEnds 40 = .ok (.getfield 94, 3) := by decide +kernel
theorem dX7_countAllEnds_43 : decode cX7_countAllEnds 43 = .ok (.iadd, 1) := by decide +kernel
theorem dX7_countAllEnds_44 : decode cX7_countAllEnds 44 = .ok (.istore_n 1, 1) := by decide +kernel
theorem dX7_countAllEnds_45 : decode cX7_countAllEnds 45 = .ok (.iinc 2 1, 3) := by decide +kernel
theorem dX7_countAllEnds_48 : decode cX7_countAllEnds 48 = .ok (.goto (-44), 3) := by decide +kernel
theorem dX7_countAllEnds_51 : decode cX7_countAllEnds 51 = .ok (.iload_n 1, 1) := by decide +kernel
theorem dX7_countAllEnds_52 : decode cX7_countAllEnds 52 = .ok (.ireturn, 1) := by decide +kernel
set_option maxRecDepth 20000 in
theorem ggX7_countPlacesWithEnds_X4_clearMarks : GoodIn wsX7_countPlacesWithEnds wsX4_clearMarks := goodIn_r _ [7, 8, 81, 82, 83, 84, 85, 86, 87, 88] (by decide +kernel) (by decide +kernel)
set_option maxRecDepth 20000 in
theorem gX7_countPlacesWithEnds_X4_clearMarks : GoodIn wsX7_countPlacesWithEnds (wsV RX7 207 RX4 yX4_clearMarks wsX4_clearMarks) := goodIn_app (goodIn_of _ (by decide +kernel)) ggX7_countPlacesWithEnds_X4_clearMarks
set_option maxRecDepth 20000 in
theorem ggX7_countPlacesWithEnds_X5_patternOrNull : GoodIn wsX7_countPlacesWithEnds wsX5_patternOrNull := goodIn_r _ [13, 14, 15, 89, 90, 91, 92, 93] (by decide +kernel) (by decide +kernel)
set_option maxRecDepth 20000 in
theorem gX7_countPlacesWithEnds_X5_patternOrNull : GoodIn wsX7_countPlacesWithEnds (wsV RX7 83 RX5 yX5_patternOrNull wsX5_patternOrNull) := goodIn_app (goodIn_of _ (by decide +kernel)) ggX7_countPlacesWithEnds_X5_patternOrNull
set_option maxRecDepth 20000 in
theorem ggX7_countPlacesWithEnds_X4_findEnds : GoodIn wsX7_countPlacesWithEnds wsX4_findEnds := goodIn_r _ [19, 20, 21, 22, 23, 6, 24, 25, 26, 27, 28, 29, 30, 31, 32, 33, 34, 35, 36, 37, 38, 39, 40, 41, 42, 43, 44, 45, 46, 12, 47, 48, 49, 50, 51, 52, 53, 54, 55, 56, 57, 58, 59, 81, 82, 83, 84, 85, 86, 87, 88, 89, 90, 91, 92, 93, 94, 95, 96, 97] (by decide +kernel) (by decide +kernel)
set_option maxRecDepth 20000 in
theorem gX7_countPlacesWithEnds_X4_findEnds : GoodIn wsX7_countPlacesWithEnds (wsV RX7 146 RX4 yX4_findEnds wsX4_findEnds) := goodIn_app (goodIn_of _ (by decide +kernel)) ggX7_countPlacesWithEnds_X4_findEnds
set_option maxRecDepth 20000 in
theorem ggX7_countPlacesWithEnds_X4_markEnds : GoodIn wsX7_countPlacesWithEnds wsX4_markEnds := goodIn_r _ [63, 20, 8, 64, 65, 66, 6, 67, 35, 34, 68, 81, 82, 83, 84, 85, 86, 87, 88] (by decide +kernel) (by decide +kernel)
set_option maxRecDepth 20000 in
theorem gX7_countPlacesWithEnds_X4_markEnds : GoodIn wsX7_countPlacesWithEnds (wsV RX7 210 RX4 yX4_markEnds wsX4_markEnds) := goodIn_app (goodIn_of _ (by decide +kernel)) ggX7_countPlacesWithEnds_X4_markEnds
set_option maxRecDepth 20000 in
theorem ggX7_countPlacesWithEnds_X4_countMarks : GoodIn wsX7_countPlacesWithEnds wsX4_countMarks := goodIn_r _ [72, 8, 81, 82, 83, 84, 85, 86, 87, 88] (by decide +kernel) (by decide +kernel)
set_option maxRecDepth 20000 in
theorem gX7_countPlacesWithEnds_X4_countMarks : GoodIn wsX7_countPlacesWithEnds (wsV RX7 213 RX4 yX4_countMarks wsX4_countMarks) := goodIn_app (goodIn_of _ (by decide +kernel)) ggX7_countPlacesWithEnds_X4_countMarks
theorem dX7_countPlacesWithEnds_0 : decode cX7_countPlacesWithEnds 0 = .ok (.aload_n 0, 1) := by decide +kernel
theorem dX7_countPlacesWithEnds_1 : decode cX7_countPlacesWithEnds 1 = .ok (.getfield 47, 3) := by decide +kernel
theorem dX7_countPlacesWithEnds_4 : decode cX7_countPlacesWithEnds 4 = .ok (.invokevirtual 207, 3) := by decide +kernel
theorem dX7_countPlacesWithEnds_7 : decode cX7_countPlacesWithEnds 7 = .ok (.iconst 0, 1) := by decide +kernel
theorem dX7_countPlacesWithEnds_8 : decode cX7_countPlacesWithEnds 8 = .ok (.istore_n 1, 1) := by decide +kernel
theorem dX7_countPlacesWithEnds_9 : decode cX7_countPlacesWithEnds 9 = .ok (.iload_n 1, 1) := by decide +kernel
theorem dX7_countPlacesWithEnds_10 : decode cX7_countPlacesWithEnds 10 = .ok (.bipush 6, 2) := by decide +kernel
theorem dX7_countPlacesWithEnds_12 : decode cX7_countPlacesWithEnds 12 = .ok (.if_icmp .ge 41, 3) := by decide +kernel
theorem dX7_countPlacesWithEnds_15 : decode cX7_countPlacesWithEnds 15 = .ok (.aload_n 0, 1) := by decide +kernel
theorem dX7_countPlacesWithEnds_16 : decode cX7_countPlacesWithEnds 16 = .ok (.getfield 12, 3) := by decide +kernel
theorem dX7_countPlacesWithEnds_19 : decode cX7_countPlacesWithEnds 19 = .ok (.iload_n 1, 1) := by decide +kernel
theorem dX7_countPlacesWithEnds_20 : decode cX7_countPlacesWithEnds 20 = .ok (.invokevirtual 83, 3) := by decide +kernel
theorem dX7_countPlacesWithEnds_23 : decode cX7_countPlacesWithEnds 23 = .ok (.astore_n 2, 1) := by decide +kernel
theorem dX7_countPlacesWithEnds_24 : decode cX7_countPlacesWithEnds 24 = .ok (.aload_n 2, 1) := by decide +kernel
theorem dX7_countPlacesWithEnds_25 : decode cX7_countPlacesWithEnds 25 = .ok (.ifnull 22, 3) := by decide +kernel
theorem dX7_countPlacesWithEnds_28 : decode cX7_countPlacesWithEnds 28 = .ok (.aload_n 0, 1) := by decide +kernel
theorem dX7_countPlacesWithEnds_29 : decode cX7_countPlacesWithEnds 29 = .ok (.getfield 47, 3) := by decide +kernel
theorem dX7_countPlacesWithEnds_32 : decode cX7_countPlacesWithEnds 32 = .ok (.aload_n 0, 1) := by decide +kernel
theorem dX7_countPlacesWithEnds_33 : decode cX7_countPlacesWithEnds 33 = .ok (.getfield 12, 3) := by decide +kernel
theorem dX7_countPlacesWithEnds_36 : decode cX7_countPlacesWithEnds 36 = .ok (.aload_n 2, 1) := by decide +kernel
theorem dX7_countPlacesWithEnds_37 : decode cX7_countPlacesWithEnds 37 = .ok (.invokevirtual 146, 3) := by decide +kernel
theorem dX7_countPlacesWithEnds_40 : decode cX7_countPlacesWithEnds 40 = .ok (.aload_n 0, 1) := by decide +kernel
theorem dX7_countPlacesWithEnds_41 : decode cX7_countPlacesWithEnds 41 = .ok (.getfield 47, 3) := by decide +kernel
theorem dX7_countPlacesWithEnds_44 : decode cX7_countPlacesWithEnds 44 = .ok (.invokevirtual 210, 3) := by decide +kernel
theorem dX7_countPlacesWithEnds_47 : decode cX7_countPlacesWithEnds 47 = .ok (.iinc 1 1, 3) := by decide +kernel
theorem dX7_countPlacesWithEnds_50 : decode cX7_countPlacesWithEnds 50 = .ok (.goto (-41), 3) := by decide +kernel
theorem dX7_countPlacesWithEnds_53 : decode cX7_countPlacesWithEnds 53 = .ok (.aload_n 0, 1) := by decide +kernel
theorem dX7_countPlacesWithEnds_54 : decode cX7_countPlacesWithEnds 54 = .ok (.getfield 47, 3) := by decide +kernel
theorem dX7_countPlacesWithEnds_57 : decode cX7_countPlacesWithEnds 57 = .ok (.invokevirtual 213, 3) := by decide +kernel
theorem dX7_countPlacesWithEnds_60 : decode cX7_countPlacesWithEnds 60 = .ok (.ireturn, 1) := by decide +kernel
theorem dX7_isLetter_0 : decode cX7_isLetter 0 = .ok (.iload_n 0, 1) := by decide +kernel
theorem dX7_isLetter_1 : decode cX7_isLetter 1 = .ok (.bipush 97, 2) := by decide +kernel
theorem dX7_isLetter_3 : decode cX7_isLetter 3 = .ok (.if_icmp .lt 13, 3) := by decide +kernel
theorem dX7_isLetter_6 : decode cX7_isLetter 6 = .ok (.iload_n 0, 1) := by decide +kernel
theorem dX7_isLetter_7 : decode cX7_isLetter 7 = .ok (.bipush 122, 2) := by decide +kernel
theorem dX7_isLetter_9 : decode cX7_isLetter 9 = .ok (.if_icmp .gt 7, 3) := by decide +kernel
theorem dX7_isLetter_12 : decode cX7_isLetter 12 = .ok (.iconst 1, 1) := by decide +kernel
theorem dX7_isLetter_13 : decode cX7_isLetter 13 = .ok (.goto 4, 3) := by decide +kernel
theorem dX7_isLetter_16 : decode cX7_isLetter 16 = .ok (.iconst 0, 1) := by decide +kernel
theorem dX7_isLetter_17 : decode cX7_isLetter 17 = .ok (.ireturn, 1) := by decide +kernel
set_option maxRecDepth 20000 in
theorem ggX7_isSign_X7_isLetter : GoodIn wsX7_isSign wsX7_isLetter := goodIn_r _ [4] (by decide +kernel) (by decide +kernel)
set_option maxRecDepth 20000 in
theorem gX7_isSign_X7_isLetter : GoodIn wsX7_isSign (va_wsS RX7 87 yX7_isLetter wsX7_isLetter) := goodIn_app (goodIn_of _ (by decide +kernel)) ggX7_isSign_X7_isLetter
theorem dX7_isSign_0 : decode cX7_isSign 0 = .ok (.iload_n 0, 1) := by decide +kernel
theorem dX7_isSign_1 : decode cX7_isSign 1 = .ok (.invokestatic 87, 3) := by decide +kernel
theorem dX7_isSign_4 : decode cX7_isSign 4 = .ok (.ifCond .ne 9, 3) := by decide +kernel
theorem dX7_isSign_7 : decode cX7_isSign 7 = .ok (.iload_n 0, 1) := by decide +kernel
theorem dX7_isSign_8 : decode cX7_isSign 8 = .ok (.bipush 32, 2) := by decide +kernel
theorem dX7_isSign_10 : decode cX7_isSign 10 = .ok (.if_icmp .ne 7, 3) := by decide +kernel
theorem dX7_isSign_13 : decode cX7_isSign 13 = .ok (.iconst 1, 1) := by decide +kernel
theorem dX7_isSign_14 : decode cX7_isSign 14 = .ok (.goto 4, 3) := by decide +kernel
theorem dX7_isSign_17 : decode cX7_isSign 17 = .ok (.iconst 0, 1) := by decide +kernel
theorem dX7_isSign_18 : decode cX7_isSign 18 = .ok (.ireturn, 1) := by decide +kernel
theorem dX7_bitsOfFloat_0 : decode cX7_bitsOfFloat 0 = .ok (.fload_n 0, 1) := by decide +kernel
theorem dX7_bitsOfFloat_1 : decode cX7_bitsOfFloat 1 = .ok (.fconst 0, 1) := by decide +kernel
theorem dX7_bitsOfFloat_2 : decode cX7_bitsOfFloat 2 = .ok (.fcmp .g, 1) := by decide +kernel
theorem dX7_bitsOfFloat_3 : decode cX7_bitsOfFloat 3 = .ok (.ifCond .gt 5, 3) := by decide +kernel
theorem dX7_bitsOfFloat_6 : decode cX7_bitsOfFloat 6 = .ok (.iconst 0, 1) := by decide +kernel
theorem dX7_bitsOfFloat_7 : decode cX7_bitsOfFloat 7 = .ok (.ireturn, 1) := by decide +kernel
theorem dX7_bitsOfFloat_8 : decode cX7_bitsOfFloat 8 = .ok (.fload_n 0, 1) := by decide +kernel
theorem dX7_bitsOfFloat_9 : decode cX7_bitsOfFloat 9 = .ok (.fstore_n 1, 1) := by decide +kernel
theorem dX7_bitsOfFloat_10 : decode cX7_bitsOfFloat 10 = .ok (.bipush 127, 2) := by decide +kernel
theorem dX7_bitsOfFloat_12 : decode cX7_bitsOfFloat 12 = .ok (.istore_n 2, 1) := by decide +kernel
theorem dX7_bitsOfFloat_13 : decode cX7_bitsOfFloat 13 = .ok (.fload_n 1, 1) := by decide +kernel
theorem dX7_bitsOfFloat_14 : decode cX7_bitsOfFloat 14 = .ok (.fconst 1, 1) := by decide +kernel
theorem dX7_bitsOfFloat_15 : decode cX7_bitsOfFloat 15 = .ok (.fcmp .g, 1) := by decide +kernel
theorem dX7_bitsOfFloat_16 : decode cX7_bitsOfFloat 16 = .ok (.ifCond .ge 18, 3) := by decide +kernel
theorem dX7_bitsOfFloat_19 : decode cX7_bitsOfFloat 19 = .ok (.iload_n 2, 1) := by decide +kernel
theorem dX7_bitsOfFloat_20 : decode cX7_bitsOfFloat 20 = .ok (.iconst 1, 1) := by decide +kernel
theorem dX7_bitsOfFloat_21 : decode cX7_bitsOfFloat 21 = .ok (.if_icmp .le 13, 3) := by decide +kernel
theorem dX7_bitsOfFloat_24 : decode cX7_bitsOfFloat 24 = .ok (.fload_n 1, 1) := by decide +kernel
theorem dX7_bitsOfFloat_25 : decode cX7_bitsOfFloat 25 = .ok (.fconst 2, 1) := by decide +kernel
theorem dX7_bitsOfFloat_26 : decode cX7_bitsOfFloat 26 = .ok (.fmul, 1) := by decide +kernel
theorem dX7_bitsOfFloat_27 : decode cX7_bitsOfFloat 27 = .ok (.fstore_n 1, 1) := by decide +kernel
theorem dX7_bitsOfFloat_28 : decode cX7_bitsOfFloat 28 = .ok (.iinc 2 (-1), 3) := by decide +kernel
theorem dX7_bitsOfFloat_31 : decode cX7_bitsOfFloat 31 = .ok (.goto (-18), 3) := by decide +kernel
theorem dX7_bitsOfFloat_34 : decode cX7_bitsOfFloat 34 = .ok (.iload_n 2, 1) := by decide +kernel
theorem dX7_bitsOfFloat_35 : decode cX7_bitsOfFloat 35 = .ok (.bipush 23, 2) := by decide +kernel
theorem dX7_bitsOfFloat_37 : decode cX7_bitsOfFloat 37 = .ok (.ishl, 1) := by decide +kernel
theorem dX7_bitsOfFloat_38 : decode cX7_bitsOfFloat 38 = .ok (.fload_n 1, 1) := by decide +kernel
theorem dX7_bitsOfFloat_39 : decode cX7_bitsOfFloat 39 = .ok (.fconst 1, 1) := by decide +kernel
theorem dX7_bitsOfFloat_40 : decode cX7_bitsOfFloat 40 = .ok (.fsub, 1) := by decide +kernel
theorem dX7_bitsOfFloat_41 : decode cX7_bitsOfFloat 41 = .ok (.ldc 216, 2) := by decide +kernel
theorem dX7_bitsOfFloat_43 : decode cX7_bitsOfFloat 43 = .ok (.fmul, 1) := by decide +kernel
theorem dX7_bitsOfFloat_44 : decode cX7_bitsOfFloat 44 = .ok (.f2i, 1) := by decide +kernel
theorem dX7_bitsOfFloat_45 : decode cX7_bitsOfFloat 45 = .ok (.iadd, 1) := by decide +kernel
theorem dX7_bitsOfFloat_46 : decode cX7_bitsOfFloat 46 = .ok (.ireturn, 1) := by decide +kernel
theorem dX8_init_0 : decode cX8_init 0 = .ok (.aload_n 0, 1) := by decide +kernel
theorem dX8_init_1 : decode cX8_init 1 = .ok (.invokespecial 1, 3) := by decide +kernel
theorem dX8_init_4 : decode cX8_init 4 = .ok (.aload_n 0, 1) := by decide +kernel
theorem dX8_init_5 : decode cX8_init 5 = .ok (.sipush 496, 3) := by decide +kernel
theorem dX8_init_8 : decode cX8_init 8 = .ok (.newarray .int, 2) := by decide +kernel
theorem dX8_init_10 : decode cX8_init 10 = .ok (.putfield 7, 3) := by decide +kernel
theorem dX8_init_13 : decode cX8_init 13 = .ok (.aload_n 0, 1) := by decide +kernel
theorem dX8_init_14 : decode cX8_init 14 = .ok (.sipush 496, 3) := by decide +kernel
theorem dX8_init_17 : decode cX8_init 17 = .ok (.newarray .int, 2) := by decide +kernel
theorem dX8_init_19 : decode cX8_init 19 = .ok (.putfield 13, 3) := by decide +kernel
theorem dX8_init_22 : decode cX8_init 22 = .ok (.aload_n 0, 1) := by decide +kernel
theorem dX8_init_23 : decode cX8_init 23 = .ok (.sipush 1984, 3) := by decide +kernel
theorem dX8_init_26 : decode cX8_init 26 = .ok (.newarray .int, 2) := by decide +kernel
theorem dX8_init_28 : decode cX8_init 28 = .ok (.putfield 16, 3) := by decide +kernel
theorem dX8_init_31 : decode cX8_init 31 = .ok (.aload_n 0, 1) := by decide +kernel
theorem dX8_init_32 : decode cX8_init 32 = .ok (.sipush 496, 3) := by decide +kernel
theorem dX8_init_35 : decode cX8_init 35 = .ok (.newarray .int, 2) := by decide +kernel
theorem dX8_init_37 : decode cX8_init 37 = .ok (.putfield 19, 3) := by decide +kernel
theorem dX8_init_40 : decode cX8_init 40 = .ok (.aload_n 0, 1) := by decide +kernel
theorem dX8_init_41 : decode cX8_init 41 = .ok (.sipush 7381, 3) := by decide +kernel
theorem dX8_init_44 : decode cX8_init 44 = .ok (.newarray .int, 2) := by decide +kernel
theorem dX8_init_46 : decode cX8_init 46 = .ok (.putfield 22, 3) := by decide +kernel
theorem dX8_init_49 : decode cX8_init 49 = .ok (.aload_n 0, 1) := by decide +kernel
theorem dX8_init_50 : decode cX8_init 50 = .ok (.sipush 7381, 3) := by decide +kernel
theorem dX8_init_53 : decode cX8_init 53 = .ok (.newarray .int, 2) := by decide +kernel
theorem dX8_init_55 : decode cX8_init 55 = .ok (.putfield 25, 3) := by decide +kernel
theorem dX8_init_58 : decode cX8_init 58 = .ok (.aload_n 0, 1) := by decide +kernel
theorem dX8_init_59 : decode cX8_init 59 = .ok (.bipush 121, 2) := by decide +kernel
theorem dX8_init_61 : decode cX8_init 61 = .ok (.newarray .int, 2) := by decide +kernel
theorem dX8_init_63 : decode cX8_init 63 = .ok (.putfield 28, 3) := by decide +kernel
theorem dX8_init_66 : decode cX8_init 66 = .ok (.aload_n 0, 1) := by decide +kernel
theorem dX8_init_67 : decode cX8_init 67 = .ok (.bipush 60, 2) := by decide +kernel
theorem dX8_init_69 : decode cX8_init 69 = .ok (.newarray .int, 2) := by decide +kernel
theorem dX8_init_71 : decode cX8_init 71 = .ok (.putfield 31, 3) := by decide +kernel
theorem dX8_init_74 : decode cX8_init 74 = .ok (.aload_n 0, 1) := by decide +kernel
theorem dX8_init_75 : decode cX8_init 75 = .ok (.bipush 60, 2) := by decide +kernel
theorem dX8_init_77 : decode cX8_init 77 = .ok (.newarray .int, 2) := by decide +kernel
theorem dX8_init_79 : decode cX8_init 79 = .ok (.putfield 34, 3) := by decide +kernel
theorem dX8_init_82 : decode cX8_init 82 = .ok (.aload_n 0, 1) := by decide +kernel
theorem dX8_init_83 : decode cX8_init 83 = .ok (.sipush 7381, 3) := by decide +kernel
theorem dX8_init_86 : decode cX8_init 86 = .ok (.newarray .int, 2) := by decide +kernel
theorem dX8_init_88 : decode cX8_init 88 = .ok (.putfield 37, 3) := by decide +kernel
theorem dX8_init_91 : decode cX8_init 91 = .ok (.aload_n 0, 1) := by decide +kernel
theorem dX8_init_92 : decode cX8_init 92 = .ok (.bipush 121, 2) := by decide +kernel
theorem dX8_init_94 : decode cX8_init 94 = .ok (.newarray .int, 2) := by decide +kernel
theorem dX8_init_96 : decode cX8_init 96 = .ok (.putfield 40, 3) := by decide +kernel
theorem dX8_init_99 : decode cX8_init 99 = .ok (.aload_n 0, 1) := by decide +kernel
theorem dX8_init_100 : decode cX8_init 100 = .ok (.getfield 7, 3) := by decide +kernel
theorem dX8_init_103 : decode cX8_init 103 = .ok (.iconst 2, 1) := by decide +kernel
theorem dX8_init_104 : decode cX8_init 104 = .ok (.iconst 1, 1) := by decide +kernel
theorem dX8_init_105 : decode cX8_init 105 = .ok (.iastore, 1) := by decide +kernel
theorem dX8_init_106 : decode cX8_init 106 = .ok (.return_, 1) := by decide +kernel
theorem dX8_in_0 : decode cX8_in 0 = .ok (.lload_n 0, 1) := by decide +kernel
theorem dX8_in_1 : decode cX8_in 1 = .ok (.lload_n 2, 1) := by decide +kernel
theorem dX8_in_2 : decode cX8_in 2 = .ok (.lcmp, 1) := by decide +kernel
theorem dX8_in_3 : decode cX8_in 3 = .ok (.ifCond .lt 14, 3) := by decide +kernel
theorem dX8_in_6 : decode cX8_in 6 = .ok (.lload_n 0, 1) := by decide +kernel
theorem dX8_in_7 : decode cX8_in 7 = .ok (.lload 4, 2) := by decide +kernel
theorem dX8_in_9 : decode cX8_in 9 = .ok (.lcmp, 1) := by decide +kernel
theorem dX8_in_10 : decode cX8_in 10 = .ok (.ifCond .gt 7, 3) := by decide +kernel
theorem dX8_in_13 : decode cX8_in 13 = .ok (.iconst 1, 1) := by decide +kernel
theorem dX8_in_14 : decode cX8_in 14 = .ok (.goto 4, 3) := by decide +kernel
theorem dX8_in_17 : decode cX8_in 17 = .ok (.iconst 0, 1) := by decide +kernel
theorem dX8_in_18 : decode cX8_in 18 = .ok (.ireturn, 1) := by decide +kernel
theorem dX8_remember_0 : decode cX8_remember 0 = .ok (.iconst 0, 1) := by decide +kernel
theorem dX8_remember_1 : decode cX8_remember 1 = .ok (.istore_n 1, 1) := by decide +kernel
theorem dX8_remember_2 : decode cX8_remember 2 = .ok (.iload_n 1, 1) := by decide +kernel
theorem dX8_remember_3 : decode cX8_remember 3 = .ok (.sipush 496, 3) := by decide +kernel
theorem dX8_remember_6 : decode cX8_remember 6 = .ok (.if_icmp .ge 21, 3) := by decide +kernel
theorem dX8_remember_9 : decode cX8_remember 9 = .ok (.aload_n 0, 1) := by decide +kernel
theorem dX8_remember_10 : decode cX8_remember 10 = .ok (.getfield 13, 3) := by decide +kernel
theorem dX8_remember_13 : decode cX8_remember 13 = .ok (.iload_n 1, 1) := by decide +kernel
theorem dX8_remember_14 : decode cX8_remember 14 = .ok (.aload_n 0, 1) := by decide +kernel
theorem dX8_remember_15 : decode cX8_remember 15 = .ok (.getfield 7, 3) := by decide +kernel
theorem dX8_remember_18 : decode cX8_remember 18 = .ok (.iload_n 1, 1) := by decide +kernel
theorem dX8_remember_19 : decode cX8_remember 19 = .ok (.iaload, 1) := by decide +kernel
theorem dX8_remember_20 : decode cX8_remember 20 = .ok (.iastore, 1) := by decide +kernel
theorem dX8_remember_21 : decode cX8_remember 21 = .ok (.iinc 1 1, 3) := by decide +kernel
theorem dX8_remember_24 : decode cX8_remember 24 = .ok (.goto (-22), 3) := by decide +kernel
theorem dX8_remember_27 : decode cX8_remember 27 = .ok (.return_, 1) := by decide +kernel
theorem dX8_acted_0 : decode cX8_acted 0 = .ok (.aload_n 0, 1) := by decide +kernel
theorem dX8_acted_1 : decode cX8_acted 1 = .ok (.getfield 43, 3) := by decide +kernel
theorem dX8_acted_4 : decode cX8_acted 4 = .ok (.iconst 4, 1) := by decide +kernel
theorem dX8_acted_5 : decode cX8_acted 5 = .ok (.if_icmp .ne 44, 3) := by decide +kernel
theorem dX8_acted_8 : decode cX8_acted 8 = .ok (.iconst 0, 1) := by decide +kernel
theorem dX8_acted_9 : decode cX8_acted 9 = .ok (.istore_n 2, 1) := by decide +kernel
theorem dX8_acted_10 : decode cX8_acted 10 = .ok (.iload_n 2, 1) := by decide +kernel
theorem dX8_acted_11 : decode cX8_acted 11 = .ok (.sipush 1488, 3) := by decide +kernel
theorem dX8_acted_14 : decode cX8_acted 14 = .ok (.if_icmp .ge 25, 3) := by decide +kernel
theorem dX8_acted_17 : decode cX8_acted 17 = .ok (.aload_n 0, 1) := by decide +kernel
theorem dX8_acted_18 : decode cX8_acted 18 = .ok (.getfield 16, 3) := by decide +kernel
theorem dX8_acted_21 : decode cX8_acted 21 = .ok (.iload_n 2, 1) := by decide +kernel
theorem dX8_acted_22 : decode cX8_acted 22 = .ok (.aload_n 0, 1) := by decide +kernel
theorem dX8_acted_23 : decode cX8_acted 23 = .ok (.getfield 16, 3) := by decide +kernel
theorem dX8_acted_26 : decode cX8_acted 26 = .ok (.iload_n 2, 1) := by decide +kernel
theorem dX8_acted_27 : decode cX8_acted 27 = .ok (.sipush 496, 3) := by decide +kernel
theorem dX8_acted_30 : decode cX8_acted 30 = .ok (.iadd, 1) := by decide +kernel
theorem dX8_acted_31 : decode cX8_acted 31 = .ok (.iaload, 1) := by decide +kernel
theorem dX8_acted_32 : decode cX8_acted 32 = .ok (.iastore, 1) := by decide +kernel
theorem dX8_acted_33 : decode cX8_acted 33 = .ok (.iinc 2 1, 3) := by decide +kernel
theorem dX8_acted_36 : decode cX8_acted 36 = .ok (.goto (-26), 3) := by decide +kernel
theorem dX8_acted_39 : decode cX8_acted 39 = .ok (.aload_n 0, 1) := by decide +kernel
theorem dX8_acted_40 : decode cX8_acted 40 = .ok (.dup, 1) := by decide +kernel
theorem dX8_acted_41 : decode cX8_acted 41 = .ok (.getfield 43, 3) := by decide +kernel
theorem dX8_acted_44 : decode cX8_acted 44 = .ok (.iconst 1, 1) := by decide +kernel
theorem dX8_acted_45 : decode cX8_acted 45 = .ok (.isub, 1) := by decide +kernel
theorem dX8_acted_46 : decode cX8_acted 46 = .ok (.putfield 43, 3) := by decide +kernel
theorem dX8_acted_49 : decode cX8_acted 49 = .ok (.iconst 0, 1) := by decide +kernel
theorem dX8_acted_50 : decode cX8_acted 50 = .ok (.istore_n 2, 1) := by decide +kernel
theorem dX8_acted_51 : decode cX8_acted 51 = .ok (.iload_n 2, 1) := by decide +kernel
theorem dX8_acted_52 : decode cX8_acted 52 = .ok (.sipush 496, 3) := by decide +kernel
theorem dX8_acted_55 : decode cX8_acted 55 = .ok (.if_icmp .ge 30, 3) := by decide +kernel
theorem dX8_acted_58 : decode cX8_acted 58 = .ok (.aload_n 0, 1) := by decide +kernel
theorem dX8_acted_59 : decode cX8_acted 59 = .ok (.getfield 16, 3) := by decide +kernel
theorem dX8_acted_62 : decode cX8_acted 62 = .ok (.sipush 496, 3) := by decide +kernel
theorem dX8_acted_65 : decode cX8_acted 65 = .ok (.aload_n 0, 1) := by decide +kernel
theorem dX8_acted_66 : decode cX8_acted 66 = .ok (.getfield 43, 3) := by decide +kernel
theorem dX8_acted_69 : decode cX8_acted 69 = .ok (.imul, 1) := by decide +kernel
theorem dX8_acted_70 : decode cX8_acted 70 = .ok (.iload_n 2, 1) := by decide +kernel
theorem dX8_acted_71 : decode cX8_acted 71 = .ok (.iadd, 1) := by decide +kernel
theorem dX8_acted_72 : decode cX8_acted 72 = .ok (.aload_n 0, 1) := by decide +kernel
theorem dX8_acted_73 : decode cX8_acted 73 = .ok (.getfield 13, 3) := by decide +kernel
theorem dX8_acted_76 : decode cX8_acted 76 = .ok (.iload_n 2, 1) := by decide +kernel
theorem dX8_acted_77 : decode cX8_acted 77 = .ok (.iaload, 1) := by decide +kernel
theorem dX8_acted_78 : decode cX8_acted 78 = .ok (.iastore, 1) := by decide +kernel
theorem dX8_acted_79 : decode cX8_acted 79 = .ok (.iinc 2 1, 3) := by decide +kernel
theorem dX8_acted_82 : decode cX8_acted 82 = .ok (.goto (-31), 3) := by decide +kernel
theorem dX8_acted_85 : decode cX8_acted 85 = .ok (.aload_n 0, 1) := by decide +kernel
theorem dX8_acted_86 : decode cX8_acted 86 = .ok (.dup, 1) := by decide +kernel
theorem dX8_acted_87 : decode cX8_acted 87 = .ok (.getfield 43, 3) := by decide +kernel
theorem dX8_acted_90 : decode cX8_acted 90 = .ok (.iconst 1, 1) := by decide +kernel
theorem dX8_acted_91 : decode cX8_acted 91 = .ok (.iadd, 1) := by decide +kernel
theorem dX8_acted_92 : decode cX8_acted 92 = .ok (.putfield 43, 3) := by decide +kernel
theorem dX8_acted_95 : decode cX8_acted 95 = .ok (.iload_n 1, 1) := by decide +kernel
theorem dX8_acted_96 : decode cX8_acted 96 = .ok (.ireturn, 1) := by decide +kernel
set_option maxRecDepth 20000 in
theorem ggX8_isPattern_X8_in : GoodIn wsX8_isPattern wsX8_in := goodIn_r _ [5] (by decide +kernel) (by decide +kernel)
set_option maxRecDepth 20000 in
theorem gX8_isPattern_X8_in : GoodIn wsX8_isPattern (va_wsS RX8 47 yX8_in wsX8_in) := goodIn_app (goodIn_of _ (by decide +kernel)) ggX8_isPattern_X8_in
theorem dX8_isPattern_0 : decode cX8_isPattern 0 = .ok (.iload_n 1, 1) := by decide +kernel
theorem dX8_isPattern_1 : decode cX8_isPattern 1 = .ok (.i2l, 1) := by decide +kernel
theorem dX8_isPattern_2 : decode cX8_isPattern 2 = .ok (.lconst 0, 1) := by decide +kernel
theorem dX8_isPattern_3 : decode cX8_isPattern 3 = .ok (.aload_n 0, 1) := by decide +kernel
theorem dX8_isPattern_4 : decode cX8_isPattern 4 = .ok (.getfield 7, 3) := by decide +kernel
theorem dX8_isPattern_7 : decode cX8_isPattern 7 = .ok (.iconst 1, 1) := by decide +kernel
theorem dX8_isPattern_8 : decode cX8_isPattern 8 = .ok (.iaload, 1) := by decide +kernel
theorem dX8_isPattern_9 : decode cX8_isPattern 9 = .ok (.i2l, 1) := by decide +kernel
theorem dX8_isPattern_10 : decode cX8_isPattern 10 = .ok (.lconst 1, 1) := by decide +kernel
theorem dX8_isPattern_11 : decode cX8_isPattern 11 = .ok (.lsub, 1) := by decide +kernel
theorem dX8_isPattern_12 : decode cX8_isPattern 12 = .ok (.invokestatic 47, 3) := by decide +kernel
theorem dX8_isPattern_15 : decode cX8_isPattern 15 = .ok (.ireturn, 1) := by decide +kernel
theorem dX8_places_0 : decode cX8_places 0 = .ok (.aload_n 0, 1) := by decide +kernel
theorem dX8_places_1 : decode cX8_places 1 = .ok (.getfield 7, 3) := by decide +kernel
theorem dX8_places_4 : decode cX8_places 4 = .ok (.bipush 123, 2) := by decide +kernel
theorem dX8_places_6 : decode cX8_places 6 = .ok (.bipush 62, 2) := by decide +kernel
theorem dX8_places_8 : decode cX8_places 8 = .ok (.iload_n 1, 1) := by decide +kernel
theorem dX8_places_9 : decode cX8_places 9 = .ok (.imul, 1) := by decide +kernel
theorem dX8_places_10 : decode cX8_places 10 = .ok (.iadd, 1) := by decide +kernel
theorem dX8_places_11 : decode cX8_places 11 = .ok (.iaload, 1) := by decide +kernel
theorem dX8_places_12 : decode cX8_places 12 = .ok (.ireturn, 1) := by decide +kernel
theorem dX8_taking_0 : decode cX8_taking 0 = .ok (.aload_n 0, 1) := by decide +kernel
theorem dX8_taking_1 : decode cX8_taking 1 = .ok (.getfield 7, 3) := by decide +kernel
theorem dX8_taking_4 : decode cX8_taking 4 = .ok (.bipush 123, 2) := by decide +kernel
theorem dX8_taking_6 : decode cX8_taking 6 = .ok (.bipush 62, 2) := by decide +kernel
theorem dX8_taking_8 : decode cX8_taking 8 = .ok (.iload_n 1, 1) := by decide +kernel
theorem dX8_taking_9 : decode cX8_taking 9 = .ok (.imul, 1) := by decide +kernel
theorem dX8_taking_10 : decode cX8_taking 10 = .ok (.iadd, 1) := by decide +kernel
theorem dX8_taking_11 : decode cX8_taking 11 = .ok (.iconst 2, 1) := by decide +kernel
theorem dX8_taking_12 : decode cX8_taking 12 = .ok (.iadd, 1) := by decide +kernel
theorem dX8_taking_13 : decode cX8_taking 13 = .ok (.iload_n 2, 1) := by decide +kernel
theorem dX8_taking_14 : decode cX8_taking 14 = .ok (.iadd, 1) := by decide +kernel
theorem dX8_taking_15 : decode cX8_taking 15 = .ok (.iaload, 1) := by decide +kernel
theorem dX8_taking_16 : decode cX8_taking 16 = .ok (.ireturn, 1) := by decide +kernel
set_option maxRecDepth 20000 in
theorem ggX8_isTaken_X8_taking : GoodIn wsX8_isTaken wsX8_taking := goodIn_r _ [6, 1, 7, 8, 9, 10, 11, 12, 13, 14, 15, 16, 17, 18, 19, 20, 21, 22, 23, 24, 25, 26, 27] (by decide +kernel) (by decide +kernel)
set_option maxRecDepth 20000 in
theorem gX8_isTaken_X8_taking : GoodIn wsX8_isTaken (wsV RX8 51 RX8 yX8_taking wsX8_taking) := goodIn_app (goodIn_of _ (by decide +kernel)) ggX8_isTaken_X8_taking
theorem dX8_isTaken_0 : decode cX8_isTaken 0 = .ok (.aload_n 0, 1) := by decide +kernel
theorem dX8_isTaken_1 : decode cX8_isTaken 1 = .ok (.iload_n 1, 1) := by decide +kernel
theorem dX8_isTaken_2 : decode cX8_isTaken 2 = .ok (.iload_n 2, 1) := by decide +kernel
theorem dX8_isTaken_3 : decode cX8_isTaken 3 = .ok (.invokevirtual 51, 3) := by decide +kernel
theorem dX8_isTaken_6 : decode cX8_isTaken 6 = .ok (.aload_n 0, 1) := by decide +kernel
theorem dX8_isTaken_7 : decode cX8_isTaken 7 = .ok (.getfield 7, 3) := by decide +kernel
theorem dX8_isTaken_10 : decode cX8_isTaken 10 = .ok (.iconst 3, 1) := by decide +kernel
theorem dX8_isTaken_11 : decode cX8_isTaken 11 = .ok (.iload_n 3, 1) := by decide +kernel
theorem dX8_isTaken_12 : decode cX8_isTaken 12 = .ok (.iadd, 1) := by decide +kernel
theorem dX8_isTaken_13 : decode cX8_isTaken 13 = .ok (.iaload, 1) := by decide +kernel
theorem dX8_isTaken_14 : decode cX8_isTaken 14 = .ok (.ishr, 1) := by decide +kernel
theorem dX8_isTaken_15 : decode cX8_isTaken 15 = .ok (.iconst 1, 1) := by decide +kernel
theorem dX8_isTaken_16 : decode cX8_isTaken 16 = .ok (.iand, 1) := by decide +kernel
theorem dX8_isTaken_17 : decode cX8_isTaken 17 = .ok (.iconst 1, 1) := by decide +kernel
theorem dX8_isTaken_18 : decode cX8_isTaken 18 = .ok (.if_icmp .ne 7, 3) := by decide +kernel
theorem dX8_isTaken_21 : decode cX8_isTaken 21 = .ok (.iconst 1, 1) := by decide +kernel
theorem dX8_isTaken_22 : decode cX8_isTaken 22 = .ok (.goto 4, 3) := by decide +kernel
theorem dX8_isTaken_25 : decode cX8_isTaken 25 = .ok (.iconst 0, 1) := by decide +kernel
theorem dX8_isTaken_26 : decode cX8_isTaken 26 = .ok (.ireturn, 1) := by decide +kernel
theorem dX8_bits_0 : decode cX8_bits 0 = .ok (.iconst 0, 1) := by decide +kernel
theorem dX8_bits_1 : decode cX8_bits 1 = .ok (.istore_n 1, 1) := by decide +kernel
theorem dX8_bits_2 : decode cX8_bits 2 = .ok (.iload_n 0, 1) := by decide +kernel
theorem dX8_bits_3 : decode cX8_bits 3 = .ok (.istore_n 2, 1) := by decide +kernel
theorem dX8_bits_4 : decode cX8_bits 4 = .ok (.iload_n 2, 1) := by decide +kernel
theorem dX8_bits_5 : decode cX8_bits 5 = .ok (.ifCond .eq 15, 3) := by decide +kernel
theorem dX8_bits_8 : decode cX8_bits 8 = .ok (.iinc 1 1, 3) := by decide +kernel
theorem dX8_bits_11 : decode cX8_bits 11 = .ok (.iload_n 2, 1) := by decide +kernel
theorem dX8_bits_12 : decode cX8_bits 12 = .ok (.iload_n 2, 1) := by decide +kernel
theorem dX8_bits_13 : decode cX8_bits 13 = .ok (.iconst 1, 1) := by decide +kernel
theorem dX8_bits_14 : decode cX8_bits 14 = .ok (.isub, 1) := by decide +kernel
theorem dX8_bits_15 : decode cX8_bits 15 = .ok (.iand, 1) := by decide +kernel
theorem dX8_bits_16 : decode cX8_bits 16 = .ok (.istore_n 2, 1) := by decide +kernel
theorem dX8_bits_17 : decode cX8_bits 17 = .ok (.goto (-13), 3) := by decide +kernel
theorem dX8_bits_20 : decode cX8_bits 20 = .ok (.iload_n 1, 1) := by decide +kernel
theorem dX8_bits_21 : decode cX8_bits 21 = .ok (.ireturn, 1) := by decide +kernel
theorem dX8_mayBegin_0 : decode cX8_mayBegin 0 = .ok (.aload_n 0, 1) := by decide +kernel
theorem dX8_mayBegin_1 : decode cX8_mayBegin 1 = .ok (.getfield 7, 3) := by decide +kernel
theorem dX8_mayBegin_4 : decode cX8_mayBegin 4 = .ok (.bipush 123, 2) := by decide +kernel
theorem dX8_mayBegin_6 : decode cX8_mayBegin 6 = .ok (.bipush 62, 2) := by decide +kernel
theorem dX8_mayBegin_8 : decode cX8_mayBegin 8 = .ok (.iload_n 1, 1) := by decide +kernel
theorem dX8_mayBegin_9 : decode cX8_mayBegin 9 = .ok (.imul, 1) := by decide +kernel
theorem dX8_mayBegin_10 : decode cX8_mayBegin 10 = .ok (.iadd, 1) := by decide +kernel
theorem dX8_mayBegin_11 : decode cX8_mayBegin 11 = .ok (.iconst 1, 1) := by decide +kernel
theorem dX8_mayBegin_12 : decode cX8_mayBegin 12 = .ok (.iadd, 1) := by decide +kernel
theorem dX8_mayBegin_13 : decode cX8_mayBegin 13 = .ok (.iaload, 1) := by decide +kernel
theorem dX8_mayBegin_14 : decode cX8_mayBegin 14 = .ok (.ifCond .eq 22, 3) := by decide +kernel
theorem dX8_mayBegin_17 : decode cX8_mayBegin 17 = .ok (.iload_n 2, 1) := by decide +kernel
theorem dX8_mayBegin_18 : decode cX8_mayBegin 18 = .ok (.ifCond .eq 18, 3) := by decide +kernel
theorem dX8_mayBegin_21 : decode cX8_mayBegin 21 = .ok (.aload_n 0, 1) := by decide +kernel
theorem dX8_mayBegin_22 : decode cX8_mayBegin 22 = .ok (.getfield 7, 3) := by decide +kernel
theorem dX8_mayBegin_25 : decode cX8_mayBegin 25 = .ok (.iconst 3, 1) := by decide +kernel
theorem dX8_mayBegin_26 : decode cX8_mayBegin 26 = .ok (.iload_n 2, 1) := by decide +kernel
theorem dX8_mayBegin_27 : decode cX8_mayBegin 27 = .ok (.iadd, 1) := by decide +kernel
theorem dX8_mayBegin_28 : decode cX8_mayBegin 28 = .ok (.iconst 1, 1) := by decide +kernel
theorem dX8_mayBegin_29 : decode cX8_mayBegin 29 = .ok (.isub, 1) := by decide +kernel
theorem dX8_mayBegin_30 : decode cX8_mayBegin 30 = .ok (.iaload, 1) := by decide +kernel
theorem dX8_mayBegin_31 : decode cX8_mayBegin 31 = .ok (.bipush 26, 2) := by decide +kernel
theorem dX8_mayBegin_33 : decode cX8_mayBegin 33 = .ok (.if_icmp .ne 7, 3) := by decide +kernel
theorem dX8_mayBegin_36 : decode cX8_mayBegin 36 = .ok (.iconst 1, 1) := by decide +kernel
theorem dX8_mayBegin_37 : decode cX8_mayBegin 37 = .ok (.goto 4, 3) := by decide +kernel
theorem dX8_mayBegin_40 : decode cX8_mayBegin 40 = .ok (.iconst 0, 1) := by decide +kernel
theorem dX8_mayBegin_41 : decode cX8_mayBegin 41 = .ok (.ireturn, 1) := by decide +kernel
theorem dX8_tries_0 : decode cX8_tries 0 = .ok (.iload_n 2, 1) := by decide +kernel
theorem dX8_tries_1 : decode cX8_tries 1 = .ok (.aload_n 0, 1) := by decide +kernel
theorem dX8_tries_2 : decode cX8_tries 2 = .ok (.getfield 22, 3) := by decide +kernel
theorem dX8_tries_5 : decode cX8_tries 5 = .ok (.iload_n 1, 1) := by decide +kernel
theorem dX8_tries_6 : decode cX8_tries 6 = .ok (.iaload, 1) := by decide +kernel
theorem dX8_tries_7 : decode cX8_tries 7 = .ok (.if_icmp .lt 23, 3) := by decide +kernel
theorem dX8_tries_10 : decode cX8_tries 10 = .ok (.iload_n 2, 1) := by decide +kernel
theorem dX8_tries_11 : decode cX8_tries 11 = .ok (.aload_n 0, 1) := by decide +kernel
theorem dX8_tries_12 : decode cX8_tries 12 = .ok (.getfield 22, 3) := by decide +kernel
theorem dX8_tries_15 : decode cX8_tries 15 = .ok (.iload_n 1, 1) := by decide +kernel
theorem dX8_tries_16 : decode cX8_tries 16 = .ok (.iaload, 1) := by decide +kernel
theorem dX8_tries_17 : decode cX8_tries 17 = .ok (.if_icmp .ne 27, 3) := by decide +kernel
theorem dX8_tries_20 : decode cX8_tries 20 = .ok (.iload_n 3, 1) := by decide +kernel
theorem dX8_tries_21 : decode cX8_tries 21 = .ok (.aload_n 0, 1) := by decide +kernel
theorem dX8_tries_22 : decode cX8_tries 22 = .ok (.getfield 25, 3) := by decide +kernel
theorem dX8_tries_25 : decode cX8_tries 25 = .ok (.iload_n 1, 1) := by decide +kernel
theorem dX8_tries_26 : decode cX8_tries 26 = .ok (.iaload, 1) := by decide +kernel
theorem dX8_tries_27 : decode cX8_tries 27 = .ok (.if_icmp .le 17, 3) := by decide +kernel
theorem dX8_tries_30 : decode cX8_tries 30 = .ok (.aload_n 0, 1) := by decide +kernel
theorem dX8_tries_31 : decode cX8_tries 31 = .ok (.getfield 22, 3) := by decide +kernel
theorem dX8_tries_34 : decode cX8_tries 34 = .ok (.iload_n 1, 1) := by decide +kernel
theorem dX8_tries_35 : decode cX8_tries 35 = .ok (.iload_n 2, 1) := by decide +kernel
theorem dX8_tries_36 : decode cX8_tries 36 = .ok (.iastore, 1) := by decide +kernel
theorem dX8_tries_37 : decode cX8_tries 37 = .ok (.aload_n 0, 1) := by decide +kernel
theorem dX8_tries_38 : decode cX8_tries 38 = .ok (.getfield 25, 3) := by decide +kernel
theorem dX8_tries_41 : decode cX8_tries 41 = .ok (.iload_n 1, 1) := by decide +kernel
theorem dX8_tries_42 : decode cX8_tries 42 = .ok (.iload_n 3, 1) := by decide +kernel
theorem dX8_tries_43 : decode cX8_tries 43 = .ok (.iastore, 1) := by decide +kernel
theorem dX8_tries_44 : decode cX8_tries 44 = .ok (.return_, 1) := by decide +kernel
set_option maxRecDepth 20000 in
theorem ggX8_finds_X8_places : GoodIn wsX8_finds wsX8_places := goodIn_r _ [8, 1, 25, 26, 27, 28, 29, 30, 31, 32, 33, 34, 35, 36, 37, 38, 39, 40, 41, 42, 43, 44, 45] (by decide +kernel) (by decide +kernel)
set_option maxRecDepth 20000 in
theorem gX8_finds_X8_places : GoodIn wsX8_finds (wsV RX8 55 RX8 yX8_places wsX8_places) := goodIn_app (goodIn_of _ (by decide +kernel)) ggX8_finds_X8_places
set_option maxRecDepth 20000 in
theorem ggX8_finds_X8_mayBegin : GoodIn wsX8_finds wsX8_mayBegin := goodIn_r _ [12, 1, 25, 26, 27, 28, 29, 30, 31, 32, 33, 34, 35, 36, 37, 38, 39, 40, 41, 42, 43, 44, 45] (by decide +kernel) (by decide +kernel)
set_option maxRecDepth 20000 in
theorem gX8_finds_X8_mayBegin : GoodIn wsX8_finds (wsV RX8 59 RX8 yX8_mayBegin wsX8_mayBegin) := goodIn_app (goodIn_of _ (by decide +kernel)) ggX8_finds_X8_mayBegin
set_option maxRecDepth 20000 in
theorem ggX8_finds_X8_tries : GoodIn wsX8_finds wsX8_tries := goodIn_r _ [16, 2, 3, 25, 26, 27, 28, 29, 30, 31, 32, 33, 34, 35, 36, 37, 38, 39, 40, 41, 42, 43, 44, 45] (by decide +kernel) (by decide +kernel)
set_option maxRecDepth 20000 in
theorem gX8_finds_X8_tries : GoodIn wsX8_finds (wsV RX8 63 RX8 yX8_tries wsX8_tries) := goodIn_app (goodIn_of _ (by decide +kernel)) ggX8_finds_X8_tries
set_option maxRecDepth 20000 in
theorem ggX8_finds_X8_isTaken : GoodIn wsX8_finds wsX8_isTaken := goodIn_r _ [20, 1, 21, 22, 23, 7, 24, 25, 26, 27, 28, 29, 30, 31, 32, 33, 34, 35, 36, 37, 38, 39, 40, 41, 42, 43, 44, 45] (by decide +kernel) (by decide +kernel)
set_option maxRecDepth 20000 in
theorem gX8_finds_X8_isTaken : GoodIn wsX8_finds (wsV RX8 67 RX8 yX8_isTaken wsX8_isTaken) := goodIn_app (goodIn_of _ (by decide +kernel)) ggX8_finds_X8_isTaken
theorem dX8_finds_0 : decode cX8_finds 0 = .ok (.iconst 0, 1) := by decide +kernel
theorem dX8_finds_1 : decode cX8_finds 1 = .ok (.istore_n 2, 1) := by decide +kernel
theorem dX8_finds_2 : decode cX8_finds 2 = .ok (.iload_n 2, 1) := by decide +kernel
theorem dX8_finds_3 : decode cX8_finds 3 = .ok (.aload_n 0, 1) := by decide +kernel
theorem dX8_finds_4 : decode cX8_finds 4 = .ok (.iload_n 1, 1) := by decide +kernel
theorem dX8_finds_5 : decode cX8_finds 5 = .ok (.invokevirtual 55, 3) := by decide +kernel
theorem dX8_finds_8 : decode cX8_finds 8 = .ok (.if_icmp .gt 195, 3) := by decide +kernel
theorem dX8_finds_11 : decode cX8_finds 11 = .ok (.iconst 0, 1) := by decide +kernel
theorem dX8_finds_12 : decode cX8_finds 12 = .ok (.istore_n 3, 1) := by decide +kernel
theorem dX8_finds_13 : decode cX8_finds 13 = .ok (.iload_n 3, 1) := by decide +kernel
theorem dX8_finds_14 : decode cX8_finds 14 = .ok (.aload_n 0, 1) := by decide +kernel
theorem dX8_finds_15 : decode cX8_finds 15 = .ok (.getfield 7, 3) := by decide +kernel
theorem dX8_finds_18 : decode cX8_finds 18 = .ok (.iconst 0, 1) := by decide +kernel
theorem dX8_finds_19 : decode cX8_finds 19 = .ok (.iaload, 1) := by decide +kernel
theorem dX8_finds_20 : decode cX8_finds 20 = .ok (.if_icmp .gt 177, 3) := by decide +kernel
theorem dX8_finds_23 : decode cX8_finds 23 = .ok (.bipush 121, 2) := by decide +kernel
theorem dX8_finds_25 : decode cX8_finds 25 = .ok (.iload_n 2, 1) := by decide +kernel
theorem dX8_finds_26 : decode cX8_finds 26 = .ok (.imul, 1) := by decide +kernel
theorem dX8_finds_27 : decode cX8_finds 27 = .ok (.iload_n 3, 1) := by decide +kernel
theorem dX8_finds_28 : decode cX8_finds 28 = .ok (.iadd, 1) := by decide +kernel
theorem dX8_finds_29 : decode cX8_finds 29 = .ok (.istore 4, 2) := by decide +kernel
theorem dX8_finds_31 : decode cX8_finds 31 = .ok (.aload_n 0, 1) := by decide +kernel
theorem dX8_finds_32 : decode cX8_finds 32 = .ok (.getfield 22, 3) := by decide +kernel
theorem dX8_finds_35 : decode cX8_finds 35 = .ok (.iload 4, 2) := by decide +kernel
theorem dX8_finds_37 : decode cX8_finds 37 = .ok (.sipush 1000, 3) := by decide +kernel
theorem dX8_finds_40 : decode cX8_finds 40 = .ok (.iastore, 1) := by decide +kernel
theorem dX8_finds_41 : decode cX8_finds 41 = .ok (.aload_n 0, 1) := by decide +kernel
theorem dX8_finds_42 : decode cX8_finds 42 = .ok (.getfield 25, 3) := by decide +kernel
theorem dX8_finds_45 : decode cX8_finds 45 = .ok (.iload 4, 2) := by decide +kernel
theorem dX8_finds_47 : decode cX8_finds 47 = .ok (.bipush (-5), 2) := by decide +kernel
theorem dX8_finds_49 : decode cX8_finds 49 = .ok (.iastore, 1) := by decide +kernel
theorem dX8_finds_50 : decode cX8_finds 50 = .ok (.iload_n 2, 1) := by decide +kernel
theorem dX8_finds_51 : decode cX8_finds 51 = .ok (.ifCond .ne 20, 3) := by decide +kernel
theorem dX8_finds_54 : decode cX8_finds 54 = .ok (.aload_n 0, 1) := by decide +kernel
theorem dX8_finds_55 : decode cX8_finds 55 = .ok (.iload_n 1, 1) := by decide +kernel
theorem dX8_finds_56 : decode cX8_finds 56 = .ok (.iload_n 3, 1) := by decide +kernel
theorem dX8_finds_57 : decode cX8_finds 57 = .ok (.invokevirtual 59, 3) := by decide +kernel
theorem dX8_finds_60 : decode cX8_finds 60 = .ok (.ifCond .eq 11, 3) := by decide +kernel
theorem dX8_finds_63 : decode cX8_finds 63 = .ok (.aload_n 0, 1) := by decide +kernel
theorem dX8_finds_64 : decode cX8_finds 64 = .ok (.iload 4, 2) := by decide +kernel
theorem dX8_finds_66 : decode cX8_finds 66 = .ok (.iconst 0, 1) := by decide +kernel
theorem dX8_finds_67 : decode cX8_finds 67 = .ok (.iload_n 3, 1) := by decide +kernel
theorem dX8_finds_68 : decode cX8_finds 68 = .ok (.invokevirtual 63, 3) := by decide +kernel
theorem dX8_finds_71 : decode cX8_finds 71 = .ok (.iload_n 3, 1) := by decide +kernel
theorem dX8_finds_72 : decode cX8_finds 72 = .ok (.ifCond .le 29, 3) := by decide +kernel
theorem dX8_finds_75 : decode cX8_finds 75 = .ok (.aload_n 0, 1) := by decide +kernel
theorem dX8_finds_76 : decode cX8_finds 76 = .ok (.iload 4, 2) := by decide +kernel
theorem dX8_finds_78 : decode cX8_finds 78 = .ok (.aload_n 0, 1) := by decide +kernel
theorem dX8_finds_79 : decode cX8_finds 79 = .ok (.getfield 22, 3) := by decide +kernel
theorem dX8_finds_82 : decode cX8_finds 82 = .ok (.iload 4, 2) := by decide +kernel
theorem dX8_finds_84 : decode cX8_finds 84 = .ok (.iconst 1, 1) := by decide +kernel
theorem dX8_finds_85 : decode cX8_finds 85 = .ok (.isub, 1) := by decide +kernel
theorem dX8_finds_86 : decode cX8_finds 86 = .ok (.iaload, 1) := by decide +kernel
theorem dX8_finds_87 : decode cX8_finds 87 = .ok (.iconst 1, 1) := by decide +kernel
theorem dX8_finds_88 : decode cX8_finds 88 = .ok (.iadd, 1) := by decide +kernel
theorem dX8_finds_89 : decode cX8_finds 89 = .ok (.aload_n 0, 1) := by decide +kernel
theorem dX8_finds_90 : decode cX8_finds 90 = .ok (.getfield 25, 3) := by decide +kernel
theorem dX8_finds_93 : decode cX8_finds 93 = .ok (.iload 4, 2) := by decide +kernel
theorem dX8_finds_95 : decode cX8_finds 95 = .ok (.iconst 1, 1) := by decide +kernel
theorem dX8_finds_96 : decode cX8_finds 96 = .ok (.isub, 1) := by decide +kernel
theorem dX8_finds_97 : decode cX8_finds 97 = .ok (.iaload, 1) := by decide +kernel
theorem dX8_finds_98 : decode cX8_finds 98 = .ok (.invokevirtual 63, 3) := by decide +kernel
theorem dX8_finds_101 : decode cX8_finds 101 = .ok (.iload_n 2, 1) := by decide +kernel
theorem dX8_finds_102 : decode cX8_finds 102 = .ok (.ifCond .le 31, 3) := by decide +kernel
theorem dX8_finds_105 : decode cX8_finds 105 = .ok (.aload_n 0, 1) := by decide +kernel
theorem dX8_finds_106 : decode cX8_finds 106 = .ok (.iload 4, 2) := by decide +kernel
theorem dX8_finds_108 : decode cX8_finds 108 = .ok (.aload_n 0, 1) := by decide +kernel
theorem dX8_finds_109 : decode cX8_finds 109 = .ok (.getfield 22, 3) := by decide +kernel
theorem dX8_finds_112 : decode cX8_finds 112 = .ok (.iload 4, 2) := by decide +kernel
theorem dX8_finds_114 : decode cX8_finds 114 = .ok (.bipush 121, 2) := by decide +kernel
theorem dX8_finds_116 : decode cX8_finds 116 = .ok (.isub, 1) := by decide +kernel
theorem dX8_finds_117 : decode cX8_finds 117 = .ok (.iaload, 1) := by decide +kernel
theorem dX8_finds_118 : decode cX8_finds 118 = .ok (.iconst 1, 1) := by decide +kernel
theorem dX8_finds_119 : decode cX8_finds 119 = .ok (.iadd, 1) := by decide +kernel
theorem dX8_finds_120 : decode cX8_finds 120 = .ok (.aload_n 0, 1) := by decide +kernel
theorem dX8_finds_121 : decode cX8_finds 121 = .ok (.getfield 25, 3) := by decide +kernel
theorem dX8_finds_124 : decode cX8_finds 124 = .ok (.iload 4, 2) := by decide +kernel
theorem dX8_finds_126 : decode cX8_finds 126 = .ok (.bipush 121, 2) := by decide +kernel
theorem dX8_finds_128 : decode cX8_finds 128 = .ok (.isub, 1) := by decide +kernel
theorem dX8_finds_129 : decode cX8_finds 129 = .ok (.iaload, 1) := by decide +kernel
theorem dX8_finds_130 : decode cX8_finds 130 = .ok (.invokevirtual 63, 3) := by decide +kernel
theorem dX8_finds_133 : decode cX8_finds 133 = .ok (.iload_n 2, 1) := by decide +kernel
theorem dX8_finds_134 : decode cX8_finds 134 = .ok (.ifCond .le 57, 3) := by decide +kernel
theorem dX8_finds_137 : decode cX8_finds 137 = .ok (.iload_n 3, 1) := by decide +kernel
theorem dX8_finds_138 : decode cX8_finds 138 = .ok (.ifCond .le 53, 3) := by decide +kernel
theorem dX8_finds_141 : decode cX8_finds 141 = .ok (.aload_n 0, 1) := by decide +kernel
theorem dX8_finds_142 : decode cX8_finds 142 = .ok (.iload 4, 2) := by decide +kernel
theorem dX8_finds_144 : decode cX8_finds 144 = .ok (.aload_n 0, 1) := by decide +kernel
theorem dX8_finds_145 : decode cX8_finds 145 = .ok (.getfield 22, 3) := by decide +kernel
theorem dX8_finds_148 : decode cX8_finds 148 = .ok (.iload 4, 2) := by decide +kernel
theorem dX8_finds_150 : decode cX8_finds 150 = .ok (.bipush 121, 2) := by decide +kernel
theorem dX8_finds_152 : decode cX8_finds 152 = .ok (.isub, 1) := by decide +kernel
theorem dX8_finds_153 : decode cX8_finds 153 = .ok (.iconst 1, 1) := by decide +kernel
theorem dX8_finds_154 : decode cX8_finds 154 = .ok (.isub, 1) := by decide +kernel
theorem dX8_finds_155 : decode cX8_finds 155 = .ok (.iaload, 1) := by decide +kernel
theorem dX8_finds_156 : decode cX8_finds 156 = .ok (.aload_n 0, 1) := by decide +kernel
theorem dX8_finds_157 : decode cX8_finds 157 = .ok (.iload_n 1, 1) := by decide +kernel
theorem dX8_finds_158 : decode cX8_finds 158 = .ok (.iload_n 2, 1) := by decide +kernel
theorem dX8_finds_159 : decode cX8_finds 159 = .ok (.iconst 1, 1) := by decide +kernel
theorem dX8_finds_160 : decode cX8_finds 160 = .ok (.isub, 1) := by decide +kernel
theorem dX8_finds_161 : decode cX8_finds 161 = .ok (.iload_n 3, 1) := by decide +kernel
theorem dX8_finds_162 : decode cX8_finds 162 = .ok (.iconst 1, 1) := by decide +kernel
theorem dX8_finds_163 : decode cX8_finds 163 = .ok (.isub, 1) := by decide +kernel
theorem dX8_finds_164 : decode cX8_finds 164 = .ok (.invokevirtual 67, 3) := by decide +kernel
theorem dX8_finds_167 : decode cX8_finds 167 = .ok (.ifCond .eq 7, 3) := by decide +kernel
theorem dX8_finds_170 : decode cX8_finds 170 = .ok (.iconst 0, 1) := by decide +kernel
theorem dX8_finds_171 : decode cX8_finds 171 = .ok (.goto 4, 3) := by decide +kernel
theorem dX8_finds_174 : decode cX8_finds 174 = .ok (.iconst 1, 1) := by decide +kernel
theorem dX8_finds_175 : decode cX8_finds 175 = .ok (.iadd, 1) := by decide +kernel
theorem dX8_finds_176 : decode cX8_finds 176 = .ok (.aload_n 0, 1) := by decide +kernel
theorem dX8_finds_177 : decode cX8_finds 177 = .ok (.getfield 25, 3) := by decide +kernel
theorem dX8_finds_180 : decode cX8_finds 180 = .ok (.iload 4, 2) := by decide +kernel
theorem dX8_finds_182 : decode cX8_finds 182 = .ok (.bipush 121, 2) := by decide +kernel
theorem dX8_finds_184 : decode cX8_finds 184 = .ok (.isub, 1) := by decide +kernel
theorem dX8_finds_185 : decode cX8_finds 185 = .ok (.iconst 1, 1) := by decide +kernel
theorem dX8_finds_186 : decode cX8_finds 186 = .ok (.isub, 1) := by decide +kernel
theorem dX8_finds_187 : decode cX8_finds 187 = .ok (.iaload, 1) := by decide +kernel
theorem dX8_finds_188 : decode cX8_finds 188 = .ok (.invokevirtual 63, 3) := by decide +kernel
theorem dX8_finds_191 : decode cX8_finds 191 = .ok (.iinc 3 1, 3) := by decide +kernel
theorem dX8_finds_194 : decode cX8_finds 194 = .ok (.goto (-181), 3) := by decide +kernel
theorem dX8_finds_197 : decode cX8_finds 197 = .ok (.iinc 2 1, 3) := by decide +kernel
theorem dX8_finds_200 : decode cX8_finds 200 = .ok (.goto (-198), 3) := by decide +kernel
theorem dX8_finds_203 : decode cX8_finds 203 = .ok (.return_, 1) := by decide +kernel
set_option maxRecDepth 20000 in
theorem ggX8_findsEnds_X8_finds : GoodIn wsX8_findsEnds wsX8_finds := goodIn_r _ [10, 2, 3, 4, 11, 12, 13, 9, 14, 15, 16, 17, 18, 19, 20, 21, 22, 23, 24, 25, 26, 27, 28, 29, 30, 31, 32, 33, 34, 35, 36, 37, 38, 39, 40, 41, 42, 43, 44, 45, 46, 47, 48, 49, 50, 51] (by decide +kernel) (by decide +kernel)
set_option maxRecDepth 20000 in
theorem gX8_findsEnds_X8_finds : GoodIn wsX8_findsEnds (wsV RX8 71 RX8 yX8_finds wsX8_finds) := goodIn_app (goodIn_of _ (by decide +kernel)) ggX8_findsEnds_X8_finds
set_option maxRecDepth 20000 in
theorem ggX8_findsEnds_X8_places : GoodIn wsX8_findsEnds wsX8_places := goodIn_r _ [14, 2, 31, 32, 33, 34, 35, 36, 37, 38, 39, 40, 41, 42, 43, 44, 45, 46, 47, 48, 49, 50, 51] (by decide +kernel) (by decide +kernel)
set_option maxRecDepth 20000 in
theorem gX8_findsEnds_X8_places : GoodIn wsX8_findsEnds (wsV RX8 55 RX8 yX8_places wsX8_places) := goodIn_app (goodIn_of _ (by decide +kernel)) ggX8_findsEnds_X8_places
theorem dX8_findsEnds_0 : decode cX8_findsEnds 0 = .ok (.aload_n 0, 1) := by decide +kernel
theorem dX8_findsEnds_1 : decode cX8_findsEnds 1 = .ok (.iload_n 1, 1) := by decide +kernel
theorem dX8_findsEnds_2 : decode cX8_findsEnds 2 = .ok (.invokevirtual 71, 3) := by decide +kernel
theorem dX8_findsEnds_5 : decode cX8_findsEnds 5 = .ok (.aload_n 0, 1) := by decide +kernel
theorem dX8_findsEnds_6 : decode cX8_findsEnds 6 = .ok (.iconst 0, 1) := by decide +kernel
theorem dX8_findsEnds_7 : decode cX8_findsEnds 7 = .ok (.putfield 75, 3) := by decide +kernel
theorem dX8_findsEnds_10 : decode cX8_findsEnds 10 = .ok (.bipush 121, 2) := by decide +kernel
theorem dX8_findsEnds_12 : decode cX8_findsEnds 12 = .ok (.aload_n 0, 1) := by decide +kernel
theorem dX8_findsEnds_13 : decode cX8_findsEnds 13 = .ok (.iload_n 1, 1) := by decide +kernel
theorem dX8_findsEnds_14 : decode cX8_findsEnds 14 = .ok (.invokevirtual 55, 3) := by decide +kernel
theorem dX8_findsEnds_17 : decode cX8_findsEnds 17 = .ok (.imul, 1) := by decide +kernel
theorem dX8_findsEnds_18 : decode cX8_findsEnds 18 = .ok (.istore_n 3, 1) := by decide +kernel
theorem dX8_findsEnds_19 : decode cX8_findsEnds 19 = .ok (.iconst 0, 1) := by decide +kernel
theorem dX8_findsEnds_20 : decode cX8_findsEnds 20 = .ok (.istore 4, 2) := by decide +kernel
theorem dX8_findsEnds_22 : decode cX8_findsEnds 22 = .ok (.iload 4, 2) := by decide +kernel
theorem dX8_findsEnds_24 : decode cX8_findsEnds 24 = .ok (.aload_n 0, 1) := by decide +kernel
theorem dX8_findsEnds_25 : decode cX8_findsEnds 25 = .ok (.getfield 7, 3) := by decide +kernel
theorem dX8_findsEnds_28 : decode cX8_findsEnds 28 = .ok (.iconst 0, 1) := by decide +kernel
theorem dX8_findsEnds_29 : decode cX8_findsEnds 29 = .ok (.iaload, 1) := by decide +kernel
theorem dX8_findsEnds_30 : decode cX8_findsEnds 30 = .ok (.if_icmp .gt 94, 3) := by decide +kernel
theorem dX8_findsEnds_33 : decode cX8_findsEnds 33 = .ok (.aload_n 0, 1) := by decide +kernel
theorem dX8_findsEnds_34 : decode cX8_findsEnds 34 = .ok (.getfield 22, 3) := by decide +kernel
theorem dX8_findsEnds_37 : decode cX8_findsEnds 37 = .ok (.iload_n 3, 1) := by decide +kernel
theorem dX8_findsEnds_38 : decode cX8_findsEnds 38 = .ok (.iload 4, 2) := by decide +kernel
theorem dX8_findsEnds_40 : decode cX8_findsEnds 40 = .ok (.iadd, 1) := by decide +kernel
theorem dX8_findsEnds_41 : decode cX8_findsEnds 41 = .ok (.iaload, 1) := by decide +kernel
theorem dX8_findsEnds_42 : decode cX8_findsEnds 42 = .ok (.aload_n 0, 1) := by decide +kernel
theorem dX8_findsEnds_43 : decode cX8_findsEnds 43 = .ok (.getfield 7, 3) := by decide +kernel
theorem dX8_findsEnds_46 : decode cX8_findsEnds 46 = .ok (.iconst 2, 1) := by decide +kernel
theorem dX8_findsEnds_47 : decode cX8_findsEnds 47 = .ok (.iaload, 1) := by decide +kernel
theorem dX8_findsEnds_48 : decode cX8_findsEnds 48 = .ok (.if_icmp .gt 7, 3) := by decide +kernel
theorem dX8_findsEnds_51 : decode cX8_findsEnds 51 = .ok (.iconst 1, 1) := by decide +kernel
theorem dX8_findsEnds_52 : decode cX8_findsEnds 52 = .ok (.goto 4, 3) := by decide +kernel
theorem dX8_findsEnds_55 : decode cX8_findsEnds 55 = .ok (.iconst 0, 1) := by decide +kernel
theorem dX8_findsEnds_56 : decode cX8_findsEnds 56 = .ok (.istore 5, 2) := by decide +kernel
theorem dX8_findsEnds_58 : decode cX8_findsEnds 58 = .ok (.iload 5, 2) := by decide +kernel
theorem dX8_findsEnds_60 : decode cX8_findsEnds 60 = .ok (.ifCond .eq 58, 3) := by decide +kernel
theorem dX8_findsEnds_63 : decode cX8_findsEnds 63 = .ok (.iload_n 2, 1) := by decide +kernel
theorem dX8_findsEnds_64 : decode cX8_findsEnds 64 = .ok (.ifCond .eq 33, 3) := by decide +kernel
theorem dX8_findsEnds_67 : decode cX8_findsEnds 67 = .ok (.aload_n 0, 1) := by decide +kernel
theorem dX8_findsEnds_68 : decode cX8_findsEnds 68 = .ok (.getfield 75, 3) := by decide +kernel
theorem dX8_findsEnds_71 : decode cX8_findsEnds 71 = .ok (.ifCond .eq 26, 3) := by decide +kernel
theorem dX8_findsEnds_74 : decode cX8_findsEnds 74 = .ok (.aload_n 0, 1) := by decide +kernel
theorem dX8_findsEnds_75 : decode cX8_findsEnds 75 = .ok (.getfield 25, 3) := by decide +kernel
theorem dX8_findsEnds_78 : decode cX8_findsEnds 78 = .ok (.iload_n 3, 1) := by decide +kernel
theorem dX8_findsEnds_79 : decode cX8_findsEnds 79 = .ok (.iload 4, 2) := by decide +kernel
theorem dX8_findsEnds_81 : decode cX8_findsEnds 81 = .ok (.iadd, 1) := by decide +kernel
theorem dX8_findsEnds_82 : decode cX8_findsEnds 82 = .ok (.iaload, 1) := by decide +kernel
theorem dX8_findsEnds_83 : decode cX8_findsEnds 83 = .ok (.aload_n 0, 1) := by decide +kernel
theorem dX8_findsEnds_84 : decode cX8_findsEnds 84 = .ok (.getfield 28, 3) := by decide +kernel
theorem dX8_findsEnds_87 : decode cX8_findsEnds 87 = .ok (.aload_n 0, 1) := by decide +kernel
theorem dX8_findsEnds_88 : decode cX8_findsEnds 88 = .ok (.getfield 75, 3) := by decide +kernel
theorem dX8_findsEnds_91 : decode cX8_findsEnds 91 = .ok (.iconst 1, 1) := by decide +kernel
theorem dX8_findsEnds_92 : decode cX8_findsEnds 92 = .ok (.isub, 1) := by decide +kernel
theorem dX8_findsEnds_93 : decode cX8_findsEnds 93 = .ok (.iaload, 1) := by decide +kernel
theorem dX8_findsEnds_94 : decode cX8_findsEnds 94 = .ok (.if_icmp .lt 24, 3) := by decide +kernel
theorem dX8_findsEnds_97 : decode cX8_findsEnds 97 = .ok (.aload_n 0, 1) := by decide +kernel
theorem dX8_findsEnds_98 : decode cX8_findsEnds 98 = .ok (.getfield 28, 3) := by decide +kernel
theorem dX8_findsEnds_101 : decode cX8_findsEnds 101 = .ok (.aload_n 0, 1) := by decide +kernel
theorem dX8_findsEnds_102 : decode cX8_findsEnds 102 = .ok (.getfield 75, 3) := by decide +kernel
theorem dX8_findsEnds_105 : decode cX8_findsEnds 105 = .ok (.iload 4, 2) := by decide +kernel
theorem dX8_findsEnds_107 : decode cX8_findsEnds 107 = .ok (.iastore, 1) := by decide +kernel
theorem dX8_findsEnds_108 : decode cX8_findsEnds 108 = .ok (.aload_n 0, 1) := by decide +kernel
theorem dX8_findsEnds_109 : decode cX8_findsEnds 109 = .ok (.dup, 1) := by decide +kernel
theorem dX8_findsEnds_110 : decode cX8_findsEnds 110 = .ok (.getfield 75, 3) := by decide +kernel
theorem dX8_findsEnds_113 : decode cX8_findsEnds 113 = .ok (.iconst 1, 1) := by decide +kernel
theorem dX8_findsEnds_114 : decode cX8_findsEnds 114 = .ok (.iadd, 1) := by decide +kernel
theorem dX8_findsEnds_115 : decode cX8_findsEnds 115 = .ok (.putfield 75, 3) := by decide +kernel
theorem dX8_findsEnds_118 : decode cX8_findsEnds 118 = .ok (.iinc 4 1, 3) := by decide +kernel
theorem dX8_findsEnds_121 : decode cX8_findsEnds 121 = .ok (.goto (-99), 3) := by decide +kernel
theorem dX8_findsEnds_124 : decode cX8_findsEnds 124 = .ok (.return_, 1) := by decide +kernel
set_option maxRecDepth 20000 in
theorem ggX8_slipsOf_X8_places : GoodIn wsX8_slipsOf wsX8_places := goodIn_r _ [7, 8, 9, 10, 11, 12, 13, 14, 15, 16, 17, 18, 19, 20, 21, 22, 23, 24, 25, 26, 27, 28, 29] (by decide +kernel) (by decide +kernel)
set_option maxRecDepth 20000 in
theorem gX8_slipsOf_X8_places : GoodIn wsX8_slipsOf (wsV RX8 55 RX8 yX8_places wsX8_places) := goodIn_app (goodIn_of _ (by decide +kernel)) ggX8_slipsOf_X8_places
theorem dX8_slipsOf_0 : decode cX8_slipsOf 0 = .ok (.aload_n 0, 1) := by decide +kernel
theorem dX8_slipsOf_1 : decode cX8_slipsOf 1 = .ok (.getfield 22, 3) := by decide +kernel
theorem dX8_slipsOf_4 : decode cX8_slipsOf 4 = .ok (.bipush 121, 2) := by decide +kernel
theorem dX8_slipsOf_6 : decode cX8_slipsOf 6 = .ok (.aload_n 0, 1) := by decide +kernel
theorem dX8_slipsOf_7 : decode cX8_slipsOf 7 = .ok (.iload_n 1, 1) := by decide +kernel
theorem dX8_slipsOf_8 : decode cX8_slipsOf 8 = .ok (.invokevirtual 55, 3) := by decide +kernel
theorem dX8_slipsOf_11 : decode cX8_slipsOf 11 = .ok (.imul, 1) := by decide +kernel
theorem dX8_slipsOf_12 : decode cX8_slipsOf 12 = .ok (.aload_n 0, 1) := by decide +kernel
theorem dX8_slipsOf_13 : decode cX8_slipsOf 13 = .ok (.getfield 28, 3) := by decide +kernel
theorem dX8_slipsOf_16 : decode cX8_slipsOf 16 = .ok (.iload_n 2, 1) := by decide +kernel
theorem dX8_slipsOf_17 : decode cX8_slipsOf 17 = .ok (.iaload, 1) := by decide +kernel
theorem dX8_slipsOf_18 : decode cX8_slipsOf 18 = .ok (.iadd, 1) := by decide +kernel
theorem dX8_slipsOf_19 : decode cX8_slipsOf 19 = .ok (.iaload, 1) := by decide +kernel
theorem dX8_slipsOf_20 : decode cX8_slipsOf 20 = .ok (.ireturn, 1) := by decide +kernel
set_option maxRecDepth 20000 in
theorem ggX8_beginOf_X8_places : GoodIn wsX8_beginOf wsX8_places := goodIn_r _ [7, 8, 9, 10, 11, 12, 13, 14, 15, 16, 17, 18, 19, 20, 21, 22, 23, 24, 25, 26, 27, 28, 29] (by decide +kernel) (by decide +kernel)
set_option maxRecDepth 20000 in
theorem gX8_beginOf_X8_places : GoodIn wsX8_beginOf (wsV RX8 55 RX8 yX8_places wsX8_places) := goodIn_app (goodIn_of _ (by decide +kernel)) ggX8_beginOf_X8_places
theorem dX8_beginOf_0 : decode cX8_beginOf 0 = .ok (.aload_n 0, 1) := by decide +kernel
theorem dX8_beginOf_1 : decode cX8_beginOf 1 = .ok (.getfield 25, 3) := by decide +kernel
theorem dX8_beginOf_4 : decode cX8_beginOf 4 = .ok (.bipush 121, 2) := by decide +kernel
theorem dX8_beginOf_6 : decode cX8_beginOf 6 = .ok (.aload_n 0, 1) := by decide +kernel
theorem dX8_beginOf_7 : decode cX8_beginOf 7 = .ok (.iload_n 1, 1) := by decide +kernel
theorem dX8_beginOf_8 : decode cX8_beginOf 8 = .ok (.invokevirtual 55, 3) := by decide +kernel
theorem dX8_beginOf_11 : decode cX8_beginOf 11 = .ok (.imul, 1) := by decide +kernel
theorem dX8_beginOf_12 : decode cX8_beginOf 12 = .ok (.aload_n 0, 1) := by decide +kernel
theorem dX8_beginOf_13 : decode cX8_beginOf 13 = .ok (.getfield 28, 3) := by decide +kernel
theorem dX8_beginOf_16 : decode cX8_beginOf 16 = .ok (.iload_n 2, 1) := by decide +kernel
theorem dX8_beginOf_17 : decode cX8_beginOf 17 = .ok (.iaload, 1) := by decide +kernel
theorem dX8_beginOf_18 : decode cX8_beginOf 18 = .ok (.iadd, 1) := by decide +kernel
theorem dX8_beginOf_19 : decode cX8_beginOf 19 = .ok (.iaload, 1) := by decide +kernel
theorem dX8_beginOf_20 : decode cX8_beginOf 20 = .ok (.ireturn, 1) := by decide +kernel
set_option maxRecDepth 20000 in
theorem ggX8_coded_X8_in : GoodIn wsX8_coded wsX8_in := goodIn_r _ [6] (by decide +kernel) (by decide +kernel)
set_option maxRecDepth 20000 in
theorem gX8_coded_X8_in : GoodIn wsX8_coded (va_wsS RX8 47 yX8_in wsX8_in) := goodIn_app (goodIn_of _ (by decide +kernel)) ggX8_coded_X8_in
theorem dX8_coded_0 : decode cX8_coded 0 = .ok (.iload_n 0, 1) := by decide +kernel
theorem dX8_coded_1 : decode cX8_coded 1 = .ok (.bipush 32, 2) := by decide +kernel
theorem dX8_coded_3 : decode cX8_coded 3 = .ok (.if_icmp .ne 8, 3) := by decide +kernel
theorem dX8_coded_6 : decode cX8_coded 6 = .ok (.bipush 26, 2) := by decide +kernel
theorem dX8_coded_8 : decode cX8_coded 8 = .ok (.goto 26, 3) := by decide +kernel
theorem dX8_coded_11 : decode cX8_coded 11 = .ok (.iload_n 0, 1) := by decide +kernel
theorem dX8_coded_12 : decode cX8_coded 12 = .ok (.i2l, 1) := by decide +kernel
theorem dX8_coded_13 : decode cX8_coded 13 = .ok (.ldc2_w 78, 3) := by decide +kernel
theorem dX8_coded_16 : decode cX8_coded 16 = .ok (.ldc2_w 80, 3) := by decide +kernel
theorem dX8_coded_19 : decode cX8_coded 19 = .ok (.invokestatic 47, 3) := by decide +kernel
theorem dX8_coded_22 : decode cX8_coded 22 = .ok (.ifCond .eq 10, 3) := by decide +kernel
theorem dX8_coded_25 : decode cX8_coded 25 = .ok (.iload_n 0, 1) := by decide +kernel
theorem dX8_coded_26 : decode cX8_coded 26 = .ok (.bipush 97, 2) := by decide +kernel
theorem dX8_coded_28 : decode cX8_coded 28 = .ok (.isub, 1) := by decide +kernel
theorem dX8_coded_29 : decode cX8_coded 29 = .ok (.goto 5, 3) := by decide +kernel
theorem dX8_coded_32 : decode cX8_coded 32 = .ok (.bipush (-5), 2) := by decide +kernel
theorem dX8_coded_34 : decode cX8_coded 34 = .ok (.ireturn, 1) := by decide +kernel
theorem dX8_writes_0 : decode cX8_writes 0 = .ok (.aload_n 0, 1) := by decide +kernel
theorem dX8_writes_1 : decode cX8_writes 1 = .ok (.getfield 7, 3) := by decide +kernel
theorem dX8_writes_4 : decode cX8_writes 4 = .ok (.iconst 3, 1) := by decide +kernel
theorem dX8_writes_5 : decode cX8_writes 5 = .ok (.aload_n 0, 1) := by decide +kernel
theorem dX8_writes_6 : decode cX8_writes 6 = .ok (.getfield 7, 3) := by decide +kernel
theorem dX8_writes_9 : decode cX8_writes 9 = .ok (.iconst 0, 1) := by decide +kernel
theorem dX8_writes_10 : decode cX8_writes 10 = .ok (.iaload, 1) := by decide +kernel
theorem dX8_writes_11 : decode cX8_writes 11 = .ok (.iadd, 1) := by decide +kernel
theorem dX8_writes_12 : decode cX8_writes 12 = .ok (.iload_n 1, 1) := by decide +kernel
theorem dX8_writes_13 : decode cX8_writes 13 = .ok (.iastore, 1) := by decide +kernel
theorem dX8_writes_14 : decode cX8_writes 14 = .ok (.aload_n 0, 1) := by decide +kernel
theorem dX8_writes_15 : decode cX8_writes 15 = .ok (.getfield 7, 3) := by decide +kernel
theorem dX8_writes_18 : decode cX8_writes 18 = .ok (.iconst 0, 1) := by decide +kernel
theorem dX8_writes_19 : decode cX8_writes 19 = .ok (.dup2, 1) := by decide +kernel
theorem dX8_writes_20 : decode cX8_writes 20 = .ok (.iaload, 1) := by decide +kernel
theorem dX8_writes_21 : decode cX8_writes 21 = .ok (.iconst 1, 1) := by decide +kernel
theorem dX8_writes_22 : decode cX8_writes 22 = .ok (.iadd, 1) := by decide +kernel
theorem dX8_writes_23 : decode cX8_writes 23 = .ok (.iastore, 1) := by decide +kernel
theorem dX8_writes_24 : decode cX8_writes 24 = .ok (.return_, 1) := by decide +kernel
set_option maxRecDepth 20000 in
theorem ggX8_write_X8_coded : GoodIn wsX8_write wsX8_coded := goodIn_r _ [5, 6, 7, 8, 9, 4, 10] (by decide +kernel) (by decide +kernel)
set_option maxRecDepth 20000 in
theorem gX8_write_X8_coded : GoodIn wsX8_write (va_wsS RX8 82 yX8_coded wsX8_coded) := goodIn_app (goodIn_of _ (by decide +kernel)) ggX8_write_X8_coded
set_option maxRecDepth 20000 in
theorem ggX8_write_X8_remember : GoodIn wsX8_write wsX8_remember := goodIn_r _ [14, 15, 1, 26, 27, 28, 29, 30, 31, 32, 33, 34, 35, 36, 37, 38, 39, 40, 41, 42, 43, 44, 45, 46] (by decide +kernel) (by decide +kernel)
set_option maxRecDepth 20000 in
theorem gX8_write_X8_remember : GoodIn wsX8_write (wsV RX8 85 RX8 yX8_remember wsX8_remember) := goodIn_app (goodIn_of _ (by decide +kernel)) ggX8_write_X8_remember
set_option maxRecDepth 20000 in
theorem ggX8_write_X8_writes : GoodIn wsX8_write wsX8_writes := goodIn_r _ [19, 1, 26, 27, 28, 29, 30, 31, 32, 33, 34, 35, 36, 37, 38, 39, 40, 41, 42, 43, 44, 45, 46] (by decide +kernel) (by decide +kernel)
set_option maxRecDepth 20000 in
theorem gX8_write_X8_writes : GoodIn wsX8_write (wsV RX8 88 RX8 yX8_writes wsX8_writes) := goodIn_app (goodIn_of _ (by decide +kernel)) ggX8_write_X8_writes
set_option maxRecDepth 20000 in
theorem ggX8_write_X8_acted : GoodIn wsX8_write wsX8_acted := goodIn_r _ [23, 24, 25, 15, 26, 27, 28, 29, 30, 31, 32, 33, 34, 35, 36, 37, 38, 39, 40, 41, 42, 43, 44, 45, 46] (by decide +kernel) (by decide +kernel)
set_option maxRecDepth 20000 in
theorem gX8_write_X8_acted : GoodIn wsX8_write (wsV RX8 91 RX8 yX8_acted wsX8_acted) := goodIn_app (goodIn_of _ (by decide +kernel)) ggX8_write_X8_acted
theorem dX8_write_0 : decode cX8_write 0 = .ok (.iload_n 1, 1) := by decide +kernel
theorem dX8_write_1 : decode cX8_write 1 = .ok (.invokestatic 82, 3) := by decide +kernel
theorem dX8_write_4 : decode cX8_write 4 = .ok (.istore_n 2, 1) := by decide +kernel
theorem dX8_write_5 : decode cX8_write 5 = .ok (.iload_n 2, 1) := by decide +kernel
theorem dX8_write_6 : decode cX8_write 6 = .ok (.bipush (-5), 2) := by decide +kernel
theorem dX8_write_8 : decode cX8_write 8 = .ok (.if_icmp .ne 6, 3) := by decide +kernel
theorem dX8_write_11 : decode cX8_write 11 = .ok (.bipush (-2), 2) := by decide +kernel
theorem dX8_write_13 : decode cX8_write 13 = .ok (.ireturn, 1) := by decide +kernel
theorem dX8_write_14 : decode cX8_write 14 = .ok (.aload_n 0, 1) := by decide +kernel
theorem dX8_write_15 : decode cX8_write 15 = .ok (.getfield 7, 3) := by decide +kernel
theorem dX8_write_18 : decode cX8_write 18 = .ok (.iconst 0, 1) := by decide +kernel
theorem dX8_write_19 : decode cX8_write 19 = .ok (.iaload, 1) := by decide +kernel
theorem dX8_write_20 : decode cX8_write 20 = .ok (.bipush 120, 2) := by decide +kernel
theorem dX8_write_22 : decode cX8_write 22 = .ok (.if_icmp .ne 6, 3) := by decide +kernel
theorem dX8_write_25 : decode cX8_write 25 = .ok (.bipush (-3), 2) := by decide +kernel
theorem dX8_write_27 : decode cX8_write 27 = .ok (.ireturn, 1) := by decide +kernel
theorem dX8_write_28 : decode cX8_write 28 = .ok (.aload_n 0, 1) := by decide +kernel
theorem dX8_write_29 : decode cX8_write 29 = .ok (.invokevirtual 85, 3) := by decide +kernel
theorem dX8_write_32 : decode cX8_write 32 = .ok (.aload_n 0, 1) := by decide +kernel
theorem dX8_write_33 : decode cX8_write 33 = .ok (.iload_n 2, 1) := by decide +kernel
theorem dX8_write_34 : decode cX8_write 34 = .ok (.invokevirtual 88, 3) := by decide +kernel
theorem dX8_write_37 : decode cX8_write 37 = .ok (.aload_n 0, 1) := by decide +kernel
theorem dX8_write_38 : decode cX8_write 38 = .ok (.aload_n 0, 1) := by decide +kernel
theorem dX8_write_39 : decode cX8_write 39 = .ok (.getfield 7, 3) := by decide +kernel
theorem dX8_write_42 : decode cX8_write 42 = .ok (.iconst 0, 1) := by decide +kernel
theorem dX8_write_43 : decode cX8_write 43 = .ok (.iaload, 1) := by decide +kernel
theorem dX8_write_44 : decode cX8_write 44 = .ok (.invokevirtual 91, 3) := by decide +kernel
theorem dX8_write_47 : decode cX8_write 47 = .ok (.ireturn, 1) := by decide +kernel
set_option maxRecDepth 20000 in
theorem ggX8_writePad_X8_in : GoodIn wsX8_writePad wsX8_in := goodIn_r _ [9] (by decide +kernel) (by decide +kernel)
set_option maxRecDepth 20000 in
theorem gX8_writePad_X8_in : GoodIn wsX8_writePad (va_wsS RX8 47 yX8_in wsX8_in) := goodIn_app (goodIn_of _ (by decide +kernel)) ggX8_writePad_X8_in
set_option maxRecDepth 20000 in
theorem ggX8_writePad_X8_remember : GoodIn wsX8_writePad wsX8_remember := goodIn_r _ [13, 14, 5, 25, 26, 27, 28, 29, 30, 31, 32, 33, 34, 35, 36, 37, 38, 39, 40, 41, 42, 43, 44, 45] (by decide +kernel) (by decide +kernel)
set_option maxRecDepth 20000 in
theorem gX8_writePad_X8_remember : GoodIn wsX8_writePad (wsV RX8 85 RX8 yX8_remember wsX8_remember) := goodIn_app (goodIn_of _ (by decide +kernel)) ggX8_writePad_X8_remember
set_option maxRecDepth 20000 in
theorem ggX8_writePad_X8_writes : GoodIn wsX8_writePad wsX8_writes := goodIn_r _ [18, 5, 25, 26, 27, 28, 29, 30, 31, 32, 33, 34, 35, 36, 37, 38, 39, 40, 41, 42, 43, 44, 45] (by decide +kernel) (by decide +kernel)
set_option maxRecDepth 20000 in
theorem gX8_writePad_X8_writes : GoodIn wsX8_writePad (wsV RX8 88 RX8 yX8_writes wsX8_writes) := goodIn_app (goodIn_of _ (by decide +kernel)) ggX8_writePad_X8_writes
set_option maxRecDepth 20000 in
theorem ggX8_writePad_X8_acted : GoodIn wsX8_writePad wsX8_acted := goodIn_r _ [22, 23, 24, 14, 25, 26, 27, 28, 29, 30, 31, 32, 33, 34, 35, 36, 37, 38, 39, 40, 41, 42, 43, 44, 45] (by decide +kernel) (by decide +kernel)
set_option maxRecDepth 20000 in
theorem gX8_writePad_X8_acted : GoodIn wsX8_writePad (wsV RX8 91 RX8 yX8_acted wsX8_acted) := goodIn_app (goodIn_of _ (by decide +kernel)) ggX8_writePad_X8_acted
theorem dX8_writePad_0 : decode cX8_writePad 0 = .ok (.aload_n 0, 1) := by decide +kernel
theorem dX8_writePad_1 : decode cX8_writePad 1 = .ok (.getfield 94, 3) := by decide +kernel
theorem dX8_writePad_4 : decode cX8_writePad 4 = .ok (.ifCond .le 7, 3) := by decide +kernel
theorem dX8_writePad_7 : decode cX8_writePad 7 = .ok (.iconst 1, 1) := by decide +kernel
theorem dX8_writePad_8 : decode cX8_writePad 8 = .ok (.goto 4, 3) := by decide +kernel
theorem dX8_writePad_11 : decode cX8_writePad 11 = .ok (.iconst 0, 1) := by decide +kernel
theorem dX8_writePad_12 : decode cX8_writePad 12 = .ok (.istore_n 1, 1) := by decide +kernel
theorem dX8_writePad_13 : decode cX8_writePad 13 = .ok (.iconst 0, 1) := by decide +kernel
theorem dX8_writePad_14 : decode cX8_writePad 14 = .ok (.istore_n 2, 1) := by decide +kernel
theorem dX8_writePad_15 : decode cX8_writePad 15 = .ok (.iload_n 2, 1) := by decide +kernel
theorem dX8_writePad_16 : decode cX8_writePad 16 = .ok (.aload_n 0, 1) := by decide +kernel
theorem dX8_writePad_17 : decode cX8_writePad 17 = .ok (.getfield 94, 3) := by decide +kernel
theorem dX8_writePad_20 : decode cX8_writePad 20 = .ok (.if_icmp .ge 49, 3) := by decide +kernel
theorem dX8_writePad_23 : decode cX8_writePad 23 = .ok (.iload_n 1, 1) := by decide +kernel
theorem dX8_writePad_24 : decode cX8_writePad 24 = .ok (.ifCond .eq 37, 3) := by decide +kernel
theorem dX8_writePad_27 : decode cX8_writePad 27 = .ok (.aload_n 0, 1) := by decide +kernel
theorem dX8_writePad_28 : decode cX8_writePad 28 = .ok (.getfield 31, 3) := by decide +kernel
theorem dX8_writePad_31 : decode cX8_writePad 31 = .ok (.iload_n 2, 1) := by decide +kernel
theorem dX8_writePad_32 : decode cX8_writePad 32 = .ok (.iaload, 1) := by decide +kernel
theorem dX8_writePad_33 : decode cX8_writePad 33 = .ok (.bipush 95, 2) := by decide +kernel
theorem dX8_writePad_35 : decode cX8_writePad 35 = .ok (.if_icmp .eq 22, 3) := by decide +kernel
theorem dX8_writePad_38 : decode cX8_writePad 38 = .ok (.aload_n 0, 1) := by decide +kernel
theorem dX8_writePad_39 : decode cX8_writePad 39 = .ok (.getfield 31, 3) := by decide +kernel
theorem dX8_writePad_42 : decode cX8_writePad 42 = .ok (.iload_n 2, 1) := by decide +kernel
theorem dX8_writePad_43 : decode cX8_writePad 43 = .ok (.iaload, 1) := by decide +kernel
theorem dX8_writePad_44 : decode cX8_writePad 44 = .ok (.i2l, 1) := by decide +kernel
theorem dX8_writePad_45 : decode cX8_writePad 45 = .ok (.ldc2_w 78, 3) := by decide +kernel
theorem dX8_writePad_48 : decode cX8_writePad 48 = .ok (.ldc2_w 80, 3) := by decide +kernel
theorem dX8_writePad_51 : decode cX8_writePad 51 = .ok (.invokestatic 47, 3) := by decide +kernel
theorem dX8_writePad_54 : decode cX8_writePad 54 = .ok (.ifCond .eq 7, 3) := by decide +kernel
theorem dX8_writePad_57 : decode cX8_writePad 57 = .ok (.iconst 1, 1) := by decide +kernel
theorem dX8_writePad_58 : decode cX8_writePad 58 = .ok (.goto 4, 3) := by decide +kernel
theorem dX8_writePad_61 : decode cX8_writePad 61 = .ok (.iconst 0, 1) := by decide +kernel
theorem dX8_writePad_62 : decode cX8_writePad 62 = .ok (.istore_n 1, 1) := by decide +kernel
theorem dX8_writePad_63 : decode cX8_writePad 63 = .ok (.iinc 2 1, 3) := by decide +kernel
theorem dX8_writePad_66 : decode cX8_writePad 66 = .ok (.goto (-51), 3) := by decide +kernel
theorem dX8_writePad_69 : decode cX8_writePad 69 = .ok (.iload_n 1, 1) := by decide +kernel
theorem dX8_writePad_70 : decode cX8_writePad 70 = .ok (.ifCond .ne 6, 3) := by decide +kernel
theorem dX8_writePad_73 : decode cX8_writePad 73 = .ok (.bipush (-2), 2) := by decide +kernel
theorem dX8_writePad_75 : decode cX8_writePad 75 = .ok (.ireturn, 1) := by decide +kernel
theorem dX8_writePad_76 : decode cX8_writePad 76 = .ok (.aload_n 0, 1) := by decide +kernel
theorem dX8_writePad_77 : decode cX8_writePad 77 = .ok (.getfield 7, 3) := by decide +kernel
theorem dX8_writePad_80 : decode cX8_writePad 80 = .ok (.iconst 0, 1) := by decide +kernel
theorem dX8_writePad_81 : decode cX8_writePad 81 = .ok (.iaload, 1) := by decide +kernel
theorem dX8_writePad_82 : decode cX8_writePad 82 = .ok (.aload_n 0, 1) := by decide +kernel
theorem dX8_writePad_83 : decode cX8_writePad 83 = .ok (.getfield 94, 3) := by decide +kernel
theorem dX8_writePad_86 : decode cX8_writePad 86 = .ok (.iadd, 1) := by decide +kernel
theorem dX8_writePad_87 : decode cX8_writePad 87 = .ok (.bipush 120, 2) := by decide +kernel
theorem dX8_writePad_89 : decode cX8_writePad 89 = .ok (.if_icmp .le 6, 3) := by decide +kernel
theorem dX8_writePad_92 : decode cX8_writePad 92 = .ok (.bipush (-3), 2) := by decide +kernel
theorem dX8_writePad_94 : decode cX8_writePad 94 = .ok (.ireturn, 1) := by decide +kernel
theorem dX8_writePad_95 : decode cX8_writePad 95 = .ok (.aload_n 0, 1) := by decide +kernel
theorem dX8_writePad_96 : decode cX8_writePad 96 = .ok (.invokevirtual 85, 3) := by decide +kernel
theorem dX8_writePad_99 : decode cX8_writePad 99 = .ok (.iconst 0, 1) := by decide +kernel
theorem dX8_writePad_100 : decode cX8_writePad 100 = .ok (.istore_n 2, 1) := by decide +kernel
theorem dX8_writePad_101 : decode cX8_writePad 101 = .ok (.iload_n 2, 1) := by decide +kernel
theorem dX8_writePad_102 : decode cX8_writePad 102 = .ok (.aload_n 0, 1) := by decide +kernel
theorem dX8_writePad_103 : decode cX8_writePad 103 = .ok (.getfield 94, 3) := by decide +kernel
theorem dX8_writePad_106 : decode cX8_writePad 106 = .ok (.if_icmp .ge 38, 3) := by decide +kernel
theorem dX8_writePad_109 : decode cX8_writePad 109 = .ok (.aload_n 0, 1) := by decide +kernel
theorem dX8_writePad_110 : decode cX8_writePad 110 = .ok (.aload_n 0, 1) := by decide +kernel
theorem dX8_writePad_111 : decode cX8_writePad 111 = .ok (.getfield 31, 3) := by decide +kernel
theorem dX8_writePad_114 : decode cX8_writePad 114 = .ok (.iload_n 2, 1) := by decide +kernel
theorem dX8_writePad_115 : decode cX8_writePad 115 = .ok (.iaload, 1) := by decide +kernel
theorem dX8_writePad_116 : decode cX8_writePad 116 = .ok (.bipush 95, 2) := by decide +kernel
theorem dX8_writePad_118 : decode cX8_writePad 118 = .ok (.if_icmp .ne 8, 3) := by decide +kernel
theorem dX8_writePad_121 : decode cX8_writePad 121 = .ok (.bipush 26, 2) := by decide +kernel
theorem dX8_writePad_123 : decode cX8_writePad 123 = .ok (.goto 12, 3) := by decide +kernel
theorem dX8_writePad_126 : decode cX8_writePad 126 = .ok (.aload_n 0, 1) := by decide +kernel
theorem dX8_writePad_127 : decode cX8_writePad 127 = .ok (.getfield 31, 3) := by decide +kernel
theorem dX8_writePad_130 : decode cX8_writePad 130 = .ok (.iload_n 2, 1) := by decide +kernel
theorem dX8_writePad_131 : decode cX8_writePad 131 = .ok (.iaload, 1) := by decide +kernel
theorem dX8_writePad_132 : decode cX8_writePad 132 = .ok (.bipush 97, 2) := by decide +kernel
theorem dX8_writePad_134 : decode cX8_writePad 134 = .ok (.isub, 1) := by decide +kernel
theorem dX8_writePad_135 : decode cX8_writePad 135 = .ok (.invokevirtual 88, 3) := by decide +kernel
theorem dX8_writePad_138 : decode cX8_writePad 138 = .ok (.iinc 2 1, 3) := by decide +kernel
theorem dX8_writePad_141 : decode cX8_writePad 141 = .ok (.goto (-40), 3) := by decide +kernel
theorem dX8_writePad_144 : decode cX8_writePad 144 = .ok (.aload_n 0, 1) := by decide +kernel
theorem dX8_writePad_145 : decode cX8_writePad 145 = .ok (.aload_n 0, 1) := by decide +kernel
theorem dX8_writePad_146 : decode cX8_writePad 146 = .ok (.getfield 7, 3) := by decide +kernel
theorem dX8_writePad_149 : decode cX8_writePad 149 = .ok (.iconst 0, 1) := by decide +kernel
theorem dX8_writePad_150 : decode cX8_writePad 150 = .ok (.iaload, 1) := by decide +kernel
theorem dX8_writePad_151 : decode cX8_writePad 151 = .ok (.invokevirtual 91, 3) := by decide +kernel
theorem dX8_writePad_154 : decode cX8_writePad 154 = .ok (.ireturn, 1) := by decide +kernel
set_option maxRecDepth 20000 in
theorem ggX8_cut_X8_in : GoodIn wsX8_cut wsX8_in := goodIn_r _ [6] (by decide +kernel) (by decide +kernel)
set_option maxRecDepth 20000 in
theorem gX8_cut_X8_in : GoodIn wsX8_cut (va_wsS RX8 47 yX8_in wsX8_in) := goodIn_app (goodIn_of _ (by decide +kernel)) ggX8_cut_X8_in
set_option maxRecDepth 20000 in
theorem ggX8_cut_X8_remember : GoodIn wsX8_cut wsX8_remember := goodIn_r _ [10, 11, 2, 18, 19, 20, 21, 22, 23, 24, 25, 26, 27, 28, 29, 30, 31, 32, 33, 34, 35, 36, 37, 38] (by decide +kernel) (by decide +kernel)
set_option maxRecDepth 20000 in
theorem gX8_cut_X8_remember : GoodIn wsX8_cut (wsV RX8 85 RX8 yX8_remember wsX8_remember) := goodIn_app (goodIn_of _ (by decide +kernel)) ggX8_cut_X8_remember
set_option maxRecDepth 20000 in
theorem ggX8_cut_X8_acted : GoodIn wsX8_cut wsX8_acted := goodIn_r _ [15, 16, 17, 11, 18, 19, 20, 21, 22, 23, 24, 25, 26, 27, 28, 29, 30, 31, 32, 33, 34, 35, 36, 37, 38] (by decide +kernel) (by decide +kernel)
set_option maxRecDepth 20000 in
theorem gX8_cut_X8_acted : GoodIn wsX8_cut (wsV RX8 91 RX8 yX8_acted wsX8_acted) := goodIn_app (goodIn_of _ (by decide +kernel)) ggX8_cut_X8_acted
theorem dX8_cut_0 : decode cX8_cut 0 = .ok (.iload_n 1, 1) := by decide +kernel
theorem dX8_cut_1 : decode cX8_cut 1 = .ok (.i2l, 1) := by decide +kernel
theorem dX8_cut_2 : decode cX8_cut 2 = .ok (.lconst 1, 1) := by decide +kernel
theorem dX8_cut_3 : decode cX8_cut 3 = .ok (.ldc2_w 97, 3) := by decide +kernel
theorem dX8_cut_6 : decode cX8_cut 6 = .ok (.invokestatic 47, 3) := by decide +kernel
theorem dX8_cut_9 : decode cX8_cut 9 = .ok (.ifCond .ne 6, 3) := by decide +kernel
theorem dX8_cut_12 : decode cX8_cut 12 = .ok (.bipush (-2), 2) := by decide +kernel
theorem dX8_cut_14 : decode cX8_cut 14 = .ok (.ireturn, 1) := by decide +kernel
theorem dX8_cut_15 : decode cX8_cut 15 = .ok (.iload_n 1, 1) := by decide +kernel
theorem dX8_cut_16 : decode cX8_cut 16 = .ok (.aload_n 0, 1) := by decide +kernel
theorem dX8_cut_17 : decode cX8_cut 17 = .ok (.getfield 7, 3) := by decide +kernel
theorem dX8_cut_20 : decode cX8_cut 20 = .ok (.iconst 0, 1) := by decide +kernel
theorem dX8_cut_21 : decode cX8_cut 21 = .ok (.iaload, 1) := by decide +kernel
theorem dX8_cut_22 : decode cX8_cut 22 = .ok (.if_icmp .le 6, 3) := by decide +kernel
theorem dX8_cut_25 : decode cX8_cut 25 = .ok (.bipush (-4), 2) := by decide +kernel
theorem dX8_cut_27 : decode cX8_cut 27 = .ok (.ireturn, 1) := by decide +kernel
theorem dX8_cut_28 : decode cX8_cut 28 = .ok (.aload_n 0, 1) := by decide +kernel
theorem dX8_cut_29 : decode cX8_cut 29 = .ok (.invokevirtual 85, 3) := by decide +kernel
theorem dX8_cut_32 : decode cX8_cut 32 = .ok (.aload_n 0, 1) := by decide +kernel
theorem dX8_cut_33 : decode cX8_cut 33 = .ok (.getfield 7, 3) := by decide +kernel
theorem dX8_cut_36 : decode cX8_cut 36 = .ok (.iconst 0, 1) := by decide +kernel
theorem dX8_cut_37 : decode cX8_cut 37 = .ok (.dup2, 1) := by decide +kernel
theorem dX8_cut_38 : decode cX8_cut 38 = .ok (.iaload, 1) := by decide +kernel
theorem dX8_cut_39 : decode cX8_cut 39 = .ok (.iload_n 1, 1) := by decide +kernel
theorem dX8_cut_40 : decode cX8_cut 40 = .ok (.isub, 1) := by decide +kernel
theorem dX8_cut_41 : decode cX8_cut 41 = .ok (.iastore, 1) := by decide +kernel
theorem dX8_cut_42 : decode cX8_cut 42 = .ok (.aload_n 0, 1) := by decide +kernel
theorem dX8_cut_43 : decode cX8_cut 43 = .ok (.aload_n 0, 1) := by decide +kernel
theorem dX8_cut_44 : decode cX8_cut 44 = .ok (.getfield 7, 3) := by decide +kernel
theorem dX8_cut_47 : decode cX8_cut 47 = .ok (.iconst 0, 1) := by decide +kernel
theorem dX8_cut_48 : decode cX8_cut 48 = .ok (.iaload, 1) := by decide +kernel
theorem dX8_cut_49 : decode cX8_cut 49 = .ok (.invokevirtual 91, 3) := by decide +kernel
theorem dX8_cut_52 : decode cX8_cut 52 = .ok (.ireturn, 1) := by decide +kernel
set_option maxRecDepth 20000 in
theorem ggX8_replace_X8_isPattern : GoodIn wsX8_replace wsX8_isPattern := goodIn_r _ [11, 4, 12, 13, 10, 14, 63, 64, 65, 66, 67, 68, 69, 70, 71, 72, 73, 74, 75, 76, 77, 78, 79, 80, 81, 82, 83] (by decide +kernel) (by decide +kernel)
set_option maxRecDepth 20000 in
theorem gX8_replace_X8_isPattern : GoodIn wsX8_replace (wsV RX8 99 RX8 yX8_isPattern wsX8_isPattern) := goodIn_app (goodIn_of _ (by decide +kernel)) ggX8_replace_X8_isPattern
set_option maxRecDepth 20000 in
theorem ggX8_replace_X8_in : GoodIn wsX8_replace wsX8_in := goodIn_r _ [14] (by decide +kernel) (by decide +kernel)
set_option maxRecDepth 20000 in
theorem gX8_replace_X8_in : GoodIn wsX8_replace (va_wsS RX8 47 yX8_in wsX8_in) := goodIn_app (goodIn_of _ (by decide +kernel)) ggX8_replace_X8_in
set_option maxRecDepth 20000 in
theorem ggX8_replace_X8_findsEnds : GoodIn wsX8_replace wsX8_findsEnds := goodIn_r _ [18, 3, 4, 19, 20, 5, 21, 22, 23, 10, 24, 25, 26, 27, 28, 29, 30, 31, 32, 33, 34, 35, 36, 37, 38, 39, 40, 41, 42, 43, 44, 63, 64, 65, 66, 67, 68, 69, 70, 71, 72, 73, 74, 75, 76, 77, 78, 79, 80, 81, 82, 83] (by decide +kernel) (by decide +kernel)
set_option maxRecDepth 20000 in
theorem gX8_replace_X8_findsEnds : GoodIn wsX8_replace (wsV RX8 103 RX8 yX8_findsEnds wsX8_findsEnds) := goodIn_app (goodIn_of _ (by decide +kernel)) ggX8_replace_X8_findsEnds
set_option maxRecDepth 20000 in
theorem ggX8_replace_X8_beginOf : GoodIn wsX8_replace wsX8_beginOf := goodIn_r _ [48, 20, 5, 25, 26, 27, 10, 28, 4, 63, 64, 65, 66, 67, 68, 69, 70, 71, 72, 73, 74, 75, 76, 77, 78, 79, 80, 81, 82, 83] (by decide +kernel) (by decide +kernel)
set_option maxRecDepth 20000 in
theorem gX8_replace_X8_beginOf : GoodIn wsX8_replace (wsV RX8 107 RX8 yX8_beginOf wsX8_beginOf) := goodIn_app (goodIn_of _ (by decide +kernel)) ggX8_replace_X8_beginOf
set_option maxRecDepth 20000 in
theorem ggX8_replace_X8_remember : GoodIn wsX8_replace wsX8_remember := goodIn_r _ [52, 6, 4, 63, 64, 65, 66, 67, 68, 69, 70, 71, 72, 73, 74, 75, 76, 77, 78, 79, 80, 81, 82, 83] (by decide +kernel) (by decide +kernel)
set_option maxRecDepth 20000 in
theorem gX8_replace_X8_remember : GoodIn wsX8_replace (wsV RX8 85 RX8 yX8_remember wsX8_remember) := goodIn_app (goodIn_of _ (by decide +kernel)) ggX8_replace_X8_remember
set_option maxRecDepth 20000 in
theorem ggX8_replace_X8_writes : GoodIn wsX8_replace wsX8_writes := goodIn_r _ [56, 4, 63, 64, 65, 66, 67, 68, 69, 70, 71, 72, 73, 74, 75, 76, 77, 78, 79, 80, 81, 82, 83] (by decide +kernel) (by decide +kernel)
set_option maxRecDepth 20000 in
theorem gX8_replace_X8_writes : GoodIn wsX8_replace (wsV RX8 88 RX8 yX8_writes wsX8_writes) := goodIn_app (goodIn_of _ (by decide +kernel)) ggX8_replace_X8_writes
set_option maxRecDepth 20000 in
theorem ggX8_replace_X8_acted : GoodIn wsX8_replace wsX8_acted := goodIn_r _ [60, 61, 62, 6, 63, 64, 65, 66, 67, 68, 69, 70, 71, 72, 73, 74, 75, 76, 77, 78, 79, 80, 81, 82, 83] (by decide +kernel) (by decide +kernel)
set_option maxRecDepth 20000 in
theorem gX8_replace_X8_acted : GoodIn wsX8_replace (wsV RX8 91 RX8 yX8_acted wsX8_acted) := goodIn_app (goodIn_of _ (by decide +kernel)) ggX8_replace_X8_acted
theorem dX8_replace_0 : decode cX8_replace 0 = .ok (.aload_n 0, 1) := by decide +kernel
theorem dX8_replace_1 : decode cX8_replace 1 = .ok (.iload_n 1, 1) := by decide +kernel
theorem dX8_replace_2 : decode cX8_replace 2 = .ok (.invokevirtual 99, 3) := by decide +kernel
theorem dX8_replace_5 : decode cX8_replace 5 = .ok (.ifCond .ne 5, 3) := by decide +kernel
theorem dX8_replace_8 : decode cX8_replace 8 = .ok (.iconst (-1), 1) := by decide +kernel
theorem dX8_replace_9 : decode cX8_replace 9 = .ok (.ireturn, 1) := by decide +kernel
theorem dX8_replace_10 : decode cX8_replace 10 = .ok (.iload_n 2, 1) := by decide +kernel
theorem dX8_replace_11 : decode cX8_replace 11 = .ok (.i2l, 1) := by decide +kernel
theorem dX8_replace_12 : decode cX8_replace 12 = .ok (.ldc2_w 78, 3) := by decide +kernel
theorem dX8_replace_15 : decode cX8_replace 15 = .ok (.ldc2_w 80, 3) := by decide +kernel
theorem dX8_replace_18 : decode cX8_replace 18 = .ok (.invokestatic 47, 3) := by decide +kernel
theorem dX8_replace_21 : decode cX8_replace 21 = .ok (.ifCond .ne 6, 3) := by decide +kernel
theorem dX8_replace_24 : decode cX8_replace 24 = .ok (.bipush (-2), 2) := by decide +kernel
theorem dX8_replace_26 : decode cX8_replace 26 = .ok (.ireturn, 1) := by decide +kernel
theorem dX8_replace_27 : decode cX8_replace 27 = .ok (.aload_n 0, 1) := by decide +kernel
theorem dX8_replace_28 : decode cX8_replace 28 = .ok (.iload_n 1, 1) := by decide +kernel
theorem dX8_replace_29 : decode cX8_replace 29 = .ok (.iconst 1, 1) := by decide +kernel
theorem dX8_replace_30 : decode cX8_replace 30 = .ok (.invokevirtual 103, 3) := by decide +kernel
theorem dX8_replace_33 : decode cX8_replace 33 = .ok (.aload_n 0, 1) := by decide +kernel
theorem dX8_replace_34 : decode cX8_replace 34 = .ok (.getfield 75, 3) := by decide +kernel
theorem dX8_replace_37 : decode cX8_replace 37 = .ok (.ifCond .ne 6, 3) := by decide +kernel
theorem dX8_replace_40 : decode cX8_replace 40 = .ok (.bipush (-5), 2) := by decide +kernel
theorem dX8_replace_42 : decode cX8_replace 42 = .ok (.ireturn, 1) := by decide +kernel
theorem dX8_replace_43 : decode cX8_replace 43 = .ok (.aload_n 0, 1) := by decide +kernel
theorem dX8_replace_44 : decode cX8_replace 44 = .ok (.getfield 7, 3) := by decide +kernel
theorem dX8_replace_47 : decode cX8_replace 47 = .ok (.iconst 0, 1) := by decide +kernel
theorem dX8_replace_48 : decode cX8_replace 48 = .ok (.iaload, 1) := by decide +kernel
theorem dX8_replace_49 : decode cX8_replace 49 = .ok (.istore_n 3, 1) := by decide +kernel
theorem dX8_replace_50 : decode cX8_replace 50 = .ok (.iconst 0, 1) := by decide +kernel
theorem dX8_replace_51 : decode cX8_replace 51 = .ok (.istore 4, 2) := by decide +kernel
theorem dX8_replace_53 : decode cX8_replace 53 = .ok (.iload 4, 2) := by decide +kernel
theorem dX8_replace_55 : decode cX8_replace 55 = .ok (.aload_n 0, 1) := by decide +kernel
theorem dX8_replace_56 : decode cX8_replace 56 = .ok (.getfield 75, 3) := by decide +kernel
theorem dX8_replace_59 : decode cX8_replace 59 = .ok (.if_icmp .ge 29, 3) := by decide +kernel
theorem dX8_replace_62 : decode cX8_replace 62 = .ok (.iload_n 3, 1) := by decide +kernel
theorem dX8_replace_63 : decode cX8_replace 63 = .ok (.iconst 1, 1) := by decide +kernel
theorem dX8_replace_64 : decode cX8_replace 64 = .ok (.aload_n 0, 1) := by decide +kernel
theorem dX8_replace_65 : decode cX8_replace 65 = .ok (.getfield 28, 3) := by decide +kernel
theorem dX8_replace_68 : decode cX8_replace 68 = .ok (.iload 4, 2) := by decide +kernel
theorem dX8_replace_70 : decode cX8_replace 70 = .ok (.iaload, 1) := by decide +kernel
theorem dX8_replace_71 : decode cX8_replace 71 = .ok (.isub, 1) := by decide +kernel
theorem dX8_replace_72 : decode cX8_replace 72 = .ok (.aload_n 0, 1) := by decide +kernel
theorem dX8_replace_73 : decode cX8_replace 73 = .ok (.iload_n 1, 1) := by decide +kernel
theorem dX8_replace_74 : decode cX8_replace 74 = .ok (.iload 4, 2) := by decide +kernel
theorem dX8_replace_76 : decode cX8_replace 76 = .ok (.invokevirtual 107, 3) := by decide +kernel
theorem dX8_replace_79 : decode cX8_replace 79 = .ok (.iadd, 1) := by decide +kernel
theorem dX8_replace_80 : decode cX8_replace 80 = .ok (.iadd, 1) := by decide +kernel
theorem dX8_replace_81 : decode cX8_replace 81 = .ok (.istore_n 3, 1) := by decide +kernel
theorem dX8_replace_82 : decode cX8_replace 82 = .ok (.iinc 4 1, 3) := by decide +kernel
theorem dX8_replace_85 : decode cX8_replace 85 = .ok (.goto (-32), 3) := by decide +kernel
theorem dX8_replace_88 : decode cX8_replace 88 = .ok (.iload_n 3, 1) := by decide +kernel
theorem dX8_replace_89 : decode cX8_replace 89 = .ok (.bipush 120, 2) := by decide +kernel
theorem dX8_replace_91 : decode cX8_replace 91 = .ok (.if_icmp .le 6, 3) := by decide +kernel
theorem dX8_replace_94 : decode cX8_replace 94 = .ok (.bipush (-3), 2) := by decide +kernel
theorem dX8_replace_96 : decode cX8_replace 96 = .ok (.ireturn, 1) := by decide +kernel
theorem dX8_replace_97 : decode cX8_replace 97 = .ok (.aload_n 0, 1) := by decide +kernel
theorem dX8_replace_98 : decode cX8_replace 98 = .ok (.invokevirtual 85, 3) := by decide +kernel
theorem dX8_replace_101 : decode cX8_replace 101 = .ok (.aload_n 0, 1) := by decide +kernel
theorem dX8_replace_102 : decode cX8_replace 102 = .ok (.getfield 7, 3) := by decide +kernel
theorem dX8_replace_105 : decode cX8_replace 105 = .ok (.iconst 0, 1) := by decide +kernel
theorem dX8_replace_106 : decode cX8_replace 106 = .ok (.iconst 0, 1) := by decide +kernel
theorem dX8_replace_107 : decode cX8_replace 107 = .ok (.iastore, 1) := by decide +kernel
theorem dX8_replace_108 : decode cX8_replace 108 = .ok (.iconst 0, 1) := by decide +kernel
theorem dX8_replace_109 : decode cX8_replace 109 = .ok (.istore 4, 2) := by decide +kernel
theorem dX8_replace_111 : decode cX8_replace 111 = .ok (.iconst 0, 1) := by decide +kernel
theorem dX8_replace_112 : decode cX8_replace 112 = .ok (.istore 5, 2) := by decide +kernel
theorem dX8_replace_114 : decode cX8_replace 114 = .ok (.iload 5, 2) := by decide +kernel
theorem dX8_replace_116 : decode cX8_replace 116 = .ok (.aload_n 0, 1) := by decide +kernel
theorem dX8_replace_117 : decode cX8_replace 117 = .ok (.getfield 75, 3) := by decide +kernel
theorem dX8_replace_120 : decode cX8_replace 120 = .ok (.if_icmp .ge 61, 3) := by decide +kernel
theorem dX8_replace_123 : decode cX8_replace 123 = .ok (.iload 4, 2) := by decide +kernel
theorem dX8_replace_125 : decode cX8_replace 125 = .ok (.istore 6, 2) := by decide +kernel
theorem dX8_replace_127 : decode cX8_replace 127 = .ok (.iload 6, 2) := by decide +kernel
theorem dX8_replace_129 : decode cX8_replace 129 = .ok (.aload_n 0, 1) := by decide +kernel
theorem dX8_replace_130 : decode cX8_replace 130 = .ok (.iload_n 1, 1) := by decide +kernel
theorem dX8_replace_131 : decode cX8_replace 131 = .ok (.iload 5, 2) := by decide +kernel
theorem dX8_replace_133 : decode cX8_replace 133 = .ok (.invokevirtual 107, 3) := by decide +kernel
theorem dX8_replace_136 : decode cX8_replace 136 = .ok (.if_icmp .ge 22, 3) := by decide +kernel
theorem dX8_replace_139 : decode cX8_replace 139 = .ok (.aload_n 0, 1) := by decide +kernel
theorem dX8_replace_140 : decode cX8_replace 140 = .ok (.aload_n 0, 1) := by decide +kernel
theorem dX8_replace_141 : decode cX8_replace 141 = .ok (.getfield 13, 3) := by decide +kernel
theorem dX8_replace_144 : decode cX8_replace 144 = .ok (.iconst 3, 1) := by decide +kernel
theorem dX8_replace_145 : decode cX8_replace 145 = .ok (.iload 6, 2) := by decide +kernel
theorem dX8_replace_147 : decode cX8_replace 147 = .ok (.iadd, 1) := by decide +kernel
theorem dX8_replace_148 : decode cX8_replace 148 = .ok (.iaload, 1) := by decide +kernel
theorem dX8_replace_149 : decode cX8_replace 149 = .ok (.invokevirtual 88, 3) := by decide +kernel
theorem dX8_replace_152 : decode cX8_replace 152 = .ok (.iinc 6 1, 3) := by decide +kernel
theorem dX8_replace_155 : decode cX8_replace 155 = .ok (.goto (-28), 3) := by decide +kernel
theorem dX8_replace_158 : decode cX8_replace 158 = .ok (.aload_n 0, 1) := by decide +kernel
theorem dX8_replace_159 : decode cX8_replace 159 = .ok (.iload_n 2, 1) := by decide +kernel
theorem dX8_replace_160 : decode cX8_replace 160 = .ok (.bipush 97, 2) := by decide +kernel
theorem dX8_replace_162 : decode cX8_replace 162 = .ok (.isub, 1) := by decide +kernel
theorem dX8_replace_163 : decode cX8_replace 163 = .ok (.invokevirtual 88, 3) := by decide +kernel
theorem dX8_replace_166 : decode cX8_replace 166 = .ok (.aload_n 0, 1) := by decide +kernel
theorem dX8_replace_167 : decode cX8_replace 167 = .ok (.getfield 28, 3) := by decide +kernel
theorem dX8_replace_170 : decode cX8_replace 170 = .ok (.iload 5, 2) := by decide +kernel
theorem dX8_replace_172 : decode cX8_replace 172 = .ok (.iaload, 1) := by decide +kernel
theorem dX8_replace_173 : decode cX8_replace 173 = .ok (.istore 4, 2) := by decide +kernel
theorem dX8_replace_175 : decode cX8_replace 175 = .ok (.iinc 5 1, 3) := by decide +kernel
theorem dX8_replace_178 : decode cX8_replace 178 = .ok (.goto (-64), 3) := by decide +kernel
theorem dX8_replace_181 : decode cX8_replace 181 = .ok (.iload 4, 2) := by decide +kernel
theorem dX8_replace_183 : decode cX8_replace 183 = .ok (.istore 5, 2) := by decide +kernel
theorem dX8_replace_185 : decode cX8_replace 185 = .ok (.iload 5, 2) := by decide +kernel
theorem dX8_replace_187 : decode cX8_replace 187 = .ok (.aload_n 0, 1) := by decide +kernel
theorem dX8_replace_188 : decode cX8_replace 188 = .ok (.getfield 13, 3) := by decide +kernel
theorem dX8_replace_191 : decode cX8_replace 191 = .ok (.iconst 0, 1) := by decide +kernel
theorem dX8_replace_192 : decode cX8_replace 192 = .ok (.iaload, 1) := by decide +kernel
theorem dX8_replace_193 : decode cX8_replace 193 = .ok (.if_icmp .ge 22, 3) := by decide +kernel
theorem dX8_replace_196 : decode cX8_replace 196 = .ok (.aload_n 0, 1) := by decide +kernel
theorem dX8_replace_197 : decode cX8_replace 197 = .ok (.aload_n 0, 1) := by decide +kernel
theorem dX8_replace_198 : decode cX8_replace 198 = .ok (.getfield 13, 3) := by decide +kernel
theorem dX8_replace_201 : decode cX8_replace 201 = .ok (.iconst 3, 1) := by decide +kernel
theorem dX8_replace_202 : decode cX8_replace 202 = .ok (.iload 5, 2) := by decide +kernel
theorem dX8_replace_204 : decode cX8_replace 204 = .ok (.iadd, 1) := by decide +kernel
theorem dX8_replace_205 : decode cX8_replace 205 = .ok (.iaload, 1) := by decide +kernel
theorem dX8_replace_206 : decode cX8_replace 206 = .ok (.invokevirtual 88, 3) := by decide +kernel
theorem dX8_replace_209 : decode cX8_replace 209 = .ok (.iinc 5 1, 3) := by decide +kernel
theorem dX8_replace_212 : decode cX8_replace 212 = .ok (.goto (-27), 3) := by decide +kernel
theorem dX8_replace_215 : decode cX8_replace 215 = .ok (.aload_n 0, 1) := by decide +kernel
theorem dX8_replace_216 : decode cX8_replace 216 = .ok (.aload_n 0, 1) := by decide +kernel
theorem dX8_replace_217 : decode cX8_replace 217 = .ok (.getfield 75, 3) := by decide +kernel
theorem dX8_replace_220 : decode cX8_replace 220 = .ok (.invokevirtual 91, 3) := by decide +kernel
theorem dX8_replace_223 : decode cX8_replace 223 = .ok (.ireturn, 1) := by decide +kernel
theorem dX8_type_0 : decode cX8_type 0 = .ok (.aload_n 0, 1) := by decide +kernel
theorem dX8_type_1 : decode cX8_type 1 = .ok (.getfield 94, 3) := by decide +kernel
theorem dX8_type_4 : decode cX8_type 4 = .ok (.bipush 60, 2) := by decide +kernel
theorem dX8_type_6 : decode cX8_type 6 = .ok (.if_icmp .ne 6, 3) := by decide +kernel
theorem dX8_type_9 : decode cX8_type 9 = .ok (.bipush (-3), 2) := by decide +kernel
theorem dX8_type_11 : decode cX8_type 11 = .ok (.ireturn, 1) := by decide +kernel
theorem dX8_type_12 : decode cX8_type 12 = .ok (.aload_n 0, 1) := by decide +kernel
theorem dX8_type_13 : decode cX8_type 13 = .ok (.getfield 31, 3) := by decide +kernel
theorem dX8_type_16 : decode cX8_type 16 = .ok (.aload_n 0, 1) := by decide +kernel
theorem dX8_type_17 : decode cX8_type 17 = .ok (.getfield 94, 3) := by decide +kernel
theorem dX8_type_20 : decode cX8_type 20 = .ok (.iload_n 1, 1) := by decide +kernel
theorem dX8_type_21 : decode cX8_type 21 = .ok (.iastore, 1) := by decide +kernel
theorem dX8_type_22 : decode cX8_type 22 = .ok (.aload_n 0, 1) := by decide +kernel
theorem dX8_type_23 : decode cX8_type 23 = .ok (.dup, 1) := by decide +kernel
theorem dX8_type_24 : decode cX8_type 24 = .ok (.getfield 94, 3) := by decide +kernel
theorem dX8_type_27 : decode cX8_type 27 = .ok (.iconst 1, 1) := by decide +kernel
theorem dX8_type_28 : decode cX8_type 28 = .ok (.iadd, 1) := by decide +kernel
theorem dX8_type_29 : decode cX8_type 29 = .ok (.putfield 94, 3) := by decide +kernel
theorem dX8_type_32 : decode cX8_type 32 = .ok (.aload_n 0, 1) := by decide +kernel
theorem dX8_type_33 : decode cX8_type 33 = .ok (.getfield 94, 3) := by decide +kernel
theorem dX8_type_36 : decode cX8_type 36 = .ok (.ireturn, 1) := by decide +kernel
theorem dX8_clearPad_0 : decode cX8_clearPad 0 = .ok (.aload_n 0, 1) := by decide +kernel
theorem dX8_clearPad_1 : decode cX8_clearPad 1 = .ok (.getfield 94, 3) := by decide +kernel
theorem dX8_clearPad_4 : decode cX8_clearPad 4 = .ok (.istore_n 1, 1) := by decide +kernel
theorem dX8_clearPad_5 : decode cX8_clearPad 5 = .ok (.aload_n 0, 1) := by decide +kernel
theorem dX8_clearPad_6 : decode cX8_clearPad 6 = .ok (.iconst 0, 1) := by decide +kernel
theorem dX8_clearPad_7 : decode cX8_clearPad 7 = .ok (.putfield 94, 3) := by decide +kernel
theorem dX8_clearPad_10 : decode cX8_clearPad 10 = .ok (.iload_n 1, 1) := by decide +kernel
theorem dX8_clearPad_11 : decode cX8_clearPad 11 = .ok (.ireturn, 1) := by decide +kernel
set_option maxRecDepth 20000 in
theorem ggX8_isHere_X8_in : GoodIn wsX8_isHere wsX8_in := goodIn_r _ [7] (by decide +kernel) (by decide +kernel)
set_option maxRecDepth 20000 in
theorem gX8_isHere_X8_in : GoodIn wsX8_isHere (va_wsS RX8 47 yX8_in wsX8_in) := goodIn_app (goodIn_of _ (by decide +kernel)) ggX8_isHere_X8_in
theorem dX8_isHere_0 : decode cX8_isHere 0 = .ok (.aload_n 0, 1) := by decide +kernel
theorem dX8_isHere_1 : decode cX8_isHere 1 = .ok (.getfield 110, 3) := by decide +kernel
theorem dX8_isHere_4 : decode cX8_isHere 4 = .ok (.aload_n 0, 1) := by decide +kernel
theorem dX8_isHere_5 : decode cX8_isHere 5 = .ok (.getfield 94, 3) := by decide +kernel
theorem dX8_isHere_8 : decode cX8_isHere 8 = .ok (.if_icmp .ge 27, 3) := by decide +kernel
theorem dX8_isHere_11 : decode cX8_isHere 11 = .ok (.aload_n 0, 1) := by decide +kernel
theorem dX8_isHere_12 : decode cX8_isHere 12 = .ok (.getfield 31, 3) := by decide +kernel
theorem dX8_isHere_15 : decode cX8_isHere 15 = .ok (.aload_n 0, 1) := by decide +kernel
theorem dX8_isHere_16 : decode cX8_isHere 16 = .ok (.getfield 110, 3) := by decide +kernel
theorem dX8_isHere_19 : decode cX8_isHere 19 = .ok (.iaload, 1) := by decide +kernel
theorem dX8_isHere_20 : decode cX8_isHere 20 = .ok (.i2l, 1) := by decide +kernel
theorem dX8_isHere_21 : decode cX8_isHere 21 = .ok (.iload_n 1, 1) := by decide +kernel
theorem dX8_isHere_22 : decode cX8_isHere 22 = .ok (.i2l, 1) := by decide +kernel
theorem dX8_isHere_23 : decode cX8_isHere 23 = .ok (.iload_n 2, 1) := by decide +kernel
theorem dX8_isHere_24 : decode cX8_isHere 24 = .ok (.i2l, 1) := by decide +kernel
theorem dX8_isHere_25 : decode cX8_isHere 25 = .ok (.invokestatic 47, 3) := by decide +kernel
theorem dX8_isHere_28 : decode cX8_isHere 28 = .ok (.ifCond .eq 7, 3) := by decide +kernel
theorem dX8_isHere_31 : decode cX8_isHere 31 = .ok (.iconst 1, 1) := by decide +kernel
theorem dX8_isHere_32 : decode cX8_isHere 32 = .ok (.goto 4, 3) := by decide +kernel
theorem dX8_isHere_35 : decode cX8_isHere 35 = .ok (.iconst 0, 1) := by decide +kernel
theorem dX8_isHere_36 : decode cX8_isHere 36 = .ok (.ireturn, 1) := by decide +kernel
set_option maxRecDepth 20000 in
theorem ggX8_takesOne_X8_isHere : GoodIn wsX8_takesOne wsX8_isHere := goodIn_r _ [6, 1, 7, 8, 9, 10, 5, 11, 12, 13, 14, 15, 16, 17, 18, 19, 20, 21, 22, 23, 24, 25, 26, 27, 28, 29, 30, 31, 32] (by decide +kernel) (by decide +kernel)
set_option maxRecDepth 20000 in
theorem gX8_takesOne_X8_isHere : GoodIn wsX8_takesOne (wsV RX8 113 RX8 yX8_isHere wsX8_isHere) := goodIn_app (goodIn_of _ (by decide +kernel)) ggX8_takesOne_X8_isHere
theorem dX8_takesOne_0 : decode cX8_takesOne 0 = .ok (.aload_n 0, 1) := by decide +kernel
theorem dX8_takesOne_1 : decode cX8_takesOne 1 = .ok (.iload_n 1, 1) := by decide +kernel
theorem dX8_takesOne_2 : decode cX8_takesOne 2 = .ok (.iload_n 1, 1) := by decide +kernel
theorem dX8_takesOne_3 : decode cX8_takesOne 3 = .ok (.invokevirtual 113, 3) := by decide +kernel
theorem dX8_takesOne_6 : decode cX8_takesOne 6 = .ok (.istore_n 2, 1) := by decide +kernel
theorem dX8_takesOne_7 : decode cX8_takesOne 7 = .ok (.aload_n 0, 1) := by decide +kernel
theorem dX8_takesOne_8 : decode cX8_takesOne 8 = .ok (.dup, 1) := by decide +kernel
theorem dX8_takesOne_9 : decode cX8_takesOne 9 = .ok (.getfield 110, 3) := by decide +kernel
theorem dX8_takesOne_12 : decode cX8_takesOne 12 = .ok (.iload_n 2, 1) := by decide +kernel
theorem dX8_takesOne_13 : decode cX8_takesOne 13 = .ok (.ifCond .eq 7, 3) := by decide +kernel
theorem dX8_takesOne_16 : decode cX8_takesOne 16 = .ok (.iconst 1, 1) := by decide +kernel
theorem dX8_takesOne_17 : decode cX8_takesOne 17 = .ok (.goto 4, 3) := by decide +kernel
theorem dX8_takesOne_20 : decode cX8_takesOne 20 = .ok (.iconst 0, 1) := by decide +kernel
theorem dX8_takesOne_21 : decode cX8_takesOne 21 = .ok (.iadd, 1) := by decide +kernel
theorem dX8_takesOne_22 : decode cX8_takesOne 22 = .ok (.putfield 110, 3) := by decide +kernel
theorem dX8_takesOne_25 : decode cX8_takesOne 25 = .ok (.iload_n 2, 1) := by decide +kernel
theorem dX8_takesOne_26 : decode cX8_takesOne 26 = .ok (.ireturn, 1) := by decide +kernel
theorem dX8_reads_0 : decode cX8_reads 0 = .ok (.aload_n 0, 1) := by decide +kernel
theorem dX8_reads_1 : decode cX8_reads 1 = .ok (.getfield 34, 3) := by decide +kernel
theorem dX8_reads_4 : decode cX8_reads 4 = .ok (.aload_n 0, 1) := by decide +kernel
theorem dX8_reads_5 : decode cX8_reads 5 = .ok (.getfield 116, 3) := by decide +kernel
theorem dX8_reads_8 : decode cX8_reads 8 = .ok (.iload_n 1, 1) := by decide +kernel
theorem dX8_reads_9 : decode cX8_reads 9 = .ok (.iastore, 1) := by decide +kernel
theorem dX8_reads_10 : decode cX8_reads 10 = .ok (.aload_n 0, 1) := by decide +kernel
theorem dX8_reads_11 : decode cX8_reads 11 = .ok (.dup, 1) := by decide +kernel
theorem dX8_reads_12 : decode cX8_reads 12 = .ok (.getfield 116, 3) := by decide +kernel
theorem dX8_reads_15 : decode cX8_reads 15 = .ok (.iconst 1, 1) := by decide +kernel
theorem dX8_reads_16 : decode cX8_reads 16 = .ok (.iadd, 1) := by decide +kernel
theorem dX8_reads_17 : decode cX8_reads 17 = .ok (.putfield 116, 3) := by decide +kernel
theorem dX8_reads_20 : decode cX8_reads 20 = .ok (.return_, 1) := by decide +kernel
set_option maxRecDepth 20000 in
theorem ggX8_readsSet_X8_takesOne : GoodIn wsX8_readsSet wsX8_takesOne := goodIn_r _ [8, 2, 9, 10, 11, 7, 12, 13, 1, 14, 15, 16, 23, 24, 25, 26, 27, 28, 29, 30, 31, 32, 33, 34, 35, 36, 37, 38, 39, 40, 41, 42, 43] (by decide +kernel) (by decide +kernel)
set_option maxRecDepth 20000 in
theorem gX8_readsSet_X8_takesOne : GoodIn wsX8_readsSet (wsV RX8 119 RX8 yX8_takesOne wsX8_takesOne) := goodIn_app (goodIn_of _ (by decide +kernel)) ggX8_readsSet_X8_takesOne
set_option maxRecDepth 20000 in
theorem ggX8_readsSet_X8_isHere : GoodIn wsX8_readsSet wsX8_isHere := goodIn_r _ [12, 2, 13, 1, 14, 15, 7, 16, 23, 24, 25, 26, 27, 28, 29, 30, 31, 32, 33, 34, 35, 36, 37, 38, 39, 40, 41, 42, 43] (by decide +kernel) (by decide +kernel)
set_option maxRecDepth 20000 in
theorem gX8_readsSet_X8_isHere : GoodIn wsX8_readsSet (wsV RX8 113 RX8 yX8_isHere wsX8_isHere) := goodIn_app (goodIn_of _ (by decide +kernel)) ggX8_readsSet_X8_isHere
set_option maxRecDepth 20000 in
theorem ggX8_readsSet_X8_reads : GoodIn wsX8_readsSet wsX8_reads := goodIn_r _ [20, 21, 22, 23, 24, 25, 26, 27, 28, 29, 30, 31, 32, 33, 34, 35, 36, 37, 38, 39, 40, 41, 42, 43] (by decide +kernel) (by decide +kernel)
set_option maxRecDepth 20000 in
theorem gX8_readsSet_X8_reads : GoodIn wsX8_readsSet (wsV RX8 123 RX8 yX8_reads wsX8_reads) := goodIn_app (goodIn_of _ (by decide +kernel)) ggX8_readsSet_X8_reads
theorem dX8_readsSet_0 : decode cX8_readsSet 0 = .ok (.aload_n 0, 1) := by decide +kernel
theorem dX8_readsSet_1 : decode cX8_readsSet 1 = .ok (.bipush 45, 2) := by decide +kernel
theorem dX8_readsSet_3 : decode cX8_readsSet 3 = .ok (.invokevirtual 119, 3) := by decide +kernel
theorem dX8_readsSet_6 : decode cX8_readsSet 6 = .ok (.istore_n 1, 1) := by decide +kernel
theorem dX8_readsSet_7 : decode cX8_readsSet 7 = .ok (.iconst 0, 1) := by decide +kernel
theorem dX8_readsSet_8 : decode cX8_readsSet 8 = .ok (.istore_n 2, 1) := by decide +kernel
theorem dX8_readsSet_9 : decode cX8_readsSet 9 = .ok (.bipush 97, 2) := by decide +kernel
theorem dX8_readsSet_11 : decode cX8_readsSet 11 = .ok (.istore_n 3, 1) := by decide +kernel
theorem dX8_readsSet_12 : decode cX8_readsSet 12 = .ok (.aload_n 0, 1) := by decide +kernel
theorem dX8_readsSet_13 : decode cX8_readsSet 13 = .ok (.iload_n 3, 1) := by decide +kernel
theorem dX8_readsSet_14 : decode cX8_readsSet 14 = .ok (.bipush 122, 2) := by decide +kernel
theorem dX8_readsSet_16 : decode cX8_readsSet 16 = .ok (.invokevirtual 113, 3) := by decide +kernel
theorem dX8_readsSet_19 : decode cX8_readsSet 19 = .ok (.ifCond .eq 45, 3) := by decide +kernel
theorem dX8_readsSet_22 : decode cX8_readsSet 22 = .ok (.iload_n 2, 1) := by decide +kernel
theorem dX8_readsSet_23 : decode cX8_readsSet 23 = .ok (.iconst 1, 1) := by decide +kernel
theorem dX8_readsSet_24 : decode cX8_readsSet 24 = .ok (.aload_n 0, 1) := by decide +kernel
theorem dX8_readsSet_25 : decode cX8_readsSet 25 = .ok (.getfield 31, 3) := by decide +kernel
theorem dX8_readsSet_28 : decode cX8_readsSet 28 = .ok (.aload_n 0, 1) := by decide +kernel
theorem dX8_readsSet_29 : decode cX8_readsSet 29 = .ok (.getfield 110, 3) := by decide +kernel
theorem dX8_readsSet_32 : decode cX8_readsSet 32 = .ok (.iaload, 1) := by decide +kernel
theorem dX8_readsSet_33 : decode cX8_readsSet 33 = .ok (.bipush 97, 2) := by decide +kernel
theorem dX8_readsSet_35 : decode cX8_readsSet 35 = .ok (.isub, 1) := by decide +kernel
theorem dX8_readsSet_36 : decode cX8_readsSet 36 = .ok (.ishl, 1) := by decide +kernel
theorem dX8_readsSet_37 : decode cX8_readsSet 37 = .ok (.ior, 1) := by decide +kernel
theorem dX8_readsSet_38 : decode cX8_readsSet 38 = .ok (.istore_n 2, 1) := by decide +kernel
theorem dX8_readsSet_39 : decode cX8_readsSet 39 = .ok (.aload_n 0, 1) := by decide +kernel
theorem dX8_readsSet_40 : decode cX8_readsSet 40 = .ok (.getfield 31, 3) := by decide +kernel
theorem dX8_readsSet_43 : decode cX8_readsSet 43 = .ok (.aload_n 0, 1) := by decide +kernel
theorem dX8_readsSet_44 : decode cX8_readsSet 44 = .ok (.getfield 110, 3) := by decide +kernel
theorem dX8_readsSet_47 : decode cX8_readsSet 47 = .ok (.iaload, 1) := by decide +kernel
theorem dX8_readsSet_48 : decode cX8_readsSet 48 = .ok (.iconst 1, 1) := by decide +kernel
theorem dX8_readsSet_49 : decode cX8_readsSet 49 = .ok (.iadd, 1) := by decide +kernel
theorem dX8_readsSet_50 : decode cX8_readsSet 50 = .ok (.istore_n 3, 1) := by decide +kernel
theorem dX8_readsSet_51 : decode cX8_readsSet 51 = .ok (.aload_n 0, 1) := by decide +kernel
theorem dX8_readsSet_52 : decode cX8_readsSet 52 = .ok (.dup, 1) := by decide +kernel
theorem dX8_readsSet_53 : decode cX8_readsSet 53 = .ok (.getfield 110, 3) := by decide +kernel
theorem dX8_readsSet_56 : decode cX8_readsSet 56 = .ok (.iconst 1, 1) := by decide +kernel
theorem dX8_readsSet_57 : decode cX8_readsSet 57 = .ok (.iadd, 1) := by decide +kernel
theorem dX8_readsSet_58 : decode cX8_readsSet 58 = .ok (.putfield 110, 3) := by decide +kernel
theorem dX8_readsSet_61 : decode cX8_readsSet 61 = .ok (.goto (-49), 3) := by decide +kernel
theorem dX8_readsSet_64 : decode cX8_readsSet 64 = .ok (.iload_n 2, 1) := by decide +kernel
theorem dX8_readsSet_65 : decode cX8_readsSet 65 = .ok (.ifCond .eq 12, 3) := by decide +kernel
theorem dX8_readsSet_68 : decode cX8_readsSet 68 = .ok (.aload_n 0, 1) := by decide +kernel
theorem dX8_readsSet_69 : decode cX8_readsSet 69 = .ok (.bipush 93, 2) := by decide +kernel
theorem dX8_readsSet_71 : decode cX8_readsSet 71 = .ok (.invokevirtual 119, 3) := by decide +kernel
theorem dX8_readsSet_74 : decode cX8_readsSet 74 = .ok (.ifCond .ne 5, 3) := by decide +kernel
theorem dX8_readsSet_77 : decode cX8_readsSet 77 = .ok (.iconst 0, 1) := by decide +kernel
theorem dX8_readsSet_78 : decode cX8_readsSet 78 = .ok (.ireturn, 1) := by decide +kernel
theorem dX8_readsSet_79 : decode cX8_readsSet 79 = .ok (.aload_n 0, 1) := by decide +kernel
theorem dX8_readsSet_80 : decode cX8_readsSet 80 = .ok (.iload_n 1, 1) := by decide +kernel
theorem dX8_readsSet_81 : decode cX8_readsSet 81 = .ok (.ifCond .eq 12, 3) := by decide +kernel
theorem dX8_readsSet_84 : decode cX8_readsSet 84 = .ok (.ldc 122, 2) := by decide +kernel
theorem dX8_readsSet_86 : decode cX8_readsSet 86 = .ok (.iload_n 2, 1) := by decide +kernel
theorem dX8_readsSet_87 : decode cX8_readsSet 87 = .ok (.iconst (-1), 1) := by decide +kernel
theorem dX8_readsSet_88 : decode cX8_readsSet 88 = .ok (.ixor, 1) := by decide +kernel
theorem dX8_readsSet_89 : decode cX8_readsSet 89 = .ok (.iand, 1) := by decide +kernel
theorem dX8_readsSet_90 : decode cX8_readsSet 90 = .ok (.goto 4, 3) := by decide +kernel
theorem dX8_readsSet_93 : decode cX8_readsSet 93 = .ok (.iload_n 2, 1) := by decide +kernel
theorem dX8_readsSet_94 : decode cX8_readsSet 94 = .ok (.invokevirtual 123, 3) := by decide +kernel
theorem dX8_readsSet_97 : decode cX8_readsSet 97 = .ok (.iconst 1, 1) := by decide +kernel
theorem dX8_readsSet_98 : decode cX8_readsSet 98 = .ok (.ireturn, 1) := by decide +kernel
set_option maxRecDepth 20000 in
theorem ggX8_readsPlace_X8_takesOne : GoodIn wsX8_readsPlace wsX8_takesOne := goodIn_r _ [9, 2, 10, 11, 12, 8, 13, 14, 1, 15, 16, 17, 29, 30, 31, 32, 33, 34, 35, 36, 37, 38, 39, 40, 41, 42, 43, 44, 45, 46, 47, 48, 49] (by decide +kernel) (by decide +kernel)
set_option maxRecDepth 20000 in
theorem gX8_readsPlace_X8_takesOne : GoodIn wsX8_readsPlace (wsV RX8 119 RX8 yX8_takesOne wsX8_takesOne) := goodIn_app (goodIn_of _ (by decide +kernel)) ggX8_readsPlace_X8_takesOne
set_option maxRecDepth 20000 in
theorem ggX8_readsPlace_X8_readsSet : GoodIn wsX8_readsPlace wsX8_readsSet := goodIn_r _ [21, 1, 2, 22, 5, 6, 7, 8, 9, 10, 11, 12, 13, 14, 15, 16, 17, 23, 24, 25, 26, 27, 28, 29, 30, 31, 32, 33, 34, 35, 36, 37, 38, 39, 40, 41, 42, 43, 44, 45, 46, 47, 48, 49] (by decide +kernel) (by decide +kernel)
set_option maxRecDepth 20000 in
theorem gX8_readsPlace_X8_readsSet : GoodIn wsX8_readsPlace (wsV RX8 126 RX8 yX8_readsSet wsX8_readsSet) := goodIn_app (goodIn_of _ (by decide +kernel)) ggX8_readsPlace_X8_readsSet
set_option maxRecDepth 20000 in
theorem ggX8_readsPlace_X8_isHere : GoodIn wsX8_readsPlace wsX8_isHere := goodIn_r _ [13, 2, 14, 1, 15, 16, 8, 17, 29, 30, 31, 32, 33, 34, 35, 36, 37, 38, 39, 40, 41, 42, 43, 44, 45, 46, 47, 48, 49] (by decide +kernel) (by decide +kernel)
set_option maxRecDepth 20000 in
theorem gX8_readsPlace_X8_isHere : GoodIn wsX8_readsPlace (wsV RX8 113 RX8 yX8_isHere wsX8_isHere) := goodIn_app (goodIn_of _ (by decide +kernel)) ggX8_readsPlace_X8_isHere
set_option maxRecDepth 20000 in
theorem ggX8_readsPlace_X8_reads : GoodIn wsX8_readsPlace wsX8_reads := goodIn_r _ [26, 27, 28, 29, 30, 31, 32, 33, 34, 35, 36, 37, 38, 39, 40, 41, 42, 43, 44, 45, 46, 47, 48, 49] (by decide +kernel) (by decide +kernel)
set_option maxRecDepth 20000 in
theorem gX8_readsPlace_X8_reads : GoodIn wsX8_readsPlace (wsV RX8 123 RX8 yX8_reads wsX8_reads) := goodIn_app (goodIn_of _ (by decide +kernel)) ggX8_readsPlace_X8_reads
theorem dX8_readsPlace_0 : decode cX8_readsPlace 0 = .ok (.aload_n 0, 1) := by decide +kernel
theorem dX8_readsPlace_1 : decode cX8_readsPlace 1 = .ok (.bipush 91, 2) := by decide +kernel
theorem dX8_readsPlace_3 : decode cX8_readsPlace 3 = .ok (.invokevirtual 119, 3) := by decide +kernel
theorem dX8_readsPlace_6 : decode cX8_readsPlace 6 = .ok (.ifCond .eq 8, 3) := by decide +kernel
theorem dX8_readsPlace_9 : decode cX8_readsPlace 9 = .ok (.aload_n 0, 1) := by decide +kernel
theorem dX8_readsPlace_10 : decode cX8_readsPlace 10 = .ok (.invokevirtual 126, 3) := by decide +kernel
theorem dX8_readsPlace_13 : decode cX8_readsPlace 13 = .ok (.ireturn, 1) := by decide +kernel
theorem dX8_readsPlace_14 : decode cX8_readsPlace 14 = .ok (.aload_n 0, 1) := by decide +kernel
theorem dX8_readsPlace_15 : decode cX8_readsPlace 15 = .ok (.bipush 97, 2) := by decide +kernel
theorem dX8_readsPlace_17 : decode cX8_readsPlace 17 = .ok (.bipush 122, 2) := by decide +kernel
theorem dX8_readsPlace_19 : decode cX8_readsPlace 19 = .ok (.invokevirtual 113, 3) := by decide +kernel
theorem dX8_readsPlace_22 : decode cX8_readsPlace 22 = .ok (.ifCond .eq 33, 3) := by decide +kernel
theorem dX8_readsPlace_25 : decode cX8_readsPlace 25 = .ok (.aload_n 0, 1) := by decide +kernel
theorem dX8_readsPlace_26 : decode cX8_readsPlace 26 = .ok (.iconst 1, 1) := by decide +kernel
theorem dX8_readsPlace_27 : decode cX8_readsPlace 27 = .ok (.aload_n 0, 1) := by decide +kernel
theorem dX8_readsPlace_28 : decode cX8_readsPlace 28 = .ok (.getfield 31, 3) := by decide +kernel
theorem dX8_readsPlace_31 : decode cX8_readsPlace 31 = .ok (.aload_n 0, 1) := by decide +kernel
theorem dX8_readsPlace_32 : decode cX8_readsPlace 32 = .ok (.getfield 110, 3) := by decide +kernel
theorem dX8_readsPlace_35 : decode cX8_readsPlace 35 = .ok (.iaload, 1) := by decide +kernel
theorem dX8_readsPlace_36 : decode cX8_readsPlace 36 = .ok (.bipush 97, 2) := by decide +kernel
theorem dX8_readsPlace_38 : decode cX8_readsPlace 38 = .ok (.isub, 1) := by decide +kernel
theorem dX8_readsPlace_39 : decode cX8_readsPlace 39 = .ok (.ishl, 1) := by decide +kernel
theorem dX8_readsPlace_40 : decode cX8_readsPlace 40 = .ok (.invokevirtual 123, 3) := by decide +kernel
theorem dX8_readsPlace_43 : decode cX8_readsPlace 43 = .ok (.aload_n 0, 1) := by decide +kernel
theorem dX8_readsPlace_44 : decode cX8_readsPlace 44 = .ok (.dup, 1) := by decide +kernel
theorem dX8_readsPlace_45 : decode cX8_readsPlace 45 = .ok (.getfield 110, 3) := by decide +kernel
theorem dX8_readsPlace_48 : decode cX8_readsPlace 48 = .ok (.iconst 1, 1) := by decide +kernel
theorem dX8_readsPlace_49 : decode cX8_readsPlace 49 = .ok (.iadd, 1) := by decide +kernel
theorem dX8_readsPlace_50 : decode cX8_readsPlace 50 = .ok (.putfield 110, 3) := by decide +kernel
theorem dX8_readsPlace_53 : decode cX8_readsPlace 53 = .ok (.iconst 1, 1) := by decide +kernel
theorem dX8_readsPlace_54 : decode cX8_readsPlace 54 = .ok (.ireturn, 1) := by decide +kernel
theorem dX8_readsPlace_55 : decode cX8_readsPlace 55 = .ok (.aload_n 0, 1) := by decide +kernel
theorem dX8_readsPlace_56 : decode cX8_readsPlace 56 = .ok (.bipush 46, 2) := by decide +kernel
theorem dX8_readsPlace_58 : decode cX8_readsPlace 58 = .ok (.invokevirtual 119, 3) := by decide +kernel
theorem dX8_readsPlace_61 : decode cX8_readsPlace 61 = .ok (.ifCond .eq 11, 3) := by decide +kernel
theorem dX8_readsPlace_64 : decode cX8_readsPlace 64 = .ok (.aload_n 0, 1) := by decide +kernel
theorem dX8_readsPlace_65 : decode cX8_readsPlace 65 = .ok (.ldc 130, 2) := by decide +kernel
theorem dX8_readsPlace_67 : decode cX8_readsPlace 67 = .ok (.invokevirtual 123, 3) := by decide +kernel
theorem dX8_readsPlace_70 : decode cX8_readsPlace 70 = .ok (.iconst 1, 1) := by decide +kernel
theorem dX8_readsPlace_71 : decode cX8_readsPlace 71 = .ok (.ireturn, 1) := by decide +kernel
theorem dX8_readsPlace_72 : decode cX8_readsPlace 72 = .ok (.aload_n 0, 1) := by decide +kernel
theorem dX8_readsPlace_73 : decode cX8_readsPlace 73 = .ok (.bipush 95, 2) := by decide +kernel
theorem dX8_readsPlace_75 : decode cX8_readsPlace 75 = .ok (.invokevirtual 119, 3) := by decide +kernel
theorem dX8_readsPlace_78 : decode cX8_readsPlace 78 = .ok (.ifCond .eq 11, 3) := by decide +kernel
theorem dX8_readsPlace_81 : decode cX8_readsPlace 81 = .ok (.aload_n 0, 1) := by decide +kernel
theorem dX8_readsPlace_82 : decode cX8_readsPlace 82 = .ok (.ldc 131, 2) := by decide +kernel
theorem dX8_readsPlace_84 : decode cX8_readsPlace 84 = .ok (.invokevirtual 123, 3) := by decide +kernel
theorem dX8_readsPlace_87 : decode cX8_readsPlace 87 = .ok (.iconst 1, 1) := by decide +kernel
theorem dX8_readsPlace_88 : decode cX8_readsPlace 88 = .ok (.ireturn, 1) := by decide +kernel
theorem dX8_readsPlace_89 : decode cX8_readsPlace 89 = .ok (.iconst 0, 1) := by decide +kernel
theorem dX8_readsPlace_90 : decode cX8_readsPlace 90 = .ok (.ireturn, 1) := by decide +kernel
set_option maxRecDepth 20000 in
theorem ggX8_fault_X8_takesOne : GoodIn wsX8_fault wsX8_takesOne := goodIn_r _ [9, 1, 10, 11, 12, 8, 13, 4, 14, 15, 16, 17, 34, 35, 36, 37, 38, 39, 40, 41, 42, 43, 44, 45, 46, 47, 48, 49, 50, 51, 52, 53, 54] (by decide +kernel) (by decide +kernel)
set_option maxRecDepth 20000 in
theorem gX8_fault_X8_takesOne : GoodIn wsX8_fault (wsV RX8 119 RX8 yX8_takesOne wsX8_takesOne) := goodIn_app (goodIn_of _ (by decide +kernel)) ggX8_fault_X8_takesOne
set_option maxRecDepth 20000 in
theorem ggX8_fault_X8_readsPlace : GoodIn wsX8_fault wsX8_readsPlace := goodIn_r _ [21, 14, 1, 22, 23, 5, 6, 7, 8, 9, 10, 11, 12, 13, 4, 15, 16, 17, 24, 25, 26, 27, 28, 29, 30, 31, 32, 33, 2, 34, 35, 36, 37, 38, 39, 40, 41, 42, 43, 44, 45, 46, 47, 48, 49, 50, 51, 52, 53, 54] (by decide +kernel) (by decide +kernel)
set_option maxRecDepth 20000 in
theorem gX8_fault_X8_readsPlace : GoodIn wsX8_fault (wsV RX8 135 RX8 yX8_readsPlace wsX8_readsPlace) := goodIn_app (goodIn_of _ (by decide +kernel)) ggX8_fault_X8_readsPlace
theorem dX8_fault_0 : decode cX8_fault 0 = .ok (.aload_n 0, 1) := by decide +kernel
theorem dX8_fault_1 : decode cX8_fault 1 = .ok (.iconst 0, 1) := by decide +kernel
theorem dX8_fault_2 : decode cX8_fault 2 = .ok (.putfield 110, 3) := by decide +kernel
theorem dX8_fault_5 : decode cX8_fault 5 = .ok (.aload_n 0, 1) := by decide +kernel
theorem dX8_fault_6 : decode cX8_fault 6 = .ok (.iconst 0, 1) := by decide +kernel
theorem dX8_fault_7 : decode cX8_fault 7 = .ok (.putfield 116, 3) := by decide +kernel
theorem dX8_fault_10 : decode cX8_fault 10 = .ok (.aload_n 0, 1) := by decide +kernel
theorem dX8_fault_11 : decode cX8_fault 11 = .ok (.aload_n 0, 1) := by decide +kernel
theorem dX8_fault_12 : decode cX8_fault 12 = .ok (.bipush 94, 2) := by decide +kernel
theorem dX8_fault_14 : decode cX8_fault 14 = .ok (.invokevirtual 119, 3) := by decide +kernel
theorem dX8_fault_17 : decode cX8_fault 17 = .ok (.ifCond .eq 7, 3) := by decide +kernel
theorem dX8_fault_20 : decode cX8_fault 20 = .ok (.iconst 1, 1) := by decide +kernel
theorem dX8_fault_21 : decode cX8_fault 21 = .ok (.goto 4, 3) := by decide +kernel
theorem dX8_fault_24 : decode cX8_fault 24 = .ok (.iconst 0, 1) := by decide +kernel
theorem dX8_fault_25 : decode cX8_fault 25 = .ok (.putfield 132, 3) := by decide +kernel
theorem dX8_fault_28 : decode cX8_fault 28 = .ok (.aload_n 0, 1) := by decide +kernel
theorem dX8_fault_29 : decode cX8_fault 29 = .ok (.invokevirtual 135, 3) := by decide +kernel
theorem dX8_fault_32 : decode cX8_fault 32 = .ok (.istore_n 1, 1) := by decide +kernel
theorem dX8_fault_33 : decode cX8_fault 33 = .ok (.iload_n 1, 1) := by decide +kernel
theorem dX8_fault_34 : decode cX8_fault 34 = .ok (.ifCond .eq 22, 3) := by decide +kernel
theorem dX8_fault_37 : decode cX8_fault 37 = .ok (.aload_n 0, 1) := by decide +kernel
theorem dX8_fault_38 : decode cX8_fault 38 = .ok (.getfield 110, 3) := by decide +kernel
theorem dX8_fault_41 : decode cX8_fault 41 = .ok (.aload_n 0, 1) := by decide +kernel
theorem dX8_fault_42 : decode cX8_fault 42 = .ok (.getfield 94, 3) := by decide +kernel
theorem dX8_fault_45 : decode cX8_fault 45 = .ok (.if_icmp .ge 11, 3) := by decide +kernel
theorem dX8_fault_48 : decode cX8_fault 48 = .ok (.aload_n 0, 1) := by decide +kernel
theorem dX8_fault_49 : decode cX8_fault 49 = .ok (.invokevirtual 135, 3) := by decide +kernel
theorem dX8_fault_52 : decode cX8_fault 52 = .ok (.istore_n 1, 1) := by decide +kernel
theorem dX8_fault_53 : decode cX8_fault 53 = .ok (.goto (-20), 3) := by decide +kernel
theorem dX8_fault_56 : decode cX8_fault 56 = .ok (.iload_n 1, 1) := by decide +kernel
theorem dX8_fault_57 : decode cX8_fault 57 = .ok (.ifCond .eq 8, 3) := by decide +kernel
theorem dX8_fault_60 : decode cX8_fault 60 = .ok (.bipush (-5), 2) := by decide +kernel
theorem dX8_fault_62 : decode cX8_fault 62 = .ok (.goto 7, 3) := by decide +kernel
theorem dX8_fault_65 : decode cX8_fault 65 = .ok (.aload_n 0, 1) := by decide +kernel
theorem dX8_fault_66 : decode cX8_fault 66 = .ok (.getfield 110, 3) := by decide +kernel
theorem dX8_fault_69 : decode cX8_fault 69 = .ok (.ireturn, 1) := by decide +kernel
set_option maxRecDepth 20000 in
theorem ggX8_addPattern_X8_fault : GoodIn wsX8_addPattern wsX8_fault := goodIn_r _ [9, 10, 2, 3, 11, 12, 13, 14, 8, 15, 16, 17, 18, 19, 20, 21, 22, 23, 24, 25, 26, 27, 28, 29, 30, 31, 32, 33, 34, 35, 36, 37, 38, 4, 50, 51, 52, 53, 54, 55, 56, 57, 58, 59, 60, 61, 62, 63, 64, 65, 66, 67, 68, 69, 70] (by decide +kernel) (by decide +kernel)
set_option maxRecDepth 20000 in
theorem gX8_addPattern_X8_fault : GoodIn wsX8_addPattern (wsV RX8 138 RX8 yX8_fault wsX8_fault) := goodIn_app (goodIn_of _ (by decide +kernel)) ggX8_addPattern_X8_fault
set_option maxRecDepth 20000 in
theorem ggX8_addPattern_X8_remember : GoodIn wsX8_addPattern wsX8_remember := goodIn_r _ [42, 43, 1, 50, 51, 52, 53, 54, 55, 56, 57, 58, 59, 60, 61, 62, 63, 64, 65, 66, 67, 68, 69, 70] (by decide +kernel) (by decide +kernel)
set_option maxRecDepth 20000 in
theorem gX8_addPattern_X8_remember : GoodIn wsX8_addPattern (wsV RX8 85 RX8 yX8_remember wsX8_remember) := goodIn_app (goodIn_of _ (by decide +kernel)) ggX8_addPattern_X8_remember
set_option maxRecDepth 20000 in
theorem ggX8_addPattern_X8_acted : GoodIn wsX8_addPattern wsX8_acted := goodIn_r _ [47, 48, 49, 43, 50, 51, 52, 53, 54, 55, 56, 57, 58, 59, 60, 61, 62, 63, 64, 65, 66, 67, 68, 69, 70] (by decide +kernel) (by decide +kernel)
set_option maxRecDepth 20000 in
theorem gX8_addPattern_X8_acted : GoodIn wsX8_addPattern (wsV RX8 91 RX8 yX8_acted wsX8_acted) := goodIn_app (goodIn_of _ (by decide +kernel)) ggX8_addPattern_X8_acted
theorem dX8_addPattern_0 : decode cX8_addPattern 0 = .ok (.aload_n 0, 1) := by decide +kernel
theorem dX8_addPattern_1 : decode cX8_addPattern 1 = .ok (.invokevirtual 138, 3) := by decide +kernel
theorem dX8_addPattern_4 : decode cX8_addPattern 4 = .ok (.istore_n 1, 1) := by decide +kernel
theorem dX8_addPattern_5 : decode cX8_addPattern 5 = .ok (.iload_n 1, 1) := by decide +kernel
theorem dX8_addPattern_6 : decode cX8_addPattern 6 = .ok (.bipush (-5), 2) := by decide +kernel
theorem dX8_addPattern_8 : decode cX8_addPattern 8 = .ok (.if_icmp .eq 8, 3) := by decide +kernel
theorem dX8_addPattern_11 : decode cX8_addPattern 11 = .ok (.bipush (-100), 2) := by decide +kernel
theorem dX8_addPattern_13 : decode cX8_addPattern 13 = .ok (.iload_n 1, 1) := by decide +kernel
theorem dX8_addPattern_14 : decode cX8_addPattern 14 = .ok (.isub, 1) := by decide +kernel
theorem dX8_addPattern_15 : decode cX8_addPattern 15 = .ok (.ireturn, 1) := by decide +kernel
theorem dX8_addPattern_16 : decode cX8_addPattern 16 = .ok (.aload_n 0, 1) := by decide +kernel
theorem dX8_addPattern_17 : decode cX8_addPattern 17 = .ok (.getfield 7, 3) := by decide +kernel
theorem dX8_addPattern_20 : decode cX8_addPattern 20 = .ok (.iconst 1, 1) := by decide +kernel
theorem dX8_addPattern_21 : decode cX8_addPattern 21 = .ok (.iaload, 1) := by decide +kernel
theorem dX8_addPattern_22 : decode cX8_addPattern 22 = .ok (.bipush 6, 2) := by decide +kernel
theorem dX8_addPattern_24 : decode cX8_addPattern 24 = .ok (.if_icmp .ne 6, 3) := by decide +kernel
theorem dX8_addPattern_27 : decode cX8_addPattern 27 = .ok (.bipush (-3), 2) := by decide +kernel
theorem dX8_addPattern_29 : decode cX8_addPattern 29 = .ok (.ireturn, 1) := by decide +kernel
