theorem dX0_init_0 : decode cX0_init 0 = .ok (.aload_n 0, 1) := by decide +kernel
theorem dX0_init_1 : decode cX0_init 1 = .ok (.invokespecial 3, 3) := by decide +kernel
theorem dX0_init_4 : decode cX0_init 4 = .ok (.aload_n 0, 1) := by decide +kernel
theorem dX0_init_5 : decode cX0_init 5 = .ok (.iconst 4, 1) := by decide +kernel
theorem dX0_init_6 : decode cX0_init 6 = .ok (.anewarray 9, 3) := by decide +kernel
theorem dX0_init_9 : decode cX0_init 9 = .ok (.putfield 11, 3) := by decide +kernel
theorem dX0_init_12 : decode cX0_init 12 = .ok (.aload_n 0, 1) := by decide +kernel
theorem dX0_init_13 : decode cX0_init 13 = .ok (.iconst 0, 1) := by decide +kernel
theorem dX0_init_14 : decode cX0_init 14 = .ok (.putfield 17, 3) := by decide +kernel
theorem dX0_init_17 : decode cX0_init 17 = .ok (.iconst 0, 1) := by decide +kernel
theorem dX0_init_18 : decode cX0_init 18 = .ok (.istore_n 1, 1) := by decide +kernel
theorem dX0_init_19 : decode cX0_init 19 = .ok (.iload_n 1, 1) := by decide +kernel
theorem dX0_init_20 : decode cX0_init 20 = .ok (.iconst 4, 1) := by decide +kernel
theorem dX0_init_21 : decode cX0_init 21 = .ok (.if_icmp .ge 22, 3) := by decide +kernel
theorem dX0_init_24 : decode cX0_init 24 = .ok (.aload_n 0, 1) := by decide +kernel
theorem dX0_init_25 : decode cX0_init 25 = .ok (.getfield 11, 3) := by decide +kernel
theorem dX0_init_28 : decode cX0_init 28 = .ok (.iload_n 1, 1) := by decide +kernel
theorem dX0_init_29 : decode cX0_init 29 = .ok (.new 9, 3) := by decide +kernel
theorem dX0_init_32 : decode cX0_init 32 = .ok (.dup, 1) := by decide +kernel
theorem dX0_init_33 : decode cX0_init 33 = .ok (.invokespecial 21, 3) := by decide +kernel
theorem dX0_init_36 : decode cX0_init 36 = .ok (.aastore, 1) := by decide +kernel
theorem dX0_init_37 : decode cX0_init 37 = .ok (.iinc 1 1, 3) := by decide +kernel
theorem dX0_init_40 : decode cX0_init 40 = .ok (.goto (-21), 3) := by decide +kernel
theorem dX0_init_43 : decode cX0_init 43 = .ok (.return_, 1) := by decide +kernel
set_option maxRecDepth 20000 in
theorem ggX0_record_X0_dropOldest : GoodIn wsX0_record wsX0_dropOldest := goodIn_r _ [6, 7, 1, 26, 27] (by decide +kernel) (by decide +kernel)
set_option maxRecDepth 20000 in
theorem gX0_record_X0_dropOldest : GoodIn wsX0_record (wsV RX0 22 RX0 yX0_dropOldest wsX0_dropOldest) := goodIn_app (goodIn_of _ (by decide +kernel)) ggX0_record_X0_dropOldest
set_option maxRecDepth 20000 in
theorem ggX0_record_X0_stateOrNull : GoodIn wsX0_record wsX0_stateOrNull := goodIn_r _ [11, 7, 26, 27] (by decide +kernel) (by decide +kernel)
set_option maxRecDepth 20000 in
theorem gX0_record_X0_stateOrNull : GoodIn wsX0_record (wsV RX0 25 RX0 yX0_stateOrNull wsX0_stateOrNull) := goodIn_app (goodIn_of _ (by decide +kernel)) ggX0_record_X0_stateOrNull
set_option maxRecDepth 20000 in
theorem ggX0_record_X5_copyFrom : GoodIn wsX0_record wsX5_copyFrom := goodIn_r _ [16, 17, 18, 19, 20, 21, 22, 23, 24, 25, 28, 29, 30, 31, 32] (by decide +kernel) (by decide +kernel)
set_option maxRecDepth 20000 in
theorem gX0_record_X5_copyFrom : GoodIn wsX0_record (wsV RX0 29 RX5 yX5_copyFrom wsX5_copyFrom) := goodIn_app (goodIn_of _ (by decide +kernel)) ggX0_record_X5_copyFrom
theorem dX0_record_0 : decode cX0_record 0 = .ok (.aload_n 0, 1) := by decide +kernel
theorem dX0_record_1 : decode cX0_record 1 = .ok (.getfield 17, 3) := by decide +kernel
theorem dX0_record_4 : decode cX0_record 4 = .ok (.iconst 4, 1) := by decide +kernel
theorem dX0_record_5 : decode cX0_record 5 = .ok (.if_icmp .lt 7, 3) := by decide +kernel
theorem dX0_record_8 : decode cX0_record 8 = .ok (.aload_n 0, 1) := by decide +kernel
theorem dX0_record_9 : decode cX0_record 9 = .ok (.invokevirtual 22, 3) := by decide +kernel
theorem dX0_record_12 : decode cX0_record 12 = .ok (.aload_n 0, 1) := by decide +kernel
theorem dX0_record_13 : decode cX0_record 13 = .ok (.aload_n 0, 1) := by decide +kernel
theorem dX0_record_14 : decode cX0_record 14 = .ok (.getfield 17, 3) := by decide +kernel
theorem dX0_record_17 : decode cX0_record 17 = .ok (.invokevirtual 25, 3) := by decide +kernel
theorem dX0_record_20 : decode cX0_record 20 = .ok (.astore_n 2, 1) := by decide +kernel
theorem dX0_record_21 : decode cX0_record 21 = .ok (.aload_n 2, 1) := by decide +kernel
theorem dX0_record_22 : decode cX0_record 22 = .ok (.ifnull 18, 3) := by decide +kernel
theorem dX0_record_25 : decode cX0_record 25 = .ok (.aload_n 2, 1) := by decide +kernel
theorem dX0_record_26 : decode cX0_record 26 = .ok (.aload_n 1, 1) := by decide +kernel
theorem dX0_record_27 : decode cX0_record 27 = .ok (.invokevirtual 29, 3) := by decide +kernel
theorem dX0_record_30 : decode cX0_record 30 = .ok (.aload_n 0, 1) := by decide +kernel
theorem dX0_record_31 : decode cX0_record 31 = .ok (.dup, 1) := by decide +kernel
theorem dX0_record_32 : decode cX0_record 32 = .ok (.getfield 17, 3) := by decide +kernel
theorem dX0_record_35 : decode cX0_record 35 = .ok (.iconst 1, 1) := by decide +kernel
theorem dX0_record_36 : decode cX0_record 36 = .ok (.iadd, 1) := by decide +kernel
theorem dX0_record_37 : decode cX0_record 37 = .ok (.putfield 17, 3) := by decide +kernel
theorem dX0_record_40 : decode cX0_record 40 = .ok (.return_, 1) := by decide +kernel
theorem dX0_dropOldest_0 : decode cX0_dropOldest 0 = .ok (.aload_n 0, 1) := by decide +kernel
theorem dX0_dropOldest_1 : decode cX0_dropOldest 1 = .ok (.getfield 11, 3) := by decide +kernel
theorem dX0_dropOldest_4 : decode cX0_dropOldest 4 = .ok (.iconst 0, 1) := by decide +kernel
theorem dX0_dropOldest_5 : decode cX0_dropOldest 5 = .ok (.aaload, 1) := by decide +kernel
theorem dX0_dropOldest_6 : decode cX0_dropOldest 6 = .ok (.astore_n 1, 1) := by decide +kernel
theorem dX0_dropOldest_7 : decode cX0_dropOldest 7 = .ok (.iconst 0, 1) := by decide +kernel
theorem dX0_dropOldest_8 : decode cX0_dropOldest 8 = .ok (.istore_n 2, 1) := by decide +kernel
theorem dX0_dropOldest_9 : decode cX0_dropOldest 9 = .ok (.iload_n 2, 1) := by decide +kernel
theorem dX0_dropOldest_10 : decode cX0_dropOldest 10 = .ok (.iconst 1, 1) := by decide +kernel
theorem dX0_dropOldest_11 : decode cX0_dropOldest 11 = .ok (.iadd, 1) := by decide +kernel
theorem dX0_dropOldest_12 : decode cX0_dropOldest 12 = .ok (.iconst 4, 1) := by decide +kernel
theorem dX0_dropOldest_13 : decode cX0_dropOldest 13 = .ok (.if_icmp .ge 23, 3) := by decide +kernel
theorem dX0_dropOldest_16 : decode cX0_dropOldest 16 = .ok (.aload_n 0, 1) := by decide +kernel
theorem dX0_dropOldest_17 : decode cX0_dropOldest 17 = .ok (.getfield 11, 3) := by decide +kernel
theorem dX0_dropOldest_20 : decode cX0_dropOldest 20 = .ok (.iload_n 2, 1) := by decide +kernel
theorem dX0_dropOldest_21 : decode cX0_dropOldest 21 = .ok (.aload_n 0, 1) := by decide +kernel
theorem dX0_dropOldest_22 : decode cX0_dropOldest 22 = .ok (.getfield 11, 3) := by decide +kernel
theorem dX0_dropOldest_25 : decode cX0_dropOldest 25 = .ok (.iload_n 2, 1) := by decide +kernel
theorem dX0_dropOldest_26 : decode cX0_dropOldest 26 = .ok (.iconst 1, 1) := by decide +kernel
theorem dX0_dropOldest_27 : decode cX0_dropOldest 27 = .ok (.iadd, 1) := by decide +kernel
theorem dX0_dropOldest_28 : decode cX0_dropOldest 28 = .ok (.aaload, 1) := by decide +kernel
theorem dX0_dropOldest_29 : decode cX0_dropOldest 29 = .ok (.aastore, 1) := by decide +kernel
theorem dX0_dropOldest_30 : decode cX0_dropOldest 30 = .ok (.iinc 2 1, 3) := by decide +kernel
theorem dX0_dropOldest_33 : decode cX0_dropOldest 33 = .ok (.goto (-24), 3) := by decide +kernel
theorem dX0_dropOldest_36 : decode cX0_dropOldest 36 = .ok (.aload_n 0, 1) := by decide +kernel
theorem dX0_dropOldest_37 : decode cX0_dropOldest 37 = .ok (.getfield 11, 3) := by decide +kernel
theorem dX0_dropOldest_40 : decode cX0_dropOldest 40 = .ok (.iconst 3, 1) := by decide +kernel
theorem dX0_dropOldest_41 : decode cX0_dropOldest 41 = .ok (.aload_n 1, 1) := by decide +kernel
theorem dX0_dropOldest_42 : decode cX0_dropOldest 42 = .ok (.aastore, 1) := by decide +kernel
theorem dX0_dropOldest_43 : decode cX0_dropOldest 43 = .ok (.aload_n 0, 1) := by decide +kernel
theorem dX0_dropOldest_44 : decode cX0_dropOldest 44 = .ok (.iconst 3, 1) := by decide +kernel
theorem dX0_dropOldest_45 : decode cX0_dropOldest 45 = .ok (.putfield 17, 3) := by decide +kernel
theorem dX0_dropOldest_48 : decode cX0_dropOldest 48 = .ok (.return_, 1) := by decide +kernel
set_option maxRecDepth 20000 in
theorem ggX0_takeLatestInto_X0_stateOrNull : GoodIn wsX0_takeLatestInto wsX0_stateOrNull := goodIn_r _ [6, 7, 22, 23] (by decide +kernel) (by decide +kernel)
set_option maxRecDepth 20000 in
theorem gX0_takeLatestInto_X0_stateOrNull : GoodIn wsX0_takeLatestInto (wsV RX0 25 RX0 yX0_stateOrNull wsX0_stateOrNull) := goodIn_app (goodIn_of _ (by decide +kernel)) ggX0_takeLatestInto_X0_stateOrNull
set_option maxRecDepth 20000 in
theorem ggX0_takeLatestInto_X5_copyFrom : GoodIn wsX0_takeLatestInto wsX5_copyFrom := goodIn_r _ [12, 13, 14, 15, 16, 17, 18, 19, 20, 21, 24, 25, 26, 27, 28] (by decide +kernel) (by decide +kernel)
set_option maxRecDepth 20000 in
theorem gX0_takeLatestInto_X5_copyFrom : GoodIn wsX0_takeLatestInto (wsV RX0 29 RX5 yX5_copyFrom wsX5_copyFrom) := goodIn_app (goodIn_of _ (by decide +kernel)) ggX0_takeLatestInto_X5_copyFrom
theorem dX0_takeLatestInto_0 : decode cX0_takeLatestInto 0 = .ok (.aload_n 0, 1) := by decide +kernel
theorem dX0_takeLatestInto_1 : decode cX0_takeLatestInto 1 = .ok (.aload_n 0, 1) := by decide +kernel
theorem dX0_takeLatestInto_2 : decode cX0_takeLatestInto 2 = .ok (.getfield 17, 3) := by decide +kernel
theorem dX0_takeLatestInto_5 : decode cX0_takeLatestInto 5 = .ok (.iconst 1, 1) := by decide +kernel
theorem dX0_takeLatestInto_6 : decode cX0_takeLatestInto 6 = .ok (.isub, 1) := by decide +kernel
theorem dX0_takeLatestInto_7 : decode cX0_takeLatestInto 7 = .ok (.invokevirtual 25, 3) := by decide +kernel
theorem dX0_takeLatestInto_10 : decode cX0_takeLatestInto 10 = .ok (.astore_n 2, 1) := by decide +kernel
theorem dX0_takeLatestInto_11 : decode cX0_takeLatestInto 11 = .ok (.aload_n 2, 1) := by decide +kernel
theorem dX0_takeLatestInto_12 : decode cX0_takeLatestInto 12 = .ok (.ifnull 18, 3) := by decide +kernel
theorem dX0_takeLatestInto_15 : decode cX0_takeLatestInto 15 = .ok (.aload_n 1, 1) := by decide +kernel
theorem dX0_takeLatestInto_16 : decode cX0_takeLatestInto 16 = .ok (.aload_n 2, 1) := by decide +kernel
theorem dX0_takeLatestInto_17 : decode cX0_takeLatestInto 17 = .ok (.invokevirtual 29, 3) := by decide +kernel
theorem dX0_takeLatestInto_20 : decode cX0_takeLatestInto 20 = .ok (.aload_n 0, 1) := by decide +kernel
theorem dX0_takeLatestInto_21 : decode cX0_takeLatestInto 21 = .ok (.dup, 1) := by decide +kernel
theorem dX0_takeLatestInto_22 : decode cX0_takeLatestInto 22 = .ok (.getfield 17, 3) := by decide +kernel
theorem dX0_takeLatestInto_25 : decode cX0_takeLatestInto 25 = .ok (.iconst 1, 1) := by decide +kernel
theorem dX0_takeLatestInto_26 : decode cX0_takeLatestInto 26 = .ok (.isub, 1) := by decide +kernel
theorem dX0_takeLatestInto_27 : decode cX0_takeLatestInto 27 = .ok (.putfield 17, 3) := by decide +kernel
theorem dX0_takeLatestInto_30 : decode cX0_takeLatestInto 30 = .ok (.return_, 1) := by decide +kernel
theorem dX0_stateOrNull_0 : decode cX0_stateOrNull 0 = .ok (.iload_n 1, 1) := by decide +kernel
theorem dX0_stateOrNull_1 : decode cX0_stateOrNull 1 = .ok (.ifCond .lt 17, 3) := by decide +kernel
theorem dX0_stateOrNull_4 : decode cX0_stateOrNull 4 = .ok (.iload_n 1, 1) := by decide +kernel
theorem dX0_stateOrNull_5 : decode cX0_stateOrNull 5 = .ok (.iconst 4, 1) := by decide +kernel
theorem dX0_stateOrNull_6 : decode cX0_stateOrNull 6 = .ok (.if_icmp .ge 12, 3) := by decide +kernel
theorem dX0_stateOrNull_9 : decode cX0_stateOrNull 9 = .ok (.aload_n 0, 1) := by decide +kernel
theorem dX0_stateOrNull_10 : decode cX0_stateOrNull 10 = .ok (.getfield 11, 3) := by decide +kernel
theorem dX0_stateOrNull_13 : decode cX0_stateOrNull 13 = .ok (.iload_n 1, 1) := by decide +kernel
theorem dX0_stateOrNull_14 : decode cX0_stateOrNull 14 = .ok (.aaload, 1) := by decide +kernel
theorem dX0_stateOrNull_15 : decode cX0_stateOrNull 15 = .ok (.goto 4, 3) := by decide +kernel
theorem dX0_stateOrNull_18 : decode cX0_stateOrNull 18 = .ok (.aconst_null, 1) := by decide +kernel
theorem dX0_stateOrNull_19 : decode cX0_stateOrNull 19 = .ok (.areturn, 1) := by decide +kernel
theorem dX1_init_0 : decode cX1_init 0 = .ok (.aload_n 0, 1) := by decide +kernel
theorem dX1_init_1 : decode cX1_init 1 = .ok (.invokespecial 3, 3) := by decide +kernel
theorem dX1_init_4 : decode cX1_init 4 = .ok (.aload_n 0, 1) := by decide +kernel
theorem dX1_init_5 : decode cX1_init 5 = .ok (.bipush 60, 2) := by decide +kernel
theorem dX1_init_7 : decode cX1_init 7 = .ok (.newarray .char, 2) := by decide +kernel
theorem dX1_init_9 : decode cX1_init 9 = .ok (.putfield 9, 3) := by decide +kernel
theorem dX1_init_12 : decode cX1_init 12 = .ok (.aload_n 0, 1) := by decide +kernel
theorem dX1_init_13 : decode cX1_init 13 = .ok (.iconst 0, 1) := by decide +kernel
theorem dX1_init_14 : decode cX1_init 14 = .ok (.putfield 15, 3) := by decide +kernel
theorem dX1_init_17 : decode cX1_init 17 = .ok (.return_, 1) := by decide +kernel
theorem dX1_append_0 : decode cX1_append 0 = .ok (.aload_n 0, 1) := by decide +kernel
theorem dX1_append_1 : decode cX1_append 1 = .ok (.getfield 15, 3) := by decide +kernel
theorem dX1_append_4 : decode cX1_append 4 = .ok (.ifCond .lt 32, 3) := by decide +kernel
theorem dX1_append_7 : decode cX1_append 7 = .ok (.aload_n 0, 1) := by decide +kernel
theorem dX1_append_8 : decode cX1_append 8 = .ok (.getfield 15, 3) := by decide +kernel
theorem dX1_append_11 : decode cX1_append 11 = .ok (.bipush 60, 2) := by decide +kernel
theorem dX1_append_13 : decode cX1_append 13 = .ok (.if_icmp .ge 23, 3) := by decide +kernel
theorem dX1_append_16 : decode cX1_append 16 = .ok (.aload_n 0, 1) := by decide +kernel
theorem dX1_append_17 : decode cX1_append 17 = .ok (.getfield 9, 3) := by decide +kernel
theorem dX1_append_20 : decode cX1_append 20 = .ok (.aload_n 0, 1) := by decide +kernel
theorem dX1_append_21 : decode cX1_append 21 = .ok (.getfield 15, 3) := by decide +kernel
theorem dX1_append_24 : decode cX1_append 24 = .ok (.iload_n 1, 1) := by decide +kernel
theorem dX1_append_25 : decode cX1_append 25 = .ok (.castore, 1) := by decide +kernel
theorem dX1_append_26 : decode cX1_append 26 = .ok (.aload_n 0, 1) := by decide +kernel
theorem dX1_append_27 : decode cX1_append 27 = .ok (.dup, 1) := by decide +kernel
theorem dX1_append_28 : decode cX1_append 28 = .ok (.getfield 15, 3) := by decide +kernel
theorem dX1_append_31 : decode cX1_append 31 = .ok (.iconst 1, 1) := by decide +kernel
theorem dX1_append_32 : decode cX1_append 32 = .ok (.iadd, 1) := by decide +kernel
theorem dX1_append_33 : decode cX1_append 33 = .ok (.putfield 15, 3) := by decide +kernel
theorem dX1_append_36 : decode cX1_append 36 = .ok (.return_, 1) := by decide +kernel
theorem dX1_signAt_0 : decode cX1_signAt 0 = .ok (.iload_n 1, 1) := by decide +kernel
theorem dX1_signAt_1 : decode cX1_signAt 1 = .ok (.ifCond .lt 18, 3) := by decide +kernel
theorem dX1_signAt_4 : decode cX1_signAt 4 = .ok (.iload_n 1, 1) := by decide +kernel
theorem dX1_signAt_5 : decode cX1_signAt 5 = .ok (.bipush 60, 2) := by decide +kernel
theorem dX1_signAt_7 : decode cX1_signAt 7 = .ok (.if_icmp .ge 12, 3) := by decide +kernel
theorem dX1_signAt_10 : decode cX1_signAt 10 = .ok (.aload_n 0, 1) := by decide +kernel
theorem dX1_signAt_11 : decode cX1_signAt 11 = .ok (.getfield 9, 3) := by decide +kernel
theorem dX1_signAt_14 : decode cX1_signAt 14 = .ok (.iload_n 1, 1) := by decide +kernel
theorem dX1_signAt_15 : decode cX1_signAt 15 = .ok (.caload, 1) := by decide +kernel
theorem dX1_signAt_16 : decode cX1_signAt 16 = .ok (.goto 5, 3) := by decide +kernel
theorem dX1_signAt_19 : decode cX1_signAt 19 = .ok (.bipush 32, 2) := by decide +kernel
theorem dX1_signAt_21 : decode cX1_signAt 21 = .ok (.ireturn, 1) := by decide +kernel
set_option maxRecDepth 20000 in
theorem ggX1_canBeWritten_X1_signAt : GoodIn wsX1_canBeWritten wsX1_signAt := goodIn_r _ [6, 7, 11, 12] (by decide +kernel) (by decide +kernel)
set_option maxRecDepth 20000 in
theorem gX1_canBeWritten_X1_signAt : GoodIn wsX1_canBeWritten (wsV RX1 19 RX1 yX1_signAt wsX1_signAt) := goodIn_app (goodIn_of _ (by decide +kernel)) ggX1_canBeWritten_X1_signAt
set_option maxRecDepth 20000 in
theorem ggX1_canBeWritten_X7_isLetter : GoodIn wsX1_canBeWritten wsX7_isLetter := goodIn_r _ [10] (by decide +kernel) (by decide +kernel)
set_option maxRecDepth 20000 in
theorem gX1_canBeWritten_X7_isLetter_n23 : GoodIn wsX1_canBeWritten (wsX7_isLetter) := ggX1_canBeWritten_X7_isLetter
theorem dX1_canBeWritten_0 : decode cX1_canBeWritten 0 = .ok (.iconst 0, 1) := by decide +kernel
theorem dX1_canBeWritten_1 : decode cX1_canBeWritten 1 = .ok (.istore_n 1, 1) := by decide +kernel
theorem dX1_canBeWritten_2 : decode cX1_canBeWritten 2 = .ok (.iload_n 1, 1) := by decide +kernel
theorem dX1_canBeWritten_3 : decode cX1_canBeWritten 3 = .ok (.aload_n 0, 1) := by decide +kernel
theorem dX1_canBeWritten_4 : decode cX1_canBeWritten 4 = .ok (.getfield 15, 3) := by decide +kernel
theorem dX1_canBeWritten_7 : decode cX1_canBeWritten 7 = .ok (.if_icmp .ge 32, 3) := by decide +kernel
theorem dX1_canBeWritten_10 : decode cX1_canBeWritten 10 = .ok (.aload_n 0, 1) := by decide +kernel
theorem dX1_canBeWritten_11 : decode cX1_canBeWritten 11 = .ok (.iload_n 1, 1) := by decide +kernel
theorem dX1_canBeWritten_12 : decode cX1_canBeWritten 12 = .ok (.invokevirtual 19, 3) := by decide +kernel
theorem dX1_canBeWritten_15 : decode cX1_canBeWritten 15 = .ok (.invokestatic 23, 3) := by decide +kernel
theorem dX1_canBeWritten_18 : decode cX1_canBeWritten 18 = .ok (.ifCond .ne 15, 3) := by decide +kernel
theorem dX1_canBeWritten_21 : decode cX1_canBeWritten 21 = .ok (.aload_n 0, 1) := by decide +kernel
theorem dX1_canBeWritten_22 : decode cX1_canBeWritten 22 = .ok (.iload_n 1, 1) := by decide +kernel
theorem dX1_canBeWritten_23 : decode cX1_canBeWritten 23 = .ok (.invokevirtual 19, 3) := by decide +kernel
theorem dX1_canBeWritten_26 : decode cX1_canBeWritten 26 = .ok (.bipush 95, 2) := by decide +kernel
theorem dX1_canBeWritten_28 : decode cX1_canBeWritten 28 = .ok (.if_icmp .eq 5, 3) := by decide +kernel
theorem dX1_canBeWritten_31 : decode cX1_canBeWritten 31 = .ok (.iconst 0, 1) := by decide +kernel
theorem dX1_canBeWritten_32 : decode cX1_canBeWritten 32 = .ok (.ireturn, 1) := by decide +kernel
theorem dX1_canBeWritten_33 : decode cX1_canBeWritten 33 = .ok (.iinc 1 1, 3) := by decide +kernel
theorem dX1_canBeWritten_36 : decode cX1_canBeWritten 36 = .ok (.goto (-34), 3) := by decide +kernel
theorem dX1_canBeWritten_39 : decode cX1_canBeWritten 39 = .ok (.aload_n 0, 1) := by decide +kernel
theorem dX1_canBeWritten_40 : decode cX1_canBeWritten 40 = .ok (.getfield 15, 3) := by decide +kernel
theorem dX1_canBeWritten_43 : decode cX1_canBeWritten 43 = .ok (.ifCond .le 7, 3) := by decide +kernel
theorem dX1_canBeWritten_46 : decode cX1_canBeWritten 46 = .ok (.iconst 1, 1) := by decide +kernel
theorem dX1_canBeWritten_47 : decode cX1_canBeWritten 47 = .ok (.goto 4, 3) := by decide +kernel
theorem dX1_canBeWritten_50 : decode cX1_canBeWritten 50 = .ok (.iconst 0, 1) := by decide +kernel
theorem dX1_canBeWritten_51 : decode cX1_canBeWritten 51 = .ok (.ireturn, 1) := by decide +kernel
theorem dX2_init_0 : decode cX2_init 0 = .ok (.aload_n 0, 1) := by decide +kernel
theorem dX2_init_1 : decode cX2_init 1 = .ok (.invokespecial 3, 3) := by decide +kernel
theorem dX2_init_4 : decode cX2_init 4 = .ok (.aload_n 0, 1) := by decide +kernel
theorem dX2_init_5 : decode cX2_init 5 = .ok (.bipush 60, 2) := by decide +kernel
theorem dX2_init_7 : decode cX2_init 7 = .ok (.newarray .int, 2) := by decide +kernel
theorem dX2_init_9 : decode cX2_init 9 = .ok (.putfield 9, 3) := by decide +kernel
theorem dX2_init_12 : decode cX2_init 12 = .ok (.aload_n 0, 1) := by decide +kernel
theorem dX2_init_13 : decode cX2_init 13 = .ok (.bipush 27, 2) := by decide +kernel
theorem dX2_init_15 : decode cX2_init 15 = .ok (.newarray .long, 2) := by decide +kernel
theorem dX2_init_17 : decode cX2_init 17 = .ok (.putfield 15, 3) := by decide +kernel
theorem dX2_init_20 : decode cX2_init 20 = .ok (.iconst 0, 1) := by decide +kernel
theorem dX2_init_21 : decode cX2_init 21 = .ok (.istore 4, 2) := by decide +kernel
theorem dX2_init_23 : decode cX2_init 23 = .ok (.iconst 0, 1) := by decide +kernel
theorem dX2_init_24 : decode cX2_init 24 = .ok (.istore 5, 2) := by decide +kernel
theorem dX2_init_26 : decode cX2_init 26 = .ok (.iload 5, 2) := by decide +kernel
theorem dX2_init_28 : decode cX2_init 28 = .ok (.bipush 60, 2) := by decide +kernel
theorem dX2_init_30 : decode cX2_init 30 = .ok (.if_icmp .ge 75, 3) := by decide +kernel
theorem dX2_init_33 : decode cX2_init 33 = .ok (.iload 5, 2) := by decide +kernel
theorem dX2_init_35 : decode cX2_init 35 = .ok (.iload_n 2, 1) := by decide +kernel
theorem dX2_init_36 : decode cX2_init 36 = .ok (.if_icmp .ge 69, 3) := by decide +kernel
theorem dX2_init_39 : decode cX2_init 39 = .ok (.iload 5, 2) := by decide +kernel
theorem dX2_init_41 : decode cX2_init 41 = .ok (.aload_n 1, 1) := by decide +kernel
theorem dX2_init_42 : decode cX2_init 42 = .ok (.arraylength, 1) := by decide +kernel
theorem dX2_init_43 : decode cX2_init 43 = .ok (.if_icmp .ge 62, 3) := by decide +kernel
theorem dX2_init_46 : decode cX2_init 46 = .ok (.aload_n 0, 1) := by decide +kernel
theorem dX2_init_47 : decode cX2_init 47 = .ok (.getfield 9, 3) := by decide +kernel
theorem dX2_init_50 : decode cX2_init 50 = .ok (.iload 5, 2) := by decide +kernel
theorem dX2_init_52 : decode cX2_init 52 = .ok (.aload_n 1, 1) := by decide +kernel
theorem dX2_init_53 : decode cX2_init 53 = .ok (.iload 5, 2) := by decide +kernel
theorem dX2_init_55 : decode cX2_init 55 = .ok (.iaload, 1) := by decide +kernel
theorem dX2_init_56 : decode cX2_init 56 = .ok (.iastore, 1) := by decide +kernel
theorem dX2_init_57 : decode cX2_init 57 = .ok (.iconst 0, 1) := by decide +kernel
theorem dX2_init_58 : decode cX2_init 58 = .ok (.istore 6, 2) := by decide +kernel
theorem dX2_init_60 : decode cX2_init 60 = .ok (.iload 6, 2) := by decide +kernel
theorem dX2_init_62 : decode cX2_init 62 = .ok (.bipush 27, 2) := by decide +kernel
theorem dX2_init_64 : decode cX2_init 64 = .ok (.if_icmp .ge 32, 3) := by decide +kernel
theorem dX2_init_67 : decode cX2_init 67 = .ok (.aload_n 0, 1) := by decide +kernel
theorem dX2_init_68 : decode cX2_init 68 = .ok (.getfield 15, 3) := by decide +kernel
theorem dX2_init_71 : decode cX2_init 71 = .ok (.iload 6, 2) := by decide +kernel
theorem dX2_init_73 : decode cX2_init 73 = .ok (.dup2, 1) := by decide +kernel
theorem dX2_init_74 : decode cX2_init 74 = .ok (.laload, 1) := by decide +kernel
theorem dX2_init_75 : decode cX2_init 75 = .ok (.aload_n 1, 1) := by decide +kernel
theorem dX2_init_76 : decode cX2_init 76 = .ok (.iload 5, 2) := by decide +kernel
theorem dX2_init_78 : decode cX2_init 78 = .ok (.iaload, 1) := by decide +kernel
theorem dX2_init_79 : decode cX2_init 79 = .ok (.iload 6, 2) := by decide +kernel
theorem dX2_init_81 : decode cX2_init 81 = .ok (.ishr, 1) := by decide +kernel
theorem dX2_init_82 : decode cX2_init 82 = .ok (.iconst 1, 1) := by decide +kernel
theorem dX2_init_83 : decode cX2_init 83 = .ok (.iand, 1) := by decide +kernel
theorem dX2_init_84 : decode cX2_init 84 = .ok (.i2l, 1) := by decide +kernel
theorem dX2_init_85 : decode cX2_init 85 = .ok (.iload 5, 2) := by decide +kernel
theorem dX2_init_87 : decode cX2_init 87 = .ok (.lshl, 1) := by decide +kernel
theorem dX2_init_88 : decode cX2_init 88 = .ok (.lor, 1) := by decide +kernel
theorem dX2_init_89 : decode cX2_init 89 = .ok (.lastore, 1) := by decide +kernel
theorem dX2_init_90 : decode cX2_init 90 = .ok (.iinc 6 1, 3) := by decide +kernel
theorem dX2_init_93 : decode cX2_init 93 = .ok (.goto (-33), 3) := by decide +kernel
theorem dX2_init_96 : decode cX2_init 96 = .ok (.iinc 4 1, 3) := by decide +kernel
theorem dX2_init_99 : decode cX2_init 99 = .ok (.iinc 5 1, 3) := by decide +kernel
theorem dX2_init_102 : decode cX2_init 102 = .ok (.goto (-76), 3) := by decide +kernel
theorem dX2_init_105 : decode cX2_init 105 = .ok (.aload_n 0, 1) := by decide +kernel
theorem dX2_init_106 : decode cX2_init 106 = .ok (.iload 4, 2) := by decide +kernel
theorem dX2_init_108 : decode cX2_init 108 = .ok (.putfield 19, 3) := by decide +kernel
theorem dX2_init_111 : decode cX2_init 111 = .ok (.aload_n 0, 1) := by decide +kernel
theorem dX2_init_112 : decode cX2_init 112 = .ok (.iload_n 3, 1) := by decide +kernel
theorem dX2_init_113 : decode cX2_init 113 = .ok (.putfield 23, 3) := by decide +kernel
theorem dX2_init_116 : decode cX2_init 116 = .ok (.return_, 1) := by decide +kernel
theorem dX2_signsOf_0 : decode cX2_signsOf 0 = .ok (.iload_n 1, 1) := by decide +kernel
theorem dX2_signsOf_1 : decode cX2_signsOf 1 = .ok (.ifCond .lt 18, 3) := by decide +kernel
theorem dX2_signsOf_4 : decode cX2_signsOf 4 = .ok (.iload_n 1, 1) := by decide +kernel
theorem dX2_signsOf_5 : decode cX2_signsOf 5 = .ok (.bipush 60, 2) := by decide +kernel
theorem dX2_signsOf_7 : decode cX2_signsOf 7 = .ok (.if_icmp .ge 12, 3) := by decide +kernel
theorem dX2_signsOf_10 : decode cX2_signsOf 10 = .ok (.aload_n 0, 1) := by decide +kernel
theorem dX2_signsOf_11 : decode cX2_signsOf 11 = .ok (.getfield 9, 3) := by decide +kernel
theorem dX2_signsOf_14 : decode cX2_signsOf 14 = .ok (.iload_n 1, 1) := by decide +kernel
theorem dX2_signsOf_15 : decode cX2_signsOf 15 = .ok (.iaload, 1) := by decide +kernel
theorem dX2_signsOf_16 : decode cX2_signsOf 16 = .ok (.goto 4, 3) := by decide +kernel
theorem dX2_signsOf_19 : decode cX2_signsOf 19 = .ok (.iconst 0, 1) := by decide +kernel
theorem dX2_signsOf_20 : decode cX2_signsOf 20 = .ok (.ireturn, 1) := by decide +kernel
theorem dX2_placesThatTake_0 : decode cX2_placesThatTake 0 = .ok (.iload_n 1, 1) := by decide +kernel
theorem dX2_placesThatTake_1 : decode cX2_placesThatTake 1 = .ok (.bipush 32, 2) := by decide +kernel
theorem dX2_placesThatTake_3 : decode cX2_placesThatTake 3 = .ok (.if_icmp .ne 8, 3) := by decide +kernel
theorem dX2_placesThatTake_6 : decode cX2_placesThatTake 6 = .ok (.bipush 26, 2) := by decide +kernel
theorem dX2_placesThatTake_8 : decode cX2_placesThatTake 8 = .ok (.goto 7, 3) := by decide +kernel
theorem dX2_placesThatTake_11 : decode cX2_placesThatTake 11 = .ok (.iload_n 1, 1) := by decide +kernel
theorem dX2_placesThatTake_12 : decode cX2_placesThatTake 12 = .ok (.bipush 97, 2) := by decide +kernel
theorem dX2_placesThatTake_14 : decode cX2_placesThatTake 14 = .ok (.isub, 1) := by decide +kernel
theorem dX2_placesThatTake_15 : decode cX2_placesThatTake 15 = .ok (.istore_n 2, 1) := by decide +kernel
theorem dX2_placesThatTake_16 : decode cX2_placesThatTake 16 = .ok (.iload_n 2, 1) := by decide +kernel
theorem dX2_placesThatTake_17 : decode cX2_placesThatTake 17 = .ok (.ifCond .lt 18, 3) := by decide +kernel
theorem dX2_placesThatTake_20 : decode cX2_placesThatTake 20 = .ok (.iload_n 2, 1) := by decide +kernel
theorem dX2_placesThatTake_21 : decode cX2_placesThatTake 21 = .ok (.bipush 27, 2) := by decide +kernel
theorem dX2_placesThatTake_23 : decode cX2_placesThatTake 23 = .ok (.if_icmp .ge 12, 3) := by decide +kernel
theorem dX2_placesThatTake_26 : decode cX2_placesThatTake 26 = .ok (.aload_n 0, 1) := by decide +kernel
theorem dX2_placesThatTake_27 : decode cX2_placesThatTake 27 = .ok (.getfield 15, 3) := by decide +kernel
theorem dX2_placesThatTake_30 : decode cX2_placesThatTake 30 = .ok (.iload_n 2, 1) := by decide +kernel
theorem dX2_placesThatTake_31 : decode cX2_placesThatTake 31 = .ok (.laload, 1) := by decide +kernel
theorem dX2_placesThatTake_32 : decode cX2_placesThatTake 32 = .ok (.goto 4, 3) := by decide +kernel
theorem dX2_placesThatTake_35 : decode cX2_placesThatTake 35 = .ok (.lconst 0, 1) := by decide +kernel
theorem dX2_placesThatTake_36 : decode cX2_placesThatTake 36 = .ok (.lreturn, 1) := by decide +kernel
set_option maxRecDepth 20000 in
theorem ggX2_countWild_X2_signsOf : GoodIn wsX2_countWild wsX2_signsOf := goodIn_r _ [7, 8, 9, 10, 11, 12] (by decide +kernel) (by decide +kernel)
set_option maxRecDepth 20000 in
theorem gX2_countWild_X2_signsOf : GoodIn wsX2_countWild (wsV RX2 27 RX2 yX2_signsOf wsX2_signsOf) := goodIn_app (goodIn_of _ (by decide +kernel)) ggX2_countWild_X2_signsOf
theorem dX2_countWild_0 : decode cX2_countWild 0 = .ok (.iconst 0, 1) := by decide +kernel
theorem dX2_countWild_1 : decode cX2_countWild 1 = .ok (.istore_n 1, 1) := by decide +kernel
theorem dX2_countWild_2 : decode cX2_countWild 2 = .ok (.iconst 0, 1) := by decide +kernel
theorem dX2_countWild_3 : decode cX2_countWild 3 = .ok (.istore_n 2, 1) := by decide +kernel
theorem dX2_countWild_4 : decode cX2_countWild 4 = .ok (.iload_n 2, 1) := by decide +kernel
theorem dX2_countWild_5 : decode cX2_countWild 5 = .ok (.aload_n 0, 1) := by decide +kernel
theorem dX2_countWild_6 : decode cX2_countWild 6 = .ok (.getfield 19, 3) := by decide +kernel
theorem dX2_countWild_9 : decode cX2_countWild 9 = .ok (.if_icmp .ge 22, 3) := by decide +kernel
theorem dX2_countWild_12 : decode cX2_countWild 12 = .ok (.aload_n 0, 1) := by decide +kernel
theorem dX2_countWild_13 : decode cX2_countWild 13 = .ok (.iload_n 2, 1) := by decide +kernel
theorem dX2_countWild_14 : decode cX2_countWild 14 = .ok (.invokevirtual 27, 3) := by decide +kernel
theorem dX2_countWild_17 : decode cX2_countWild 17 = .ok (.ldc 31, 2) := by decide +kernel
theorem dX2_countWild_19 : decode cX2_countWild 19 = .ok (.if_icmp .ne 6, 3) := by decide +kernel
theorem dX2_countWild_22 : decode cX2_countWild 22 = .ok (.iinc 1 1, 3) := by decide +kernel
theorem dX2_countWild_25 : decode cX2_countWild 25 = .ok (.iinc 2 1, 3) := by decide +kernel
theorem dX2_countWild_28 : decode cX2_countWild 28 = .ok (.goto (-24), 3) := by decide +kernel
theorem dX2_countWild_31 : decode cX2_countWild 31 = .ok (.iload_n 1, 1) := by decide +kernel
theorem dX2_countWild_32 : decode cX2_countWild 32 = .ok (.ireturn, 1) := by decide +kernel
set_option maxRecDepth 20000 in
theorem ggX2_isPlain_X2_signsOf : GoodIn wsX2_isPlain wsX2_signsOf := goodIn_r _ [6, 7, 15, 16, 17, 18] (by decide +kernel) (by decide +kernel)
set_option maxRecDepth 20000 in
theorem gX2_isPlain_X2_signsOf : GoodIn wsX2_isPlain (wsV RX2 27 RX2 yX2_signsOf wsX2_signsOf) := goodIn_app (goodIn_of _ (by decide +kernel)) ggX2_isPlain_X2_signsOf
set_option maxRecDepth 20000 in
theorem ggX2_isPlain_J6_bitCount_0f7a4 : GoodIn wsX2_isPlain wsJ6_bitCount_0f7a4 := goodIn_r _ [11, 12, 13, 14] (by decide +kernel) (by decide +kernel)
set_option maxRecDepth 20000 in
theorem gX2_isPlain_J6_bitCount_0f7a4 : GoodIn wsX2_isPlain (va_wsS RX2 32 yJ6_bitCount_0f7a4 wsJ6_bitCount_0f7a4) := goodIn_app (goodIn_of _ (by decide +kernel)) ggX2_isPlain_J6_bitCount_0f7a4
theorem dX2_isPlain_0 : decode cX2_isPlain 0 = .ok (.iconst 0, 1) := by decide +kernel
theorem dX2_isPlain_1 : decode cX2_isPlain 1 = .ok (.istore_n 1, 1) := by decide +kernel
theorem dX2_isPlain_2 : decode cX2_isPlain 2 = .ok (.iload_n 1, 1) := by decide +kernel
theorem dX2_isPlain_3 : decode cX2_isPlain 3 = .ok (.aload_n 0, 1) := by decide +kernel
theorem dX2_isPlain_4 : decode cX2_isPlain 4 = .ok (.getfield 19, 3) := by decide +kernel
theorem dX2_isPlain_7 : decode cX2_isPlain 7 = .ok (.if_icmp .ge 23, 3) := by decide +kernel
theorem dX2_isPlain_10 : decode cX2_isPlain 10 = .ok (.aload_n 0, 1) := by decide +kernel
theorem dX2_isPlain_11 : decode cX2_isPlain 11 = .ok (.iload_n 1, 1) := by decide +kernel
theorem dX2_isPlain_12 : decode cX2_isPlain 12 = .ok (.invokevirtual 27, 3) := by decide +kernel
theorem dX2_isPlain_15 : decode cX2_isPlain 15 = .ok (.invokestatic 32, 3) := by decide +kernel
theorem dX2_isPlain_18 : decode cX2_isPlain 18 = .ok (.iconst 1, 1) := by decide +kernel
theorem dX2_isPlain_19 : decode cX2_isPlain 19 = .ok (.if_icmp .eq 5, 3) := by decide +kernel
theorem dX2_isPlain_22 : decode cX2_isPlain 22 = .ok (.iconst 0, 1) := by decide +kernel
theorem dX2_isPlain_23 : decode cX2_isPlain 23 = .ok (.ireturn, 1) := by decide +kernel
theorem dX2_isPlain_24 : decode cX2_isPlain 24 = .ok (.iinc 1 1, 3) := by decide +kernel
theorem dX2_isPlain_27 : decode cX2_isPlain 27 = .ok (.goto (-25), 3) := by decide +kernel
theorem dX2_isPlain_30 : decode cX2_isPlain 30 = .ok (.iconst 1, 1) := by decide +kernel
theorem dX2_isPlain_31 : decode cX2_isPlain 31 = .ok (.ireturn, 1) := by decide +kernel
theorem dX3_init_0 : decode cX3_init 0 = .ok (.aload_n 0, 1) := by decide +kernel
theorem dX3_init_1 : decode cX3_init 1 = .ok (.invokespecial 3, 3) := by decide +kernel
theorem dX3_init_4 : decode cX3_init 4 = .ok (.aload_n 0, 1) := by decide +kernel
theorem dX3_init_5 : decode cX3_init 5 = .ok (.bipush 60, 2) := by decide +kernel
theorem dX3_init_7 : decode cX3_init 7 = .ok (.newarray .int, 2) := by decide +kernel
theorem dX3_init_9 : decode cX3_init 9 = .ok (.putfield 9, 3) := by decide +kernel
theorem dX3_init_12 : decode cX3_init 12 = .ok (.aload_n 0, 1) := by decide +kernel
theorem dX3_init_13 : decode cX3_init 13 = .ok (.iconst 0, 1) := by decide +kernel
theorem dX3_init_14 : decode cX3_init 14 = .ok (.putfield 15, 3) := by decide +kernel
theorem dX3_init_17 : decode cX3_init 17 = .ok (.aload_n 0, 1) := by decide +kernel
theorem dX3_init_18 : decode cX3_init 18 = .ok (.iconst 0, 1) := by decide +kernel
theorem dX3_init_19 : decode cX3_init 19 = .ok (.putfield 19, 3) := by decide +kernel
theorem dX3_init_22 : decode cX3_init 22 = .ok (.aload_n 0, 1) := by decide +kernel
theorem dX3_init_23 : decode cX3_init 23 = .ok (.iconst 0, 1) := by decide +kernel
theorem dX3_init_24 : decode cX3_init 24 = .ok (.putfield 23, 3) := by decide +kernel
theorem dX3_init_27 : decode cX3_init 27 = .ok (.aload_n 0, 1) := by decide +kernel
theorem dX3_init_28 : decode cX3_init 28 = .ok (.iconst 0, 1) := by decide +kernel
theorem dX3_init_29 : decode cX3_init 29 = .ok (.putfield 26, 3) := by decide +kernel
theorem dX3_init_32 : decode cX3_init 32 = .ok (.aload_n 0, 1) := by decide +kernel
theorem dX3_init_33 : decode cX3_init 33 = .ok (.iconst 0, 1) := by decide +kernel
theorem dX3_init_34 : decode cX3_init 34 = .ok (.putfield 29, 3) := by decide +kernel
theorem dX3_init_37 : decode cX3_init 37 = .ok (.aload_n 0, 1) := by decide +kernel
theorem dX3_init_38 : decode cX3_init 38 = .ok (.bipush 97, 2) := by decide +kernel
theorem dX3_init_40 : decode cX3_init 40 = .ok (.putfield 32, 3) := by decide +kernel
theorem dX3_init_43 : decode cX3_init 43 = .ok (.return_, 1) := by decide +kernel
set_option maxRecDepth 20000 in
theorem ggX3_readFault_X1_signAt : GoodIn wsX3_readFault wsX1_signAt := goodIn_r _ [8, 9, 56, 57] (by decide +kernel) (by decide +kernel)
set_option maxRecDepth 20000 in
theorem gX3_readFault_X1_signAt : GoodIn wsX3_readFault (wsV RX3 41 RX1 yX1_signAt wsX1_signAt) := goodIn_app (goodIn_of _ (by decide +kernel)) ggX3_readFault_X1_signAt
set_option maxRecDepth 20000 in
theorem ggX3_readFault_X3_accepts : GoodIn wsX3_readFault wsX3_accepts := goodIn_r _ [14, 3, 15, 16, 17, 13, 18, 2, 19, 20, 21, 22, 23, 24, 25, 26, 27, 28, 29, 30, 31, 32, 33, 1, 34, 35, 36, 37, 38, 39, 40, 41, 42, 43, 44, 45, 46, 47, 48, 49, 50, 51, 52, 53, 54, 55] (by decide +kernel) (by decide +kernel)
set_option maxRecDepth 20000 in
theorem gX3_readFault_X3_accepts : GoodIn wsX3_readFault (wsV RX3 45 RX3 yX3_accepts wsX3_accepts) := goodIn_app (goodIn_of _ (by decide +kernel)) ggX3_readFault_X3_accepts
theorem dX3_readFault_0 : decode cX3_readFault 0 = .ok (.aload_n 0, 1) := by decide +kernel
theorem dX3_readFault_1 : decode cX3_readFault 1 = .ok (.iconst 0, 1) := by decide +kernel
theorem dX3_readFault_2 : decode cX3_readFault 2 = .ok (.putfield 15, 3) := by decide +kernel
theorem dX3_readFault_5 : decode cX3_readFault 5 = .ok (.aload_n 0, 1) := by decide +kernel
theorem dX3_readFault_6 : decode cX3_readFault 6 = .ok (.iconst 0, 1) := by decide +kernel
theorem dX3_readFault_7 : decode cX3_readFault 7 = .ok (.putfield 19, 3) := by decide +kernel
theorem dX3_readFault_10 : decode cX3_readFault 10 = .ok (.aload_n 0, 1) := by decide +kernel
theorem dX3_readFault_11 : decode cX3_readFault 11 = .ok (.iconst 0, 1) := by decide +kernel
theorem dX3_readFault_12 : decode cX3_readFault 12 = .ok (.putfield 23, 3) := by decide +kernel
theorem dX3_readFault_15 : decode cX3_readFault 15 = .ok (.iconst 0, 1) := by decide +kernel
theorem dX3_readFault_16 : decode cX3_readFault 16 = .ok (.istore_n 2, 1) := by decide +kernel
theorem dX3_readFault_17 : decode cX3_readFault 17 = .ok (.iload_n 2, 1) := by decide +kernel
theorem dX3_readFault_18 : decode cX3_readFault 18 = .ok (.aload_n 1, 1) := by decide +kernel
theorem dX3_readFault_19 : decode cX3_readFault 19 = .ok (.getfield 36, 3) := by decide +kernel
theorem dX3_readFault_22 : decode cX3_readFault 22 = .ok (.if_icmp .ge 23, 3) := by decide +kernel
theorem dX3_readFault_25 : decode cX3_readFault 25 = .ok (.aload_n 0, 1) := by decide +kernel
theorem dX3_readFault_26 : decode cX3_readFault 26 = .ok (.aload_n 1, 1) := by decide +kernel
theorem dX3_readFault_27 : decode cX3_readFault 27 = .ok (.iload_n 2, 1) := by decide +kernel
theorem dX3_readFault_28 : decode cX3_readFault 28 = .ok (.invokevirtual 41, 3) := by decide +kernel
theorem dX3_readFault_31 : decode cX3_readFault 31 = .ok (.invokevirtual 45, 3) := by decide +kernel
theorem dX3_readFault_34 : decode cX3_readFault 34 = .ok (.ifCond .ne 5, 3) := by decide +kernel
theorem dX3_readFault_37 : decode cX3_readFault 37 = .ok (.iload_n 2, 1) := by decide +kernel
theorem dX3_readFault_38 : decode cX3_readFault 38 = .ok (.ireturn, 1) := by decide +kernel
theorem dX3_readFault_39 : decode cX3_readFault 39 = .ok (.iinc 2 1, 3) := by decide +kernel
theorem dX3_readFault_42 : decode cX3_readFault 42 = .ok (.goto (-25), 3) := by decide +kernel
theorem dX3_readFault_45 : decode cX3_readFault 45 = .ok (.aload_n 0, 1) := by decide +kernel
theorem dX3_readFault_46 : decode cX3_readFault 46 = .ok (.getfield 23, 3) := by decide +kernel
theorem dX3_readFault_49 : decode cX3_readFault 49 = .ok (.iconst 1, 1) := by decide +kernel
theorem dX3_readFault_50 : decode cX3_readFault 50 = .ok (.if_icmp .ne 14, 3) := by decide +kernel
theorem dX3_readFault_53 : decode cX3_readFault 53 = .ok (.aload_n 0, 1) := by decide +kernel
theorem dX3_readFault_54 : decode cX3_readFault 54 = .ok (.getfield 15, 3) := by decide +kernel
theorem dX3_readFault_57 : decode cX3_readFault 57 = .ok (.ifCond .le 7, 3) := by decide +kernel
theorem dX3_readFault_60 : decode cX3_readFault 60 = .ok (.iconst (-1), 1) := by decide +kernel
theorem dX3_readFault_61 : decode cX3_readFault 61 = .ok (.goto 7, 3) := by decide +kernel
theorem dX3_readFault_64 : decode cX3_readFault 64 = .ok (.aload_n 1, 1) := by decide +kernel
theorem dX3_readFault_65 : decode cX3_readFault 65 = .ok (.getfield 36, 3) := by decide +kernel
theorem dX3_readFault_68 : decode cX3_readFault 68 = .ok (.ireturn, 1) := by decide +kernel
set_option maxRecDepth 20000 in
theorem ggX3_makePattern_X2_init : GoodIn wsX3_makePattern wsX2_init := goodIn_r _ [9, 10, 11, 12, 13, 14, 15, 16, 17, 18, 19, 20, 21, 22] (by decide +kernel) (by decide +kernel)
set_option maxRecDepth 20000 in
theorem gX3_makePattern_X2_init : GoodIn wsX3_makePattern (wsX2_init) := ggX3_makePattern_X2_init
theorem dX3_makePattern_0 : decode cX3_makePattern 0 = .ok (.new 49, 3) := by decide +kernel
theorem dX3_makePattern_3 : decode cX3_makePattern 3 = .ok (.dup, 1) := by decide +kernel
theorem dX3_makePattern_4 : decode cX3_makePattern 4 = .ok (.aload_n 0, 1) := by decide +kernel
theorem dX3_makePattern_5 : decode cX3_makePattern 5 = .ok (.getfield 9, 3) := by decide +kernel
theorem dX3_makePattern_8 : decode cX3_makePattern 8 = .ok (.aload_n 0, 1) := by decide +kernel
theorem dX3_makePattern_9 : decode cX3_makePattern 9 = .ok (.getfield 15, 3) := by decide +kernel
theorem dX3_makePattern_12 : decode cX3_makePattern 12 = .ok (.aload_n 0, 1) := by decide +kernel
theorem dX3_makePattern_13 : decode cX3_makePattern 13 = .ok (.getfield 19, 3) := by decide +kernel
theorem dX3_makePattern_16 : decode cX3_makePattern 16 = .ok (.invokespecial 51, 3) := by decide +kernel
theorem dX3_makePattern_19 : decode cX3_makePattern 19 = .ok (.areturn, 1) := by decide +kernel
set_option maxRecDepth 20000 in
theorem ggX3_accepts_X3_acceptsBeginning : GoodIn wsX3_accepts wsX3_acceptsBeginning := goodIn_r _ [6, 7, 1, 8, 9, 10, 5, 11, 12, 13, 14, 15, 16, 17, 18, 19, 20, 21, 22, 23, 24, 39, 40, 41, 42, 43, 44, 45] (by decide +kernel) (by decide +kernel)
set_option maxRecDepth 20000 in
theorem gX3_accepts_X3_acceptsBeginning : GoodIn wsX3_accepts (wsV RX3 54 RX3 yX3_acceptsBeginning wsX3_acceptsBeginning) := goodIn_app (goodIn_of _ (by decide +kernel)) ggX3_accepts_X3_acceptsBeginning
set_option maxRecDepth 20000 in
theorem ggX3_accepts_X3_acceptsPlace : GoodIn wsX3_accepts wsX3_acceptsPlace := goodIn_r _ [11, 12, 13, 1, 14, 15, 16, 17, 18, 19, 20, 21, 5, 22, 23, 24, 39, 40, 41, 42, 43, 44, 45] (by decide +kernel) (by decide +kernel)
set_option maxRecDepth 20000 in
theorem gX3_accepts_X3_acceptsPlace : GoodIn wsX3_accepts (wsV RX3 57 RX3 yX3_acceptsPlace wsX3_acceptsPlace) := goodIn_app (goodIn_of _ (by decide +kernel)) ggX3_accepts_X3_acceptsPlace
set_option maxRecDepth 20000 in
theorem ggX3_accepts_X3_acceptsFirstOfSet : GoodIn wsX3_accepts wsX3_acceptsFirstOfSet := goodIn_r _ [28, 13, 1, 29, 30, 31, 5, 32, 12, 33, 16, 17, 18, 39, 40, 41, 42, 43, 44, 45] (by decide +kernel) (by decide +kernel)
set_option maxRecDepth 20000 in
theorem gX3_accepts_X3_acceptsFirstOfSet : GoodIn wsX3_accepts (wsV RX3 60 RX3 yX3_acceptsFirstOfSet wsX3_acceptsFirstOfSet) := goodIn_app (goodIn_of _ (by decide +kernel)) ggX3_accepts_X3_acceptsFirstOfSet
set_option maxRecDepth 20000 in
theorem ggX3_accepts_X3_acceptsLetterOfSet : GoodIn wsX3_accepts wsX3_acceptsLetterOfSet := goodIn_r _ [32, 12, 33, 1, 16, 17, 18, 39, 40, 41, 42, 43, 44, 45] (by decide +kernel) (by decide +kernel)
set_option maxRecDepth 20000 in
theorem gX3_accepts_X3_acceptsLetterOfSet : GoodIn wsX3_accepts (wsV RX3 63 RX3 yX3_acceptsLetterOfSet wsX3_acceptsLetterOfSet) := goodIn_app (goodIn_of _ (by decide +kernel)) ggX3_accepts_X3_acceptsLetterOfSet
set_option maxRecDepth 20000 in
theorem ggX3_accepts_X3_acceptsRestOfSet : GoodIn wsX3_accepts wsX3_acceptsRestOfSet := goodIn_r _ [37, 13, 38, 12, 29, 30, 31, 5, 32, 33, 1, 16, 17, 18, 19, 20, 21, 22, 23, 24, 39, 40, 41, 42, 43, 44, 45] (by decide +kernel) (by decide +kernel)
set_option maxRecDepth 20000 in
theorem gX3_accepts_X3_acceptsRestOfSet : GoodIn wsX3_accepts (wsV RX3 66 RX3 yX3_acceptsRestOfSet wsX3_acceptsRestOfSet) := goodIn_app (goodIn_of _ (by decide +kernel)) ggX3_accepts_X3_acceptsRestOfSet
theorem dX3_accepts_0 : decode cX3_accepts 0 = .ok (.aload_n 0, 1) := by decide +kernel
theorem dX3_accepts_1 : decode cX3_accepts 1 = .ok (.getfield 23, 3) := by decide +kernel
theorem dX3_accepts_4 : decode cX3_accepts 4 = .ok (.tableswitch 56 0 3 #[32, 38, 44, 50], 32) := by decide +kernel
theorem dX3_accepts_36 : decode cX3_accepts 36 = .ok (.aload_n 0, 1) := by decide +kernel
theorem dX3_accepts_37 : decode cX3_accepts 37 = .ok (.iload_n 1, 1) := by decide +kernel
theorem dX3_accepts_38 : decode cX3_accepts 38 = .ok (.invokevirtual 54, 3) := by decide +kernel
theorem dX3_accepts_41 : decode cX3_accepts 41 = .ok (.ireturn, 1) := by decide +kernel
theorem dX3_accepts_42 : decode cX3_accepts 42 = .ok (.aload_n 0, 1) := by decide +kernel
theorem dX3_accepts_43 : decode cX3_accepts 43 = .ok (.iload_n 1, 1) := by decide +kernel
theorem dX3_accepts_44 : decode cX3_accepts 44 = .ok (.invokevirtual 57, 3) := by decide +kernel
theorem dX3_accepts_47 : decode cX3_accepts 47 = .ok (.ireturn, 1) := by decide +kernel
theorem dX3_accepts_48 : decode cX3_accepts 48 = .ok (.aload_n 0, 1) := by decide +kernel
theorem dX3_accepts_49 : decode cX3_accepts 49 = .ok (.iload_n 1, 1) := by decide +kernel
theorem dX3_accepts_50 : decode cX3_accepts 50 = .ok (.invokevirtual 60, 3) := by decide +kernel
theorem dX3_accepts_53 : decode cX3_accepts 53 = .ok (.ireturn, 1) := by decide +kernel
theorem dX3_accepts_54 : decode cX3_accepts 54 = .ok (.aload_n 0, 1) := by decide +kernel
theorem dX3_accepts_55 : decode cX3_accepts 55 = .ok (.iload_n 1, 1) := by decide +kernel
theorem dX3_accepts_56 : decode cX3_accepts 56 = .ok (.invokevirtual 63, 3) := by decide +kernel
theorem dX3_accepts_59 : decode cX3_accepts 59 = .ok (.ireturn, 1) := by decide +kernel
theorem dX3_accepts_60 : decode cX3_accepts 60 = .ok (.aload_n 0, 1) := by decide +kernel
theorem dX3_accepts_61 : decode cX3_accepts 61 = .ok (.iload_n 1, 1) := by decide +kernel
theorem dX3_accepts_62 : decode cX3_accepts 62 = .ok (.invokevirtual 66, 3) := by decide +kernel
theorem dX3_accepts_65 : decode cX3_accepts 65 = .ok (.ireturn, 1) := by decide +kernel
set_option maxRecDepth 20000 in
theorem ggX3_acceptsBeginning_X3_acceptsPlace : GoodIn wsX3_acceptsBeginning wsX3_acceptsPlace := goodIn_r _ [7, 8, 9, 2, 10, 11, 12, 13, 14, 15, 16, 17, 6, 18, 19, 20, 21, 22, 23, 24, 25, 26, 27] (by decide +kernel) (by decide +kernel)
set_option maxRecDepth 20000 in
theorem gX3_acceptsBeginning_X3_acceptsPlace : GoodIn wsX3_acceptsBeginning (wsV RX3 57 RX3 yX3_acceptsPlace wsX3_acceptsPlace) := goodIn_app (goodIn_of _ (by decide +kernel)) ggX3_acceptsBeginning_X3_acceptsPlace
theorem dX3_acceptsBeginning_0 : decode cX3_acceptsBeginning 0 = .ok (.iload_n 1, 1) := by decide +kernel
theorem dX3_acceptsBeginning_1 : decode cX3_acceptsBeginning 1 = .ok (.bipush 94, 2) := by decide +kernel
theorem dX3_acceptsBeginning_3 : decode cX3_acceptsBeginning 3 = .ok (.if_icmp .eq 9, 3) := by decide +kernel
theorem dX3_acceptsBeginning_6 : decode cX3_acceptsBeginning 6 = .ok (.aload_n 0, 1) := by decide +kernel
theorem dX3_acceptsBeginning_7 : decode cX3_acceptsBeginning 7 = .ok (.iload_n 1, 1) := by decide +kernel
theorem dX3_acceptsBeginning_8 : decode cX3_acceptsBeginning 8 = .ok (.invokevirtual 57, 3) := by decide +kernel
theorem dX3_acceptsBeginning_11 : decode cX3_acceptsBeginning 11 = .ok (.ireturn, 1) := by decide +kernel
theorem dX3_acceptsBeginning_12 : decode cX3_acceptsBeginning 12 = .ok (.aload_n 0, 1) := by decide +kernel
theorem dX3_acceptsBeginning_13 : decode cX3_acceptsBeginning 13 = .ok (.iconst 1, 1) := by decide +kernel
theorem dX3_acceptsBeginning_14 : decode cX3_acceptsBeginning 14 = .ok (.putfield 19, 3) := by decide +kernel
theorem dX3_acceptsBeginning_17 : decode cX3_acceptsBeginning 17 = .ok (.aload_n 0, 1) := by decide +kernel
theorem dX3_acceptsBeginning_18 : decode cX3_acceptsBeginning 18 = .ok (.iconst 1, 1) := by decide +kernel
theorem dX3_acceptsBeginning_19 : decode cX3_acceptsBeginning 19 = .ok (.putfield 23, 3) := by decide +kernel
theorem dX3_acceptsBeginning_22 : decode cX3_acceptsBeginning 22 = .ok (.iconst 1, 1) := by decide +kernel
theorem dX3_acceptsBeginning_23 : decode cX3_acceptsBeginning 23 = .ok (.ireturn, 1) := by decide +kernel
set_option maxRecDepth 20000 in
theorem ggX3_acceptsPlace_X7_isLetter : GoodIn wsX3_acceptsPlace wsX7_isLetter := goodIn_r _ [8] (by decide +kernel) (by decide +kernel)
set_option maxRecDepth 20000 in
theorem gX3_acceptsPlace_X7_isLetter_n69 : GoodIn wsX3_acceptsPlace (wsX7_isLetter) := ggX3_acceptsPlace_X7_isLetter
set_option maxRecDepth 20000 in
theorem ggX3_acceptsPlace_X3_addPlace : GoodIn wsX3_acceptsPlace wsX3_addPlace := goodIn_r _ [13, 14, 15, 3, 16, 17, 18, 19, 20, 21, 22] (by decide +kernel) (by decide +kernel)
set_option maxRecDepth 20000 in
theorem gX3_acceptsPlace_X3_addPlace : GoodIn wsX3_acceptsPlace (wsV RX3 72 RX3 yX3_addPlace wsX3_addPlace) := goodIn_app (goodIn_of _ (by decide +kernel)) ggX3_acceptsPlace_X3_addPlace
theorem dX3_acceptsPlace_0 : decode cX3_acceptsPlace 0 = .ok (.iload_n 1, 1) := by decide +kernel
theorem dX3_acceptsPlace_1 : decode cX3_acceptsPlace 1 = .ok (.bipush 91, 2) := by decide +kernel
theorem dX3_acceptsPlace_3 : decode cX3_acceptsPlace 3 = .ok (.if_icmp .ne 20, 3) := by decide +kernel
theorem dX3_acceptsPlace_6 : decode cX3_acceptsPlace 6 = .ok (.aload_n 0, 1) := by decide +kernel
theorem dX3_acceptsPlace_7 : decode cX3_acceptsPlace 7 = .ok (.iconst 0, 1) := by decide +kernel
theorem dX3_acceptsPlace_8 : decode cX3_acceptsPlace 8 = .ok (.putfield 29, 3) := by decide +kernel
theorem dX3_acceptsPlace_11 : decode cX3_acceptsPlace 11 = .ok (.aload_n 0, 1) := by decide +kernel
theorem dX3_acceptsPlace_12 : decode cX3_acceptsPlace 12 = .ok (.iconst 0, 1) := by decide +kernel
theorem dX3_acceptsPlace_13 : decode cX3_acceptsPlace 13 = .ok (.putfield 26, 3) := by decide +kernel
theorem dX3_acceptsPlace_16 : decode cX3_acceptsPlace 16 = .ok (.aload_n 0, 1) := by decide +kernel
theorem dX3_acceptsPlace_17 : decode cX3_acceptsPlace 17 = .ok (.iconst 2, 1) := by decide +kernel
theorem dX3_acceptsPlace_18 : decode cX3_acceptsPlace 18 = .ok (.putfield 23, 3) := by decide +kernel
theorem dX3_acceptsPlace_21 : decode cX3_acceptsPlace 21 = .ok (.iconst 1, 1) := by decide +kernel
theorem dX3_acceptsPlace_22 : decode cX3_acceptsPlace 22 = .ok (.ireturn, 1) := by decide +kernel
theorem dX3_acceptsPlace_23 : decode cX3_acceptsPlace 23 = .ok (.iload_n 1, 1) := by decide +kernel
theorem dX3_acceptsPlace_24 : decode cX3_acceptsPlace 24 = .ok (.invokestatic 69, 3) := by decide +kernel
theorem dX3_acceptsPlace_27 : decode cX3_acceptsPlace 27 = .ok (.ifCond .eq 15, 3) := by decide +kernel
theorem dX3_acceptsPlace_30 : decode cX3_acceptsPlace 30 = .ok (.aload_n 0, 1) := by decide +kernel
theorem dX3_acceptsPlace_31 : decode cX3_acceptsPlace 31 = .ok (.iconst 1, 1) := by decide +kernel
theorem dX3_acceptsPlace_32 : decode cX3_acceptsPlace 32 = .ok (.iload_n 1, 1) := by decide +kernel
theorem dX3_acceptsPlace_33 : decode cX3_acceptsPlace 33 = .ok (.bipush 97, 2) := by decide +kernel
theorem dX3_acceptsPlace_35 : decode cX3_acceptsPlace 35 = .ok (.isub, 1) := by decide +kernel
theorem dX3_acceptsPlace_36 : decode cX3_acceptsPlace 36 = .ok (.ishl, 1) := by decide +kernel
theorem dX3_acceptsPlace_37 : decode cX3_acceptsPlace 37 = .ok (.invokevirtual 72, 3) := by decide +kernel
theorem dX3_acceptsPlace_40 : decode cX3_acceptsPlace 40 = .ok (.iconst 1, 1) := by decide +kernel
theorem dX3_acceptsPlace_41 : decode cX3_acceptsPlace 41 = .ok (.ireturn, 1) := by decide +kernel
theorem dX3_acceptsPlace_42 : decode cX3_acceptsPlace 42 = .ok (.iload_n 1, 1) := by decide +kernel
theorem dX3_acceptsPlace_43 : decode cX3_acceptsPlace 43 = .ok (.bipush 46, 2) := by decide +kernel
theorem dX3_acceptsPlace_45 : decode cX3_acceptsPlace 45 = .ok (.if_icmp .ne 11, 3) := by decide +kernel
theorem dX3_acceptsPlace_48 : decode cX3_acceptsPlace 48 = .ok (.aload_n 0, 1) := by decide +kernel
theorem dX3_acceptsPlace_49 : decode cX3_acceptsPlace 49 = .ok (.ldc 76, 2) := by decide +kernel
theorem dX3_acceptsPlace_51 : decode cX3_acceptsPlace 51 = .ok (.invokevirtual 72, 3) := by decide +kernel
theorem dX3_acceptsPlace_54 : decode cX3_acceptsPlace 54 = .ok (.iconst 1, 1) := by decide +kernel
theorem dX3_acceptsPlace_55 : decode cX3_acceptsPlace 55 = .ok (.ireturn, 1) := by decide +kernel
theorem dX3_acceptsPlace_56 : decode cX3_acceptsPlace 56 = .ok (.iload_n 1, 1) := by decide +kernel
theorem dX3_acceptsPlace_57 : decode cX3_acceptsPlace 57 = .ok (.bipush 95, 2) := by decide +kernel
theorem dX3_acceptsPlace_59 : decode cX3_acceptsPlace 59 = .ok (.if_icmp .ne 11, 3) := by decide +kernel
theorem dX3_acceptsPlace_62 : decode cX3_acceptsPlace 62 = .ok (.aload_n 0, 1) := by decide +kernel
theorem dX3_acceptsPlace_63 : decode cX3_acceptsPlace 63 = .ok (.ldc 77, 2) := by decide +kernel
theorem dX3_acceptsPlace_65 : decode cX3_acceptsPlace 65 = .ok (.invokevirtual 72, 3) := by decide +kernel
theorem dX3_acceptsPlace_68 : decode cX3_acceptsPlace 68 = .ok (.iconst 1, 1) := by decide +kernel
theorem dX3_acceptsPlace_69 : decode cX3_acceptsPlace 69 = .ok (.ireturn, 1) := by decide +kernel
theorem dX3_acceptsPlace_70 : decode cX3_acceptsPlace 70 = .ok (.iconst 0, 1) := by decide +kernel
theorem dX3_acceptsPlace_71 : decode cX3_acceptsPlace 71 = .ok (.ireturn, 1) := by decide +kernel
set_option maxRecDepth 20000 in
theorem ggX3_acceptsFirstOfSet_X3_acceptsLetterOfSet : GoodIn wsX3_acceptsFirstOfSet wsX3_acceptsLetterOfSet := goodIn_r _ [7, 8, 9, 2, 10, 11, 12, 13, 14, 15, 16, 17, 18, 19] (by decide +kernel) (by decide +kernel)
set_option maxRecDepth 20000 in
theorem gX3_acceptsFirstOfSet_X3_acceptsLetterOfSet : GoodIn wsX3_acceptsFirstOfSet (wsV RX3 63 RX3 yX3_acceptsLetterOfSet wsX3_acceptsLetterOfSet) := goodIn_app (goodIn_of _ (by decide +kernel)) ggX3_acceptsFirstOfSet_X3_acceptsLetterOfSet
theorem dX3_acceptsFirstOfSet_0 : decode cX3_acceptsFirstOfSet 0 = .ok (.iload_n 1, 1) := by decide +kernel
theorem dX3_acceptsFirstOfSet_1 : decode cX3_acceptsFirstOfSet 1 = .ok (.bipush 45, 2) := by decide +kernel
theorem dX3_acceptsFirstOfSet_3 : decode cX3_acceptsFirstOfSet 3 = .ok (.if_icmp .eq 9, 3) := by decide +kernel
theorem dX3_acceptsFirstOfSet_6 : decode cX3_acceptsFirstOfSet 6 = .ok (.aload_n 0, 1) := by decide +kernel
theorem dX3_acceptsFirstOfSet_7 : decode cX3_acceptsFirstOfSet 7 = .ok (.iload_n 1, 1) := by decide +kernel
theorem dX3_acceptsFirstOfSet_8 : decode cX3_acceptsFirstOfSet 8 = .ok (.invokevirtual 63, 3) := by decide +kernel
theorem dX3_acceptsFirstOfSet_11 : decode cX3_acceptsFirstOfSet 11 = .ok (.ireturn, 1) := by decide +kernel
theorem dX3_acceptsFirstOfSet_12 : decode cX3_acceptsFirstOfSet 12 = .ok (.aload_n 0, 1) := by decide +kernel
theorem dX3_acceptsFirstOfSet_13 : decode cX3_acceptsFirstOfSet 13 = .ok (.iconst 1, 1) := by decide +kernel
theorem dX3_acceptsFirstOfSet_14 : decode cX3_acceptsFirstOfSet 14 = .ok (.putfield 26, 3) := by decide +kernel
theorem dX3_acceptsFirstOfSet_17 : decode cX3_acceptsFirstOfSet 17 = .ok (.aload_n 0, 1) := by decide +kernel
theorem dX3_acceptsFirstOfSet_18 : decode cX3_acceptsFirstOfSet 18 = .ok (.iconst 3, 1) := by decide +kernel
theorem dX3_acceptsFirstOfSet_19 : decode cX3_acceptsFirstOfSet 19 = .ok (.putfield 23, 3) := by decide +kernel
theorem dX3_acceptsFirstOfSet_22 : decode cX3_acceptsFirstOfSet 22 = .ok (.iconst 1, 1) := by decide +kernel
theorem dX3_acceptsFirstOfSet_23 : decode cX3_acceptsFirstOfSet 23 = .ok (.ireturn, 1) := by decide +kernel
set_option maxRecDepth 20000 in
theorem ggX3_acceptsLetterOfSet_X7_isLetter : GoodIn wsX3_acceptsLetterOfSet wsX7_isLetter := goodIn_r _ [6] (by decide +kernel) (by decide +kernel)
set_option maxRecDepth 20000 in
theorem gX3_acceptsLetterOfSet_X7_isLetter_n69 : GoodIn wsX3_acceptsLetterOfSet (wsX7_isLetter) := ggX3_acceptsLetterOfSet_X7_isLetter
theorem dX3_acceptsLetterOfSet_0 : decode cX3_acceptsLetterOfSet 0 = .ok (.iload_n 1, 1) := by decide +kernel
theorem dX3_acceptsLetterOfSet_1 : decode cX3_acceptsLetterOfSet 1 = .ok (.invokestatic 69, 3) := by decide +kernel
theorem dX3_acceptsLetterOfSet_4 : decode cX3_acceptsLetterOfSet 4 = .ok (.ifCond .eq 18, 3) := by decide +kernel
theorem dX3_acceptsLetterOfSet_7 : decode cX3_acceptsLetterOfSet 7 = .ok (.aload_n 0, 1) := by decide +kernel
theorem dX3_acceptsLetterOfSet_8 : decode cX3_acceptsLetterOfSet 8 = .ok (.getfield 29, 3) := by decide +kernel
theorem dX3_acceptsLetterOfSet_11 : decode cX3_acceptsLetterOfSet 11 = .ok (.ifCond .eq 13, 3) := by decide +kernel
theorem dX3_acceptsLetterOfSet_14 : decode cX3_acceptsLetterOfSet 14 = .ok (.iload_n 1, 1) := by decide +kernel
theorem dX3_acceptsLetterOfSet_15 : decode cX3_acceptsLetterOfSet 15 = .ok (.aload_n 0, 1) := by decide +kernel
theorem dX3_acceptsLetterOfSet_16 : decode cX3_acceptsLetterOfSet 16 = .ok (.getfield 32, 3) := by decide +kernel
theorem dX3_acceptsLetterOfSet_19 : decode cX3_acceptsLetterOfSet 19 = .ok (.if_icmp .gt 5, 3) := by decide +kernel
theorem dX3_acceptsLetterOfSet_22 : decode cX3_acceptsLetterOfSet 22 = .ok (.iconst 0, 1) := by decide +kernel
theorem dX3_acceptsLetterOfSet_23 : decode cX3_acceptsLetterOfSet 23 = .ok (.ireturn, 1) := by decide +kernel
theorem dX3_acceptsLetterOfSet_24 : decode cX3_acceptsLetterOfSet 24 = .ok (.aload_n 0, 1) := by decide +kernel
theorem dX3_acceptsLetterOfSet_25 : decode cX3_acceptsLetterOfSet 25 = .ok (.dup, 1) := by decide +kernel
theorem dX3_acceptsLetterOfSet_26 : decode cX3_acceptsLetterOfSet 26 = .ok (.getfield 29, 3) := by decide +kernel
theorem dX3_acceptsLetterOfSet_29 : decode cX3_acceptsLetterOfSet 29 = .ok (.iconst 1, 1) := by decide +kernel
theorem dX3_acceptsLetterOfSet_30 : decode cX3_acceptsLetterOfSet 30 = .ok (.iload_n 1, 1) := by decide +kernel
theorem dX3_acceptsLetterOfSet_31 : decode cX3_acceptsLetterOfSet 31 = .ok (.bipush 97, 2) := by decide +kernel
theorem dX3_acceptsLetterOfSet_33 : decode cX3_acceptsLetterOfSet 33 = .ok (.isub, 1) := by decide +kernel
theorem dX3_acceptsLetterOfSet_34 : decode cX3_acceptsLetterOfSet 34 = .ok (.ishl, 1) := by decide +kernel
theorem dX3_acceptsLetterOfSet_35 : decode cX3_acceptsLetterOfSet 35 = .ok (.ior, 1) := by decide +kernel
theorem dX3_acceptsLetterOfSet_36 : decode cX3_acceptsLetterOfSet 36 = .ok (.putfield 29, 3) := by decide +kernel
theorem dX3_acceptsLetterOfSet_39 : decode cX3_acceptsLetterOfSet 39 = .ok (.aload_n 0, 1) := by decide +kernel
theorem dX3_acceptsLetterOfSet_40 : decode cX3_acceptsLetterOfSet 40 = .ok (.iload_n 1, 1) := by decide +kernel
theorem dX3_acceptsLetterOfSet_41 : decode cX3_acceptsLetterOfSet 41 = .ok (.putfield 32, 3) := by decide +kernel
theorem dX3_acceptsLetterOfSet_44 : decode cX3_acceptsLetterOfSet 44 = .ok (.aload_n 0, 1) := by decide +kernel
theorem dX3_acceptsLetterOfSet_45 : decode cX3_acceptsLetterOfSet 45 = .ok (.iconst 4, 1) := by decide +kernel
theorem dX3_acceptsLetterOfSet_46 : decode cX3_acceptsLetterOfSet 46 = .ok (.putfield 23, 3) := by decide +kernel
theorem dX3_acceptsLetterOfSet_49 : decode cX3_acceptsLetterOfSet 49 = .ok (.iconst 1, 1) := by decide +kernel
theorem dX3_acceptsLetterOfSet_50 : decode cX3_acceptsLetterOfSet 50 = .ok (.ireturn, 1) := by decide +kernel
set_option maxRecDepth 20000 in
theorem ggX3_acceptsRestOfSet_X3_acceptsLetterOfSet : GoodIn wsX3_acceptsRestOfSet wsX3_acceptsLetterOfSet := goodIn_r _ [8, 3, 9, 10, 11, 12, 13, 20, 21, 22, 23, 24, 25, 26] (by decide +kernel) (by decide +kernel)
set_option maxRecDepth 20000 in
theorem gX3_acceptsRestOfSet_X3_acceptsLetterOfSet : GoodIn wsX3_acceptsRestOfSet (wsV RX3 63 RX3 yX3_acceptsLetterOfSet wsX3_acceptsLetterOfSet) := goodIn_app (goodIn_of _ (by decide +kernel)) ggX3_acceptsRestOfSet_X3_acceptsLetterOfSet
set_option maxRecDepth 20000 in
theorem ggX3_acceptsRestOfSet_X3_addPlace : GoodIn wsX3_acceptsRestOfSet wsX3_addPlace := goodIn_r _ [17, 18, 19, 10, 20, 21, 22, 23, 24, 25, 26] (by decide +kernel) (by decide +kernel)
set_option maxRecDepth 20000 in
theorem gX3_acceptsRestOfSet_X3_addPlace : GoodIn wsX3_acceptsRestOfSet (wsV RX3 72 RX3 yX3_addPlace wsX3_addPlace) := goodIn_app (goodIn_of _ (by decide +kernel)) ggX3_acceptsRestOfSet_X3_addPlace
theorem dX3_acceptsRestOfSet_0 : decode cX3_acceptsRestOfSet 0 = .ok (.iload_n 1, 1) := by decide +kernel
theorem dX3_acceptsRestOfSet_1 : decode cX3_acceptsRestOfSet 1 = .ok (.bipush 93, 2) := by decide +kernel
theorem dX3_acceptsRestOfSet_3 : decode cX3_acceptsRestOfSet 3 = .ok (.if_icmp .eq 9, 3) := by decide +kernel
theorem dX3_acceptsRestOfSet_6 : decode cX3_acceptsRestOfSet 6 = .ok (.aload_n 0, 1) := by decide +kernel
theorem dX3_acceptsRestOfSet_7 : decode cX3_acceptsRestOfSet 7 = .ok (.iload_n 1, 1) := by decide +kernel
theorem dX3_acceptsRestOfSet_8 : decode cX3_acceptsRestOfSet 8 = .ok (.invokevirtual 63, 3) := by decide +kernel
theorem dX3_acceptsRestOfSet_11 : decode cX3_acceptsRestOfSet 11 = .ok (.ireturn, 1) := by decide +kernel
theorem dX3_acceptsRestOfSet_12 : decode cX3_acceptsRestOfSet 12 = .ok (.aload_n 0, 1) := by decide +kernel
theorem dX3_acceptsRestOfSet_13 : decode cX3_acceptsRestOfSet 13 = .ok (.aload_n 0, 1) := by decide +kernel
theorem dX3_acceptsRestOfSet_14 : decode cX3_acceptsRestOfSet 14 = .ok (.getfield 26, 3) := by decide +kernel
theorem dX3_acceptsRestOfSet_17 : decode cX3_acceptsRestOfSet 17 = .ok (.ifCond .eq 15, 3) := by decide +kernel
theorem dX3_acceptsRestOfSet_20 : decode cX3_acceptsRestOfSet 20 = .ok (.ldc 78, 2) := by decide +kernel
theorem dX3_acceptsRestOfSet_22 : decode cX3_acceptsRestOfSet 22 = .ok (.aload_n 0, 1) := by decide +kernel
theorem dX3_acceptsRestOfSet_23 : decode cX3_acceptsRestOfSet 23 = .ok (.getfield 29, 3) := by decide +kernel
theorem dX3_acceptsRestOfSet_26 : decode cX3_acceptsRestOfSet 26 = .ok (.iconst (-1), 1) := by decide +kernel
theorem dX3_acceptsRestOfSet_27 : decode cX3_acceptsRestOfSet 27 = .ok (.ixor, 1) := by decide +kernel
theorem dX3_acceptsRestOfSet_28 : decode cX3_acceptsRestOfSet 28 = .ok (.iand, 1) := by decide +kernel
theorem dX3_acceptsRestOfSet_29 : decode cX3_acceptsRestOfSet 29 = .ok (.goto 7, 3) := by decide +kernel
theorem dX3_acceptsRestOfSet_32 : decode cX3_acceptsRestOfSet 32 = .ok (.aload_n 0, 1) := by decide +kernel
theorem dX3_acceptsRestOfSet_33 : decode cX3_acceptsRestOfSet 33 = .ok (.getfield 29, 3) := by decide +kernel
theorem dX3_acceptsRestOfSet_36 : decode cX3_acceptsRestOfSet 36 = .ok (.invokevirtual 72, 3) := by decide +kernel
theorem dX3_acceptsRestOfSet_39 : decode cX3_acceptsRestOfSet 39 = .ok (.iconst 1, 1) := by decide +kernel
theorem dX3_acceptsRestOfSet_40 : decode cX3_acceptsRestOfSet 40 = .ok (.ireturn, 1) := by decide +kernel
theorem dX3_addPlace_0 : decode cX3_addPlace 0 = .ok (.aload_n 0, 1) := by decide +kernel
theorem dX3_addPlace_1 : decode cX3_addPlace 1 = .ok (.getfield 15, 3) := by decide +kernel
theorem dX3_addPlace_4 : decode cX3_addPlace 4 = .ok (.ifCond .lt 32, 3) := by decide +kernel
theorem dX3_addPlace_7 : decode cX3_addPlace 7 = .ok (.aload_n 0, 1) := by decide +kernel
theorem dX3_addPlace_8 : decode cX3_addPlace 8 = .ok (.getfield 15, 3) := by decide +kernel
theorem dX3_addPlace_11 : decode cX3_addPlace 11 = .ok (.bipush 60, 2) := by decide +kernel
theorem dX3_addPlace_13 : decode cX3_addPlace 13 = .ok (.if_icmp .ge 23, 3) := by decide +kernel
theorem dX3_addPlace_16 : decode cX3_addPlace 16 = .ok (.aload_n 0, 1) := by decide +kernel
theorem dX3_addPlace_17 : decode cX3_addPlace 17 = .ok (.getfield 9, 3) := by decide +kernel
theorem dX3_addPlace_20 : decode cX3_addPlace 20 = .ok (.aload_n 0, 1) := by decide +kernel
theorem dX3_addPlace_21 : decode cX3_addPlace 21 = .ok (.getfield 15, 3) := by decide +kernel
theorem dX3_addPlace_24 : decode cX3_addPlace 24 = .ok (.iload_n 1, 1) := by decide +kernel
theorem dX3_addPlace_25 : decode cX3_addPlace 25 = .ok (.iastore, 1) := by decide +kernel
theorem dX3_addPlace_26 : decode cX3_addPlace 26 = .ok (.aload_n 0, 1) := by decide +kernel
theorem dX3_addPlace_27 : decode cX3_addPlace 27 = .ok (.dup, 1) := by decide +kernel
theorem dX3_addPlace_28 : decode cX3_addPlace 28 = .ok (.getfield 15, 3) := by decide +kernel
theorem dX3_addPlace_31 : decode cX3_addPlace 31 = .ok (.iconst 1, 1) := by decide +kernel
theorem dX3_addPlace_32 : decode cX3_addPlace 32 = .ok (.iadd, 1) := by decide +kernel
theorem dX3_addPlace_33 : decode cX3_addPlace 33 = .ok (.putfield 15, 3) := by decide +kernel
theorem dX3_addPlace_36 : decode cX3_addPlace 36 = .ok (.aload_n 0, 1) := by decide +kernel
theorem dX3_addPlace_37 : decode cX3_addPlace 37 = .ok (.iconst 1, 1) := by decide +kernel
theorem dX3_addPlace_38 : decode cX3_addPlace 38 = .ok (.putfield 23, 3) := by decide +kernel
theorem dX3_addPlace_41 : decode cX3_addPlace 41 = .ok (.return_, 1) := by decide +kernel
theorem dX4_init_0 : decode cX4_init 0 = .ok (.aload_n 0, 1) := by decide +kernel
theorem dX4_init_1 : decode cX4_init 1 = .ok (.invokespecial 3, 3) := by decide +kernel
theorem dX4_init_4 : decode cX4_init 4 = .ok (.aload_n 0, 1) := by decide +kernel
theorem dX4_init_5 : decode cX4_init 5 = .ok (.iconst 5, 1) := by decide +kernel
theorem dX4_init_6 : decode cX4_init 6 = .ok (.newarray .long, 2) := by decide +kernel
theorem dX4_init_8 : decode cX4_init 8 = .ok (.putfield 9, 3) := by decide +kernel
theorem dX4_init_11 : decode cX4_init 11 = .ok (.aload_n 0, 1) := by decide +kernel
theorem dX4_init_12 : decode cX4_init 12 = .ok (.bipush 61, 2) := by decide +kernel
theorem dX4_init_14 : decode cX4_init 14 = .ok (.newarray .int, 2) := by decide +kernel
theorem dX4_init_16 : decode cX4_init 16 = .ok (.putfield 15, 3) := by decide +kernel
theorem dX4_init_19 : decode cX4_init 19 = .ok (.aload_n 0, 1) := by decide +kernel
theorem dX4_init_20 : decode cX4_init 20 = .ok (.bipush 121, 2) := by decide +kernel
theorem dX4_init_22 : decode cX4_init 22 = .ok (.newarray .int, 2) := by decide +kernel
theorem dX4_init_24 : decode cX4_init 24 = .ok (.putfield 19, 3) := by decide +kernel
theorem dX4_init_27 : decode cX4_init 27 = .ok (.aload_n 0, 1) := by decide +kernel
theorem dX4_init_28 : decode cX4_init 28 = .ok (.bipush 121, 2) := by decide +kernel
theorem dX4_init_30 : decode cX4_init 30 = .ok (.newarray .int, 2) := by decide +kernel
theorem dX4_init_32 : decode cX4_init 32 = .ok (.putfield 22, 3) := by decide +kernel
theorem dX4_init_35 : decode cX4_init 35 = .ok (.aload_n 0, 1) := by decide +kernel
theorem dX4_init_36 : decode cX4_init 36 = .ok (.bipush 121, 2) := by decide +kernel
theorem dX4_init_38 : decode cX4_init 38 = .ok (.newarray .boolean, 2) := by decide +kernel
theorem dX4_init_40 : decode cX4_init 40 = .ok (.putfield 25, 3) := by decide +kernel
theorem dX4_init_43 : decode cX4_init 43 = .ok (.aload_n 0, 1) := by decide +kernel
theorem dX4_init_44 : decode cX4_init 44 = .ok (.bipush 120, 2) := by decide +kernel
theorem dX4_init_46 : decode cX4_init 46 = .ok (.newarray .char, 2) := by decide +kernel
theorem dX4_init_48 : decode cX4_init 48 = .ok (.putfield 29, 3) := by decide +kernel
theorem dX4_init_51 : decode cX4_init 51 = .ok (.aload_n 0, 1) := by decide +kernel
theorem dX4_init_52 : decode cX4_init 52 = .ok (.bipush 121, 2) := by decide +kernel
theorem dX4_init_54 : decode cX4_init 54 = .ok (.newarray .int, 2) := by decide +kernel
theorem dX4_init_56 : decode cX4_init 56 = .ok (.putfield 33, 3) := by decide +kernel
theorem dX4_init_59 : decode cX4_init 59 = .ok (.aload_n 0, 1) := by decide +kernel
theorem dX4_init_60 : decode cX4_init 60 = .ok (.iconst 0, 1) := by decide +kernel
theorem dX4_init_61 : decode cX4_init 61 = .ok (.putfield 36, 3) := by decide +kernel
theorem dX4_init_64 : decode cX4_init 64 = .ok (.return_, 1) := by decide +kernel
set_option maxRecDepth 20000 in
theorem ggX4_findEnds_X4_openColumns : GoodIn wsX4_findEnds wsX4_openColumns := goodIn_r _ [6, 7, 8, 9, 5, 10, 11, 51, 52, 53, 54, 55, 43, 44, 45, 46, 47, 48, 49, 50, 56, 57, 58, 59] (by decide +kernel) (by decide +kernel)
set_option maxRecDepth 20000 in
theorem gX4_findEnds_X4_openColumns : GoodIn wsX4_findEnds (wsV RX4 40 RX4 yX4_openColumns wsX4_openColumns) := goodIn_app (goodIn_of _ (by decide +kernel)) ggX4_findEnds_X4_openColumns
set_option maxRecDepth 20000 in
theorem ggX4_findEnds_X4_noteEnd : GoodIn wsX4_findEnds wsX4_noteEnd := goodIn_r _ [15, 16, 1, 17, 18, 19, 20, 5, 21, 7, 43, 44, 45, 46, 47, 48, 49, 50, 51, 52, 53, 54, 55, 56, 57, 58, 59] (by decide +kernel) (by decide +kernel)
set_option maxRecDepth 20000 in
theorem gX4_findEnds_X4_noteEnd : GoodIn wsX4_findEnds (wsV RX4 44 RX4 yX4_noteEnd wsX4_noteEnd) := goodIn_app (goodIn_of _ (by decide +kernel)) ggX4_findEnds_X4_noteEnd
set_option maxRecDepth 20000 in
theorem ggX4_findEnds_X4_stepColumns : GoodIn wsX4_findEnds wsX4_stepColumns := goodIn_r _ [25, 7, 26, 27, 28, 29, 30, 31, 32, 33, 34, 35, 36, 37, 38, 39, 40, 41, 42, 8, 9, 5, 10, 11, 51, 52, 53, 54, 55, 43, 44, 45, 46, 47, 48, 49, 50, 56, 57, 58, 59] (by decide +kernel) (by decide +kernel)
set_option maxRecDepth 20000 in
theorem gX4_findEnds_X4_stepColumns : GoodIn wsX4_findEnds (wsV RX4 53 RX4 yX4_stepColumns wsX4_stepColumns) := goodIn_app (goodIn_of _ (by decide +kernel)) ggX4_findEnds_X4_stepColumns
theorem dX4_findEnds_0 : decode cX4_findEnds 0 = .ok (.aload_n 0, 1) := by decide +kernel
theorem dX4_findEnds_1 : decode cX4_findEnds 1 = .ok (.iconst 0, 1) := by decide +kernel
theorem dX4_findEnds_2 : decode cX4_findEnds 2 = .ok (.putfield 36, 3) := by decide +kernel
theorem dX4_findEnds_5 : decode cX4_findEnds 5 = .ok (.aload_n 0, 1) := by decide +kernel
theorem dX4_findEnds_6 : decode cX4_findEnds 6 = .ok (.aload_n 1, 1) := by decide +kernel
theorem dX4_findEnds_7 : decode cX4_findEnds 7 = .ok (.aload_n 2, 1) := by decide +kernel
theorem dX4_findEnds_8 : decode cX4_findEnds 8 = .ok (.invokevirtual 40, 3) := by decide +kernel
theorem dX4_findEnds_11 : decode cX4_findEnds 11 = .ok (.aload_n 0, 1) := by decide +kernel
theorem dX4_findEnds_12 : decode cX4_findEnds 12 = .ok (.aload_n 1, 1) := by decide +kernel
theorem dX4_findEnds_13 : decode cX4_findEnds 13 = .ok (.aload_n 2, 1) := by decide +kernel
theorem dX4_findEnds_14 : decode cX4_findEnds 14 = .ok (.iconst 0, 1) := by decide +kernel
theorem dX4_findEnds_15 : decode cX4_findEnds 15 = .ok (.invokevirtual 44, 3) := by decide +kernel
theorem dX4_findEnds_18 : decode cX4_findEnds 18 = .ok (.iconst 1, 1) := by decide +kernel
theorem dX4_findEnds_19 : decode cX4_findEnds 19 = .ok (.istore_n 3, 1) := by decide +kernel
theorem dX4_findEnds_20 : decode cX4_findEnds 20 = .ok (.iload_n 3, 1) := by decide +kernel
theorem dX4_findEnds_21 : decode cX4_findEnds 21 = .ok (.aload_n 1, 1) := by decide +kernel
theorem dX4_findEnds_22 : decode cX4_findEnds 22 = .ok (.getfield 48, 3) := by decide +kernel
theorem dX4_findEnds_25 : decode cX4_findEnds 25 = .ok (.if_icmp .gt 29, 3) := by decide +kernel
theorem dX4_findEnds_28 : decode cX4_findEnds 28 = .ok (.iload_n 3, 1) := by decide +kernel
theorem dX4_findEnds_29 : decode cX4_findEnds 29 = .ok (.bipush 120, 2) := by decide +kernel
theorem dX4_findEnds_31 : decode cX4_findEnds 31 = .ok (.if_icmp .gt 23, 3) := by decide +kernel
theorem dX4_findEnds_34 : decode cX4_findEnds 34 = .ok (.aload_n 0, 1) := by decide +kernel
theorem dX4_findEnds_35 : decode cX4_findEnds 35 = .ok (.aload_n 1, 1) := by decide +kernel
theorem dX4_findEnds_36 : decode cX4_findEnds 36 = .ok (.aload_n 2, 1) := by decide +kernel
theorem dX4_findEnds_37 : decode cX4_findEnds 37 = .ok (.iload_n 3, 1) := by decide +kernel
theorem dX4_findEnds_38 : decode cX4_findEnds 38 = .ok (.invokevirtual 53, 3) := by decide +kernel
theorem dX4_findEnds_41 : decode cX4_findEnds 41 = .ok (.aload_n 0, 1) := by decide +kernel
theorem dX4_findEnds_42 : decode cX4_findEnds 42 = .ok (.aload_n 1, 1) := by decide +kernel
theorem dX4_findEnds_43 : decode cX4_findEnds 43 = .ok (.aload_n 2, 1) := by decide +kernel
theorem dX4_findEnds_44 : decode cX4_findEnds 44 = .ok (.iload_n 3, 1) := by decide +kernel
theorem dX4_findEnds_45 : decode cX4_findEnds 45 = .ok (.invokevirtual 44, 3) := by decide +kernel
theorem dX4_findEnds_48 : decode cX4_findEnds 48 = .ok (.iinc 3 1, 3) := by decide +kernel
theorem dX4_findEnds_51 : decode cX4_findEnds 51 = .ok (.goto (-31), 3) := by decide +kernel
theorem dX4_findEnds_54 : decode cX4_findEnds 54 = .ok (.return_, 1) := by decide +kernel
set_option maxRecDepth 20000 in
theorem ggX4_findAlone_X4_findEnds : GoodIn wsX4_findAlone wsX4_findEnds := goodIn_r _ [7, 1, 8, 9, 10, 6, 11, 12, 13, 14, 15, 16, 17, 18, 19, 20, 21, 2, 22, 23, 24, 25, 26, 27, 28, 29, 30, 31, 32, 33, 34, 35, 36, 37, 38, 39, 40, 41, 42, 43, 44, 45, 46, 69, 70, 71, 72, 73, 74, 75, 76, 77, 78, 79, 80, 81, 82, 83, 84, 85] (by decide +kernel) (by decide +kernel)
set_option maxRecDepth 20000 in
theorem gX4_findAlone_X4_findEnds : GoodIn wsX4_findAlone (wsV RX4 56 RX4 yX4_findEnds wsX4_findEnds) := goodIn_app (goodIn_of _ (by decide +kernel)) ggX4_findAlone_X4_findEnds
set_option maxRecDepth 20000 in
theorem ggX4_findAlone_X4_findBeginnings : GoodIn wsX4_findAlone wsX4_findBeginnings := goodIn_r _ [50, 51, 52, 53, 54, 6, 55, 56, 57, 58, 59, 60, 61, 62, 63, 64, 30, 31, 32, 33, 34, 35, 36, 37, 38, 39, 40, 41, 42, 43, 44, 45, 46, 69, 70, 71, 72, 73, 74, 75, 76, 77, 78, 79, 80, 81, 82, 83, 84, 85] (by decide +kernel) (by decide +kernel)
set_option maxRecDepth 20000 in
theorem gX4_findAlone_X4_findBeginnings : GoodIn wsX4_findAlone (wsV RX4 59 RX4 yX4_findBeginnings wsX4_findBeginnings) := goodIn_app (goodIn_of _ (by decide +kernel)) ggX4_findAlone_X4_findBeginnings
set_option maxRecDepth 20000 in
theorem ggX4_findAlone_X4_tell : GoodIn wsX4_findAlone wsX4_tell := goodIn_r _ [68, 1, 2, 21, 56, 69, 70, 71, 72, 73, 74, 75, 76] (by decide +kernel) (by decide +kernel)
set_option maxRecDepth 20000 in
theorem gX4_findAlone_X4_tell : GoodIn wsX4_findAlone (wsV RX4 62 RX4 yX4_tell wsX4_tell) := goodIn_app (goodIn_of _ (by decide +kernel)) ggX4_findAlone_X4_tell
theorem dX4_findAlone_0 : decode cX4_findAlone 0 = .ok (.aload_n 0, 1) := by decide +kernel
theorem dX4_findAlone_1 : decode cX4_findAlone 1 = .ok (.aload_n 1, 1) := by decide +kernel
theorem dX4_findAlone_2 : decode cX4_findAlone 2 = .ok (.aload_n 2, 1) := by decide +kernel
theorem dX4_findAlone_3 : decode cX4_findAlone 3 = .ok (.invokevirtual 56, 3) := by decide +kernel
theorem dX4_findAlone_6 : decode cX4_findAlone 6 = .ok (.aload_n 0, 1) := by decide +kernel
theorem dX4_findAlone_7 : decode cX4_findAlone 7 = .ok (.aload_n 1, 1) := by decide +kernel
theorem dX4_findAlone_8 : decode cX4_findAlone 8 = .ok (.aload_n 2, 1) := by decide +kernel
theorem dX4_findAlone_9 : decode cX4_findAlone 9 = .ok (.invokevirtual 59, 3) := by decide +kernel
theorem dX4_findAlone_12 : decode cX4_findAlone 12 = .ok (.iconst 0, 1) := by decide +kernel
theorem dX4_findAlone_13 : decode cX4_findAlone 13 = .ok (.istore_n 3, 1) := by decide +kernel
theorem dX4_findAlone_14 : decode cX4_findAlone 14 = .ok (.iconst 0, 1) := by decide +kernel
theorem dX4_findAlone_15 : decode cX4_findAlone 15 = .ok (.istore 4, 2) := by decide +kernel
theorem dX4_findAlone_17 : decode cX4_findAlone 17 = .ok (.iconst 0, 1) := by decide +kernel
theorem dX4_findAlone_18 : decode cX4_findAlone 18 = .ok (.istore 5, 2) := by decide +kernel
theorem dX4_findAlone_20 : decode cX4_findAlone 20 = .ok (.iload 5, 2) := by decide +kernel
theorem dX4_findAlone_22 : decode cX4_findAlone 22 = .ok (.aload_n 0, 1) := by decide +kernel
theorem dX4_findAlone_23 : decode cX4_findAlone 23 = .ok (.getfield 36, 3) := by decide +kernel
theorem dX4_findAlone_26 : decode cX4_findAlone 26 = .ok (.if_icmp .ge 51, 3) := by decide +kernel
theorem dX4_findAlone_29 : decode cX4_findAlone 29 = .ok (.aload_n 0, 1) := by decide +kernel
theorem dX4_findAlone_30 : decode cX4_findAlone 30 = .ok (.iload 5, 2) := by decide +kernel
theorem dX4_findAlone_32 : decode cX4_findAlone 32 = .ok (.iconst 0, 1) := by decide +kernel
theorem dX4_findAlone_33 : decode cX4_findAlone 33 = .ok (.invokevirtual 62, 3) := by decide +kernel
theorem dX4_findAlone_36 : decode cX4_findAlone 36 = .ok (.istore 6, 2) := by decide +kernel
theorem dX4_findAlone_38 : decode cX4_findAlone 38 = .ok (.aload_n 0, 1) := by decide +kernel
theorem dX4_findAlone_39 : decode cX4_findAlone 39 = .ok (.iload 5, 2) := by decide +kernel
theorem dX4_findAlone_41 : decode cX4_findAlone 41 = .ok (.iconst 2, 1) := by decide +kernel
theorem dX4_findAlone_42 : decode cX4_findAlone 42 = .ok (.invokevirtual 62, 3) := by decide +kernel
theorem dX4_findAlone_45 : decode cX4_findAlone 45 = .ok (.iload 4, 2) := by decide +kernel
theorem dX4_findAlone_47 : decode cX4_findAlone 47 = .ok (.if_icmp .lt 24, 3) := by decide +kernel
theorem dX4_findAlone_50 : decode cX4_findAlone 50 = .ok (.iload_n 3, 1) := by decide +kernel
theorem dX4_findAlone_51 : decode cX4_findAlone 51 = .ok (.bipush 120, 2) := by decide +kernel
theorem dX4_findAlone_53 : decode cX4_findAlone 53 = .ok (.if_icmp .gt 18, 3) := by decide +kernel
theorem dX4_findAlone_56 : decode cX4_findAlone 56 = .ok (.aload_n 0, 1) := by decide +kernel
theorem dX4_findAlone_57 : decode cX4_findAlone 57 = .ok (.getfield 33, 3) := by decide +kernel
theorem dX4_findAlone_60 : decode cX4_findAlone 60 = .ok (.iload_n 3, 1) := by decide +kernel
theorem dX4_findAlone_61 : decode cX4_findAlone 61 = .ok (.iload 6, 2) := by decide +kernel
theorem dX4_findAlone_63 : decode cX4_findAlone 63 = .ok (.iastore, 1) := by decide +kernel
theorem dX4_findAlone_64 : decode cX4_findAlone 64 = .ok (.iinc 3 1, 3) := by decide +kernel
theorem dX4_findAlone_67 : decode cX4_findAlone 67 = .ok (.iload 6, 2) := by decide +kernel
theorem dX4_findAlone_69 : decode cX4_findAlone 69 = .ok (.istore 4, 2) := by decide +kernel
theorem dX4_findAlone_71 : decode cX4_findAlone 71 = .ok (.iinc 5 1, 3) := by decide +kernel
theorem dX4_findAlone_74 : decode cX4_findAlone 74 = .ok (.goto (-54), 3) := by decide +kernel
theorem dX4_findAlone_77 : decode cX4_findAlone 77 = .ok (.aload_n 0, 1) := by decide +kernel
theorem dX4_findAlone_78 : decode cX4_findAlone 78 = .ok (.iload_n 3, 1) := by decide +kernel
theorem dX4_findAlone_79 : decode cX4_findAlone 79 = .ok (.putfield 36, 3) := by decide +kernel
theorem dX4_findAlone_82 : decode cX4_findAlone 82 = .ok (.return_, 1) := by decide +kernel
set_option maxRecDepth 20000 in
theorem ggX4_columnAt_X4_openColumns : GoodIn wsX4_columnAt wsX4_openColumns := goodIn_r _ [6, 1, 7, 8, 5, 9, 10, 40, 41, 42, 43, 44, 32, 33, 34, 35, 36, 37, 38, 39, 45, 46, 47, 48] (by decide +kernel) (by decide +kernel)
set_option maxRecDepth 20000 in
theorem gX4_columnAt_X4_openColumns : GoodIn wsX4_columnAt (wsV RX4 40 RX4 yX4_openColumns wsX4_openColumns) := goodIn_app (goodIn_of _ (by decide +kernel)) ggX4_columnAt_X4_openColumns
set_option maxRecDepth 20000 in
theorem ggX4_columnAt_X4_stepColumns : GoodIn wsX4_columnAt wsX4_stepColumns := goodIn_r _ [14, 1, 15, 16, 17, 18, 19, 20, 21, 22, 23, 24, 25, 26, 27, 28, 29, 30, 31, 7, 8, 5, 9, 10, 40, 41, 42, 43, 44, 32, 33, 34, 35, 36, 37, 38, 39, 45, 46, 47, 48] (by decide +kernel) (by decide +kernel)
set_option maxRecDepth 20000 in
theorem gX4_columnAt_X4_stepColumns : GoodIn wsX4_columnAt (wsV RX4 53 RX4 yX4_stepColumns wsX4_stepColumns) := goodIn_app (goodIn_of _ (by decide +kernel)) ggX4_columnAt_X4_stepColumns
theorem dX4_columnAt_0 : decode cX4_columnAt 0 = .ok (.aload_n 0, 1) := by decide +kernel
theorem dX4_columnAt_1 : decode cX4_columnAt 1 = .ok (.aload_n 1, 1) := by decide +kernel
theorem dX4_columnAt_2 : decode cX4_columnAt 2 = .ok (.aload_n 2, 1) := by decide +kernel
theorem dX4_columnAt_3 : decode cX4_columnAt 3 = .ok (.invokevirtual 40, 3) := by decide +kernel
theorem dX4_columnAt_6 : decode cX4_columnAt 6 = .ok (.iconst 1, 1) := by decide +kernel
theorem dX4_columnAt_7 : decode cX4_columnAt 7 = .ok (.istore 5, 2) := by decide +kernel
theorem dX4_columnAt_9 : decode cX4_columnAt 9 = .ok (.iload 5, 2) := by decide +kernel
theorem dX4_columnAt_11 : decode cX4_columnAt 11 = .ok (.iload 4, 2) := by decide +kernel
theorem dX4_columnAt_13 : decode cX4_columnAt 13 = .ok (.if_icmp .gt 24, 3) := by decide +kernel
theorem dX4_columnAt_16 : decode cX4_columnAt 16 = .ok (.iload 5, 2) := by decide +kernel
theorem dX4_columnAt_18 : decode cX4_columnAt 18 = .ok (.bipush 120, 2) := by decide +kernel
theorem dX4_columnAt_20 : decode cX4_columnAt 20 = .ok (.if_icmp .gt 17, 3) := by decide +kernel
theorem dX4_columnAt_23 : decode cX4_columnAt 23 = .ok (.aload_n 0, 1) := by decide +kernel
theorem dX4_columnAt_24 : decode cX4_columnAt 24 = .ok (.aload_n 1, 1) := by decide +kernel
theorem dX4_columnAt_25 : decode cX4_columnAt 25 = .ok (.aload_n 2, 1) := by decide +kernel
theorem dX4_columnAt_26 : decode cX4_columnAt 26 = .ok (.iload 5, 2) := by decide +kernel
theorem dX4_columnAt_28 : decode cX4_columnAt 28 = .ok (.invokevirtual 53, 3) := by decide +kernel
theorem dX4_columnAt_31 : decode cX4_columnAt 31 = .ok (.iinc 5 1, 3) := by decide +kernel
theorem dX4_columnAt_34 : decode cX4_columnAt 34 = .ok (.goto (-25), 3) := by decide +kernel
theorem dX4_columnAt_37 : decode cX4_columnAt 37 = .ok (.iload_n 3, 1) := by decide +kernel
theorem dX4_columnAt_38 : decode cX4_columnAt 38 = .ok (.ifCond .lt 19, 3) := by decide +kernel
theorem dX4_columnAt_41 : decode cX4_columnAt 41 = .ok (.iload_n 3, 1) := by decide +kernel
theorem dX4_columnAt_42 : decode cX4_columnAt 42 = .ok (.iconst 4, 1) := by decide +kernel
theorem dX4_columnAt_43 : decode cX4_columnAt 43 = .ok (.if_icmp .gt 14, 3) := by decide +kernel
theorem dX4_columnAt_46 : decode cX4_columnAt 46 = .ok (.aload_n 0, 1) := by decide +kernel
theorem dX4_columnAt_47 : decode cX4_columnAt 47 = .ok (.getfield 9, 3) := by decide +kernel
theorem dX4_columnAt_50 : decode cX4_columnAt 50 = .ok (.iload_n 3, 1) := by decide +kernel
theorem dX4_columnAt_51 : decode cX4_columnAt 51 = .ok (.laload, 1) := by decide +kernel
theorem dX4_columnAt_52 : decode cX4_columnAt 52 = .ok (.iconst 1, 1) := by decide +kernel
theorem dX4_columnAt_53 : decode cX4_columnAt 53 = .ok (.lushr, 1) := by decide +kernel
theorem dX4_columnAt_54 : decode cX4_columnAt 54 = .ok (.goto 4, 3) := by decide +kernel
theorem dX4_columnAt_57 : decode cX4_columnAt 57 = .ok (.lconst 0, 1) := by decide +kernel
theorem dX4_columnAt_58 : decode cX4_columnAt 58 = .ok (.lreturn, 1) := by decide +kernel
theorem dX4_columnMask_0 : decode cX4_columnMask 0 = .ok (.ldc2_w 66, 3) := by decide +kernel
theorem dX4_columnMask_3 : decode cX4_columnMask 3 = .ok (.aload_n 0, 1) := by decide +kernel
theorem dX4_columnMask_4 : decode cX4_columnMask 4 = .ok (.getfield 68, 3) := by decide +kernel
theorem dX4_columnMask_7 : decode cX4_columnMask 7 = .ok (.lshl, 1) := by decide +kernel
theorem dX4_columnMask_8 : decode cX4_columnMask 8 = .ok (.lconst 1, 1) := by decide +kernel
theorem dX4_columnMask_9 : decode cX4_columnMask 9 = .ok (.lsub, 1) := by decide +kernel
theorem dX4_columnMask_10 : decode cX4_columnMask 10 = .ok (.lreturn, 1) := by decide +kernel
set_option maxRecDepth 20000 in
theorem ggX4_openColumns_X4_columnMask : GoodIn wsX4_openColumns wsX4_columnMask := goodIn_r _ [5, 6, 20, 21, 22, 23] (by decide +kernel) (by decide +kernel)
set_option maxRecDepth 20000 in
theorem gX4_openColumns_X4_columnMask : GoodIn wsX4_openColumns (va_wsS RX4 76 yX4_columnMask wsX4_columnMask) := goodIn_app (goodIn_of _ (by decide +kernel)) ggX4_openColumns_X4_columnMask
theorem dX4_openColumns_0 : decode cX4_openColumns 0 = .ok (.lconst 1, 1) := by decide +kernel
theorem dX4_openColumns_1 : decode cX4_openColumns 1 = .ok (.lstore_n 3, 1) := by decide +kernel
theorem dX4_openColumns_2 : decode cX4_openColumns 2 = .ok (.iconst 0, 1) := by decide +kernel
theorem dX4_openColumns_3 : decode cX4_openColumns 3 = .ok (.istore 5, 2) := by decide +kernel
theorem dX4_openColumns_5 : decode cX4_openColumns 5 = .ok (.iload 5, 2) := by decide +kernel
theorem dX4_openColumns_7 : decode cX4_openColumns 7 = .ok (.iconst 4, 1) := by decide +kernel
theorem dX4_openColumns_8 : decode cX4_openColumns 8 = .ok (.if_icmp .gt 37, 3) := by decide +kernel
theorem dX4_openColumns_11 : decode cX4_openColumns 11 = .ok (.iload 5, 2) := by decide +kernel
theorem dX4_openColumns_13 : decode cX4_openColumns 13 = .ok (.aload_n 1, 1) := by decide +kernel
theorem dX4_openColumns_14 : decode cX4_openColumns 14 = .ok (.getfield 73, 3) := by decide +kernel
theorem dX4_openColumns_17 : decode cX4_openColumns 17 = .ok (.if_icmp .gt 28, 3) := by decide +kernel
theorem dX4_openColumns_20 : decode cX4_openColumns 20 = .ok (.aload_n 0, 1) := by decide +kernel
theorem dX4_openColumns_21 : decode cX4_openColumns 21 = .ok (.getfield 9, 3) := by decide +kernel
theorem dX4_openColumns_24 : decode cX4_openColumns 24 = .ok (.iload 5, 2) := by decide +kernel
theorem dX4_openColumns_26 : decode cX4_openColumns 26 = .ok (.lload_n 3, 1) := by decide +kernel
theorem dX4_openColumns_27 : decode cX4_openColumns 27 = .ok (.aload_n 2, 1) := by decide +kernel
theorem dX4_openColumns_28 : decode cX4_openColumns 28 = .ok (.invokestatic 76, 3) := by decide +kernel
theorem dX4_openColumns_31 : decode cX4_openColumns 31 = .ok (.land, 1) := by decide +kernel
theorem dX4_openColumns_32 : decode cX4_openColumns 32 = .ok (.lastore, 1) := by decide +kernel
theorem dX4_openColumns_33 : decode cX4_openColumns 33 = .ok (.lload_n 3, 1) := by decide +kernel
theorem dX4_openColumns_34 : decode cX4_openColumns 34 = .ok (.iconst 1, 1) := by decide +kernel
theorem dX4_openColumns_35 : decode cX4_openColumns 35 = .ok (.lshl, 1) := by decide +kernel
theorem dX4_openColumns_36 : decode cX4_openColumns 36 = .ok (.lconst 1, 1) := by decide +kernel
theorem dX4_openColumns_37 : decode cX4_openColumns 37 = .ok (.lor, 1) := by decide +kernel
theorem dX4_openColumns_38 : decode cX4_openColumns 38 = .ok (.lstore_n 3, 1) := by decide +kernel
theorem dX4_openColumns_39 : decode cX4_openColumns 39 = .ok (.iinc 5 1, 3) := by decide +kernel
theorem dX4_openColumns_42 : decode cX4_openColumns 42 = .ok (.goto (-37), 3) := by decide +kernel
theorem dX4_openColumns_45 : decode cX4_openColumns 45 = .ok (.return_, 1) := by decide +kernel
set_option maxRecDepth 20000 in
theorem ggX4_stepColumns_X5_signAt : GoodIn wsX4_stepColumns wsX5_signAt := goodIn_r _ [6, 7, 24, 25, 26, 27, 28] (by decide +kernel) (by decide +kernel)
set_option maxRecDepth 20000 in
theorem gX4_stepColumns_X5_signAt : GoodIn wsX4_stepColumns (wsV RX4 80 RX5 yX5_signAt wsX5_signAt) := goodIn_app (goodIn_of _ (by decide +kernel)) ggX4_stepColumns_X5_signAt
set_option maxRecDepth 20000 in
theorem ggX4_stepColumns_X2_placesThatTake : GoodIn wsX4_stepColumns wsX2_placesThatTake := goodIn_r _ [12, 13, 37, 38, 39, 40] (by decide +kernel) (by decide +kernel)
set_option maxRecDepth 20000 in
theorem gX4_stepColumns_X2_placesThatTake : GoodIn wsX4_stepColumns (wsV RX4 84 RX2 yX2_placesThatTake wsX2_placesThatTake) := goodIn_app (goodIn_of _ (by decide +kernel)) ggX4_stepColumns_X2_placesThatTake
set_option maxRecDepth 20000 in
theorem ggX4_stepColumns_X5_mayBegin : GoodIn wsX4_stepColumns wsX5_mayBegin := goodIn_r _ [17, 18, 3, 4, 5, 6, 7, 37, 38, 39, 40, 24, 25, 26, 27, 28] (by decide +kernel) (by decide +kernel)
set_option maxRecDepth 20000 in
theorem gX4_stepColumns_X5_mayBegin : GoodIn wsX4_stepColumns (wsV RX4 88 RX5 yX5_mayBegin wsX5_mayBegin) := goodIn_app (goodIn_of _ (by decide +kernel)) ggX4_stepColumns_X5_mayBegin
set_option maxRecDepth 20000 in
theorem ggX4_stepColumns_X4_columnMask : GoodIn wsX4_stepColumns wsX4_columnMask := goodIn_r _ [22, 23, 37, 38, 39, 40] (by decide +kernel) (by decide +kernel)
set_option maxRecDepth 20000 in
theorem gX4_stepColumns_X4_columnMask : GoodIn wsX4_stepColumns (va_wsS RX4 76 yX4_columnMask wsX4_columnMask) := goodIn_app (goodIn_of _ (by decide +kernel)) ggX4_stepColumns_X4_columnMask
theorem dX4_stepColumns_0 : decode cX4_stepColumns 0 = .ok (.aload_n 2, 1) := by decide +kernel
theorem dX4_stepColumns_1 : decode cX4_stepColumns 1 = .ok (.aload_n 1, 1) := by decide +kernel
theorem dX4_stepColumns_2 : decode cX4_stepColumns 2 = .ok (.iload_n 3, 1) := by decide +kernel
theorem dX4_stepColumns_3 : decode cX4_stepColumns 3 = .ok (.iconst 1, 1) := by decide +kernel
theorem dX4_stepColumns_4 : decode cX4_stepColumns 4 = .ok (.isub, 1) := by decide +kernel
theorem dX4_stepColumns_5 : decode cX4_stepColumns 5 = .ok (.invokevirtual 80, 3) := by decide +kernel
theorem dX4_stepColumns_8 : decode cX4_stepColumns 8 = .ok (.invokevirtual 84, 3) := by decide +kernel
theorem dX4_stepColumns_11 : decode cX4_stepColumns 11 = .ok (.lstore 4, 2) := by decide +kernel
theorem dX4_stepColumns_13 : decode cX4_stepColumns 13 = .ok (.aload_n 1, 1) := by decide +kernel
theorem dX4_stepColumns_14 : decode cX4_stepColumns 14 = .ok (.aload_n 2, 1) := by decide +kernel
theorem dX4_stepColumns_15 : decode cX4_stepColumns 15 = .ok (.iload_n 3, 1) := by decide +kernel
theorem dX4_stepColumns_16 : decode cX4_stepColumns 16 = .ok (.invokevirtual 88, 3) := by decide +kernel
theorem dX4_stepColumns_19 : decode cX4_stepColumns 19 = .ok (.ifCond .eq 7, 3) := by decide +kernel
theorem dX4_stepColumns_22 : decode cX4_stepColumns 22 = .ok (.lconst 1, 1) := by decide +kernel
theorem dX4_stepColumns_23 : decode cX4_stepColumns 23 = .ok (.goto 4, 3) := by decide +kernel
theorem dX4_stepColumns_26 : decode cX4_stepColumns 26 = .ok (.lconst 0, 1) := by decide +kernel
theorem dX4_stepColumns_27 : decode cX4_stepColumns 27 = .ok (.lstore 6, 2) := by decide +kernel
theorem dX4_stepColumns_29 : decode cX4_stepColumns 29 = .ok (.aload_n 2, 1) := by decide +kernel
theorem dX4_stepColumns_30 : decode cX4_stepColumns 30 = .ok (.invokestatic 76, 3) := by decide +kernel
theorem dX4_stepColumns_33 : decode cX4_stepColumns 33 = .ok (.lstore 8, 2) := by decide +kernel
theorem dX4_stepColumns_35 : decode cX4_stepColumns 35 = .ok (.lconst 0, 1) := by decide +kernel
theorem dX4_stepColumns_36 : decode cX4_stepColumns 36 = .ok (.lstore 10, 2) := by decide +kernel
theorem dX4_stepColumns_38 : decode cX4_stepColumns 38 = .ok (.lconst 0, 1) := by decide +kernel
theorem dX4_stepColumns_39 : decode cX4_stepColumns 39 = .ok (.lstore 12, 2) := by decide +kernel
theorem dX4_stepColumns_41 : decode cX4_stepColumns 41 = .ok (.iconst 0, 1) := by decide +kernel
theorem dX4_stepColumns_42 : decode cX4_stepColumns 42 = .ok (.istore 14, 2) := by decide +kernel
theorem dX4_stepColumns_44 : decode cX4_stepColumns 44 = .ok (.iload 14, 2) := by decide +kernel
theorem dX4_stepColumns_46 : decode cX4_stepColumns 46 = .ok (.iconst 4, 1) := by decide +kernel
theorem dX4_stepColumns_47 : decode cX4_stepColumns 47 = .ok (.if_icmp .gt 85, 3) := by decide +kernel
theorem dX4_stepColumns_50 : decode cX4_stepColumns 50 = .ok (.iload 14, 2) := by decide +kernel
theorem dX4_stepColumns_52 : decode cX4_stepColumns 52 = .ok (.aload_n 1, 1) := by decide +kernel
theorem dX4_stepColumns_53 : decode cX4_stepColumns 53 = .ok (.getfield 73, 3) := by decide +kernel
theorem dX4_stepColumns_56 : decode cX4_stepColumns 56 = .ok (.if_icmp .gt 76, 3) := by decide +kernel
theorem dX4_stepColumns_59 : decode cX4_stepColumns 59 = .ok (.aload_n 0, 1) := by decide +kernel
theorem dX4_stepColumns_60 : decode cX4_stepColumns 60 = .ok (.getfield 9, 3) := by decide +kernel
theorem dX4_stepColumns_63 : decode cX4_stepColumns 63 = .ok (.iload 14, 2) := by decide +kernel
theorem dX4_stepColumns_65 : decode cX4_stepColumns 65 = .ok (.laload, 1) := by decide +kernel
theorem dX4_stepColumns_66 : decode cX4_stepColumns 66 = .ok (.lstore 15, 2) := by decide +kernel
theorem dX4_stepColumns_68 : decode cX4_stepColumns 68 = .ok (.lload 15, 2) := by decide +kernel
theorem dX4_stepColumns_70 : decode cX4_stepColumns 70 = .ok (.lload 4, 2) := by decide +kernel
theorem dX4_stepColumns_72 : decode cX4_stepColumns 72 = .ok (.land, 1) := by decide +kernel
theorem dX4_stepColumns_73 : decode cX4_stepColumns 73 = .ok (.iconst 1, 1) := by decide +kernel
theorem dX4_stepColumns_74 : decode cX4_stepColumns 74 = .ok (.lshl, 1) := by decide +kernel
theorem dX4_stepColumns_75 : decode cX4_stepColumns 75 = .ok (.lstore 17, 2) := by decide +kernel
theorem dX4_stepColumns_77 : decode cX4_stepColumns 77 = .ok (.lload 10, 2) := by decide +kernel
theorem dX4_stepColumns_79 : decode cX4_stepColumns 79 = .ok (.iconst 1, 1) := by decide +kernel
theorem dX4_stepColumns_80 : decode cX4_stepColumns 80 = .ok (.lshl, 1) := by decide +kernel
theorem dX4_stepColumns_81 : decode cX4_stepColumns 81 = .ok (.lstore 19, 2) := by decide +kernel
theorem dX4_stepColumns_83 : decode cX4_stepColumns 83 = .ok (.lload 12, 2) := by decide +kernel
theorem dX4_stepColumns_85 : decode cX4_stepColumns 85 = .ok (.iconst 1, 1) := by decide +kernel
theorem dX4_stepColumns_86 : decode cX4_stepColumns 86 = .ok (.lshl, 1) := by decide +kernel
theorem dX4_stepColumns_87 : decode cX4_stepColumns 87 = .ok (.lstore 21, 2) := by decide +kernel
theorem dX4_stepColumns_89 : decode cX4_stepColumns 89 = .ok (.aload_n 0, 1) := by decide +kernel
theorem dX4_stepColumns_90 : decode cX4_stepColumns 90 = .ok (.getfield 9, 3) := by decide +kernel
theorem dX4_stepColumns_93 : decode cX4_stepColumns 93 = .ok (.iload 14, 2) := by decide +kernel
theorem dX4_stepColumns_95 : decode cX4_stepColumns 95 = .ok (.lload 6, 2) := by decide +kernel
theorem dX4_stepColumns_97 : decode cX4_stepColumns 97 = .ok (.lload 17, 2) := by decide +kernel
theorem dX4_stepColumns_99 : decode cX4_stepColumns 99 = .ok (.lor, 1) := by decide +kernel
theorem dX4_stepColumns_100 : decode cX4_stepColumns 100 = .ok (.lload 19, 2) := by decide +kernel
theorem dX4_stepColumns_102 : decode cX4_stepColumns 102 = .ok (.lor, 1) := by decide +kernel
theorem dX4_stepColumns_103 : decode cX4_stepColumns 103 = .ok (.lload 10, 2) := by decide +kernel
theorem dX4_stepColumns_105 : decode cX4_stepColumns 105 = .ok (.lor, 1) := by decide +kernel
theorem dX4_stepColumns_106 : decode cX4_stepColumns 106 = .ok (.lload 21, 2) := by decide +kernel
theorem dX4_stepColumns_108 : decode cX4_stepColumns 108 = .ok (.lor, 1) := by decide +kernel
theorem dX4_stepColumns_109 : decode cX4_stepColumns 109 = .ok (.lload 8, 2) := by decide +kernel
theorem dX4_stepColumns_111 : decode cX4_stepColumns 111 = .ok (.land, 1) := by decide +kernel
theorem dX4_stepColumns_112 : decode cX4_stepColumns 112 = .ok (.lastore, 1) := by decide +kernel
theorem dX4_stepColumns_113 : decode cX4_stepColumns 113 = .ok (.lload 15, 2) := by decide +kernel
theorem dX4_stepColumns_115 : decode cX4_stepColumns 115 = .ok (.lstore 10, 2) := by decide +kernel
theorem dX4_stepColumns_117 : decode cX4_stepColumns 117 = .ok (.aload_n 0, 1) := by decide +kernel
theorem dX4_stepColumns_118 : decode cX4_stepColumns 118 = .ok (.getfield 9, 3) := by decide +kernel
theorem dX4_stepColumns_121 : decode cX4_stepColumns 121 = .ok (.iload 14, 2) := by decide +kernel
theorem dX4_stepColumns_123 : decode cX4_stepColumns 123 = .ok (.laload, 1) := by decide +kernel
theorem dX4_stepColumns_124 : decode cX4_stepColumns 124 = .ok (.lstore 12, 2) := by decide +kernel
theorem dX4_stepColumns_126 : decode cX4_stepColumns 126 = .ok (.iinc 14 1, 3) := by decide +kernel
theorem dX4_stepColumns_129 : decode cX4_stepColumns 129 = .ok (.goto (-85), 3) := by decide +kernel
theorem dX4_stepColumns_132 : decode cX4_stepColumns 132 = .ok (.return_, 1) := by decide +kernel
set_option maxRecDepth 20000 in
theorem ggX4_noteEnd_X4_fewestInColumns : GoodIn wsX4_noteEnd wsX4_fewestInColumns := goodIn_r _ [8, 9, 18, 19, 20, 21, 22, 10, 11, 12, 13, 14, 15, 16, 17, 23, 24, 25, 26] (by decide +kernel) (by decide +kernel)
set_option maxRecDepth 20000 in
theorem gX4_noteEnd_X4_fewestInColumns : GoodIn wsX4_noteEnd (wsV RX4 92 RX4 yX4_fewestInColumns wsX4_fewestInColumns) := goodIn_app (goodIn_of _ (by decide +kernel)) ggX4_noteEnd_X4_fewestInColumns
theorem dX4_noteEnd_0 : decode cX4_noteEnd 0 = .ok (.iload_n 3, 1) := by decide +kernel
theorem dX4_noteEnd_1 : decode cX4_noteEnd 1 = .ok (.ifCond .lt 9, 3) := by decide +kernel
theorem dX4_noteEnd_4 : decode cX4_noteEnd 4 = .ok (.iload_n 3, 1) := by decide +kernel
theorem dX4_noteEnd_5 : decode cX4_noteEnd 5 = .ok (.bipush 120, 2) := by decide +kernel
theorem dX4_noteEnd_7 : decode cX4_noteEnd 7 = .ok (.if_icmp .le 4, 3) := by decide +kernel
theorem dX4_noteEnd_10 : decode cX4_noteEnd 10 = .ok (.return_, 1) := by decide +kernel
theorem dX4_noteEnd_11 : decode cX4_noteEnd 11 = .ok (.aload_n 0, 1) := by decide +kernel
theorem dX4_noteEnd_12 : decode cX4_noteEnd 12 = .ok (.getfield 19, 3) := by decide +kernel
theorem dX4_noteEnd_15 : decode cX4_noteEnd 15 = .ok (.iload_n 3, 1) := by decide +kernel
theorem dX4_noteEnd_16 : decode cX4_noteEnd 16 = .ok (.aload_n 0, 1) := by decide +kernel
theorem dX4_noteEnd_17 : decode cX4_noteEnd 17 = .ok (.aload_n 1, 1) := by decide +kernel
theorem dX4_noteEnd_18 : decode cX4_noteEnd 18 = .ok (.aload_n 2, 1) := by decide +kernel
theorem dX4_noteEnd_19 : decode cX4_noteEnd 19 = .ok (.invokevirtual 92, 3) := by decide +kernel
theorem dX4_noteEnd_22 : decode cX4_noteEnd 22 = .ok (.iastore, 1) := by decide +kernel
theorem dX4_noteEnd_23 : decode cX4_noteEnd 23 = .ok (.aload_n 0, 1) := by decide +kernel
theorem dX4_noteEnd_24 : decode cX4_noteEnd 24 = .ok (.getfield 19, 3) := by decide +kernel
theorem dX4_noteEnd_27 : decode cX4_noteEnd 27 = .ok (.iload_n 3, 1) := by decide +kernel
theorem dX4_noteEnd_28 : decode cX4_noteEnd 28 = .ok (.iaload, 1) := by decide +kernel
theorem dX4_noteEnd_29 : decode cX4_noteEnd 29 = .ok (.iconst (-1), 1) := by decide +kernel
theorem dX4_noteEnd_30 : decode cX4_noteEnd 30 = .ok (.if_icmp .eq 39, 3) := by decide +kernel
theorem dX4_noteEnd_33 : decode cX4_noteEnd 33 = .ok (.aload_n 0, 1) := by decide +kernel
theorem dX4_noteEnd_34 : decode cX4_noteEnd 34 = .ok (.getfield 36, 3) := by decide +kernel
theorem dX4_noteEnd_37 : decode cX4_noteEnd 37 = .ok (.ifCond .lt 32, 3) := by decide +kernel
theorem dX4_noteEnd_40 : decode cX4_noteEnd 40 = .ok (.aload_n 0, 1) := by decide +kernel
theorem dX4_noteEnd_41 : decode cX4_noteEnd 41 = .ok (.getfield 36, 3) := by decide +kernel
theorem dX4_noteEnd_44 : decode cX4_noteEnd 44 = .ok (.bipush 120, 2) := by decide +kernel
theorem dX4_noteEnd_46 : decode cX4_noteEnd 46 = .ok (.if_icmp .gt 23, 3) := by decide +kernel
theorem dX4_noteEnd_49 : decode cX4_noteEnd 49 = .ok (.aload_n 0, 1) := by decide +kernel
theorem dX4_noteEnd_50 : decode cX4_noteEnd 50 = .ok (.getfield 33, 3) := by decide +kernel
theorem dX4_noteEnd_53 : decode cX4_noteEnd 53 = .ok (.aload_n 0, 1) := by decide +kernel
theorem dX4_noteEnd_54 : decode cX4_noteEnd 54 = .ok (.getfield 36, 3) := by decide +kernel
theorem dX4_noteEnd_57 : decode cX4_noteEnd 57 = .ok (.iload_n 3, 1) := by decide +kernel
theorem dX4_noteEnd_58 : decode cX4_noteEnd 58 = .ok (.iastore, 1) := by decide +kernel
theorem dX4_noteEnd_59 : decode cX4_noteEnd 59 = .ok (.aload_n 0, 1) := by decide +kernel
theorem dX4_noteEnd_60 : decode cX4_noteEnd 60 = .ok (.dup, 1) := by decide +kernel
theorem dX4_noteEnd_61 : decode cX4_noteEnd 61 = .ok (.getfield 36, 3) := by decide +kernel
theorem dX4_noteEnd_64 : decode cX4_noteEnd 64 = .ok (.iconst 1, 1) := by decide +kernel
theorem dX4_noteEnd_65 : decode cX4_noteEnd 65 = .ok (.iadd, 1) := by decide +kernel
theorem dX4_noteEnd_66 : decode cX4_noteEnd 66 = .ok (.putfield 36, 3) := by decide +kernel
theorem dX4_noteEnd_69 : decode cX4_noteEnd 69 = .ok (.return_, 1) := by decide +kernel
theorem dX4_fewestInColumns_0 : decode cX4_fewestInColumns 0 = .ok (.iconst 0, 1) := by decide +kernel
theorem dX4_fewestInColumns_1 : decode cX4_fewestInColumns 1 = .ok (.istore_n 3, 1) := by decide +kernel
theorem dX4_fewestInColumns_2 : decode cX4_fewestInColumns 2 = .ok (.iload_n 3, 1) := by decide +kernel
theorem dX4_fewestInColumns_3 : decode cX4_fewestInColumns 3 = .ok (.iconst 4, 1) := by decide +kernel
theorem dX4_fewestInColumns_4 : decode cX4_fewestInColumns 4 = .ok (.if_icmp .gt 37, 3) := by decide +kernel
theorem dX4_fewestInColumns_7 : decode cX4_fewestInColumns 7 = .ok (.iload_n 3, 1) := by decide +kernel
theorem dX4_fewestInColumns_8 : decode cX4_fewestInColumns 8 = .ok (.aload_n 1, 1) := by decide +kernel
theorem dX4_fewestInColumns_9 : decode cX4_fewestInColumns 9 = .ok (.getfield 73, 3) := by decide +kernel
theorem dX4_fewestInColumns_12 : decode cX4_fewestInColumns 12 = .ok (.if_icmp .gt 29, 3) := by decide +kernel
theorem dX4_fewestInColumns_15 : decode cX4_fewestInColumns 15 = .ok (.aload_n 0, 1) := by decide +kernel
theorem dX4_fewestInColumns_16 : decode cX4_fewestInColumns 16 = .ok (.getfield 9, 3) := by decide +kernel
theorem dX4_fewestInColumns_19 : decode cX4_fewestInColumns 19 = .ok (.iload_n 3, 1) := by decide +kernel
theorem dX4_fewestInColumns_20 : decode cX4_fewestInColumns 20 = .ok (.laload, 1) := by decide +kernel
theorem dX4_fewestInColumns_21 : decode cX4_fewestInColumns 21 = .ok (.aload_n 2, 1) := by decide +kernel
theorem dX4_fewestInColumns_22 : decode cX4_fewestInColumns 22 = .ok (.getfield 68, 3) := by decide +kernel
theorem dX4_fewestInColumns_25 : decode cX4_fewestInColumns 25 = .ok (.lushr, 1) := by decide +kernel
theorem dX4_fewestInColumns_26 : decode cX4_fewestInColumns 26 = .ok (.lconst 1, 1) := by decide +kernel
theorem dX4_fewestInColumns_27 : decode cX4_fewestInColumns 27 = .ok (.land, 1) := by decide +kernel
theorem dX4_fewestInColumns_28 : decode cX4_fewestInColumns 28 = .ok (.lconst 0, 1) := by decide +kernel
theorem dX4_fewestInColumns_29 : decode cX4_fewestInColumns 29 = .ok (.lcmp, 1) := by decide +kernel
theorem dX4_fewestInColumns_30 : decode cX4_fewestInColumns 30 = .ok (.ifCond .eq 5, 3) := by decide +kernel
theorem dX4_fewestInColumns_33 : decode cX4_fewestInColumns 33 = .ok (.iload_n 3, 1) := by decide +kernel
theorem dX4_fewestInColumns_34 : decode cX4_fewestInColumns 34 = .ok (.ireturn, 1) := by decide +kernel
theorem dX4_fewestInColumns_35 : decode cX4_fewestInColumns 35 = .ok (.iinc 3 1, 3) := by decide +kernel
theorem dX4_fewestInColumns_38 : decode cX4_fewestInColumns 38 = .ok (.goto (-36), 3) := by decide +kernel
theorem dX4_fewestInColumns_41 : decode cX4_fewestInColumns 41 = .ok (.iconst (-1), 1) := by decide +kernel
theorem dX4_fewestInColumns_42 : decode cX4_fewestInColumns 42 = .ok (.ireturn, 1) := by decide +kernel
set_option maxRecDepth 20000 in
theorem ggX4_findBeginnings_X4_noteBeginning : GoodIn wsX4_findBeginnings wsX4_noteBeginning := goodIn_r _ [6, 7, 1, 46, 47, 48, 49, 33, 34, 35, 36, 37, 38, 39, 40] (by decide +kernel) (by decide +kernel)
set_option maxRecDepth 20000 in
theorem gX4_findBeginnings_X4_noteBeginning : GoodIn wsX4_findBeginnings (wsV RX4 96 RX4 yX4_noteBeginning wsX4_noteBeginning) := goodIn_app (goodIn_of _ (by decide +kernel)) ggX4_findBeginnings_X4_noteBeginning
set_option maxRecDepth 20000 in
theorem ggX4_findBeginnings_X4_stepKeys : GoodIn wsX4_findBeginnings wsX4_stepKeys := goodIn_r _ [11, 1, 12, 13, 14, 15, 16, 17, 18, 19, 20, 21, 22, 23, 24, 25, 26, 27, 28, 29, 30, 31, 32, 33, 34, 35, 36, 37, 38, 39, 40, 46, 47, 48, 49, 41, 42, 43, 44, 45] (by decide +kernel) (by decide +kernel)
set_option maxRecDepth 20000 in
theorem gX4_findBeginnings_X4_stepKeys : GoodIn wsX4_findBeginnings (wsV RX4 100 RX4 yX4_stepKeys wsX4_stepKeys) := goodIn_app (goodIn_of _ (by decide +kernel)) ggX4_findBeginnings_X4_stepKeys
theorem dX4_findBeginnings_0 : decode cX4_findBeginnings 0 = .ok (.aload_n 0, 1) := by decide +kernel
theorem dX4_findBeginnings_1 : decode cX4_findBeginnings 1 = .ok (.getfield 15, 3) := by decide +kernel
theorem dX4_findBeginnings_4 : decode cX4_findBeginnings 4 = .ok (.iconst 0, 1) := by decide +kernel
theorem dX4_findBeginnings_5 : decode cX4_findBeginnings 5 = .ok (.bipush 127, 2) := by decide +kernel
theorem dX4_findBeginnings_7 : decode cX4_findBeginnings 7 = .ok (.iastore, 1) := by decide +kernel
theorem dX4_findBeginnings_8 : decode cX4_findBeginnings 8 = .ok (.iconst 1, 1) := by decide +kernel
theorem dX4_findBeginnings_9 : decode cX4_findBeginnings 9 = .ok (.istore_n 3, 1) := by decide +kernel
theorem dX4_findBeginnings_10 : decode cX4_findBeginnings 10 = .ok (.iload_n 3, 1) := by decide +kernel
theorem dX4_findBeginnings_11 : decode cX4_findBeginnings 11 = .ok (.bipush 60, 2) := by decide +kernel
theorem dX4_findBeginnings_13 : decode cX4_findBeginnings 13 = .ok (.if_icmp .gt 27, 3) := by decide +kernel
theorem dX4_findBeginnings_16 : decode cX4_findBeginnings 16 = .ok (.aload_n 0, 1) := by decide +kernel
theorem dX4_findBeginnings_17 : decode cX4_findBeginnings 17 = .ok (.getfield 15, 3) := by decide +kernel
theorem dX4_findBeginnings_20 : decode cX4_findBeginnings 20 = .ok (.iload_n 3, 1) := by decide +kernel
theorem dX4_findBeginnings_21 : decode cX4_findBeginnings 21 = .ok (.aload_n 0, 1) := by decide +kernel
theorem dX4_findBeginnings_22 : decode cX4_findBeginnings 22 = .ok (.getfield 15, 3) := by decide +kernel
theorem dX4_findBeginnings_25 : decode cX4_findBeginnings 25 = .ok (.iload_n 3, 1) := by decide +kernel
theorem dX4_findBeginnings_26 : decode cX4_findBeginnings 26 = .ok (.iconst 1, 1) := by decide +kernel
theorem dX4_findBeginnings_27 : decode cX4_findBeginnings 27 = .ok (.isub, 1) := by decide +kernel
theorem dX4_findBeginnings_28 : decode cX4_findBeginnings 28 = .ok (.iaload, 1) := by decide +kernel
theorem dX4_findBeginnings_29 : decode cX4_findBeginnings 29 = .ok (.sipush 128, 3) := by decide +kernel
theorem dX4_findBeginnings_32 : decode cX4_findBeginnings 32 = .ok (.iadd, 1) := by decide +kernel
theorem dX4_findBeginnings_33 : decode cX4_findBeginnings 33 = .ok (.iastore, 1) := by decide +kernel
theorem dX4_findBeginnings_34 : decode cX4_findBeginnings 34 = .ok (.iinc 3 1, 3) := by decide +kernel
theorem dX4_findBeginnings_37 : decode cX4_findBeginnings 37 = .ok (.goto (-27), 3) := by decide +kernel
theorem dX4_findBeginnings_40 : decode cX4_findBeginnings 40 = .ok (.aload_n 0, 1) := by decide +kernel
theorem dX4_findBeginnings_41 : decode cX4_findBeginnings 41 = .ok (.aload_n 2, 1) := by decide +kernel
theorem dX4_findBeginnings_42 : decode cX4_findBeginnings 42 = .ok (.iconst 0, 1) := by decide +kernel
theorem dX4_findBeginnings_43 : decode cX4_findBeginnings 43 = .ok (.invokevirtual 96, 3) := by decide +kernel
theorem dX4_findBeginnings_46 : decode cX4_findBeginnings 46 = .ok (.iconst 1, 1) := by decide +kernel
theorem dX4_findBeginnings_47 : decode cX4_findBeginnings 47 = .ok (.istore_n 3, 1) := by decide +kernel
theorem dX4_findBeginnings_48 : decode cX4_findBeginnings 48 = .ok (.iload_n 3, 1) := by decide +kernel
theorem dX4_findBeginnings_49 : decode cX4_findBeginnings 49 = .ok (.aload_n 1, 1) := by decide +kernel
theorem dX4_findBeginnings_50 : decode cX4_findBeginnings 50 = .ok (.getfield 48, 3) := by decide +kernel
theorem dX4_findBeginnings_53 : decode cX4_findBeginnings 53 = .ok (.if_icmp .gt 28, 3) := by decide +kernel
theorem dX4_findBeginnings_56 : decode cX4_findBeginnings 56 = .ok (.iload_n 3, 1) := by decide +kernel
theorem dX4_findBeginnings_57 : decode cX4_findBeginnings 57 = .ok (.bipush 120, 2) := by decide +kernel
theorem dX4_findBeginnings_59 : decode cX4_findBeginnings 59 = .ok (.if_icmp .gt 22, 3) := by decide +kernel
theorem dX4_findBeginnings_62 : decode cX4_findBeginnings 62 = .ok (.aload_n 0, 1) := by decide +kernel
theorem dX4_findBeginnings_63 : decode cX4_findBeginnings 63 = .ok (.aload_n 1, 1) := by decide +kernel
theorem dX4_findBeginnings_64 : decode cX4_findBeginnings 64 = .ok (.aload_n 2, 1) := by decide +kernel
theorem dX4_findBeginnings_65 : decode cX4_findBeginnings 65 = .ok (.iload_n 3, 1) := by decide +kernel
theorem dX4_findBeginnings_66 : decode cX4_findBeginnings 66 = .ok (.invokevirtual 100, 3) := by decide +kernel
theorem dX4_findBeginnings_69 : decode cX4_findBeginnings 69 = .ok (.aload_n 0, 1) := by decide +kernel
theorem dX4_findBeginnings_70 : decode cX4_findBeginnings 70 = .ok (.aload_n 2, 1) := by decide +kernel
theorem dX4_findBeginnings_71 : decode cX4_findBeginnings 71 = .ok (.iload_n 3, 1) := by decide +kernel
theorem dX4_findBeginnings_72 : decode cX4_findBeginnings 72 = .ok (.invokevirtual 96, 3) := by decide +kernel
theorem dX4_findBeginnings_75 : decode cX4_findBeginnings 75 = .ok (.iinc 3 1, 3) := by decide +kernel
theorem dX4_findBeginnings_78 : decode cX4_findBeginnings 78 = .ok (.goto (-30), 3) := by decide +kernel
theorem dX4_findBeginnings_81 : decode cX4_findBeginnings 81 = .ok (.return_, 1) := by decide +kernel
set_option maxRecDepth 20000 in
theorem ggX4_stepKeys_X5_signAt : GoodIn wsX4_stepKeys wsX5_signAt := goodIn_r _ [10, 11, 35, 36, 37, 38, 39] (by decide +kernel) (by decide +kernel)
set_option maxRecDepth 20000 in
theorem gX4_stepKeys_X5_signAt : GoodIn wsX4_stepKeys (wsV RX4 80 RX5 yX5_signAt wsX5_signAt) := goodIn_app (goodIn_of _ (by decide +kernel)) ggX4_stepKeys_X5_signAt
set_option maxRecDepth 20000 in
theorem ggX4_stepKeys_X2_placesThatTake : GoodIn wsX4_stepKeys wsX2_placesThatTake := goodIn_r _ [16, 17, 31, 32, 33, 34] (by decide +kernel) (by decide +kernel)
set_option maxRecDepth 20000 in
theorem gX4_stepKeys_X2_placesThatTake : GoodIn wsX4_stepKeys (wsV RX4 84 RX2 yX2_placesThatTake wsX2_placesThatTake) := goodIn_app (goodIn_of _ (by decide +kernel)) ggX4_stepKeys_X2_placesThatTake
set_option maxRecDepth 20000 in
theorem ggX4_stepKeys_X5_mayBegin : GoodIn wsX4_stepKeys wsX5_mayBegin := goodIn_r _ [21, 22, 7, 8, 9, 10, 11, 31, 32, 33, 34, 35, 36, 37, 38, 39] (by decide +kernel) (by decide +kernel)
set_option maxRecDepth 20000 in
theorem gX4_stepKeys_X5_mayBegin : GoodIn wsX4_stepKeys (wsV RX4 88 RX5 yX5_mayBegin wsX5_mayBegin) := goodIn_app (goodIn_of _ (by decide +kernel)) ggX4_stepKeys_X5_mayBegin
theorem dX4_stepKeys_0 : decode cX4_stepKeys 0 = .ok (.aload_n 2, 1) := by decide +kernel
theorem dX4_stepKeys_1 : decode cX4_stepKeys 1 = .ok (.aload_n 1, 1) := by decide +kernel
theorem dX4_stepKeys_2 : decode cX4_stepKeys 2 = .ok (.iload_n 3, 1) := by decide +kernel
theorem dX4_stepKeys_3 : decode cX4_stepKeys 3 = .ok (.iconst 1, 1) := by decide +kernel
theorem dX4_stepKeys_4 : decode cX4_stepKeys 4 = .ok (.isub, 1) := by decide +kernel
theorem dX4_stepKeys_5 : decode cX4_stepKeys 5 = .ok (.invokevirtual 80, 3) := by decide +kernel
theorem dX4_stepKeys_8 : decode cX4_stepKeys 8 = .ok (.invokevirtual 84, 3) := by decide +kernel
theorem dX4_stepKeys_11 : decode cX4_stepKeys 11 = .ok (.lstore 4, 2) := by decide +kernel
theorem dX4_stepKeys_13 : decode cX4_stepKeys 13 = .ok (.aload_n 0, 1) := by decide +kernel
theorem dX4_stepKeys_14 : decode cX4_stepKeys 14 = .ok (.getfield 15, 3) := by decide +kernel
theorem dX4_stepKeys_17 : decode cX4_stepKeys 17 = .ok (.iconst 0, 1) := by decide +kernel
theorem dX4_stepKeys_18 : decode cX4_stepKeys 18 = .ok (.iaload, 1) := by decide +kernel
theorem dX4_stepKeys_19 : decode cX4_stepKeys 19 = .ok (.istore 6, 2) := by decide +kernel
theorem dX4_stepKeys_21 : decode cX4_stepKeys 21 = .ok (.aload_n 0, 1) := by decide +kernel
theorem dX4_stepKeys_22 : decode cX4_stepKeys 22 = .ok (.getfield 15, 3) := by decide +kernel
theorem dX4_stepKeys_25 : decode cX4_stepKeys 25 = .ok (.iconst 0, 1) := by decide +kernel
theorem dX4_stepKeys_26 : decode cX4_stepKeys 26 = .ok (.aload_n 1, 1) := by decide +kernel
theorem dX4_stepKeys_27 : decode cX4_stepKeys 27 = .ok (.aload_n 2, 1) := by decide +kernel
theorem dX4_stepKeys_28 : decode cX4_stepKeys 28 = .ok (.iload_n 3, 1) := by decide +kernel
theorem dX4_stepKeys_29 : decode cX4_stepKeys 29 = .ok (.invokevirtual 88, 3) := by decide +kernel
theorem dX4_stepKeys_32 : decode cX4_stepKeys 32 = .ok (.ifCond .eq 10, 3) := by decide +kernel
theorem dX4_stepKeys_35 : decode cX4_stepKeys 35 = .ok (.bipush 127, 2) := by decide +kernel
theorem dX4_stepKeys_37 : decode cX4_stepKeys 37 = .ok (.iload_n 3, 1) := by decide +kernel
theorem dX4_stepKeys_38 : decode cX4_stepKeys 38 = .ok (.isub, 1) := by decide +kernel
theorem dX4_stepKeys_39 : decode cX4_stepKeys 39 = .ok (.goto 13, 3) := by decide +kernel
theorem dX4_stepKeys_42 : decode cX4_stepKeys 42 = .ok (.aload_n 0, 1) := by decide +kernel
theorem dX4_stepKeys_43 : decode cX4_stepKeys 43 = .ok (.getfield 15, 3) := by decide +kernel
theorem dX4_stepKeys_46 : decode cX4_stepKeys 46 = .ok (.iconst 0, 1) := by decide +kernel
theorem dX4_stepKeys_47 : decode cX4_stepKeys 47 = .ok (.iaload, 1) := by decide +kernel
theorem dX4_stepKeys_48 : decode cX4_stepKeys 48 = .ok (.sipush 128, 3) := by decide +kernel
theorem dX4_stepKeys_51 : decode cX4_stepKeys 51 = .ok (.iadd, 1) := by decide +kernel
theorem dX4_stepKeys_52 : decode cX4_stepKeys 52 = .ok (.iastore, 1) := by decide +kernel
theorem dX4_stepKeys_53 : decode cX4_stepKeys 53 = .ok (.iconst 1, 1) := by decide +kernel
theorem dX4_stepKeys_54 : decode cX4_stepKeys 54 = .ok (.istore 7, 2) := by decide +kernel
theorem dX4_stepKeys_56 : decode cX4_stepKeys 56 = .ok (.iload 7, 2) := by decide +kernel
theorem dX4_stepKeys_58 : decode cX4_stepKeys 58 = .ok (.bipush 60, 2) := by decide +kernel
theorem dX4_stepKeys_60 : decode cX4_stepKeys 60 = .ok (.if_icmp .gt 113, 3) := by decide +kernel
theorem dX4_stepKeys_63 : decode cX4_stepKeys 63 = .ok (.iload 7, 2) := by decide +kernel
theorem dX4_stepKeys_65 : decode cX4_stepKeys 65 = .ok (.aload_n 2, 1) := by decide +kernel
theorem dX4_stepKeys_66 : decode cX4_stepKeys 66 = .ok (.getfield 68, 3) := by decide +kernel
theorem dX4_stepKeys_69 : decode cX4_stepKeys 69 = .ok (.if_icmp .gt 104, 3) := by decide +kernel
theorem dX4_stepKeys_72 : decode cX4_stepKeys 72 = .ok (.lload 4, 2) := by decide +kernel
theorem dX4_stepKeys_74 : decode cX4_stepKeys 74 = .ok (.iload 7, 2) := by decide +kernel
theorem dX4_stepKeys_76 : decode cX4_stepKeys 76 = .ok (.iconst 1, 1) := by decide +kernel
theorem dX4_stepKeys_77 : decode cX4_stepKeys 77 = .ok (.isub, 1) := by decide +kernel
theorem dX4_stepKeys_78 : decode cX4_stepKeys 78 = .ok (.lushr, 1) := by decide +kernel
theorem dX4_stepKeys_79 : decode cX4_stepKeys 79 = .ok (.lconst 1, 1) := by decide +kernel
theorem dX4_stepKeys_80 : decode cX4_stepKeys 80 = .ok (.land, 1) := by decide +kernel
theorem dX4_stepKeys_81 : decode cX4_stepKeys 81 = .ok (.lconst 0, 1) := by decide +kernel
theorem dX4_stepKeys_82 : decode cX4_stepKeys 82 = .ok (.lcmp, 1) := by decide +kernel
theorem dX4_stepKeys_83 : decode cX4_stepKeys 83 = .ok (.ifCond .eq 7, 3) := by decide +kernel
theorem dX4_stepKeys_86 : decode cX4_stepKeys 86 = .ok (.iconst 1, 1) := by decide +kernel
theorem dX4_stepKeys_87 : decode cX4_stepKeys 87 = .ok (.goto 4, 3) := by decide +kernel
theorem dX4_stepKeys_90 : decode cX4_stepKeys 90 = .ok (.iconst 0, 1) := by decide +kernel
theorem dX4_stepKeys_91 : decode cX4_stepKeys 91 = .ok (.istore 8, 2) := by decide +kernel
theorem dX4_stepKeys_93 : decode cX4_stepKeys 93 = .ok (.aload_n 0, 1) := by decide +kernel
theorem dX4_stepKeys_94 : decode cX4_stepKeys 94 = .ok (.getfield 15, 3) := by decide +kernel
theorem dX4_stepKeys_97 : decode cX4_stepKeys 97 = .ok (.iload 7, 2) := by decide +kernel
theorem dX4_stepKeys_99 : decode cX4_stepKeys 99 = .ok (.iaload, 1) := by decide +kernel
theorem dX4_stepKeys_100 : decode cX4_stepKeys 100 = .ok (.sipush 128, 3) := by decide +kernel
theorem dX4_stepKeys_103 : decode cX4_stepKeys 103 = .ok (.iadd, 1) := by decide +kernel
theorem dX4_stepKeys_104 : decode cX4_stepKeys 104 = .ok (.istore 9, 2) := by decide +kernel
theorem dX4_stepKeys_106 : decode cX4_stepKeys 106 = .ok (.aload_n 0, 1) := by decide +kernel
theorem dX4_stepKeys_107 : decode cX4_stepKeys 107 = .ok (.getfield 15, 3) := by decide +kernel
theorem dX4_stepKeys_110 : decode cX4_stepKeys 110 = .ok (.iload 7, 2) := by decide +kernel
theorem dX4_stepKeys_112 : decode cX4_stepKeys 112 = .ok (.iconst 1, 1) := by decide +kernel
theorem dX4_stepKeys_113 : decode cX4_stepKeys 113 = .ok (.isub, 1) := by decide +kernel
theorem dX4_stepKeys_114 : decode cX4_stepKeys 114 = .ok (.iaload, 1) := by decide +kernel
theorem dX4_stepKeys_115 : decode cX4_stepKeys 115 = .ok (.sipush 128, 3) := by decide +kernel
theorem dX4_stepKeys_118 : decode cX4_stepKeys 118 = .ok (.iadd, 1) := by decide +kernel
theorem dX4_stepKeys_119 : decode cX4_stepKeys 119 = .ok (.istore 10, 2) := by decide +kernel
theorem dX4_stepKeys_121 : decode cX4_stepKeys 121 = .ok (.iload 8, 2) := by decide +kernel
theorem dX4_stepKeys_123 : decode cX4_stepKeys 123 = .ok (.ifCond .eq 8, 3) := by decide +kernel
theorem dX4_stepKeys_126 : decode cX4_stepKeys 126 = .ok (.iload 6, 2) := by decide +kernel
theorem dX4_stepKeys_128 : decode cX4_stepKeys 128 = .ok (.goto 9, 3) := by decide +kernel
theorem dX4_stepKeys_131 : decode cX4_stepKeys 131 = .ok (.iload 6, 2) := by decide +kernel
theorem dX4_stepKeys_133 : decode cX4_stepKeys 133 = .ok (.sipush 128, 3) := by decide +kernel
theorem dX4_stepKeys_136 : decode cX4_stepKeys 136 = .ok (.iadd, 1) := by decide +kernel
theorem dX4_stepKeys_137 : decode cX4_stepKeys 137 = .ok (.istore 11, 2) := by decide +kernel
theorem dX4_stepKeys_139 : decode cX4_stepKeys 139 = .ok (.aload_n 0, 1) := by decide +kernel
theorem dX4_stepKeys_140 : decode cX4_stepKeys 140 = .ok (.getfield 15, 3) := by decide +kernel
theorem dX4_stepKeys_143 : decode cX4_stepKeys 143 = .ok (.iload 7, 2) := by decide +kernel
theorem dX4_stepKeys_145 : decode cX4_stepKeys 145 = .ok (.iaload, 1) := by decide +kernel
theorem dX4_stepKeys_146 : decode cX4_stepKeys 146 = .ok (.istore 6, 2) := by decide +kernel
theorem dX4_stepKeys_148 : decode cX4_stepKeys 148 = .ok (.aload_n 0, 1) := by decide +kernel
theorem dX4_stepKeys_149 : decode cX4_stepKeys 149 = .ok (.getfield 15, 3) := by decide +kernel
theorem dX4_stepKeys_152 : decode cX4_stepKeys 152 = .ok (.iload 7, 2) := by decide +kernel
theorem dX4_stepKeys_154 : decode cX4_stepKeys 154 = .ok (.iload 11, 2) := by decide +kernel
theorem dX4_stepKeys_156 : decode cX4_stepKeys 156 = .ok (.iload 9, 2) := by decide +kernel
theorem dX4_stepKeys_158 : decode cX4_stepKeys 158 = .ok (.iload 10, 2) := by decide +kernel
theorem dX4_stepKeys_160 : decode cX4_stepKeys 160 = .ok (.invokestatic 103, 3) := by decide +kernel
theorem dX4_stepKeys_163 : decode cX4_stepKeys 163 = .ok (.invokestatic 103, 3) := by decide +kernel
theorem dX4_stepKeys_166 : decode cX4_stepKeys 166 = .ok (.iastore, 1) := by decide +kernel
theorem dX4_stepKeys_167 : decode cX4_stepKeys 167 = .ok (.iinc 7 1, 3) := by decide +kernel
theorem dX4_stepKeys_170 : decode cX4_stepKeys 170 = .ok (.goto (-114), 3) := by decide +kernel
theorem dX4_stepKeys_173 : decode cX4_stepKeys 173 = .ok (.return_, 1) := by decide +kernel
theorem dX4_noteBeginning_0 : decode cX4_noteBeginning 0 = .ok (.aload_n 1, 1) := by decide +kernel
theorem dX4_noteBeginning_1 : decode cX4_noteBeginning 1 = .ok (.getfield 68, 3) := by decide +kernel
theorem dX4_noteBeginning_4 : decode cX4_noteBeginning 4 = .ok (.istore_n 3, 1) := by decide +kernel
theorem dX4_noteBeginning_5 : decode cX4_noteBeginning 5 = .ok (.iload_n 3, 1) := by decide +kernel
theorem dX4_noteBeginning_6 : decode cX4_noteBeginning 6 = .ok (.ifCond .lt 38, 3) := by decide +kernel
theorem dX4_noteBeginning_9 : decode cX4_noteBeginning 9 = .ok (.iload_n 3, 1) := by decide +kernel
theorem dX4_noteBeginning_10 : decode cX4_noteBeginning 10 = .ok (.bipush 60, 2) := by decide +kernel
theorem dX4_noteBeginning_12 : decode cX4_noteBeginning 12 = .ok (.if_icmp .gt 32, 3) := by decide +kernel
theorem dX4_noteBeginning_15 : decode cX4_noteBeginning 15 = .ok (.iload_n 2, 1) := by decide +kernel
theorem dX4_noteBeginning_16 : decode cX4_noteBeginning 16 = .ok (.ifCond .lt 28, 3) := by decide +kernel
theorem dX4_noteBeginning_19 : decode cX4_noteBeginning 19 = .ok (.iload_n 2, 1) := by decide +kernel
theorem dX4_noteBeginning_20 : decode cX4_noteBeginning 20 = .ok (.bipush 120, 2) := by decide +kernel
theorem dX4_noteBeginning_22 : decode cX4_noteBeginning 22 = .ok (.if_icmp .gt 22, 3) := by decide +kernel
theorem dX4_noteBeginning_25 : decode cX4_noteBeginning 25 = .ok (.aload_n 0, 1) := by decide +kernel
theorem dX4_noteBeginning_26 : decode cX4_noteBeginning 26 = .ok (.getfield 22, 3) := by decide +kernel
theorem dX4_noteBeginning_29 : decode cX4_noteBeginning 29 = .ok (.iload_n 2, 1) := by decide +kernel
theorem dX4_noteBeginning_30 : decode cX4_noteBeginning 30 = .ok (.bipush 127, 2) := by decide +kernel
theorem dX4_noteBeginning_32 : decode cX4_noteBeginning 32 = .ok (.aload_n 0, 1) := by decide +kernel
theorem dX4_noteBeginning_33 : decode cX4_noteBeginning 33 = .ok (.getfield 15, 3) := by decide +kernel
theorem dX4_noteBeginning_36 : decode cX4_noteBeginning 36 = .ok (.iload_n 3, 1) := by decide +kernel
theorem dX4_noteBeginning_37 : decode cX4_noteBeginning 37 = .ok (.iaload, 1) := by decide +kernel
theorem dX4_noteBeginning_38 : decode cX4_noteBeginning 38 = .ok (.sipush 128, 3) := by decide +kernel
theorem dX4_noteBeginning_41 : decode cX4_noteBeginning 41 = .ok (.irem, 1) := by decide +kernel
theorem dX4_noteBeginning_42 : decode cX4_noteBeginning 42 = .ok (.isub, 1) := by decide +kernel
theorem dX4_noteBeginning_43 : decode cX4_noteBeginning 43 = .ok (.iastore, 1) := by decide +kernel
theorem dX4_noteBeginning_44 : decode cX4_noteBeginning 44 = .ok (.return_, 1) := by decide +kernel
theorem dX4_tell_0 : decode cX4_tell 0 = .ok (.iload_n 1, 1) := by decide +kernel
theorem dX4_tell_1 : decode cX4_tell 1 = .ok (.ifCond .lt 17, 3) := by decide +kernel
theorem dX4_tell_4 : decode cX4_tell 4 = .ok (.iload_n 1, 1) := by decide +kernel
theorem dX4_tell_5 : decode cX4_tell 5 = .ok (.aload_n 0, 1) := by decide +kernel
theorem dX4_tell_6 : decode cX4_tell 6 = .ok (.getfield 36, 3) := by decide +kernel
theorem dX4_tell_9 : decode cX4_tell 9 = .ok (.if_icmp .ge 9, 3) := by decide +kernel
theorem dX4_tell_12 : decode cX4_tell 12 = .ok (.iload_n 1, 1) := by decide +kernel
theorem dX4_tell_13 : decode cX4_tell 13 = .ok (.bipush 120, 2) := by decide +kernel
theorem dX4_tell_15 : decode cX4_tell 15 = .ok (.if_icmp .le 6, 3) := by decide +kernel
theorem dX4_tell_18 : decode cX4_tell 18 = .ok (.bipush (-5), 2) := by decide +kernel
theorem dX4_tell_20 : decode cX4_tell 20 = .ok (.ireturn, 1) := by decide +kernel
theorem dX4_tell_21 : decode cX4_tell 21 = .ok (.aload_n 0, 1) := by decide +kernel
theorem dX4_tell_22 : decode cX4_tell 22 = .ok (.getfield 33, 3) := by decide +kernel
theorem dX4_tell_25 : decode cX4_tell 25 = .ok (.iload_n 1, 1) := by decide +kernel
theorem dX4_tell_26 : decode cX4_tell 26 = .ok (.iaload, 1) := by decide +kernel
theorem dX4_tell_27 : decode cX4_tell 27 = .ok (.istore_n 3, 1) := by decide +kernel
theorem dX4_tell_28 : decode cX4_tell 28 = .ok (.iload_n 2, 1) := by decide +kernel
theorem dX4_tell_29 : decode cX4_tell 29 = .ok (.ifCond .eq 13, 3) := by decide +kernel
theorem dX4_tell_32 : decode cX4_tell 32 = .ok (.iload_n 3, 1) := by decide +kernel
theorem dX4_tell_33 : decode cX4_tell 33 = .ok (.ifCond .lt 9, 3) := by decide +kernel
theorem dX4_tell_36 : decode cX4_tell 36 = .ok (.iload_n 3, 1) := by decide +kernel
theorem dX4_tell_37 : decode cX4_tell 37 = .ok (.bipush 120, 2) := by decide +kernel
theorem dX4_tell_39 : decode cX4_tell 39 = .ok (.if_icmp .le 5, 3) := by decide +kernel
theorem dX4_tell_42 : decode cX4_tell 42 = .ok (.iload_n 3, 1) := by decide +kernel
theorem dX4_tell_43 : decode cX4_tell 43 = .ok (.ireturn, 1) := by decide +kernel
theorem dX4_tell_44 : decode cX4_tell 44 = .ok (.iload_n 2, 1) := by decide +kernel
theorem dX4_tell_45 : decode cX4_tell 45 = .ok (.iconst 1, 1) := by decide +kernel
theorem dX4_tell_46 : decode cX4_tell 46 = .ok (.if_icmp .ne 12, 3) := by decide +kernel
theorem dX4_tell_49 : decode cX4_tell 49 = .ok (.aload_n 0, 1) := by decide +kernel
theorem dX4_tell_50 : decode cX4_tell 50 = .ok (.getfield 19, 3) := by decide +kernel
theorem dX4_tell_53 : decode cX4_tell 53 = .ok (.iload_n 3, 1) := by decide +kernel
theorem dX4_tell_54 : decode cX4_tell 54 = .ok (.iaload, 1) := by decide +kernel
theorem dX4_tell_55 : decode cX4_tell 55 = .ok (.goto 9, 3) := by decide +kernel
theorem dX4_tell_58 : decode cX4_tell 58 = .ok (.aload_n 0, 1) := by decide +kernel
theorem dX4_tell_59 : decode cX4_tell 59 = .ok (.getfield 22, 3) := by decide +kernel
theorem dX4_tell_62 : decode cX4_tell 62 = .ok (.iload_n 3, 1) := by decide +kernel
theorem dX4_tell_63 : decode cX4_tell 63 = .ok (.iaload, 1) := by decide +kernel
theorem dX4_tell_64 : decode cX4_tell 64 = .ok (.ireturn, 1) := by decide +kernel
set_option maxRecDepth 20000 in
theorem ggX4_fewestSlips_X4_tell : GoodIn wsX4_fewestSlips wsX4_tell := goodIn_r _ [6, 1, 7, 8, 9, 10, 11, 12, 13, 14, 15, 16, 17] (by decide +kernel) (by decide +kernel)
set_option maxRecDepth 20000 in
theorem gX4_fewestSlips_X4_tell : GoodIn wsX4_fewestSlips (wsV RX4 62 RX4 yX4_tell wsX4_tell) := goodIn_app (goodIn_of _ (by decide +kernel)) ggX4_fewestSlips_X4_tell
theorem dX4_fewestSlips_0 : decode cX4_fewestSlips 0 = .ok (.bipush (-5), 2) := by decide +kernel
theorem dX4_fewestSlips_2 : decode cX4_fewestSlips 2 = .ok (.istore_n 1, 1) := by decide +kernel
theorem dX4_fewestSlips_3 : decode cX4_fewestSlips 3 = .ok (.iconst 0, 1) := by decide +kernel
theorem dX4_fewestSlips_4 : decode cX4_fewestSlips 4 = .ok (.istore_n 2, 1) := by decide +kernel
theorem dX4_fewestSlips_5 : decode cX4_fewestSlips 5 = .ok (.iload_n 2, 1) := by decide +kernel
theorem dX4_fewestSlips_6 : decode cX4_fewestSlips 6 = .ok (.aload_n 0, 1) := by decide +kernel
theorem dX4_fewestSlips_7 : decode cX4_fewestSlips 7 = .ok (.getfield 36, 3) := by decide +kernel
theorem dX4_fewestSlips_10 : decode cX4_fewestSlips 10 = .ok (.if_icmp .ge 29, 3) := by decide +kernel
theorem dX4_fewestSlips_13 : decode cX4_fewestSlips 13 = .ok (.aload_n 0, 1) := by decide +kernel
theorem dX4_fewestSlips_14 : decode cX4_fewestSlips 14 = .ok (.iload_n 2, 1) := by decide +kernel
theorem dX4_fewestSlips_15 : decode cX4_fewestSlips 15 = .ok (.iconst 1, 1) := by decide +kernel
theorem dX4_fewestSlips_16 : decode cX4_fewestSlips 16 = .ok (.invokevirtual 62, 3) := by decide +kernel
theorem dX4_fewestSlips_19 : decode cX4_fewestSlips 19 = .ok (.istore_n 3, 1) := by decide +kernel
theorem dX4_fewestSlips_20 : decode cX4_fewestSlips 20 = .ok (.iload_n 1, 1) := by decide +kernel
theorem dX4_fewestSlips_21 : decode cX4_fewestSlips 21 = .ok (.bipush (-5), 2) := by decide +kernel
theorem dX4_fewestSlips_23 : decode cX4_fewestSlips 23 = .ok (.if_icmp .eq 8, 3) := by decide +kernel
theorem dX4_fewestSlips_26 : decode cX4_fewestSlips 26 = .ok (.iload_n 3, 1) := by decide +kernel
theorem dX4_fewestSlips_27 : decode cX4_fewestSlips 27 = .ok (.iload_n 1, 1) := by decide +kernel
theorem dX4_fewestSlips_28 : decode cX4_fewestSlips 28 = .ok (.if_icmp .ge 5, 3) := by decide +kernel
theorem dX4_fewestSlips_31 : decode cX4_fewestSlips 31 = .ok (.iload_n 3, 1) := by decide +kernel
theorem dX4_fewestSlips_32 : decode cX4_fewestSlips 32 = .ok (.istore_n 1, 1) := by decide +kernel
theorem dX4_fewestSlips_33 : decode cX4_fewestSlips 33 = .ok (.iinc 2 1, 3) := by decide +kernel
theorem dX4_fewestSlips_36 : decode cX4_fewestSlips 36 = .ok (.goto (-31), 3) := by decide +kernel
theorem dX4_fewestSlips_39 : decode cX4_fewestSlips 39 = .ok (.iload_n 1, 1) := by decide +kernel
theorem dX4_fewestSlips_40 : decode cX4_fewestSlips 40 = .ok (.ireturn, 1) := by decide +kernel
set_option maxRecDepth 20000 in
theorem ggX4_firstWithFewest_X4_fewestSlips : GoodIn wsX4_firstWithFewest wsX4_fewestSlips := goodIn_r _ [6, 1, 7, 8, 9, 5, 10, 11, 12, 13, 14, 15, 16, 17, 18, 19, 20, 21] (by decide +kernel) (by decide +kernel)
set_option maxRecDepth 20000 in
theorem gX4_firstWithFewest_X4_fewestSlips : GoodIn wsX4_firstWithFewest (wsV RX4 108 RX4 yX4_fewestSlips wsX4_fewestSlips) := goodIn_app (goodIn_of _ (by decide +kernel)) ggX4_firstWithFewest_X4_fewestSlips
set_option maxRecDepth 20000 in
theorem ggX4_firstWithFewest_X4_tell : GoodIn wsX4_firstWithFewest wsX4_tell := goodIn_r _ [10, 1, 11, 12, 13, 14, 15, 16, 17, 18, 19, 20, 21] (by decide +kernel) (by decide +kernel)
set_option maxRecDepth 20000 in
theorem gX4_firstWithFewest_X4_tell : GoodIn wsX4_firstWithFewest (wsV RX4 62 RX4 yX4_tell wsX4_tell) := goodIn_app (goodIn_of _ (by decide +kernel)) ggX4_firstWithFewest_X4_tell
theorem dX4_firstWithFewest_0 : decode cX4_firstWithFewest 0 = .ok (.aload_n 0, 1) := by decide +kernel
theorem dX4_firstWithFewest_1 : decode cX4_firstWithFewest 1 = .ok (.invokevirtual 108, 3) := by decide +kernel
theorem dX4_firstWithFewest_4 : decode cX4_firstWithFewest 4 = .ok (.istore_n 1, 1) := by decide +kernel
theorem dX4_firstWithFewest_5 : decode cX4_firstWithFewest 5 = .ok (.iconst 0, 1) := by decide +kernel
theorem dX4_firstWithFewest_6 : decode cX4_firstWithFewest 6 = .ok (.istore_n 2, 1) := by decide +kernel
theorem dX4_firstWithFewest_7 : decode cX4_firstWithFewest 7 = .ok (.iload_n 2, 1) := by decide +kernel
theorem dX4_firstWithFewest_8 : decode cX4_firstWithFewest 8 = .ok (.aload_n 0, 1) := by decide +kernel
theorem dX4_firstWithFewest_9 : decode cX4_firstWithFewest 9 = .ok (.getfield 36, 3) := by decide +kernel
theorem dX4_firstWithFewest_12 : decode cX4_firstWithFewest 12 = .ok (.if_icmp .ge 26, 3) := by decide +kernel
theorem dX4_firstWithFewest_15 : decode cX4_firstWithFewest 15 = .ok (.aload_n 0, 1) := by decide +kernel
theorem dX4_firstWithFewest_16 : decode cX4_firstWithFewest 16 = .ok (.iload_n 2, 1) := by decide +kernel
theorem dX4_firstWithFewest_17 : decode cX4_firstWithFewest 17 = .ok (.iconst 1, 1) := by decide +kernel
theorem dX4_firstWithFewest_18 : decode cX4_firstWithFewest 18 = .ok (.invokevirtual 62, 3) := by decide +kernel
theorem dX4_firstWithFewest_21 : decode cX4_firstWithFewest 21 = .ok (.iload_n 1, 1) := by decide +kernel
theorem dX4_firstWithFewest_22 : decode cX4_firstWithFewest 22 = .ok (.if_icmp .ne 10, 3) := by decide +kernel
theorem dX4_firstWithFewest_25 : decode cX4_firstWithFewest 25 = .ok (.aload_n 0, 1) := by decide +kernel
theorem dX4_firstWithFewest_26 : decode cX4_firstWithFewest 26 = .ok (.iload_n 2, 1) := by decide +kernel
theorem dX4_firstWithFewest_27 : decode cX4_firstWithFewest 27 = .ok (.iconst 0, 1) := by decide +kernel
theorem dX4_firstWithFewest_28 : decode cX4_firstWithFewest 28 = .ok (.invokevirtual 62, 3) := by decide +kernel
theorem dX4_firstWithFewest_31 : decode cX4_firstWithFewest 31 = .ok (.ireturn, 1) := by decide +kernel
theorem dX4_firstWithFewest_32 : decode cX4_firstWithFewest 32 = .ok (.iinc 2 1, 3) := by decide +kernel
theorem dX4_firstWithFewest_35 : decode cX4_firstWithFewest 35 = .ok (.goto (-28), 3) := by decide +kernel
theorem dX4_firstWithFewest_38 : decode cX4_firstWithFewest 38 = .ok (.bipush (-5), 2) := by decide +kernel
theorem dX4_firstWithFewest_40 : decode cX4_firstWithFewest 40 = .ok (.ireturn, 1) := by decide +kernel
set_option maxRecDepth 20000 in
theorem ggX4_sumOfShares_X4_tell : GoodIn wsX4_sumOfShares wsX4_tell := goodIn_r _ [6, 1, 7, 8, 9, 10, 11, 12, 13, 14, 15, 16, 17] (by decide +kernel) (by decide +kernel)
set_option maxRecDepth 20000 in
theorem gX4_sumOfShares_X4_tell : GoodIn wsX4_sumOfShares (wsV RX4 62 RX4 yX4_tell wsX4_tell) := goodIn_app (goodIn_of _ (by decide +kernel)) ggX4_sumOfShares_X4_tell
theorem dX4_sumOfShares_0 : decode cX4_sumOfShares 0 = .ok (.dconst 0, 1) := by decide +kernel
theorem dX4_sumOfShares_1 : decode cX4_sumOfShares 1 = .ok (.dstore_n 1, 1) := by decide +kernel
theorem dX4_sumOfShares_2 : decode cX4_sumOfShares 2 = .ok (.iconst 0, 1) := by decide +kernel
theorem dX4_sumOfShares_3 : decode cX4_sumOfShares 3 = .ok (.istore_n 3, 1) := by decide +kernel
theorem dX4_sumOfShares_4 : decode cX4_sumOfShares 4 = .ok (.iload_n 3, 1) := by decide +kernel
theorem dX4_sumOfShares_5 : decode cX4_sumOfShares 5 = .ok (.aload_n 0, 1) := by decide +kernel
theorem dX4_sumOfShares_6 : decode cX4_sumOfShares 6 = .ok (.getfield 36, 3) := by decide +kernel
theorem dX4_sumOfShares_9 : decode cX4_sumOfShares 9 = .ok (.if_icmp .ge 32, 3) := by decide +kernel
theorem dX4_sumOfShares_12 : decode cX4_sumOfShares 12 = .ok (.iconst 1, 1) := by decide +kernel
theorem dX4_sumOfShares_13 : decode cX4_sumOfShares 13 = .ok (.aload_n 0, 1) := by decide +kernel
theorem dX4_sumOfShares_14 : decode cX4_sumOfShares 14 = .ok (.iload_n 3, 1) := by decide +kernel
theorem dX4_sumOfShares_15 : decode cX4_sumOfShares 15 = .ok (.iconst 1, 1) := by decide +kernel
theorem dX4_sumOfShares_16 : decode cX4_sumOfShares 16 = .ok (.invokevirtual 62, 3) := by decide +kernel
theorem dX4_sumOfShares_19 : decode cX4_sumOfShares 19 = .ok (.iadd, 1) := by decide +kernel
theorem dX4_sumOfShares_20 : decode cX4_sumOfShares 20 = .ok (.istore 4, 2) := by decide +kernel
theorem dX4_sumOfShares_22 : decode cX4_sumOfShares 22 = .ok (.iload 4, 2) := by decide +kernel
theorem dX4_sumOfShares_24 : decode cX4_sumOfShares 24 = .ok (.ifCond .le 11, 3) := by decide +kernel
theorem dX4_sumOfShares_27 : decode cX4_sumOfShares 27 = .ok (.dload_n 1, 1) := by decide +kernel
theorem dX4_sumOfShares_28 : decode cX4_sumOfShares 28 = .ok (.dconst 1, 1) := by decide +kernel
theorem dX4_sumOfShares_29 : decode cX4_sumOfShares 29 = .ok (.iload 4, 2) := by decide +kernel
theorem dX4_sumOfShares_31 : decode cX4_sumOfShares 31 = .ok (.i2d, 1) := by decide +kernel
theorem dX4_sumOfShares_32 : decode cX4_sumOfShares 32 = .ok (.ddiv, 1) := by decide +kernel
theorem dX4_sumOfShares_33 : decode cX4_sumOfShares 33 = .ok (.dadd, 1) := by decide +kernel
theorem dX4_sumOfShares_34 : decode cX4_sumOfShares 34 = .ok (.dstore_n 1, 1) := by decide +kernel
theorem dX4_sumOfShares_35 : decode cX4_sumOfShares 35 = .ok (.iinc 3 1, 3) := by decide +kernel
theorem dX4_sumOfShares_38 : decode cX4_sumOfShares 38 = .ok (.goto (-34), 3) := by decide +kernel
theorem dX4_sumOfShares_41 : decode cX4_sumOfShares 41 = .ok (.dload_n 1, 1) := by decide +kernel
theorem dX4_sumOfShares_42 : decode cX4_sumOfShares 42 = .ok (.dreturn, 1) := by decide +kernel
set_option maxRecDepth 20000 in
theorem ggX4_lengthWithParts_X4_tell : GoodIn wsX4_lengthWithParts wsX4_tell := goodIn_r _ [6, 1, 7, 8, 9, 10, 11, 12, 13, 14, 15, 16, 17] (by decide +kernel) (by decide +kernel)
set_option maxRecDepth 20000 in
theorem gX4_lengthWithParts_X4_tell : GoodIn wsX4_lengthWithParts (wsV RX4 62 RX4 yX4_tell wsX4_tell) := goodIn_app (goodIn_of _ (by decide +kernel)) ggX4_lengthWithParts_X4_tell
theorem dX4_lengthWithParts_0 : decode cX4_lengthWithParts 0 = .ok (.iload_n 1, 1) := by decide +kernel
theorem dX4_lengthWithParts_1 : decode cX4_lengthWithParts 1 = .ok (.istore_n 2, 1) := by decide +kernel
theorem dX4_lengthWithParts_2 : decode cX4_lengthWithParts 2 = .ok (.iconst 0, 1) := by decide +kernel
theorem dX4_lengthWithParts_3 : decode cX4_lengthWithParts 3 = .ok (.istore_n 3, 1) := by decide +kernel
theorem dX4_lengthWithParts_4 : decode cX4_lengthWithParts 4 = .ok (.iload_n 3, 1) := by decide +kernel
theorem dX4_lengthWithParts_5 : decode cX4_lengthWithParts 5 = .ok (.aload_n 0, 1) := by decide +kernel
theorem dX4_lengthWithParts_6 : decode cX4_lengthWithParts 6 = .ok (.getfield 36, 3) := by decide +kernel
theorem dX4_lengthWithParts_9 : decode cX4_lengthWithParts 9 = .ok (.if_icmp .ge 27, 3) := by decide +kernel
theorem dX4_lengthWithParts_12 : decode cX4_lengthWithParts 12 = .ok (.iload_n 2, 1) := by decide +kernel
theorem dX4_lengthWithParts_13 : decode cX4_lengthWithParts 13 = .ok (.iconst 1, 1) := by decide +kernel
theorem dX4_lengthWithParts_14 : decode cX4_lengthWithParts 14 = .ok (.aload_n 0, 1) := by decide +kernel
theorem dX4_lengthWithParts_15 : decode cX4_lengthWithParts 15 = .ok (.iload_n 3, 1) := by decide +kernel
theorem dX4_lengthWithParts_16 : decode cX4_lengthWithParts 16 = .ok (.iconst 0, 1) := by decide +kernel
theorem dX4_lengthWithParts_17 : decode cX4_lengthWithParts 17 = .ok (.invokevirtual 62, 3) := by decide +kernel
theorem dX4_lengthWithParts_20 : decode cX4_lengthWithParts 20 = .ok (.aload_n 0, 1) := by decide +kernel
theorem dX4_lengthWithParts_21 : decode cX4_lengthWithParts 21 = .ok (.iload_n 3, 1) := by decide +kernel
theorem dX4_lengthWithParts_22 : decode cX4_lengthWithParts 22 = .ok (.iconst 2, 1) := by decide +kernel
theorem dX4_lengthWithParts_23 : decode cX4_lengthWithParts 23 = .ok (.invokevirtual 62, 3) := by decide +kernel
theorem dX4_lengthWithParts_26 : decode cX4_lengthWithParts 26 = .ok (.isub, 1) := by decide +kernel
theorem dX4_lengthWithParts_27 : decode cX4_lengthWithParts 27 = .ok (.isub, 1) := by decide +kernel
theorem dX4_lengthWithParts_28 : decode cX4_lengthWithParts 28 = .ok (.iadd, 1) := by decide +kernel
theorem dX4_lengthWithParts_29 : decode cX4_lengthWithParts 29 = .ok (.istore_n 2, 1) := by decide +kernel
theorem dX4_lengthWithParts_30 : decode cX4_lengthWithParts 30 = .ok (.iinc 3 1, 3) := by decide +kernel
theorem dX4_lengthWithParts_33 : decode cX4_lengthWithParts 33 = .ok (.goto (-29), 3) := by decide +kernel
theorem dX4_lengthWithParts_36 : decode cX4_lengthWithParts 36 = .ok (.iload_n 2, 1) := by decide +kernel
theorem dX4_lengthWithParts_37 : decode cX4_lengthWithParts 37 = .ok (.ireturn, 1) := by decide +kernel
set_option maxRecDepth 20000 in
theorem ggX4_putLetterForParts_X4_tell : GoodIn wsX4_putLetterForParts wsX4_tell := goodIn_r _ [11, 6, 12, 13, 14, 27, 28, 29, 30, 31, 32, 33, 34] (by decide +kernel) (by decide +kernel)
set_option maxRecDepth 20000 in
theorem gX4_putLetterForParts_X4_tell : GoodIn wsX4_putLetterForParts (wsV RX4 62 RX4 yX4_tell wsX4_tell) := goodIn_app (goodIn_of _ (by decide +kernel)) ggX4_putLetterForParts_X4_tell
set_option maxRecDepth 20000 in
theorem ggX4_putLetterForParts_X5_append : GoodIn wsX4_putLetterForParts wsX5_append := goodIn_r _ [19, 20, 21, 22, 23, 24, 25, 26] (by decide +kernel) (by decide +kernel)
set_option maxRecDepth 20000 in
theorem gX4_putLetterForParts_X5_append : GoodIn wsX4_putLetterForParts (wsV RX4 121 RX5 yX5_append wsX5_append) := goodIn_app (goodIn_of _ (by decide +kernel)) ggX4_putLetterForParts_X5_append
theorem dX4_putLetterForParts_0 : decode cX4_putLetterForParts 0 = .ok (.aload_n 1, 1) := by decide +kernel
theorem dX4_putLetterForParts_1 : decode cX4_putLetterForParts 1 = .ok (.getfield 112, 3) := by decide +kernel
theorem dX4_putLetterForParts_4 : decode cX4_putLetterForParts 4 = .ok (.iconst 0, 1) := by decide +kernel
theorem dX4_putLetterForParts_5 : decode cX4_putLetterForParts 5 = .ok (.aload_n 0, 1) := by decide +kernel
theorem dX4_putLetterForParts_6 : decode cX4_putLetterForParts 6 = .ok (.getfield 29, 3) := by decide +kernel
theorem dX4_putLetterForParts_9 : decode cX4_putLetterForParts 9 = .ok (.iconst 0, 1) := by decide +kernel
theorem dX4_putLetterForParts_10 : decode cX4_putLetterForParts 10 = .ok (.bipush 120, 2) := by decide +kernel
theorem dX4_putLetterForParts_12 : decode cX4_putLetterForParts 12 = .ok (.invokestatic 115, 3) := by decide +kernel
theorem dX4_putLetterForParts_15 : decode cX4_putLetterForParts 15 = .ok (.aload_n 1, 1) := by decide +kernel
theorem dX4_putLetterForParts_16 : decode cX4_putLetterForParts 16 = .ok (.getfield 48, 3) := by decide +kernel
theorem dX4_putLetterForParts_19 : decode cX4_putLetterForParts 19 = .ok (.istore_n 3, 1) := by decide +kernel
theorem dX4_putLetterForParts_20 : decode cX4_putLetterForParts 20 = .ok (.iconst 0, 1) := by decide +kernel
theorem dX4_putLetterForParts_21 : decode cX4_putLetterForParts 21 = .ok (.istore 4, 2) := by decide +kernel
theorem dX4_putLetterForParts_23 : decode cX4_putLetterForParts 23 = .ok (.aload_n 1, 1) := by decide +kernel
theorem dX4_putLetterForParts_24 : decode cX4_putLetterForParts 24 = .ok (.iconst 0, 1) := by decide +kernel
theorem dX4_putLetterForParts_25 : decode cX4_putLetterForParts 25 = .ok (.putfield 48, 3) := by decide +kernel
theorem dX4_putLetterForParts_28 : decode cX4_putLetterForParts 28 = .ok (.iconst 0, 1) := by decide +kernel
theorem dX4_putLetterForParts_29 : decode cX4_putLetterForParts 29 = .ok (.istore 5, 2) := by decide +kernel
theorem dX4_putLetterForParts_31 : decode cX4_putLetterForParts 31 = .ok (.iload 5, 2) := by decide +kernel
theorem dX4_putLetterForParts_33 : decode cX4_putLetterForParts 33 = .ok (.aload_n 0, 1) := by decide +kernel
theorem dX4_putLetterForParts_34 : decode cX4_putLetterForParts 34 = .ok (.getfield 36, 3) := by decide +kernel
theorem dX4_putLetterForParts_37 : decode cX4_putLetterForParts 37 = .ok (.if_icmp .gt 102, 3) := by decide +kernel
theorem dX4_putLetterForParts_40 : decode cX4_putLetterForParts 40 = .ok (.iload 5, 2) := by decide +kernel
theorem dX4_putLetterForParts_42 : decode cX4_putLetterForParts 42 = .ok (.aload_n 0, 1) := by decide +kernel
theorem dX4_putLetterForParts_43 : decode cX4_putLetterForParts 43 = .ok (.getfield 36, 3) := by decide +kernel
theorem dX4_putLetterForParts_46 : decode cX4_putLetterForParts 46 = .ok (.if_icmp .ge 7, 3) := by decide +kernel
theorem dX4_putLetterForParts_49 : decode cX4_putLetterForParts 49 = .ok (.iconst 1, 1) := by decide +kernel
theorem dX4_putLetterForParts_50 : decode cX4_putLetterForParts 50 = .ok (.goto 4, 3) := by decide +kernel
theorem dX4_putLetterForParts_53 : decode cX4_putLetterForParts 53 = .ok (.iconst 0, 1) := by decide +kernel
theorem dX4_putLetterForParts_54 : decode cX4_putLetterForParts 54 = .ok (.istore 6, 2) := by decide +kernel
theorem dX4_putLetterForParts_56 : decode cX4_putLetterForParts 56 = .ok (.iload 6, 2) := by decide +kernel
theorem dX4_putLetterForParts_58 : decode cX4_putLetterForParts 58 = .ok (.ifCond .eq 13, 3) := by decide +kernel
theorem dX4_putLetterForParts_61 : decode cX4_putLetterForParts 61 = .ok (.aload_n 0, 1) := by decide +kernel
theorem dX4_putLetterForParts_62 : decode cX4_putLetterForParts 62 = .ok (.iload 5, 2) := by decide +kernel
theorem dX4_putLetterForParts_64 : decode cX4_putLetterForParts 64 = .ok (.iconst 2, 1) := by decide +kernel
theorem dX4_putLetterForParts_65 : decode cX4_putLetterForParts 65 = .ok (.invokevirtual 62, 3) := by decide +kernel
theorem dX4_putLetterForParts_68 : decode cX4_putLetterForParts 68 = .ok (.goto 4, 3) := by decide +kernel
theorem dX4_putLetterForParts_71 : decode cX4_putLetterForParts 71 = .ok (.iload_n 3, 1) := by decide +kernel
theorem dX4_putLetterForParts_72 : decode cX4_putLetterForParts 72 = .ok (.istore 7, 2) := by decide +kernel
theorem dX4_putLetterForParts_74 : decode cX4_putLetterForParts 74 = .ok (.iload 4, 2) := by decide +kernel
theorem dX4_putLetterForParts_76 : decode cX4_putLetterForParts 76 = .ok (.istore 8, 2) := by decide +kernel
theorem dX4_putLetterForParts_78 : decode cX4_putLetterForParts 78 = .ok (.iload 8, 2) := by decide +kernel
theorem dX4_putLetterForParts_80 : decode cX4_putLetterForParts 80 = .ok (.ifCond .lt 34, 3) := by decide +kernel
theorem dX4_putLetterForParts_83 : decode cX4_putLetterForParts 83 = .ok (.iload 8, 2) := by decide +kernel
theorem dX4_putLetterForParts_85 : decode cX4_putLetterForParts 85 = .ok (.iload 7, 2) := by decide +kernel
theorem dX4_putLetterForParts_87 : decode cX4_putLetterForParts 87 = .ok (.if_icmp .ge 27, 3) := by decide +kernel
theorem dX4_putLetterForParts_90 : decode cX4_putLetterForParts 90 = .ok (.iload 8, 2) := by decide +kernel
theorem dX4_putLetterForParts_92 : decode cX4_putLetterForParts 92 = .ok (.bipush 120, 2) := by decide +kernel
theorem dX4_putLetterForParts_94 : decode cX4_putLetterForParts 94 = .ok (.if_icmp .ge 20, 3) := by decide +kernel
theorem dX4_putLetterForParts_97 : decode cX4_putLetterForParts 97 = .ok (.aload_n 1, 1) := by decide +kernel
theorem dX4_putLetterForParts_98 : decode cX4_putLetterForParts 98 = .ok (.aload_n 0, 1) := by decide +kernel
theorem dX4_putLetterForParts_99 : decode cX4_putLetterForParts 99 = .ok (.getfield 29, 3) := by decide +kernel
theorem dX4_putLetterForParts_102 : decode cX4_putLetterForParts 102 = .ok (.iload 8, 2) := by decide +kernel
theorem dX4_putLetterForParts_104 : decode cX4_putLetterForParts 104 = .ok (.caload, 1) := by decide +kernel
theorem dX4_putLetterForParts_105 : decode cX4_putLetterForParts 105 = .ok (.invokevirtual 121, 3) := by decide +kernel
theorem dX4_putLetterForParts_108 : decode cX4_putLetterForParts 108 = .ok (.iinc 8 1, 3) := by decide +kernel
theorem dX4_putLetterForParts_111 : decode cX4_putLetterForParts 111 = .ok (.goto (-33), 3) := by decide +kernel
theorem dX4_putLetterForParts_114 : decode cX4_putLetterForParts 114 = .ok (.iload 6, 2) := by decide +kernel
theorem dX4_putLetterForParts_116 : decode cX4_putLetterForParts 116 = .ok (.ifCond .eq 17, 3) := by decide +kernel
theorem dX4_putLetterForParts_119 : decode cX4_putLetterForParts 119 = .ok (.aload_n 1, 1) := by decide +kernel
theorem dX4_putLetterForParts_120 : decode cX4_putLetterForParts 120 = .ok (.iload_n 2, 1) := by decide +kernel
theorem dX4_putLetterForParts_121 : decode cX4_putLetterForParts 121 = .ok (.invokevirtual 121, 3) := by decide +kernel
theorem dX4_putLetterForParts_124 : decode cX4_putLetterForParts 124 = .ok (.aload_n 0, 1) := by decide +kernel
theorem dX4_putLetterForParts_125 : decode cX4_putLetterForParts 125 = .ok (.iload 5, 2) := by decide +kernel
theorem dX4_putLetterForParts_127 : decode cX4_putLetterForParts 127 = .ok (.iconst 0, 1) := by decide +kernel
theorem dX4_putLetterForParts_128 : decode cX4_putLetterForParts 128 = .ok (.invokevirtual 62, 3) := by decide +kernel
theorem dX4_putLetterForParts_131 : decode cX4_putLetterForParts 131 = .ok (.istore 4, 2) := by decide +kernel
theorem dX4_putLetterForParts_133 : decode cX4_putLetterForParts 133 = .ok (.iinc 5 1, 3) := by decide +kernel
theorem dX4_putLetterForParts_136 : decode cX4_putLetterForParts 136 = .ok (.goto (-105), 3) := by decide +kernel
theorem dX4_putLetterForParts_139 : decode cX4_putLetterForParts 139 = .ok (.return_, 1) := by decide +kernel
theorem dX4_clearMarks_0 : decode cX4_clearMarks 0 = .ok (.iconst 0, 1) := by decide +kernel
theorem dX4_clearMarks_1 : decode cX4_clearMarks 1 = .ok (.istore_n 1, 1) := by decide +kernel
theorem dX4_clearMarks_2 : decode cX4_clearMarks 2 = .ok (.iload_n 1, 1) := by decide +kernel
theorem dX4_clearMarks_3 : decode cX4_clearMarks 3 = .ok (.bipush 120, 2) := by decide +kernel
theorem dX4_clearMarks_5 : decode cX4_clearMarks 5 = .ok (.if_icmp .gt 16, 3) := by decide +kernel
theorem dX4_clearMarks_8 : decode cX4_clearMarks 8 = .ok (.aload_n 0, 1) := by decide +kernel
theorem dX4_clearMarks_9 : decode cX4_clearMarks 9 = .ok (.getfield 25, 3) := by decide +kernel
theorem dX4_clearMarks_12 : decode cX4_clearMarks 12 = .ok (.iload_n 1, 1) := by decide +kernel
theorem dX4_clearMarks_13 : decode cX4_clearMarks 13 = .ok (.iconst 0, 1) := by decide +kernel
theorem dX4_clearMarks_14 : decode cX4_clearMarks 14 = .ok (.bastore, 1) := by decide +kernel
theorem dX4_clearMarks_15 : decode cX4_clearMarks 15 = .ok (.iinc 1 1, 3) := by decide +kernel
theorem dX4_clearMarks_18 : decode cX4_clearMarks 18 = .ok (.goto (-16), 3) := by decide +kernel
theorem dX4_clearMarks_21 : decode cX4_clearMarks 21 = .ok (.return_, 1) := by decide +kernel
set_option maxRecDepth 20000 in
theorem ggX4_markEnds_X4_tell : GoodIn wsX4_markEnds wsX4_tell := goodIn_r _ [7, 1, 8, 9, 10, 11, 12, 13, 14, 15, 16, 17, 18] (by decide +kernel) (by decide +kernel)
set_option maxRecDepth 20000 in
theorem gX4_markEnds_X4_tell : GoodIn wsX4_markEnds (wsV RX4 62 RX4 yX4_tell wsX4_tell) := goodIn_app (goodIn_of _ (by decide +kernel)) ggX4_markEnds_X4_tell
theorem dX4_markEnds_0 : decode cX4_markEnds 0 = .ok (.iconst 0, 1) := by decide +kernel
theorem dX4_markEnds_1 : decode cX4_markEnds 1 = .ok (.istore_n 1, 1) := by decide +kernel
theorem dX4_markEnds_2 : decode cX4_markEnds 2 = .ok (.iload_n 1, 1) := by decide +kernel
theorem dX4_markEnds_3 : decode cX4_markEnds 3 = .ok (.aload_n 0, 1) := by decide +kernel
theorem dX4_markEnds_4 : decode cX4_markEnds 4 = .ok (.getfield 36, 3) := by decide +kernel
theorem dX4_markEnds_7 : decode cX4_markEnds 7 = .ok (.if_icmp .ge 33, 3) := by decide +kernel
theorem dX4_markEnds_10 : decode cX4_markEnds 10 = .ok (.aload_n 0, 1) := by decide +kernel
theorem dX4_markEnds_11 : decode cX4_markEnds 11 = .ok (.iload_n 1, 1) := by decide +kernel
theorem dX4_markEnds_12 : decode cX4_markEnds 12 = .ok (.iconst 0, 1) := by decide +kernel
theorem dX4_markEnds_13 : decode cX4_markEnds 13 = .ok (.invokevirtual 62, 3) := by decide +kernel
theorem dX4_markEnds_16 : decode cX4_markEnds 16 = .ok (.istore_n 2, 1) := by decide +kernel
theorem dX4_markEnds_17 : decode cX4_markEnds 17 = .ok (.iload_n 2, 1) := by decide +kernel
theorem dX4_markEnds_18 : decode cX4_markEnds 18 = .ok (.ifCond .lt 16, 3) := by decide +kernel
theorem dX4_markEnds_21 : decode cX4_markEnds 21 = .ok (.iload_n 2, 1) := by decide +kernel
theorem dX4_markEnds_22 : decode cX4_markEnds 22 = .ok (.bipush 120, 2) := by decide +kernel
theorem dX4_markEnds_24 : decode cX4_markEnds 24 = .ok (.if_icmp .gt 10, 3) := by decide +kernel
theorem dX4_markEnds_27 : decode cX4_markEnds 27 = .ok (.aload_n 0, 1) := by decide +kernel
theorem dX4_markEnds_28 : decode cX4_markEnds 28 = .ok (.getfield 25, 3) := by decide +kernel
theorem dX4_markEnds_31 : decode cX4_markEnds 31 = .ok (.iload_n 2, 1) := by decide +kernel
theorem dX4_markEnds_32 : decode cX4_markEnds 32 = .ok (.iconst 1, 1) := by decide +kernel
theorem dX4_markEnds_33 : decode cX4_markEnds 33 = .ok (.bastore, 1) := by decide +kernel
theorem dX4_markEnds_34 : decode cX4_markEnds 34 = .ok (.iinc 1 1, 3) := by decide +kernel
theorem dX4_markEnds_37 : decode cX4_markEnds 37 = .ok (.goto (-35), 3) := by decide +kernel
theorem dX4_markEnds_40 : decode cX4_markEnds 40 = .ok (.return_, 1) := by decide +kernel
theorem dX4_countMarks_0 : decode cX4_countMarks 0 = .ok (.iconst 0, 1) := by decide +kernel
theorem dX4_countMarks_1 : decode cX4_countMarks 1 = .ok (.istore_n 1, 1) := by decide +kernel
theorem dX4_countMarks_2 : decode cX4_countMarks 2 = .ok (.iconst 0, 1) := by decide +kernel
theorem dX4_countMarks_3 : decode cX4_countMarks 3 = .ok (.istore_n 2, 1) := by decide +kernel
theorem dX4_countMarks_4 : decode cX4_countMarks 4 = .ok (.iload_n 2, 1) := by decide +kernel
theorem dX4_countMarks_5 : decode cX4_countMarks 5 = .ok (.bipush 120, 2) := by decide +kernel
theorem dX4_countMarks_7 : decode cX4_countMarks 7 = .ok (.if_icmp .gt 21, 3) := by decide +kernel
theorem dX4_countMarks_10 : decode cX4_countMarks 10 = .ok (.aload_n 0, 1) := by decide +kernel
theorem dX4_countMarks_11 : decode cX4_countMarks 11 = .ok (.getfield 25, 3) := by decide +kernel
theorem dX4_countMarks_14 : decode cX4_countMarks 14 = .ok (.iload_n 2, 1) := by decide +kernel
theorem dX4_countMarks_15 : decode cX4_countMarks 15 = .ok (.baload, 1) := by decide +kernel
theorem dX4_countMarks_16 : decode cX4_countMarks 16 = .ok (.ifCond .eq 6, 3) := by decide +kernel
theorem dX4_countMarks_19 : decode cX4_countMarks 19 = .ok (.iinc 1 1, 3) := by decide +kernel
theorem dX4_countMarks_22 : decode cX4_countMarks 22 = .ok (.iinc 2 1, 3) := by decide +kernel
theorem dX4_countMarks_25 : decode cX4_countMarks 25 = .ok (.goto (-21), 3) := by decide +kernel
theorem dX4_countMarks_28 : decode cX4_countMarks 28 = .ok (.iload_n 1, 1) := by decide +kernel
theorem dX4_countMarks_29 : decode cX4_countMarks 29 = .ok (.ireturn, 1) := by decide +kernel
theorem dX5_init_0 : decode cX5_init 0 = .ok (.aload_n 0, 1) := by decide +kernel
theorem dX5_init_1 : decode cX5_init 1 = .ok (.invokespecial 3, 3) := by decide +kernel
theorem dX5_init_4 : decode cX5_init 4 = .ok (.aload_n 0, 1) := by decide +kernel
theorem dX5_init_5 : decode cX5_init 5 = .ok (.bipush 120, 2) := by decide +kernel
theorem dX5_init_7 : decode cX5_init 7 = .ok (.newarray .char, 2) := by decide +kernel
theorem dX5_init_9 : decode cX5_init 9 = .ok (.putfield 9, 3) := by decide +kernel
theorem dX5_init_12 : decode cX5_init 12 = .ok (.aload_n 0, 1) := by decide +kernel
theorem dX5_init_13 : decode cX5_init 13 = .ok (.iconst 0, 1) := by decide +kernel
theorem dX5_init_14 : decode cX5_init 14 = .ok (.putfield 15, 3) := by decide +kernel
theorem dX5_init_17 : decode cX5_init 17 = .ok (.aload_n 0, 1) := by decide +kernel
theorem dX5_init_18 : decode cX5_init 18 = .ok (.bipush 6, 2) := by decide +kernel
theorem dX5_init_20 : decode cX5_init 20 = .ok (.anewarray 19, 3) := by decide +kernel
theorem dX5_init_23 : decode cX5_init 23 = .ok (.putfield 21, 3) := by decide +kernel
theorem dX5_init_26 : decode cX5_init 26 = .ok (.aload_n 0, 1) := by decide +kernel
theorem dX5_init_27 : decode cX5_init 27 = .ok (.iconst 0, 1) := by decide +kernel
theorem dX5_init_28 : decode cX5_init 28 = .ok (.putfield 25, 3) := by decide +kernel
theorem dX5_init_31 : decode cX5_init 31 = .ok (.aload_n 0, 1) := by decide +kernel
theorem dX5_init_32 : decode cX5_init 32 = .ok (.iconst 1, 1) := by decide +kernel
theorem dX5_init_33 : decode cX5_init 33 = .ok (.putfield 28, 3) := by decide +kernel
theorem dX5_init_36 : decode cX5_init 36 = .ok (.return_, 1) := by decide +kernel
theorem dX5_copyFrom_0 : decode cX5_copyFrom 0 = .ok (.aload_n 1, 1) := by decide +kernel
theorem dX5_copyFrom_1 : decode cX5_copyFrom 1 = .ok (.getfield 9, 3) := by decide +kernel
theorem dX5_copyFrom_4 : decode cX5_copyFrom 4 = .ok (.iconst 0, 1) := by decide +kernel
theorem dX5_copyFrom_5 : decode cX5_copyFrom 5 = .ok (.aload_n 0, 1) := by decide +kernel
theorem dX5_copyFrom_6 : decode cX5_copyFrom 6 = .ok (.getfield 9, 3) := by decide +kernel
theorem dX5_copyFrom_9 : decode cX5_copyFrom 9 = .ok (.iconst 0, 1) := by decide +kernel
theorem dX5_copyFrom_10 : decode cX5_copyFrom 10 = .ok (.bipush 120, 2) := by decide +kernel
theorem dX5_copyFrom_12 : decode cX5_copyFrom 12 = .ok (.invokestatic 31, 3) := by decide +kernel
theorem dX5_copyFrom_15 : decode cX5_copyFrom 15 = .ok (.aload_n 0, 1) := by decide +kernel
theorem dX5_copyFrom_16 : decode cX5_copyFrom 16 = .ok (.aload_n 1, 1) := by decide +kernel
theorem dX5_copyFrom_17 : decode cX5_copyFrom 17 = .ok (.getfield 15, 3) := by decide +kernel
theorem dX5_copyFrom_20 : decode cX5_copyFrom 20 = .ok (.putfield 15, 3) := by decide +kernel
theorem dX5_copyFrom_23 : decode cX5_copyFrom 23 = .ok (.iconst 0, 1) := by decide +kernel
theorem dX5_copyFrom_24 : decode cX5_copyFrom 24 = .ok (.istore_n 2, 1) := by decide +kernel
theorem dX5_copyFrom_25 : decode cX5_copyFrom 25 = .ok (.iload_n 2, 1) := by decide +kernel
theorem dX5_copyFrom_26 : decode cX5_copyFrom 26 = .ok (.bipush 6, 2) := by decide +kernel
theorem dX5_copyFrom_28 : decode cX5_copyFrom 28 = .ok (.if_icmp .ge 21, 3) := by decide +kernel
theorem dX5_copyFrom_31 : decode cX5_copyFrom 31 = .ok (.aload_n 0, 1) := by decide +kernel
theorem dX5_copyFrom_32 : decode cX5_copyFrom 32 = .ok (.getfield 21, 3) := by decide +kernel
theorem dX5_copyFrom_35 : decode cX5_copyFrom 35 = .ok (.iload_n 2, 1) := by decide +kernel
theorem dX5_copyFrom_36 : decode cX5_copyFrom 36 = .ok (.aload_n 1, 1) := by decide +kernel
theorem dX5_copyFrom_37 : decode cX5_copyFrom 37 = .ok (.getfield 21, 3) := by decide +kernel
theorem dX5_copyFrom_40 : decode cX5_copyFrom 40 = .ok (.iload_n 2, 1) := by decide +kernel
theorem dX5_copyFrom_41 : decode cX5_copyFrom 41 = .ok (.aaload, 1) := by decide +kernel
theorem dX5_copyFrom_42 : decode cX5_copyFrom 42 = .ok (.aastore, 1) := by decide +kernel
theorem dX5_copyFrom_43 : decode cX5_copyFrom 43 = .ok (.iinc 2 1, 3) := by decide +kernel
theorem dX5_copyFrom_46 : decode cX5_copyFrom 46 = .ok (.goto (-21), 3) := by decide +kernel
theorem dX5_copyFrom_49 : decode cX5_copyFrom 49 = .ok (.aload_n 0, 1) := by decide +kernel
theorem dX5_copyFrom_50 : decode cX5_copyFrom 50 = .ok (.aload_n 1, 1) := by decide +kernel
theorem dX5_copyFrom_51 : decode cX5_copyFrom 51 = .ok (.getfield 25, 3) := by decide +kernel
theorem dX5_copyFrom_54 : decode cX5_copyFrom 54 = .ok (.putfield 25, 3) := by decide +kernel
theorem dX5_copyFrom_57 : decode cX5_copyFrom 57 = .ok (.aload_n 0, 1) := by decide +kernel
theorem dX5_copyFrom_58 : decode cX5_copyFrom 58 = .ok (.aload_n 1, 1) := by decide +kernel
theorem dX5_copyFrom_59 : decode cX5_copyFrom 59 = .ok (.getfield 28, 3) := by decide +kernel
theorem dX5_copyFrom_62 : decode cX5_copyFrom 62 = .ok (.putfield 28, 3) := by decide +kernel
theorem dX5_copyFrom_65 : decode cX5_copyFrom 65 = .ok (.return_, 1) := by decide +kernel
theorem dX5_signAt_0 : decode cX5_signAt 0 = .ok (.iload_n 1, 1) := by decide +kernel
theorem dX5_signAt_1 : decode cX5_signAt 1 = .ok (.ifCond .lt 18, 3) := by decide +kernel
theorem dX5_signAt_4 : decode cX5_signAt 4 = .ok (.iload_n 1, 1) := by decide +kernel
theorem dX5_signAt_5 : decode cX5_signAt 5 = .ok (.bipush 120, 2) := by decide +kernel
theorem dX5_signAt_7 : decode cX5_signAt 7 = .ok (.if_icmp .ge 12, 3) := by decide +kernel
theorem dX5_signAt_10 : decode cX5_signAt 10 = .ok (.aload_n 0, 1) := by decide +kernel
theorem dX5_signAt_11 : decode cX5_signAt 11 = .ok (.getfield 9, 3) := by decide +kernel
theorem dX5_signAt_14 : decode cX5_signAt 14 = .ok (.iload_n 1, 1) := by decide +kernel
theorem dX5_signAt_15 : decode cX5_signAt 15 = .ok (.caload, 1) := by decide +kernel
theorem dX5_signAt_16 : decode cX5_signAt 16 = .ok (.goto 5, 3) := by decide +kernel
theorem dX5_signAt_19 : decode cX5_signAt 19 = .ok (.bipush 32, 2) := by decide +kernel
theorem dX5_signAt_21 : decode cX5_signAt 21 = .ok (.ireturn, 1) := by decide +kernel
theorem dX5_append_0 : decode cX5_append 0 = .ok (.aload_n 0, 1) := by decide +kernel
theorem dX5_append_1 : decode cX5_append 1 = .ok (.getfield 15, 3) := by decide +kernel
theorem dX5_append_4 : decode cX5_append 4 = .ok (.ifCond .lt 32, 3) := by decide +kernel
theorem dX5_append_7 : decode cX5_append 7 = .ok (.aload_n 0, 1) := by decide +kernel
theorem dX5_append_8 : decode cX5_append 8 = .ok (.getfield 15, 3) := by decide +kernel
theorem dX5_append_11 : decode cX5_append 11 = .ok (.bipush 120, 2) := by decide +kernel
theorem dX5_append_13 : decode cX5_append 13 = .ok (.if_icmp .ge 23, 3) := by decide +kernel
theorem dX5_append_16 : decode cX5_append 16 = .ok (.aload_n 0, 1) := by decide +kernel
theorem dX5_append_17 : decode cX5_append 17 = .ok (.getfield 9, 3) := by decide +kernel
theorem dX5_append_20 : decode cX5_append 20 = .ok (.aload_n 0, 1) := by decide +kernel
theorem dX5_append_21 : decode cX5_append 21 = .ok (.getfield 15, 3) := by decide +kernel
theorem dX5_append_24 : decode cX5_append 24 = .ok (.iload_n 1, 1) := by decide +kernel
theorem dX5_append_25 : decode cX5_append 25 = .ok (.castore, 1) := by decide +kernel
theorem dX5_append_26 : decode cX5_append 26 = .ok (.aload_n 0, 1) := by decide +kernel
theorem dX5_append_27 : decode cX5_append 27 = .ok (.dup, 1) := by decide +kernel
theorem dX5_append_28 : decode cX5_append 28 = .ok (.getfield 15, 3) := by decide +kernel
theorem dX5_append_31 : decode cX5_append 31 = .ok (.iconst 1, 1) := by decide +kernel
theorem dX5_append_32 : decode cX5_append 32 = .ok (.iadd, 1) := by decide +kernel
theorem dX5_append_33 : decode cX5_append 33 = .ok (.putfield 15, 3) := by decide +kernel
theorem dX5_append_36 : decode cX5_append 36 = .ok (.return_, 1) := by decide +kernel
set_option maxRecDepth 20000 in
theorem ggX5_countBlanks_X5_signAt : GoodIn wsX5_countBlanks wsX5_signAt := goodIn_r _ [6, 7, 8, 9, 10, 11, 12] (by decide +kernel) (by decide +kernel)
set_option maxRecDepth 20000 in
theorem gX5_countBlanks_X5_signAt : GoodIn wsX5_countBlanks (wsV RX5 37 RX5 yX5_signAt wsX5_signAt) := goodIn_app (goodIn_of _ (by decide +kernel)) ggX5_countBlanks_X5_signAt
theorem dX5_countBlanks_0 : decode cX5_countBlanks 0 = .ok (.iconst 0, 1) := by decide +kernel
theorem dX5_countBlanks_1 : decode cX5_countBlanks 1 = .ok (.istore_n 1, 1) := by decide +kernel
theorem dX5_countBlanks_2 : decode cX5_countBlanks 2 = .ok (.iconst 0, 1) := by decide +kernel
theorem dX5_countBlanks_3 : decode cX5_countBlanks 3 = .ok (.istore_n 2, 1) := by decide +kernel
theorem dX5_countBlanks_4 : decode cX5_countBlanks 4 = .ok (.iload_n 2, 1) := by decide +kernel
theorem dX5_countBlanks_5 : decode cX5_countBlanks 5 = .ok (.aload_n 0, 1) := by decide +kernel
theorem dX5_countBlanks_6 : decode cX5_countBlanks 6 = .ok (.getfield 15, 3) := by decide +kernel
theorem dX5_countBlanks_9 : decode cX5_countBlanks 9 = .ok (.if_icmp .ge 22, 3) := by decide +kernel
theorem dX5_countBlanks_12 : decode cX5_countBlanks 12 = .ok (.aload_n 0, 1) := by decide +kernel
theorem dX5_countBlanks_13 : decode cX5_countBlanks 13 = .ok (.iload_n 2, 1) := by decide +kernel
theorem dX5_countBlanks_14 : decode cX5_countBlanks 14 = .ok (.invokevirtual 37, 3) := by decide +kernel
theorem dX5_countBlanks_17 : decode cX5_countBlanks 17 = .ok (.bipush 32, 2) := by decide +kernel
theorem dX5_countBlanks_19 : decode cX5_countBlanks 19 = .ok (.if_icmp .ne 6, 3) := by decide +kernel
theorem dX5_countBlanks_22 : decode cX5_countBlanks 22 = .ok (.iinc 1 1, 3) := by decide +kernel
theorem dX5_countBlanks_25 : decode cX5_countBlanks 25 = .ok (.iinc 2 1, 3) := by decide +kernel
theorem dX5_countBlanks_28 : decode cX5_countBlanks 28 = .ok (.goto (-24), 3) := by decide +kernel
theorem dX5_countBlanks_31 : decode cX5_countBlanks 31 = .ok (.iload_n 1, 1) := by decide +kernel
theorem dX5_countBlanks_32 : decode cX5_countBlanks 32 = .ok (.ireturn, 1) := by decide +kernel
theorem dX5_patternOrNull_0 : decode cX5_patternOrNull 0 = .ok (.iload_n 1, 1) := by decide +kernel
theorem dX5_patternOrNull_1 : decode cX5_patternOrNull 1 = .ok (.ifCond .lt 17, 3) := by decide +kernel
theorem dX5_patternOrNull_4 : decode cX5_patternOrNull 4 = .ok (.iload_n 1, 1) := by decide +kernel
theorem dX5_patternOrNull_5 : decode cX5_patternOrNull 5 = .ok (.aload_n 0, 1) := by decide +kernel
theorem dX5_patternOrNull_6 : decode cX5_patternOrNull 6 = .ok (.getfield 25, 3) := by decide +kernel
theorem dX5_patternOrNull_9 : decode cX5_patternOrNull 9 = .ok (.if_icmp .ge 9, 3) := by decide +kernel
theorem dX5_patternOrNull_12 : decode cX5_patternOrNull 12 = .ok (.iload_n 1, 1) := by decide +kernel
theorem dX5_patternOrNull_13 : decode cX5_patternOrNull 13 = .ok (.bipush 6, 2) := by decide +kernel
theorem dX5_patternOrNull_15 : decode cX5_patternOrNull 15 = .ok (.if_icmp .lt 5, 3) := by decide +kernel
theorem dX5_patternOrNull_18 : decode cX5_patternOrNull 18 = .ok (.aconst_null, 1) := by decide +kernel
theorem dX5_patternOrNull_19 : decode cX5_patternOrNull 19 = .ok (.areturn, 1) := by decide +kernel
theorem dX5_patternOrNull_20 : decode cX5_patternOrNull 20 = .ok (.aload_n 0, 1) := by decide +kernel
theorem dX5_patternOrNull_21 : decode cX5_patternOrNull 21 = .ok (.getfield 21, 3) := by decide +kernel
theorem dX5_patternOrNull_24 : decode cX5_patternOrNull 24 = .ok (.iload_n 1, 1) := by decide +kernel
theorem dX5_patternOrNull_25 : decode cX5_patternOrNull 25 = .ok (.aaload, 1) := by decide +kernel
theorem dX5_patternOrNull_26 : decode cX5_patternOrNull 26 = .ok (.areturn, 1) := by decide +kernel
theorem dX5_addLast_0 : decode cX5_addLast 0 = .ok (.aload_n 0, 1) := by decide +kernel
theorem dX5_addLast_1 : decode cX5_addLast 1 = .ok (.getfield 25, 3) := by decide +kernel
theorem dX5_addLast_4 : decode cX5_addLast 4 = .ok (.ifCond .lt 32, 3) := by decide +kernel
theorem dX5_addLast_7 : decode cX5_addLast 7 = .ok (.aload_n 0, 1) := by decide +kernel
theorem dX5_addLast_8 : decode cX5_addLast 8 = .ok (.getfield 25, 3) := by decide +kernel
theorem dX5_addLast_11 : decode cX5_addLast 11 = .ok (.bipush 6, 2) := by decide +kernel
theorem dX5_addLast_13 : decode cX5_addLast 13 = .ok (.if_icmp .ge 23, 3) := by decide +kernel
theorem dX5_addLast_16 : decode cX5_addLast 16 = .ok (.aload_n 0, 1) := by decide +kernel
theorem dX5_addLast_17 : decode cX5_addLast 17 = .ok (.getfield 21, 3) := by decide +kernel
theorem dX5_addLast_20 : decode cX5_addLast 20 = .ok (.aload_n 0, 1) := by decide +kernel
theorem dX5_addLast_21 : decode cX5_addLast 21 = .ok (.getfield 25, 3) := by decide +kernel
theorem dX5_addLast_24 : decode cX5_addLast 24 = .ok (.aload_n 1, 1) := by decide +kernel
theorem dX5_addLast_25 : decode cX5_addLast 25 = .ok (.aastore, 1) := by decide +kernel
theorem dX5_addLast_26 : decode cX5_addLast 26 = .ok (.aload_n 0, 1) := by decide +kernel
theorem dX5_addLast_27 : decode cX5_addLast 27 = .ok (.dup, 1) := by decide +kernel
theorem dX5_addLast_28 : decode cX5_addLast 28 = .ok (.getfield 25, 3) := by decide +kernel
theorem dX5_addLast_31 : decode cX5_addLast 31 = .ok (.iconst 1, 1) := by decide +kernel
theorem dX5_addLast_32 : decode cX5_addLast 32 = .ok (.iadd, 1) := by decide +kernel
theorem dX5_addLast_33 : decode cX5_addLast 33 = .ok (.putfield 25, 3) := by decide +kernel
theorem dX5_addLast_36 : decode cX5_addLast 36 = .ok (.return_, 1) := by decide +kernel
theorem dX5_removeNumber_0 : decode cX5_removeNumber 0 = .ok (.iconst 0, 1) := by decide +kernel
theorem dX5_removeNumber_1 : decode cX5_removeNumber 1 = .ok (.istore_n 2, 1) := by decide +kernel
theorem dX5_removeNumber_2 : decode cX5_removeNumber 2 = .ok (.iload_n 2, 1) := by decide +kernel
theorem dX5_removeNumber_3 : decode cX5_removeNumber 3 = .ok (.iconst 1, 1) := by decide +kernel
theorem dX5_removeNumber_4 : decode cX5_removeNumber 4 = .ok (.iadd, 1) := by decide +kernel
theorem dX5_removeNumber_5 : decode cX5_removeNumber 5 = .ok (.bipush 6, 2) := by decide +kernel
theorem dX5_removeNumber_7 : decode cX5_removeNumber 7 = .ok (.if_icmp .ge 28, 3) := by decide +kernel
theorem dX5_removeNumber_10 : decode cX5_removeNumber 10 = .ok (.iload_n 2, 1) := by decide +kernel
theorem dX5_removeNumber_11 : decode cX5_removeNumber 11 = .ok (.iload_n 1, 1) := by decide +kernel
theorem dX5_removeNumber_12 : decode cX5_removeNumber 12 = .ok (.if_icmp .lt 17, 3) := by decide +kernel
theorem dX5_removeNumber_15 : decode cX5_removeNumber 15 = .ok (.aload_n 0, 1) := by decide +kernel
theorem dX5_removeNumber_16 : decode cX5_removeNumber 16 = .ok (.getfield 21, 3) := by decide +kernel
theorem dX5_removeNumber_19 : decode cX5_removeNumber 19 = .ok (.iload_n 2, 1) := by decide +kernel
theorem dX5_removeNumber_20 : decode cX5_removeNumber 20 = .ok (.aload_n 0, 1) := by decide +kernel
theorem dX5_removeNumber_21 : decode cX5_removeNumber 21 = .ok (.getfield 21, 3) := by decide +kernel
theorem dX5_removeNumber_24 : decode cX5_removeNumber 24 = .ok (.iload_n 2, 1) := by decide +kernel
theorem dX5_removeNumber_25 : decode cX5_removeNumber 25 = .ok (.iconst 1, 1) := by decide +kernel
theorem dX5_removeNumber_26 : decode cX5_removeNumber 26 = .ok (.iadd, 1) := by decide +kernel
theorem dX5_removeNumber_27 : decode cX5_removeNumber 27 = .ok (.aaload, 1) := by decide +kernel
theorem dX5_removeNumber_28 : decode cX5_removeNumber 28 = .ok (.aastore, 1) := by decide +kernel
theorem dX5_removeNumber_29 : decode cX5_removeNumber 29 = .ok (.iinc 2 1, 3) := by decide +kernel
theorem dX5_removeNumber_32 : decode cX5_removeNumber 32 = .ok (.goto (-30), 3) := by decide +kernel
theorem dX5_removeNumber_35 : decode cX5_removeNumber 35 = .ok (.aload_n 0, 1) := by decide +kernel
theorem dX5_removeNumber_36 : decode cX5_removeNumber 36 = .ok (.getfield 21, 3) := by decide +kernel
theorem dX5_removeNumber_39 : decode cX5_removeNumber 39 = .ok (.iconst 5, 1) := by decide +kernel
theorem dX5_removeNumber_40 : decode cX5_removeNumber 40 = .ok (.aconst_null, 1) := by decide +kernel
theorem dX5_removeNumber_41 : decode cX5_removeNumber 41 = .ok (.aastore, 1) := by decide +kernel
theorem dX5_removeNumber_42 : decode cX5_removeNumber 42 = .ok (.aload_n 0, 1) := by decide +kernel
theorem dX5_removeNumber_43 : decode cX5_removeNumber 43 = .ok (.dup, 1) := by decide +kernel
theorem dX5_removeNumber_44 : decode cX5_removeNumber 44 = .ok (.getfield 25, 3) := by decide +kernel
theorem dX5_removeNumber_47 : decode cX5_removeNumber 47 = .ok (.iconst 1, 1) := by decide +kernel
theorem dX5_removeNumber_48 : decode cX5_removeNumber 48 = .ok (.isub, 1) := by decide +kernel
theorem dX5_removeNumber_49 : decode cX5_removeNumber 49 = .ok (.putfield 25, 3) := by decide +kernel
theorem dX5_removeNumber_52 : decode cX5_removeNumber 52 = .ok (.return_, 1) := by decide +kernel
set_option maxRecDepth 20000 in
theorem ggX5_mayBegin_X5_signAt : GoodIn wsX5_mayBegin wsX5_signAt := goodIn_r _ [5, 6, 11, 12, 13, 14, 15] (by decide +kernel) (by decide +kernel)
set_option maxRecDepth 20000 in
theorem gX5_mayBegin_X5_signAt : GoodIn wsX5_mayBegin (wsV RX5 37 RX5 yX5_signAt wsX5_signAt) := goodIn_app (goodIn_of _ (by decide +kernel)) ggX5_mayBegin_X5_signAt
theorem dX5_mayBegin_0 : decode cX5_mayBegin 0 = .ok (.aload_n 1, 1) := by decide +kernel
theorem dX5_mayBegin_1 : decode cX5_mayBegin 1 = .ok (.getfield 41, 3) := by decide +kernel
theorem dX5_mayBegin_4 : decode cX5_mayBegin 4 = .ok (.ifCond .eq 19, 3) := by decide +kernel
theorem dX5_mayBegin_7 : decode cX5_mayBegin 7 = .ok (.iload_n 2, 1) := by decide +kernel
theorem dX5_mayBegin_8 : decode cX5_mayBegin 8 = .ok (.ifCond .eq 15, 3) := by decide +kernel
theorem dX5_mayBegin_11 : decode cX5_mayBegin 11 = .ok (.aload_n 0, 1) := by decide +kernel
theorem dX5_mayBegin_12 : decode cX5_mayBegin 12 = .ok (.iload_n 2, 1) := by decide +kernel
theorem dX5_mayBegin_13 : decode cX5_mayBegin 13 = .ok (.iconst 1, 1) := by decide +kernel
theorem dX5_mayBegin_14 : decode cX5_mayBegin 14 = .ok (.isub, 1) := by decide +kernel
theorem dX5_mayBegin_15 : decode cX5_mayBegin 15 = .ok (.invokevirtual 37, 3) := by decide +kernel
theorem dX5_mayBegin_18 : decode cX5_mayBegin 18 = .ok (.bipush 32, 2) := by decide +kernel
theorem dX5_mayBegin_20 : decode cX5_mayBegin 20 = .ok (.if_icmp .ne 7, 3) := by decide +kernel
theorem dX5_mayBegin_23 : decode cX5_mayBegin 23 = .ok (.iconst 1, 1) := by decide +kernel
theorem dX5_mayBegin_24 : decode cX5_mayBegin 24 = .ok (.goto 4, 3) := by decide +kernel
theorem dX5_mayBegin_27 : decode cX5_mayBegin 27 = .ok (.iconst 0, 1) := by decide +kernel
theorem dX5_mayBegin_28 : decode cX5_mayBegin 28 = .ok (.ireturn, 1) := by decide +kernel
theorem dX6_init_0 : decode cX6_init 0 = .ok (.aload_n 0, 1) := by decide +kernel
theorem dX6_init_1 : decode cX6_init 1 = .ok (.invokespecial 5, 3) := by decide +kernel
theorem dX6_init_4 : decode cX6_init 4 = .ok (.aload_n 0, 1) := by decide +kernel
theorem dX6_init_5 : decode cX6_init 5 = .ok (.bipush 61, 2) := by decide +kernel
theorem dX6_init_7 : decode cX6_init 7 = .ok (.newarray .int, 2) := by decide +kernel
theorem dX6_init_9 : decode cX6_init 9 = .ok (.putfield 11, 3) := by decide +kernel
theorem dX6_init_12 : decode cX6_init 12 = .ok (.return_, 1) := by decide +kernel
set_option maxRecDepth 20000 in
theorem ggX6_countSlips_X6_stepWays : GoodIn wsX6_countSlips wsX6_stepWays := goodIn_r _ [7, 1, 8, 9, 2, 10, 11, 12, 13, 14, 15, 16, 17, 18, 19, 20, 21, 22, 23, 6, 24, 25, 26, 27, 28, 29, 30, 31, 32, 33, 34] (by decide +kernel) (by decide +kernel)
set_option maxRecDepth 20000 in
theorem gX6_countSlips_X6_stepWays : GoodIn wsX6_countSlips (wsV RX6 16 RX6 yX6_stepWays wsX6_stepWays) := goodIn_app (goodIn_of _ (by decide +kernel)) ggX6_countSlips_X6_stepWays
theorem dX6_countSlips_0 : decode cX6_countSlips 0 = .ok (.aload_n 0, 1) := by decide +kernel
theorem dX6_countSlips_1 : decode cX6_countSlips 1 = .ok (.getfield 11, 3) := by decide +kernel
theorem dX6_countSlips_4 : decode cX6_countSlips 4 = .ok (.iconst 0, 1) := by decide +kernel
theorem dX6_countSlips_5 : decode cX6_countSlips 5 = .ok (.iconst 0, 1) := by decide +kernel
theorem dX6_countSlips_6 : decode cX6_countSlips 6 = .ok (.iastore, 1) := by decide +kernel
theorem dX6_countSlips_7 : decode cX6_countSlips 7 = .ok (.iconst 1, 1) := by decide +kernel
theorem dX6_countSlips_8 : decode cX6_countSlips 8 = .ok (.istore 6, 2) := by decide +kernel
theorem dX6_countSlips_10 : decode cX6_countSlips 10 = .ok (.iload 6, 2) := by decide +kernel
theorem dX6_countSlips_12 : decode cX6_countSlips 12 = .ok (.bipush 60, 2) := by decide +kernel
theorem dX6_countSlips_14 : decode cX6_countSlips 14 = .ok (.if_icmp .gt 28, 3) := by decide +kernel
theorem dX6_countSlips_17 : decode cX6_countSlips 17 = .ok (.aload_n 0, 1) := by decide +kernel
theorem dX6_countSlips_18 : decode cX6_countSlips 18 = .ok (.getfield 11, 3) := by decide +kernel
theorem dX6_countSlips_21 : decode cX6_countSlips 21 = .ok (.iload 6, 2) := by decide +kernel
theorem dX6_countSlips_23 : decode cX6_countSlips 23 = .ok (.aload_n 0, 1) := by decide +kernel
theorem dX6_countSlips_24 : decode cX6_countSlips 24 = .ok (.getfield 11, 3) := by decide +kernel
theorem dX6_countSlips_27 : decode cX6_countSlips 27 = .ok (.iload 6, 2) := by decide +kernel
theorem dX6_countSlips_29 : decode cX6_countSlips 29 = .ok (.iconst 1, 1) := by decide +kernel
theorem dX6_countSlips_30 : decode cX6_countSlips 30 = .ok (.isub, 1) := by decide +kernel
theorem dX6_countSlips_31 : decode cX6_countSlips 31 = .ok (.iaload, 1) := by decide +kernel
theorem dX6_countSlips_32 : decode cX6_countSlips 32 = .ok (.ldc 15, 2) := by decide +kernel
theorem dX6_countSlips_34 : decode cX6_countSlips 34 = .ok (.iadd, 1) := by decide +kernel
theorem dX6_countSlips_35 : decode cX6_countSlips 35 = .ok (.iastore, 1) := by decide +kernel
theorem dX6_countSlips_36 : decode cX6_countSlips 36 = .ok (.iinc 6 1, 3) := by decide +kernel
theorem dX6_countSlips_39 : decode cX6_countSlips 39 = .ok (.goto (-29), 3) := by decide +kernel
theorem dX6_countSlips_42 : decode cX6_countSlips 42 = .ok (.iload_n 3, 1) := by decide +kernel
theorem dX6_countSlips_43 : decode cX6_countSlips 43 = .ok (.iconst 1, 1) := by decide +kernel
theorem dX6_countSlips_44 : decode cX6_countSlips 44 = .ok (.iadd, 1) := by decide +kernel
theorem dX6_countSlips_45 : decode cX6_countSlips 45 = .ok (.istore 6, 2) := by decide +kernel
theorem dX6_countSlips_47 : decode cX6_countSlips 47 = .ok (.iload 6, 2) := by decide +kernel
theorem dX6_countSlips_49 : decode cX6_countSlips 49 = .ok (.iload 4, 2) := by decide +kernel
theorem dX6_countSlips_51 : decode cX6_countSlips 51 = .ok (.if_icmp .gt 24, 3) := by decide +kernel
theorem dX6_countSlips_54 : decode cX6_countSlips 54 = .ok (.iload 6, 2) := by decide +kernel
theorem dX6_countSlips_56 : decode cX6_countSlips 56 = .ok (.bipush 120, 2) := by decide +kernel
theorem dX6_countSlips_58 : decode cX6_countSlips 58 = .ok (.if_icmp .gt 17, 3) := by decide +kernel
theorem dX6_countSlips_61 : decode cX6_countSlips 61 = .ok (.aload_n 0, 1) := by decide +kernel
theorem dX6_countSlips_62 : decode cX6_countSlips 62 = .ok (.aload_n 1, 1) := by decide +kernel
theorem dX6_countSlips_63 : decode cX6_countSlips 63 = .ok (.aload_n 2, 1) := by decide +kernel
theorem dX6_countSlips_64 : decode cX6_countSlips 64 = .ok (.iload 6, 2) := by decide +kernel
theorem dX6_countSlips_66 : decode cX6_countSlips 66 = .ok (.invokevirtual 16, 3) := by decide +kernel
theorem dX6_countSlips_69 : decode cX6_countSlips 69 = .ok (.iinc 6 1, 3) := by decide +kernel
theorem dX6_countSlips_72 : decode cX6_countSlips 72 = .ok (.goto (-25), 3) := by decide +kernel
theorem dX6_countSlips_75 : decode cX6_countSlips 75 = .ok (.aload_n 2, 1) := by decide +kernel
theorem dX6_countSlips_76 : decode cX6_countSlips 76 = .ok (.getfield 20, 3) := by decide +kernel
theorem dX6_countSlips_79 : decode cX6_countSlips 79 = .ok (.istore 6, 2) := by decide +kernel
theorem dX6_countSlips_81 : decode cX6_countSlips 81 = .ok (.iload 6, 2) := by decide +kernel
theorem dX6_countSlips_83 : decode cX6_countSlips 83 = .ok (.ifCond .lt 20, 3) := by decide +kernel
theorem dX6_countSlips_86 : decode cX6_countSlips 86 = .ok (.iload 6, 2) := by decide +kernel
theorem dX6_countSlips_88 : decode cX6_countSlips 88 = .ok (.bipush 60, 2) := by decide +kernel
theorem dX6_countSlips_90 : decode cX6_countSlips 90 = .ok (.if_icmp .gt 13, 3) := by decide +kernel
theorem dX6_countSlips_93 : decode cX6_countSlips 93 = .ok (.aload_n 0, 1) := by decide +kernel
theorem dX6_countSlips_94 : decode cX6_countSlips 94 = .ok (.getfield 11, 3) := by decide +kernel
theorem dX6_countSlips_97 : decode cX6_countSlips 97 = .ok (.iload 6, 2) := by decide +kernel
theorem dX6_countSlips_99 : decode cX6_countSlips 99 = .ok (.iaload, 1) := by decide +kernel
theorem dX6_countSlips_100 : decode cX6_countSlips 100 = .ok (.goto 4, 3) := by decide +kernel
theorem dX6_countSlips_103 : decode cX6_countSlips 103 = .ok (.iconst 0, 1) := by decide +kernel
theorem dX6_countSlips_104 : decode cX6_countSlips 104 = .ok (.istore 7, 2) := by decide +kernel
theorem dX6_countSlips_106 : decode cX6_countSlips 106 = .ok (.iload 7, 2) := by decide +kernel
theorem dX6_countSlips_108 : decode cX6_countSlips 108 = .ok (.iconst 3, 1) := by decide +kernel
theorem dX6_countSlips_109 : decode cX6_countSlips 109 = .ok (.iload 5, 2) := by decide +kernel
theorem dX6_countSlips_111 : decode cX6_countSlips 111 = .ok (.isub, 1) := by decide +kernel
theorem dX6_countSlips_112 : decode cX6_countSlips 112 = .ok (.bipush 7, 2) := by decide +kernel
theorem dX6_countSlips_114 : decode cX6_countSlips 114 = .ok (.imul, 1) := by decide +kernel
theorem dX6_countSlips_115 : decode cX6_countSlips 115 = .ok (.ishr, 1) := by decide +kernel
theorem dX6_countSlips_116 : decode cX6_countSlips 116 = .ok (.bipush 127, 2) := by decide +kernel
theorem dX6_countSlips_118 : decode cX6_countSlips 118 = .ok (.iand, 1) := by decide +kernel
theorem dX6_countSlips_119 : decode cX6_countSlips 119 = .ok (.ireturn, 1) := by decide +kernel
set_option maxRecDepth 20000 in
theorem ggX6_stepWays_X5_signAt : GoodIn wsX6_stepWays wsX5_signAt := goodIn_r _ [9, 10, 26, 27, 28, 29, 30] (by decide +kernel) (by decide +kernel)
set_option maxRecDepth 20000 in
theorem gX6_stepWays_X5_signAt : GoodIn wsX6_stepWays (wsV RX6 26 RX5 yX5_signAt wsX5_signAt) := goodIn_app (goodIn_of _ (by decide +kernel)) ggX6_stepWays_X5_signAt
set_option maxRecDepth 20000 in
theorem ggX6_stepWays_X2_placesThatTake : GoodIn wsX6_stepWays wsX2_placesThatTake := goodIn_r _ [15, 16, 22, 23, 24, 25] (by decide +kernel) (by decide +kernel)
set_option maxRecDepth 20000 in
theorem gX6_stepWays_X2_placesThatTake : GoodIn wsX6_stepWays (wsV RX6 32 RX2 yX2_placesThatTake wsX2_placesThatTake) := goodIn_app (goodIn_of _ (by decide +kernel)) ggX6_stepWays_X2_placesThatTake
set_option maxRecDepth 20000 in
theorem ggX6_stepWays_X6_firstOfFewest : GoodIn wsX6_stepWays wsX6_firstOfFewest := goodIn_r _ [20] (by decide +kernel) (by decide +kernel)
set_option maxRecDepth 20000 in
theorem gX6_stepWays_X6_firstOfFewest : GoodIn wsX6_stepWays (va_wsS RX6 38 yX6_firstOfFewest wsX6_firstOfFewest) := goodIn_app (goodIn_of _ (by decide +kernel)) ggX6_stepWays_X6_firstOfFewest
theorem dX6_stepWays_0 : decode cX6_stepWays 0 = .ok (.aload_n 2, 1) := by decide +kernel
theorem dX6_stepWays_1 : decode cX6_stepWays 1 = .ok (.aload_n 1, 1) := by decide +kernel
theorem dX6_stepWays_2 : decode cX6_stepWays 2 = .ok (.iload_n 3, 1) := by decide +kernel
theorem dX6_stepWays_3 : decode cX6_stepWays 3 = .ok (.iconst 1, 1) := by decide +kernel
theorem dX6_stepWays_4 : decode cX6_stepWays 4 = .ok (.isub, 1) := by decide +kernel
theorem dX6_stepWays_5 : decode cX6_stepWays 5 = .ok (.invokevirtual 26, 3) := by decide +kernel
theorem dX6_stepWays_8 : decode cX6_stepWays 8 = .ok (.invokevirtual 32, 3) := by decide +kernel
theorem dX6_stepWays_11 : decode cX6_stepWays 11 = .ok (.lstore 4, 2) := by decide +kernel
theorem dX6_stepWays_13 : decode cX6_stepWays 13 = .ok (.aload_n 0, 1) := by decide +kernel
theorem dX6_stepWays_14 : decode cX6_stepWays 14 = .ok (.getfield 11, 3) := by decide +kernel
theorem dX6_stepWays_17 : decode cX6_stepWays 17 = .ok (.iconst 0, 1) := by decide +kernel
theorem dX6_stepWays_18 : decode cX6_stepWays 18 = .ok (.iaload, 1) := by decide +kernel
theorem dX6_stepWays_19 : decode cX6_stepWays 19 = .ok (.istore 6, 2) := by decide +kernel
theorem dX6_stepWays_21 : decode cX6_stepWays 21 = .ok (.aload_n 0, 1) := by decide +kernel
theorem dX6_stepWays_22 : decode cX6_stepWays 22 = .ok (.getfield 11, 3) := by decide +kernel
theorem dX6_stepWays_25 : decode cX6_stepWays 25 = .ok (.iconst 0, 1) := by decide +kernel
theorem dX6_stepWays_26 : decode cX6_stepWays 26 = .ok (.aload_n 0, 1) := by decide +kernel
theorem dX6_stepWays_27 : decode cX6_stepWays 27 = .ok (.getfield 11, 3) := by decide +kernel
theorem dX6_stepWays_30 : decode cX6_stepWays 30 = .ok (.iconst 0, 1) := by decide +kernel
theorem dX6_stepWays_31 : decode cX6_stepWays 31 = .ok (.iaload, 1) := by decide +kernel
theorem dX6_stepWays_32 : decode cX6_stepWays 32 = .ok (.ldc 36, 2) := by decide +kernel
theorem dX6_stepWays_34 : decode cX6_stepWays 34 = .ok (.iadd, 1) := by decide +kernel
theorem dX6_stepWays_35 : decode cX6_stepWays 35 = .ok (.iastore, 1) := by decide +kernel
theorem dX6_stepWays_36 : decode cX6_stepWays 36 = .ok (.iconst 1, 1) := by decide +kernel
theorem dX6_stepWays_37 : decode cX6_stepWays 37 = .ok (.istore 7, 2) := by decide +kernel
theorem dX6_stepWays_39 : decode cX6_stepWays 39 = .ok (.iload 7, 2) := by decide +kernel
theorem dX6_stepWays_41 : decode cX6_stepWays 41 = .ok (.bipush 60, 2) := by decide +kernel
theorem dX6_stepWays_43 : decode cX6_stepWays 43 = .ok (.if_icmp .gt 110, 3) := by decide +kernel
theorem dX6_stepWays_46 : decode cX6_stepWays 46 = .ok (.iload 7, 2) := by decide +kernel
theorem dX6_stepWays_48 : decode cX6_stepWays 48 = .ok (.aload_n 2, 1) := by decide +kernel
theorem dX6_stepWays_49 : decode cX6_stepWays 49 = .ok (.getfield 20, 3) := by decide +kernel
theorem dX6_stepWays_52 : decode cX6_stepWays 52 = .ok (.if_icmp .gt 101, 3) := by decide +kernel
theorem dX6_stepWays_55 : decode cX6_stepWays 55 = .ok (.lload 4, 2) := by decide +kernel
theorem dX6_stepWays_57 : decode cX6_stepWays 57 = .ok (.iload 7, 2) := by decide +kernel
theorem dX6_stepWays_59 : decode cX6_stepWays 59 = .ok (.iconst 1, 1) := by decide +kernel
theorem dX6_stepWays_60 : decode cX6_stepWays 60 = .ok (.isub, 1) := by decide +kernel
theorem dX6_stepWays_61 : decode cX6_stepWays 61 = .ok (.lushr, 1) := by decide +kernel
theorem dX6_stepWays_62 : decode cX6_stepWays 62 = .ok (.lconst 1, 1) := by decide +kernel
theorem dX6_stepWays_63 : decode cX6_stepWays 63 = .ok (.land, 1) := by decide +kernel
theorem dX6_stepWays_64 : decode cX6_stepWays 64 = .ok (.lconst 0, 1) := by decide +kernel
theorem dX6_stepWays_65 : decode cX6_stepWays 65 = .ok (.lcmp, 1) := by decide +kernel
theorem dX6_stepWays_66 : decode cX6_stepWays 66 = .ok (.ifCond .eq 7, 3) := by decide +kernel
theorem dX6_stepWays_69 : decode cX6_stepWays 69 = .ok (.iconst 1, 1) := by decide +kernel
theorem dX6_stepWays_70 : decode cX6_stepWays 70 = .ok (.goto 4, 3) := by decide +kernel
theorem dX6_stepWays_73 : decode cX6_stepWays 73 = .ok (.iconst 0, 1) := by decide +kernel
theorem dX6_stepWays_74 : decode cX6_stepWays 74 = .ok (.istore 8, 2) := by decide +kernel
theorem dX6_stepWays_76 : decode cX6_stepWays 76 = .ok (.iload 8, 2) := by decide +kernel
theorem dX6_stepWays_78 : decode cX6_stepWays 78 = .ok (.ifCond .eq 8, 3) := by decide +kernel
theorem dX6_stepWays_81 : decode cX6_stepWays 81 = .ok (.iload 6, 2) := by decide +kernel
theorem dX6_stepWays_83 : decode cX6_stepWays 83 = .ok (.goto 8, 3) := by decide +kernel
theorem dX6_stepWays_86 : decode cX6_stepWays 86 = .ok (.iload 6, 2) := by decide +kernel
theorem dX6_stepWays_88 : decode cX6_stepWays 88 = .ok (.ldc 37, 2) := by decide +kernel
theorem dX6_stepWays_90 : decode cX6_stepWays 90 = .ok (.iadd, 1) := by decide +kernel
theorem dX6_stepWays_91 : decode cX6_stepWays 91 = .ok (.istore 9, 2) := by decide +kernel
theorem dX6_stepWays_93 : decode cX6_stepWays 93 = .ok (.aload_n 0, 1) := by decide +kernel
theorem dX6_stepWays_94 : decode cX6_stepWays 94 = .ok (.getfield 11, 3) := by decide +kernel
theorem dX6_stepWays_97 : decode cX6_stepWays 97 = .ok (.iload 7, 2) := by decide +kernel
theorem dX6_stepWays_99 : decode cX6_stepWays 99 = .ok (.iaload, 1) := by decide +kernel
theorem dX6_stepWays_100 : decode cX6_stepWays 100 = .ok (.ldc 36, 2) := by decide +kernel
theorem dX6_stepWays_102 : decode cX6_stepWays 102 = .ok (.iadd, 1) := by decide +kernel
theorem dX6_stepWays_103 : decode cX6_stepWays 103 = .ok (.istore 10, 2) := by decide +kernel
theorem dX6_stepWays_105 : decode cX6_stepWays 105 = .ok (.aload_n 0, 1) := by decide +kernel
theorem dX6_stepWays_106 : decode cX6_stepWays 106 = .ok (.getfield 11, 3) := by decide +kernel
theorem dX6_stepWays_109 : decode cX6_stepWays 109 = .ok (.iload 7, 2) := by decide +kernel
theorem dX6_stepWays_111 : decode cX6_stepWays 111 = .ok (.iconst 1, 1) := by decide +kernel
theorem dX6_stepWays_112 : decode cX6_stepWays 112 = .ok (.isub, 1) := by decide +kernel
theorem dX6_stepWays_113 : decode cX6_stepWays 113 = .ok (.iaload, 1) := by decide +kernel
theorem dX6_stepWays_114 : decode cX6_stepWays 114 = .ok (.ldc 15, 2) := by decide +kernel
theorem dX6_stepWays_116 : decode cX6_stepWays 116 = .ok (.iadd, 1) := by decide +kernel
theorem dX6_stepWays_117 : decode cX6_stepWays 117 = .ok (.istore 11, 2) := by decide +kernel
theorem dX6_stepWays_119 : decode cX6_stepWays 119 = .ok (.aload_n 0, 1) := by decide +kernel
theorem dX6_stepWays_120 : decode cX6_stepWays 120 = .ok (.getfield 11, 3) := by decide +kernel
theorem dX6_stepWays_123 : decode cX6_stepWays 123 = .ok (.iload 7, 2) := by decide +kernel
theorem dX6_stepWays_125 : decode cX6_stepWays 125 = .ok (.iaload, 1) := by decide +kernel
theorem dX6_stepWays_126 : decode cX6_stepWays 126 = .ok (.istore 6, 2) := by decide +kernel
theorem dX6_stepWays_128 : decode cX6_stepWays 128 = .ok (.aload_n 0, 1) := by decide +kernel
theorem dX6_stepWays_129 : decode cX6_stepWays 129 = .ok (.getfield 11, 3) := by decide +kernel
theorem dX6_stepWays_132 : decode cX6_stepWays 132 = .ok (.iload 7, 2) := by decide +kernel
theorem dX6_stepWays_134 : decode cX6_stepWays 134 = .ok (.iload 9, 2) := by decide +kernel
theorem dX6_stepWays_136 : decode cX6_stepWays 136 = .ok (.iload 10, 2) := by decide +kernel
theorem dX6_stepWays_138 : decode cX6_stepWays 138 = .ok (.invokestatic 38, 3) := by decide +kernel
theorem dX6_stepWays_141 : decode cX6_stepWays 141 = .ok (.iload 11, 2) := by decide +kernel
theorem dX6_stepWays_143 : decode cX6_stepWays 143 = .ok (.invokestatic 38, 3) := by decide +kernel
theorem dX6_stepWays_146 : decode cX6_stepWays 146 = .ok (.iastore, 1) := by decide +kernel
theorem dX6_stepWays_147 : decode cX6_stepWays 147 = .ok (.iinc 7 1, 3) := by decide +kernel
theorem dX6_stepWays_150 : decode cX6_stepWays 150 = .ok (.goto (-111), 3) := by decide +kernel
theorem dX6_stepWays_153 : decode cX6_stepWays 153 = .ok (.return_, 1) := by decide +kernel
theorem dX6_firstOfFewest_0 : decode cX6_firstOfFewest 0 = .ok (.iload_n 1, 1) := by decide +kernel
theorem dX6_firstOfFewest_1 : decode cX6_firstOfFewest 1 = .ok (.bipush 21, 2) := by decide +kernel
theorem dX6_firstOfFewest_3 : decode cX6_firstOfFewest 3 = .ok (.ishr, 1) := by decide +kernel
theorem dX6_firstOfFewest_4 : decode cX6_firstOfFewest 4 = .ok (.iload_n 0, 1) := by decide +kernel
theorem dX6_firstOfFewest_5 : decode cX6_firstOfFewest 5 = .ok (.bipush 21, 2) := by decide +kernel
theorem dX6_firstOfFewest_7 : decode cX6_firstOfFewest 7 = .ok (.ishr, 1) := by decide +kernel
theorem dX6_firstOfFewest_8 : decode cX6_firstOfFewest 8 = .ok (.if_icmp .ge 7, 3) := by decide +kernel
theorem dX6_firstOfFewest_11 : decode cX6_firstOfFewest 11 = .ok (.iload_n 1, 1) := by decide +kernel
theorem dX6_firstOfFewest_12 : decode cX6_firstOfFewest 12 = .ok (.goto 4, 3) := by decide +kernel
theorem dX6_firstOfFewest_15 : decode cX6_firstOfFewest 15 = .ok (.iload_n 0, 1) := by decide +kernel
theorem dX6_firstOfFewest_16 : decode cX6_firstOfFewest 16 = .ok (.ireturn, 1) := by decide +kernel
set_option maxRecDepth 20000 in
theorem ggX7_init_X5_init : GoodIn wsX7_init wsX5_init := goodIn_r _ [31, 32, 2, 3, 33, 34, 35, 36, 37, 38, 39, 80, 81, 82, 83, 84] (by decide +kernel) (by decide +kernel)
set_option maxRecDepth 20000 in
theorem gX7_init_X5_init_n11 : GoodIn wsX7_init (wsX5_init) := ggX7_init_X5_init
set_option maxRecDepth 20000 in
theorem ggX7_init_X0_init : GoodIn wsX7_init wsX0_init := goodIn_r _ [42, 43, 2, 3, 44, 45, 46, 5, 6, 30, 31, 32, 33, 34, 35, 36, 37, 38, 39, 93, 94, 80, 81, 82, 83, 84] (by decide +kernel) (by decide +kernel)
set_option maxRecDepth 20000 in
theorem gX7_init_X0_init : GoodIn wsX7_init (wsX0_init) := ggX7_init_X0_init
set_option maxRecDepth 20000 in
theorem ggX7_init_X1_init : GoodIn wsX7_init wsX1_init := goodIn_r _ [48, 49, 2, 3, 33, 50, 51, 95, 96] (by decide +kernel) (by decide +kernel)
set_option maxRecDepth 20000 in
theorem gX7_init_X1_init_n32 : GoodIn wsX7_init (wsX1_init) := ggX7_init_X1_init
set_option maxRecDepth 20000 in
theorem ggX7_init_X3_init : GoodIn wsX7_init wsX3_init := goodIn_r _ [53, 54, 2, 3, 55, 56, 57, 58, 59, 60, 61, 62, 97, 98, 99, 100, 101, 102, 103] (by decide +kernel) (by decide +kernel)
set_option maxRecDepth 20000 in
theorem gX7_init_X3_init_n39 : GoodIn wsX7_init (wsX3_init) := ggX7_init_X3_init
set_option maxRecDepth 20000 in
theorem ggX7_init_X4_init : GoodIn wsX7_init wsX4_init := goodIn_r _ [64, 65, 2, 3, 66, 67, 55, 68, 69, 70, 71, 72, 33, 73, 74, 75, 104, 105, 106, 107, 108, 109, 110, 111] (by decide +kernel) (by decide +kernel)
set_option maxRecDepth 20000 in
theorem gX7_init_X4_init_n46 : GoodIn wsX7_init (wsX4_init) := ggX7_init_X4_init
set_option maxRecDepth 20000 in
theorem ggX7_init_X6_init : GoodIn wsX7_init wsX6_init := goodIn_r _ [77, 78, 2, 3, 55, 79, 112] (by decide +kernel) (by decide +kernel)
set_option maxRecDepth 20000 in
theorem gX7_init_X6_init_n53 : GoodIn wsX7_init (wsX6_init) := ggX7_init_X6_init
theorem dX7_init_0 : decode cX7_init 0 = .ok (.aload_n 0, 1) := by decide +kernel
theorem dX7_init_1 : decode cX7_init 1 = .ok (.invokespecial 3, 3) := by decide +kernel
theorem dX7_init_4 : decode cX7_init 4 = .ok (.aload_n 0, 1) := by decide +kernel
theorem dX7_init_5 : decode cX7_init 5 = .ok (.new 9, 3) := by decide +kernel
theorem dX7_init_8 : decode cX7_init 8 = .ok (.dup, 1) := by decide +kernel
theorem dX7_init_9 : decode cX7_init 9 = .ok (.invokespecial 11, 3) := by decide +kernel
theorem dX7_init_12 : decode cX7_init 12 = .ok (.putfield 12, 3) := by decide +kernel
theorem dX7_init_15 : decode cX7_init 15 = .ok (.aload_n 0, 1) := by decide +kernel
theorem dX7_init_16 : decode cX7_init 16 = .ok (.new 9, 3) := by decide +kernel
theorem dX7_init_19 : decode cX7_init 19 = .ok (.dup, 1) := by decide +kernel
theorem dX7_init_20 : decode cX7_init 20 = .ok (.invokespecial 11, 3) := by decide +kernel
theorem dX7_init_23 : decode cX7_init 23 = .ok (.putfield 16, 3) := by decide +kernel
theorem dX7_init_26 : decode cX7_init 26 = .ok (.aload_n 0, 1) := by decide +kernel
theorem dX7_init_27 : decode cX7_init 27 = .ok (.iconst 0, 1) := by decide +kernel
theorem dX7_init_28 : decode cX7_init 28 = .ok (.putfield 19, 3) := by decide +kernel
theorem dX7_init_31 : decode cX7_init 31 = .ok (.aload_n 0, 1) := by decide +kernel
theorem dX7_init_32 : decode cX7_init 32 = .ok (.new 23, 3) := by decide +kernel
theorem dX7_init_35 : decode cX7_init 35 = .ok (.dup, 1) := by decide +kernel
theorem dX7_init_36 : decode cX7_init 36 = .ok (.invokespecial 25, 3) := by decide +kernel
theorem dX7_init_39 : decode cX7_init 39 = .ok (.putfield 26, 3) := by decide +kernel
theorem dX7_init_42 : decode cX7_init 42 = .ok (.aload_n 0, 1) := by decide +kernel
theorem dX7_init_43 : decode cX7_init 43 = .ok (.new 30, 3) := by decide +kernel
theorem dX7_init_46 : decode cX7_init 46 = .ok (.dup, 1) := by decide +kernel
theorem dX7_init_47 : decode cX7_init 47 = .ok (.invokespecial 32, 3) := by decide +kernel
theorem dX7_init_50 : decode cX7_init 50 = .ok (.putfield 33, 3) := by decide +kernel
theorem dX7_init_53 : decode cX7_init 53 = .ok (.aload_n 0, 1) := by decide +kernel
theorem dX7_init_54 : decode cX7_init 54 = .ok (.new 37, 3) := by decide +kernel
theorem dX7_init_57 : decode cX7_init 57 = .ok (.dup, 1) := by decide +kernel
theorem dX7_init_58 : decode cX7_init 58 = .ok (.invokespecial 39, 3) := by decide +kernel
theorem dX7_init_61 : decode cX7_init 61 = .ok (.putfield 40, 3) := by decide +kernel
theorem dX7_init_64 : decode cX7_init 64 = .ok (.aload_n 0, 1) := by decide +kernel
theorem dX7_init_65 : decode cX7_init 65 = .ok (.new 44, 3) := by decide +kernel
theorem dX7_init_68 : decode cX7_init 68 = .ok (.dup, 1) := by decide +kernel
theorem dX7_init_69 : decode cX7_init 69 = .ok (.invokespecial 46, 3) := by decide +kernel
theorem dX7_init_72 : decode cX7_init 72 = .ok (.putfield 47, 3) := by decide +kernel
theorem dX7_init_75 : decode cX7_init 75 = .ok (.aload_n 0, 1) := by decide +kernel
theorem dX7_init_76 : decode cX7_init 76 = .ok (.new 51, 3) := by decide +kernel
theorem dX7_init_79 : decode cX7_init 79 = .ok (.dup, 1) := by decide +kernel
theorem dX7_init_80 : decode cX7_init 80 = .ok (.invokespecial 53, 3) := by decide +kernel
theorem dX7_init_83 : decode cX7_init 83 = .ok (.putfield 54, 3) := by decide +kernel
theorem dX7_init_86 : decode cX7_init 86 = .ok (.return_, 1) := by decide +kernel
set_option maxRecDepth 20000 in
theorem ggX7_write_X7_isSign : GoodIn wsX7_write wsX7_isSign := goodIn_r _ [6, 7, 8, 5, 9] (by decide +kernel) (by decide +kernel)
set_option maxRecDepth 20000 in
theorem gX7_write_X7_isSign : GoodIn wsX7_write (va_wsS RX7 58 yX7_isSign wsX7_isSign) := goodIn_app (goodIn_of _ (by decide +kernel)) ggX7_write_X7_isSign
set_option maxRecDepth 20000 in
theorem ggX7_write_X0_record : GoodIn wsX7_write wsX0_record := goodIn_r _ [14, 15, 16, 17, 18, 13, 19, 20, 21, 22, 23, 24, 25, 26, 27, 28, 29, 30, 31, 32, 33, 34, 35, 36, 37, 38, 56, 57, 51, 52, 53, 54, 55] (by decide +kernel) (by decide +kernel)
set_option maxRecDepth 20000 in
theorem gX7_write_X0_record : GoodIn wsX7_write (wsV RX7 66 RX0 yX0_record wsX0_record) := goodIn_app (goodIn_of _ (by decide +kernel)) ggX7_write_X0_record
set_option maxRecDepth 20000 in
theorem ggX7_write_X5_append : GoodIn wsX7_write wsX5_append := goodIn_r _ [42, 35, 30, 51, 52, 53, 54, 55] (by decide +kernel) (by decide +kernel)
set_option maxRecDepth 20000 in
theorem gX7_write_X5_append : GoodIn wsX7_write (wsV RX7 70 RX5 yX5_append wsX5_append) := goodIn_app (goodIn_of _ (by decide +kernel)) ggX7_write_X5_append
theorem dX7_write_0 : decode cX7_write 0 = .ok (.iload_n 1, 1) := by decide +kernel
