set_option maxRecDepth 20000 in
theorem ggX0_init_X2_fairRent : GoodIn wsX0_init wsX2_fairRent := goodIn_r _ [20, 21, 22, 23, 24, 25, 26, 27, 37, 38, 39, 40, 41] (by decide +kernel) (by decide +kernel)
set_option maxRecDepth 20000 in
theorem gX0_init_X2_fairRent : GoodIn wsX0_init (wsV RX0 25 RX2 yX2_fairRent wsX2_fairRent) := goodIn_app (goodIn_of _ (by decide +kernel)) ggX0_init_X2_fairRent
theorem dX0_init_0 : decode cX0_init 0 = .ok (.aload_n 0, 1) := by decide +kernel
theorem dX0_init_1 : decode cX0_init 1 = .ok (.invokespecial 3, 3) := by decide +kernel
theorem dX0_init_4 : decode cX0_init 4 = .ok (.aload_n 0, 1) := by decide +kernel
theorem dX0_init_5 : decode cX0_init 5 = .ok (.iload_n 1, 1) := by decide +kernel
theorem dX0_init_6 : decode cX0_init 6 = .ok (.putfield 9, 3) := by decide +kernel
theorem dX0_init_9 : decode cX0_init 9 = .ok (.aload_n 0, 1) := by decide +kernel
theorem dX0_init_10 : decode cX0_init 10 = .ok (.iload_n 2, 1) := by decide +kernel
theorem dX0_init_11 : decode cX0_init 11 = .ok (.putfield 15, 3) := by decide +kernel
theorem dX0_init_14 : decode cX0_init 14 = .ok (.aload_n 0, 1) := by decide +kernel
theorem dX0_init_15 : decode cX0_init 15 = .ok (.iload_n 3, 1) := by decide +kernel
theorem dX0_init_16 : decode cX0_init 16 = .ok (.putfield 18, 3) := by decide +kernel
theorem dX0_init_19 : decode cX0_init 19 = .ok (.aload_n 0, 1) := by decide +kernel
theorem dX0_init_20 : decode cX0_init 20 = .ok (.aload 4, 2) := by decide +kernel
theorem dX0_init_22 : decode cX0_init 22 = .ok (.putfield 21, 3) := by decide +kernel
theorem dX0_init_25 : decode cX0_init 25 = .ok (.aload_n 0, 1) := by decide +kernel
theorem dX0_init_26 : decode cX0_init 26 = .ok (.aload 5, 2) := by decide +kernel
theorem dX0_init_28 : decode cX0_init 28 = .ok (.invokevirtual 25, 3) := by decide +kernel
theorem dX0_init_31 : decode cX0_init 31 = .ok (.putfield 31, 3) := by decide +kernel
theorem dX0_init_34 : decode cX0_init 34 = .ok (.aload_n 0, 1) := by decide +kernel
theorem dX0_init_35 : decode cX0_init 35 = .ok (.aload 5, 2) := by decide +kernel
theorem dX0_init_37 : decode cX0_init 37 = .ok (.getfield 34, 3) := by decide +kernel
theorem dX0_init_40 : decode cX0_init 40 = .ok (.putfield 37, 3) := by decide +kernel
theorem dX0_init_43 : decode cX0_init 43 = .ok (.aload_n 0, 1) := by decide +kernel
theorem dX0_init_44 : decode cX0_init 44 = .ok (.aload 5, 2) := by decide +kernel
theorem dX0_init_46 : decode cX0_init 46 = .ok (.getfield 38, 3) := by decide +kernel
theorem dX0_init_49 : decode cX0_init 49 = .ok (.putfield 41, 3) := by decide +kernel
theorem dX0_init_52 : decode cX0_init 52 = .ok (.aload_n 0, 1) := by decide +kernel
theorem dX0_init_53 : decode cX0_init 53 = .ok (.aload 5, 2) := by decide +kernel
theorem dX0_init_55 : decode cX0_init 55 = .ok (.getfield 42, 3) := by decide +kernel
theorem dX0_init_58 : decode cX0_init 58 = .ok (.putfield 45, 3) := by decide +kernel
theorem dX0_init_61 : decode cX0_init 61 = .ok (.aload_n 0, 1) := by decide +kernel
theorem dX0_init_62 : decode cX0_init 62 = .ok (.iconst 1, 1) := by decide +kernel
theorem dX0_init_63 : decode cX0_init 63 = .ok (.putfield 46, 3) := by decide +kernel
theorem dX0_init_66 : decode cX0_init 66 = .ok (.return_, 1) := by decide +kernel
theorem dX0_binds_0 : decode cX0_binds 0 = .ok (.aload_n 0, 1) := by decide +kernel
theorem dX0_binds_1 : decode cX0_binds 1 = .ok (.getfield 46, 3) := by decide +kernel
theorem dX0_binds_4 : decode cX0_binds 4 = .ok (.ifCond .eq 23, 3) := by decide +kernel
theorem dX0_binds_7 : decode cX0_binds 7 = .ok (.aload_n 0, 1) := by decide +kernel
theorem dX0_binds_8 : decode cX0_binds 8 = .ok (.getfield 9, 3) := by decide +kernel
theorem dX0_binds_11 : decode cX0_binds 11 = .ok (.iload_n 1, 1) := by decide +kernel
theorem dX0_binds_12 : decode cX0_binds 12 = .ok (.if_icmp .ne 15, 3) := by decide +kernel
theorem dX0_binds_15 : decode cX0_binds 15 = .ok (.aload_n 0, 1) := by decide +kernel
theorem dX0_binds_16 : decode cX0_binds 16 = .ok (.getfield 15, 3) := by decide +kernel
theorem dX0_binds_19 : decode cX0_binds 19 = .ok (.iload_n 2, 1) := by decide +kernel
theorem dX0_binds_20 : decode cX0_binds 20 = .ok (.if_icmp .ne 7, 3) := by decide +kernel
theorem dX0_binds_23 : decode cX0_binds 23 = .ok (.iconst 1, 1) := by decide +kernel
theorem dX0_binds_24 : decode cX0_binds 24 = .ok (.goto 4, 3) := by decide +kernel
theorem dX0_binds_27 : decode cX0_binds 27 = .ok (.iconst 0, 1) := by decide +kernel
theorem dX0_binds_28 : decode cX0_binds 28 = .ok (.ireturn, 1) := by decide +kernel
set_option maxRecDepth 20000 in
theorem ggX0_steppedFrom_X4_number : GoodIn wsX0_steppedFrom wsX4_number := goodIn_r _ [12, 13, 14, 15, 16, 26] (by decide +kernel) (by decide +kernel)
set_option maxRecDepth 20000 in
theorem gX0_steppedFrom_X4_number : GoodIn wsX0_steppedFrom (wsV RX0 50 RX4 yX4_number wsX4_number) := goodIn_app (goodIn_of _ (by decide +kernel)) ggX0_steppedFrom_X4_number
theorem dX0_steppedFrom_0 : decode cX0_steppedFrom 0 = .ok (.aload_n 0, 1) := by decide +kernel
theorem dX0_steppedFrom_1 : decode cX0_steppedFrom 1 = .ok (.getfield 31, 3) := by decide +kernel
theorem dX0_steppedFrom_4 : decode cX0_steppedFrom 4 = .ok (.iload_n 1, 1) := by decide +kernel
theorem dX0_steppedFrom_5 : decode cX0_steppedFrom 5 = .ok (.if_icmp .gt 8, 3) := by decide +kernel
theorem dX0_steppedFrom_8 : decode cX0_steppedFrom 8 = .ok (.aload_n 0, 1) := by decide +kernel
theorem dX0_steppedFrom_9 : decode cX0_steppedFrom 9 = .ok (.getfield 31, 3) := by decide +kernel
theorem dX0_steppedFrom_12 : decode cX0_steppedFrom 12 = .ok (.ireturn, 1) := by decide +kernel
theorem dX0_steppedFrom_13 : decode cX0_steppedFrom 13 = .ok (.iload_n 2, 1) := by decide +kernel
theorem dX0_steppedFrom_14 : decode cX0_steppedFrom 14 = .ok (.aload_n 0, 1) := by decide +kernel
theorem dX0_steppedFrom_15 : decode cX0_steppedFrom 15 = .ok (.getfield 18, 3) := by decide +kernel
theorem dX0_steppedFrom_18 : decode cX0_steppedFrom 18 = .ok (.isub, 1) := by decide +kernel
theorem dX0_steppedFrom_19 : decode cX0_steppedFrom 19 = .ok (.bipush 10, 2) := by decide +kernel
theorem dX0_steppedFrom_21 : decode cX0_steppedFrom 21 = .ok (.idiv, 1) := by decide +kernel
theorem dX0_steppedFrom_22 : decode cX0_steppedFrom 22 = .ok (.iconst 1, 1) := by decide +kernel
theorem dX0_steppedFrom_23 : decode cX0_steppedFrom 23 = .ok (.iadd, 1) := by decide +kernel
theorem dX0_steppedFrom_24 : decode cX0_steppedFrom 24 = .ok (.istore_n 3, 1) := by decide +kernel
theorem dX0_steppedFrom_25 : decode cX0_steppedFrom 25 = .ok (.aload_n 0, 1) := by decide +kernel
theorem dX0_steppedFrom_26 : decode cX0_steppedFrom 26 = .ok (.getfield 31, 3) := by decide +kernel
theorem dX0_steppedFrom_29 : decode cX0_steppedFrom 29 = .ok (.iload_n 1, 1) := by decide +kernel
theorem dX0_steppedFrom_30 : decode cX0_steppedFrom 30 = .ok (.aload_n 0, 1) := by decide +kernel
theorem dX0_steppedFrom_31 : decode cX0_steppedFrom 31 = .ok (.getfield 21, 3) := by decide +kernel
theorem dX0_steppedFrom_34 : decode cX0_steppedFrom 34 = .ok (.iconst 5, 1) := by decide +kernel
theorem dX0_steppedFrom_35 : decode cX0_steppedFrom 35 = .ok (.invokevirtual 50, 3) := by decide +kernel
theorem dX0_steppedFrom_38 : decode cX0_steppedFrom 38 = .ok (.iload_n 3, 1) := by decide +kernel
theorem dX0_steppedFrom_39 : decode cX0_steppedFrom 39 = .ok (.imul, 1) := by decide +kernel
theorem dX0_steppedFrom_40 : decode cX0_steppedFrom 40 = .ok (.iadd, 1) := by decide +kernel
theorem dX0_steppedFrom_41 : decode cX0_steppedFrom 41 = .ok (.invokestatic 56, 3) := by decide +kernel
theorem dX0_steppedFrom_44 : decode cX0_steppedFrom 44 = .ok (.ireturn, 1) := by decide +kernel
set_option maxRecDepth 20000 in
theorem ggX1_init_X8_init : GoodIn wsX1_init wsX8_init := goodIn_r _ [5, 6, 7, 8, 9, 10, 11, 12, 13, 14] (by decide +kernel) (by decide +kernel)
set_option maxRecDepth 20000 in
theorem gX1_init_X8_init : GoodIn wsX1_init (wsX8_init) := ggX1_init_X8_init
theorem dX1_init_0 : decode cX1_init 0 = .ok (.aload_n 0, 1) := by decide +kernel
theorem dX1_init_1 : decode cX1_init 1 = .ok (.iload_n 1, 1) := by decide +kernel
theorem dX1_init_2 : decode cX1_init 2 = .ok (.invokespecial 1, 3) := by decide +kernel
theorem dX1_init_5 : decode cX1_init 5 = .ok (.aload_n 0, 1) := by decide +kernel
theorem dX1_init_6 : decode cX1_init 6 = .ok (.iload_n 2, 1) := by decide +kernel
theorem dX1_init_7 : decode cX1_init 7 = .ok (.putfield 7, 3) := by decide +kernel
theorem dX1_init_10 : decode cX1_init 10 = .ok (.return_, 1) := by decide +kernel
set_option maxRecDepth 20000 in
theorem ggX1_worth_X8_worth : GoodIn wsX1_worth wsX8_worth := goodIn_r _ [7, 8, 9, 10, 11, 12, 13] (by decide +kernel) (by decide +kernel)
set_option maxRecDepth 20000 in
theorem gX1_worth_X8_worth_s13 : GoodIn wsX1_worth (va_wsSU RX1 13 yX8_worth wsX8_worth) := goodIn_app (goodIn_of _ (by decide +kernel)) ggX1_worth_X8_worth
theorem dX1_worth_0 : decode cX1_worth 0 = .ok (.aload_n 0, 1) := by decide +kernel
theorem dX1_worth_1 : decode cX1_worth 1 = .ok (.invokespecial 13, 3) := by decide +kernel
theorem dX1_worth_4 : decode cX1_worth 4 = .ok (.iconst 2, 1) := by decide +kernel
theorem dX1_worth_5 : decode cX1_worth 5 = .ok (.aload_n 0, 1) := by decide +kernel
theorem dX1_worth_6 : decode cX1_worth 6 = .ok (.getfield 7, 3) := by decide +kernel
theorem dX1_worth_9 : decode cX1_worth 9 = .ok (.imul, 1) := by decide +kernel
theorem dX1_worth_10 : decode cX1_worth 10 = .ok (.isub, 1) := by decide +kernel
theorem dX1_worth_11 : decode cX1_worth 11 = .ok (.ireturn, 1) := by decide +kernel
set_option maxRecDepth 20000 in
theorem ggX1_marks_X8_marks : GoodIn wsX1_marks wsX8_marks := goodIn_r _ [6] (by decide +kernel) (by decide +kernel)
set_option maxRecDepth 20000 in
theorem gX1_marks_X8_marks_s17 : GoodIn wsX1_marks (va_wsSU RX1 17 yX8_marks wsX8_marks) := goodIn_app (goodIn_of _ (by decide +kernel)) ggX1_marks_X8_marks
theorem dX1_marks_0 : decode cX1_marks 0 = .ok (.aload_n 0, 1) := by decide +kernel
theorem dX1_marks_1 : decode cX1_marks 1 = .ok (.invokespecial 17, 3) := by decide +kernel
theorem dX1_marks_4 : decode cX1_marks 4 = .ok (.bipush 10, 2) := by decide +kernel
theorem dX1_marks_6 : decode cX1_marks 6 = .ok (.iadd, 1) := by decide +kernel
theorem dX1_marks_7 : decode cX1_marks 7 = .ok (.ireturn, 1) := by decide +kernel
theorem dX2_init_0 : decode cX2_init 0 = .ok (.aload_n 0, 1) := by decide +kernel
theorem dX2_init_1 : decode cX2_init 1 = .ok (.invokespecial 3, 3) := by decide +kernel
theorem dX2_init_4 : decode cX2_init 4 = .ok (.aload_n 0, 1) := by decide +kernel
theorem dX2_init_5 : decode cX2_init 5 = .ok (.bipush 12, 2) := by decide +kernel
theorem dX2_init_7 : decode cX2_init 7 = .ok (.newarray .int, 2) := by decide +kernel
theorem dX2_init_9 : decode cX2_init 9 = .ok (.putfield 9, 3) := by decide +kernel
theorem dX2_init_12 : decode cX2_init 12 = .ok (.return_, 1) := by decide +kernel
set_option maxRecDepth 20000 in
theorem ggX2_work_X1_worth : GoodIn wsX2_work wsX1_worth := goodIn_r _ [14, 15, 16, 9, 17, 18, 19, 20, 21, 77, 78, 79, 80, 81] (by decide +kernel) (by decide +kernel)
set_option maxRecDepth 20000 in
theorem gX2_work_X1_worth_u25X1 : GoodIn wsX2_work (va_wsO RX2 25 RX1 "FairRents$Plain" ⟨"FairRents$Plain", "worth", "()I"⟩ yX1_worth wsX1_worth) := goodIn_app (goodIn_of _ (by decide +kernel)) ggX2_work_X1_worth
set_option maxRecDepth 20000 in
theorem ggX2_work_X7_worth : GoodIn wsX2_work wsX7_worth := goodIn_r _ [25, 26, 27, 28, 12, 13, 14, 15, 16, 9, 17, 18, 19, 20, 21, 29, 30, 31, 32, 77, 78, 79, 80, 81] (by decide +kernel) (by decide +kernel)
set_option maxRecDepth 20000 in
theorem gX2_work_X7_worth_u25X7 : GoodIn wsX2_work (va_wsO RX2 25 RX7 "FairRents$Plain" ⟨"FairRents$Plain", "worth", "()I"⟩ yX7_worth wsX7_worth) := goodIn_app (goodIn_of _ (by decide +kernel)) ggX2_work_X7_worth
set_option maxRecDepth 20000 in
theorem ggX2_work_X8_worth : GoodIn wsX2_work wsX8_worth := goodIn_r _ [20, 21, 77, 78, 79, 80, 81] (by decide +kernel) (by decide +kernel)
set_option maxRecDepth 20000 in
theorem gX2_work_X8_worth : GoodIn wsX2_work (wsV RX2 25 RX8 yX8_worth wsX8_worth) := goodIn_app (goodIn_of _ (by decide +kernel)) ggX2_work_X8_worth
set_option maxRecDepth 20000 in
theorem ggX2_work_X6_countsFor : GoodIn wsX2_work wsX6_countsFor := goodIn_r _ [39, 40, 41, 42, 82, 83, 84, 85, 86] (by decide +kernel) (by decide +kernel)
set_option maxRecDepth 20000 in
theorem gX2_work_X6_countsFor : GoodIn wsX2_work (wsV RX2 34 RX6 yX6_countsFor wsX6_countsFor) := goodIn_app (goodIn_of _ (by decide +kernel)) ggX2_work_X6_countsFor
set_option maxRecDepth 20000 in
theorem ggX2_work_X4_number : GoodIn wsX2_work wsX4_number := goodIn_r _ [47, 48, 49, 50, 51, 87] (by decide +kernel) (by decide +kernel)
set_option maxRecDepth 20000 in
theorem gX2_work_X4_number : GoodIn wsX2_work (wsV RX2 40 RX4 yX4_number wsX4_number) := goodIn_app (goodIn_of _ (by decide +kernel)) ggX2_work_X4_number
set_option maxRecDepth 20000 in
theorem ggX2_work_X6_putRight : GoodIn wsX2_work wsX6_putRight := goodIn_r _ [55, 56, 57, 82, 83, 84, 85, 86] (by decide +kernel) (by decide +kernel)
set_option maxRecDepth 20000 in
theorem gX2_work_X6_putRight : GoodIn wsX2_work (wsV RX2 46 RX6 yX6_putRight wsX6_putRight) := goodIn_app (goodIn_of _ (by decide +kernel)) ggX2_work_X6_putRight
set_option maxRecDepth 20000 in
theorem ggX2_work_X2_insert : GoodIn wsX2_work wsX2_insert := goodIn_r _ [62, 1, 63, 49, 50, 51, 68, 69, 70, 71, 72] (by decide +kernel) (by decide +kernel)
set_option maxRecDepth 20000 in
theorem gX2_work_X2_insert : GoodIn wsX2_work (wsV RX2 50 RX2 yX2_insert wsX2_insert) := goodIn_app (goodIn_of _ (by decide +kernel)) ggX2_work_X2_insert
set_option maxRecDepth 20000 in
theorem ggX2_work_X2_lowerMiddle : GoodIn wsX2_work wsX2_lowerMiddle := goodIn_r _ [67, 1, 63, 68, 69, 70, 71, 72] (by decide +kernel) (by decide +kernel)
set_option maxRecDepth 20000 in
theorem gX2_work_X2_lowerMiddle : GoodIn wsX2_work (wsV RX2 54 RX2 yX2_lowerMiddle wsX2_lowerMiddle) := goodIn_app (goodIn_of _ (by decide +kernel)) ggX2_work_X2_lowerMiddle
theorem dX2_work_0 : decode cX2_work 0 = .ok (.aload_n 0, 1) := by decide +kernel
theorem dX2_work_1 : decode cX2_work 1 = .ok (.iconst 0, 1) := by decide +kernel
theorem dX2_work_2 : decode cX2_work 2 = .ok (.putfield 15, 3) := by decide +kernel
theorem dX2_work_5 : decode cX2_work 5 = .ok (.aload_n 1, 1) := by decide +kernel
theorem dX2_work_6 : decode cX2_work 6 = .ok (.getfield 19, 3) := by decide +kernel
theorem dX2_work_9 : decode cX2_work 9 = .ok (.invokevirtual 25, 3) := by decide +kernel
theorem dX2_work_12 : decode cX2_work 12 = .ok (.istore 5, 2) := by decide +kernel
theorem dX2_work_14 : decode cX2_work 14 = .ok (.aload_n 3, 1) := by decide +kernel
theorem dX2_work_15 : decode cX2_work 15 = .ok (.astore 6, 2) := by decide +kernel
theorem dX2_work_17 : decode cX2_work 17 = .ok (.aload 6, 2) := by decide +kernel
theorem dX2_work_19 : decode cX2_work 19 = .ok (.arraylength, 1) := by decide +kernel
theorem dX2_work_20 : decode cX2_work 20 = .ok (.istore 7, 2) := by decide +kernel
theorem dX2_work_22 : decode cX2_work 22 = .ok (.iconst 0, 1) := by decide +kernel
theorem dX2_work_23 : decode cX2_work 23 = .ok (.istore 8, 2) := by decide +kernel
theorem dX2_work_25 : decode cX2_work 25 = .ok (.iload 8, 2) := by decide +kernel
theorem dX2_work_27 : decode cX2_work 27 = .ok (.iload 7, 2) := by decide +kernel
theorem dX2_work_29 : decode cX2_work 29 = .ok (.if_icmp .ge 51, 3) := by decide +kernel
theorem dX2_work_32 : decode cX2_work 32 = .ok (.aload 6, 2) := by decide +kernel
theorem dX2_work_34 : decode cX2_work 34 = .ok (.iload 8, 2) := by decide +kernel
theorem dX2_work_36 : decode cX2_work 36 = .ok (.aaload, 1) := by decide +kernel
theorem dX2_work_37 : decode cX2_work 37 = .ok (.astore 9, 2) := by decide +kernel
theorem dX2_work_39 : decode cX2_work 39 = .ok (.aload 9, 2) := by decide +kernel
theorem dX2_work_41 : decode cX2_work 41 = .ok (.ifnull 33, 3) := by decide +kernel
theorem dX2_work_44 : decode cX2_work 44 = .ok (.aload 9, 2) := by decide +kernel
theorem dX2_work_46 : decode cX2_work 46 = .ok (.aload_n 1, 1) := by decide +kernel
theorem dX2_work_47 : decode cX2_work 47 = .ok (.getfield 31, 3) := by decide +kernel
theorem dX2_work_50 : decode cX2_work 50 = .ok (.iload 4, 2) := by decide +kernel
theorem dX2_work_52 : decode cX2_work 52 = .ok (.invokevirtual 34, 3) := by decide +kernel
theorem dX2_work_55 : decode cX2_work 55 = .ok (.ifCond .eq 19, 3) := by decide +kernel
theorem dX2_work_58 : decode cX2_work 58 = .ok (.aload_n 0, 1) := by decide +kernel
theorem dX2_work_59 : decode cX2_work 59 = .ok (.aload 9, 2) := by decide +kernel
theorem dX2_work_61 : decode cX2_work 61 = .ok (.iload 5, 2) := by decide +kernel
theorem dX2_work_63 : decode cX2_work 63 = .ok (.aload_n 2, 1) := by decide +kernel
theorem dX2_work_64 : decode cX2_work 64 = .ok (.iconst 3, 1) := by decide +kernel
theorem dX2_work_65 : decode cX2_work 65 = .ok (.invokevirtual 40, 3) := by decide +kernel
theorem dX2_work_68 : decode cX2_work 68 = .ok (.invokevirtual 46, 3) := by decide +kernel
theorem dX2_work_71 : decode cX2_work 71 = .ok (.invokevirtual 50, 3) := by decide +kernel
theorem dX2_work_74 : decode cX2_work 74 = .ok (.iinc 8 1, 3) := by decide +kernel
theorem dX2_work_77 : decode cX2_work 77 = .ok (.goto (-52), 3) := by decide +kernel
theorem dX2_work_80 : decode cX2_work 80 = .ok (.aload_n 0, 1) := by decide +kernel
theorem dX2_work_81 : decode cX2_work 81 = .ok (.aload_n 0, 1) := by decide +kernel
theorem dX2_work_82 : decode cX2_work 82 = .ok (.invokevirtual 54, 3) := by decide +kernel
theorem dX2_work_85 : decode cX2_work 85 = .ok (.putfield 57, 3) := by decide +kernel
theorem dX2_work_88 : decode cX2_work 88 = .ok (.aload_n 0, 1) := by decide +kernel
theorem dX2_work_89 : decode cX2_work 89 = .ok (.aload_n 0, 1) := by decide +kernel
theorem dX2_work_90 : decode cX2_work 90 = .ok (.getfield 57, 3) := by decide +kernel
theorem dX2_work_93 : decode cX2_work 93 = .ok (.ifCond .ge 7, 3) := by decide +kernel
theorem dX2_work_96 : decode cX2_work 96 = .ok (.iconst 0, 1) := by decide +kernel
theorem dX2_work_97 : decode cX2_work 97 = .ok (.goto 20, 3) := by decide +kernel
theorem dX2_work_100 : decode cX2_work 100 = .ok (.aload_n 2, 1) := by decide +kernel
theorem dX2_work_101 : decode cX2_work 101 = .ok (.aload_n 1, 1) := by decide +kernel
theorem dX2_work_102 : decode cX2_work 102 = .ok (.getfield 31, 3) := by decide +kernel
theorem dX2_work_105 : decode cX2_work 105 = .ok (.invokevirtual 40, 3) := by decide +kernel
theorem dX2_work_108 : decode cX2_work 108 = .ok (.aload_n 0, 1) := by decide +kernel
theorem dX2_work_109 : decode cX2_work 109 = .ok (.getfield 57, 3) := by decide +kernel
theorem dX2_work_112 : decode cX2_work 112 = .ok (.imul, 1) := by decide +kernel
theorem dX2_work_113 : decode cX2_work 113 = .ok (.bipush 100, 2) := by decide +kernel
theorem dX2_work_115 : decode cX2_work 115 = .ok (.idiv, 1) := by decide +kernel
theorem dX2_work_116 : decode cX2_work 116 = .ok (.ineg, 1) := by decide +kernel
theorem dX2_work_117 : decode cX2_work 117 = .ok (.putfield 60, 3) := by decide +kernel
theorem dX2_work_120 : decode cX2_work 120 = .ok (.aload_n 0, 1) := by decide +kernel
theorem dX2_work_121 : decode cX2_work 121 = .ok (.aload_n 2, 1) := by decide +kernel
theorem dX2_work_122 : decode cX2_work 122 = .ok (.iconst 4, 1) := by decide +kernel
theorem dX2_work_123 : decode cX2_work 123 = .ok (.invokevirtual 40, 3) := by decide +kernel
theorem dX2_work_126 : decode cX2_work 126 = .ok (.aload_n 1, 1) := by decide +kernel
theorem dX2_work_127 : decode cX2_work 127 = .ok (.getfield 63, 3) := by decide +kernel
theorem dX2_work_130 : decode cX2_work 130 = .ok (.imul, 1) := by decide +kernel
theorem dX2_work_131 : decode cX2_work 131 = .ok (.ineg, 1) := by decide +kernel
theorem dX2_work_132 : decode cX2_work 132 = .ok (.putfield 66, 3) := by decide +kernel
theorem dX2_work_135 : decode cX2_work 135 = .ok (.return_, 1) := by decide +kernel
theorem dX2_fairRent_0 : decode cX2_fairRent 0 = .ok (.iconst 1, 1) := by decide +kernel
theorem dX2_fairRent_1 : decode cX2_fairRent 1 = .ok (.aload_n 0, 1) := by decide +kernel
theorem dX2_fairRent_2 : decode cX2_fairRent 2 = .ok (.getfield 57, 3) := by decide +kernel
theorem dX2_fairRent_5 : decode cX2_fairRent 5 = .ok (.aload_n 0, 1) := by decide +kernel
theorem dX2_fairRent_6 : decode cX2_fairRent 6 = .ok (.getfield 60, 3) := by decide +kernel
theorem dX2_fairRent_9 : decode cX2_fairRent 9 = .ok (.iadd, 1) := by decide +kernel
theorem dX2_fairRent_10 : decode cX2_fairRent 10 = .ok (.aload_n 0, 1) := by decide +kernel
theorem dX2_fairRent_11 : decode cX2_fairRent 11 = .ok (.getfield 66, 3) := by decide +kernel
theorem dX2_fairRent_14 : decode cX2_fairRent 14 = .ok (.iadd, 1) := by decide +kernel
theorem dX2_fairRent_15 : decode cX2_fairRent 15 = .ok (.invokestatic 69, 3) := by decide +kernel
theorem dX2_fairRent_18 : decode cX2_fairRent 18 = .ok (.ireturn, 1) := by decide +kernel
set_option maxRecDepth 20000 in
theorem ggX2_insert_X9_within : GoodIn wsX2_insert wsX9_within := goodIn_r _ [5] (by decide +kernel) (by decide +kernel)
set_option maxRecDepth 20000 in
theorem gX2_insert_X9_within_n74 : GoodIn wsX2_insert (wsX9_within) := ggX2_insert_X9_within
theorem dX2_insert_0 : decode cX2_insert 0 = .ok (.aload_n 0, 1) := by decide +kernel
theorem dX2_insert_1 : decode cX2_insert 1 = .ok (.getfield 15, 3) := by decide +kernel
theorem dX2_insert_4 : decode cX2_insert 4 = .ok (.iconst 0, 1) := by decide +kernel
theorem dX2_insert_5 : decode cX2_insert 5 = .ok (.aload_n 0, 1) := by decide +kernel
theorem dX2_insert_6 : decode cX2_insert 6 = .ok (.getfield 9, 3) := by decide +kernel
theorem dX2_insert_9 : decode cX2_insert 9 = .ok (.arraylength, 1) := by decide +kernel
theorem dX2_insert_10 : decode cX2_insert 10 = .ok (.iconst 1, 1) := by decide +kernel
theorem dX2_insert_11 : decode cX2_insert 11 = .ok (.isub, 1) := by decide +kernel
theorem dX2_insert_12 : decode cX2_insert 12 = .ok (.invokestatic 74, 3) := by decide +kernel
theorem dX2_insert_15 : decode cX2_insert 15 = .ok (.ifCond .ne 4, 3) := by decide +kernel
theorem dX2_insert_18 : decode cX2_insert 18 = .ok (.return_, 1) := by decide +kernel
theorem dX2_insert_19 : decode cX2_insert 19 = .ok (.aload_n 0, 1) := by decide +kernel
theorem dX2_insert_20 : decode cX2_insert 20 = .ok (.getfield 15, 3) := by decide +kernel
theorem dX2_insert_23 : decode cX2_insert 23 = .ok (.istore_n 2, 1) := by decide +kernel
theorem dX2_insert_24 : decode cX2_insert 24 = .ok (.iload_n 2, 1) := by decide +kernel
theorem dX2_insert_25 : decode cX2_insert 25 = .ok (.ifCond .le 35, 3) := by decide +kernel
theorem dX2_insert_28 : decode cX2_insert 28 = .ok (.aload_n 0, 1) := by decide +kernel
theorem dX2_insert_29 : decode cX2_insert 29 = .ok (.getfield 9, 3) := by decide +kernel
theorem dX2_insert_32 : decode cX2_insert 32 = .ok (.iload_n 2, 1) := by decide +kernel
theorem dX2_insert_33 : decode cX2_insert 33 = .ok (.iconst 1, 1) := by decide +kernel
theorem dX2_insert_34 : decode cX2_insert 34 = .ok (.isub, 1) := by decide +kernel
theorem dX2_insert_35 : decode cX2_insert 35 = .ok (.iaload, 1) := by decide +kernel
theorem dX2_insert_36 : decode cX2_insert 36 = .ok (.iload_n 1, 1) := by decide +kernel
theorem dX2_insert_37 : decode cX2_insert 37 = .ok (.if_icmp .le 23, 3) := by decide +kernel
theorem dX2_insert_40 : decode cX2_insert 40 = .ok (.aload_n 0, 1) := by decide +kernel
theorem dX2_insert_41 : decode cX2_insert 41 = .ok (.getfield 9, 3) := by decide +kernel
theorem dX2_insert_44 : decode cX2_insert 44 = .ok (.iload_n 2, 1) := by decide +kernel
theorem dX2_insert_45 : decode cX2_insert 45 = .ok (.aload_n 0, 1) := by decide +kernel
theorem dX2_insert_46 : decode cX2_insert 46 = .ok (.getfield 9, 3) := by decide +kernel
theorem dX2_insert_49 : decode cX2_insert 49 = .ok (.iload_n 2, 1) := by decide +kernel
theorem dX2_insert_50 : decode cX2_insert 50 = .ok (.iconst 1, 1) := by decide +kernel
theorem dX2_insert_51 : decode cX2_insert 51 = .ok (.isub, 1) := by decide +kernel
theorem dX2_insert_52 : decode cX2_insert 52 = .ok (.iaload, 1) := by decide +kernel
theorem dX2_insert_53 : decode cX2_insert 53 = .ok (.iastore, 1) := by decide +kernel
theorem dX2_insert_54 : decode cX2_insert 54 = .ok (.iinc 2 (-1), 3) := by decide +kernel
theorem dX2_insert_57 : decode cX2_insert 57 = .ok (.goto (-33), 3) := by decide +kernel
theorem dX2_insert_60 : decode cX2_insert 60 = .ok (.aload_n 0, 1) := by decide +kernel
theorem dX2_insert_61 : decode cX2_insert 61 = .ok (.getfield 9, 3) := by decide +kernel
theorem dX2_insert_64 : decode cX2_insert 64 = .ok (.iload_n 2, 1) := by decide +kernel
theorem dX2_insert_65 : decode cX2_insert 65 = .ok (.iload_n 1, 1) := by decide +kernel
theorem dX2_insert_66 : decode cX2_insert 66 = .ok (.iastore, 1) := by decide +kernel
theorem dX2_insert_67 : decode cX2_insert 67 = .ok (.aload_n 0, 1) := by decide +kernel
theorem dX2_insert_68 : decode cX2_insert 68 = .ok (.dup, 1) := by decide +kernel
theorem dX2_insert_69 : decode cX2_insert 69 = .ok (.getfield 15, 3) := by decide +kernel
theorem dX2_insert_72 : decode cX2_insert 72 = .ok (.iconst 1, 1) := by decide +kernel
theorem dX2_insert_73 : decode cX2_insert 73 = .ok (.iadd, 1) := by decide +kernel
theorem dX2_insert_74 : decode cX2_insert 74 = .ok (.putfield 15, 3) := by decide +kernel
theorem dX2_insert_77 : decode cX2_insert 77 = .ok (.return_, 1) := by decide +kernel
theorem dX2_lowerMiddle_0 : decode cX2_lowerMiddle 0 = .ok (.aload_n 0, 1) := by decide +kernel
theorem dX2_lowerMiddle_1 : decode cX2_lowerMiddle 1 = .ok (.getfield 15, 3) := by decide +kernel
theorem dX2_lowerMiddle_4 : decode cX2_lowerMiddle 4 = .ok (.iconst 1, 1) := by decide +kernel
theorem dX2_lowerMiddle_5 : decode cX2_lowerMiddle 5 = .ok (.isub, 1) := by decide +kernel
theorem dX2_lowerMiddle_6 : decode cX2_lowerMiddle 6 = .ok (.iconst 2, 1) := by decide +kernel
theorem dX2_lowerMiddle_7 : decode cX2_lowerMiddle 7 = .ok (.idiv, 1) := by decide +kernel
theorem dX2_lowerMiddle_8 : decode cX2_lowerMiddle 8 = .ok (.istore_n 1, 1) := by decide +kernel
theorem dX2_lowerMiddle_9 : decode cX2_lowerMiddle 9 = .ok (.aload_n 0, 1) := by decide +kernel
theorem dX2_lowerMiddle_10 : decode cX2_lowerMiddle 10 = .ok (.getfield 15, 3) := by decide +kernel
theorem dX2_lowerMiddle_13 : decode cX2_lowerMiddle 13 = .ok (.ifCond .le 21, 3) := by decide +kernel
theorem dX2_lowerMiddle_16 : decode cX2_lowerMiddle 16 = .ok (.iload_n 1, 1) := by decide +kernel
theorem dX2_lowerMiddle_17 : decode cX2_lowerMiddle 17 = .ok (.aload_n 0, 1) := by decide +kernel
theorem dX2_lowerMiddle_18 : decode cX2_lowerMiddle 18 = .ok (.getfield 9, 3) := by decide +kernel
theorem dX2_lowerMiddle_21 : decode cX2_lowerMiddle 21 = .ok (.arraylength, 1) := by decide +kernel
theorem dX2_lowerMiddle_22 : decode cX2_lowerMiddle 22 = .ok (.if_icmp .ge 12, 3) := by decide +kernel
theorem dX2_lowerMiddle_25 : decode cX2_lowerMiddle 25 = .ok (.aload_n 0, 1) := by decide +kernel
theorem dX2_lowerMiddle_26 : decode cX2_lowerMiddle 26 = .ok (.getfield 9, 3) := by decide +kernel
theorem dX2_lowerMiddle_29 : decode cX2_lowerMiddle 29 = .ok (.iload_n 1, 1) := by decide +kernel
theorem dX2_lowerMiddle_30 : decode cX2_lowerMiddle 30 = .ok (.iaload, 1) := by decide +kernel
theorem dX2_lowerMiddle_31 : decode cX2_lowerMiddle 31 = .ok (.goto 4, 3) := by decide +kernel
theorem dX2_lowerMiddle_34 : decode cX2_lowerMiddle 34 = .ok (.iconst 0, 1) := by decide +kernel
theorem dX2_lowerMiddle_35 : decode cX2_lowerMiddle 35 = .ok (.ireturn, 1) := by decide +kernel
set_option maxRecDepth 20000 in
theorem ggX3_init_X5_init : GoodIn wsX3_init wsX5_init := goodIn_r _ [11, 12, 2, 3, 13, 14, 19, 20, 21, 22, 23] (by decide +kernel) (by decide +kernel)
set_option maxRecDepth 20000 in
theorem gX3_init_X5_init_n19 : GoodIn wsX3_init (wsX5_init) := ggX3_init_X5_init
theorem dX3_init_0 : decode cX3_init 0 = .ok (.aload_n 0, 1) := by decide +kernel
theorem dX3_init_1 : decode cX3_init 1 = .ok (.invokespecial 1, 3) := by decide +kernel
theorem dX3_init_4 : decode cX3_init 4 = .ok (.aload_n 0, 1) := by decide +kernel
theorem dX3_init_5 : decode cX3_init 5 = .ok (.aload_n 1, 1) := by decide +kernel
theorem dX3_init_6 : decode cX3_init 6 = .ok (.putfield 7, 3) := by decide +kernel
theorem dX3_init_9 : decode cX3_init 9 = .ok (.aload_n 0, 1) := by decide +kernel
theorem dX3_init_10 : decode cX3_init 10 = .ok (.iload_n 2, 1) := by decide +kernel
theorem dX3_init_11 : decode cX3_init 11 = .ok (.putfield 13, 3) := by decide +kernel
theorem dX3_init_14 : decode cX3_init 14 = .ok (.aload_n 0, 1) := by decide +kernel
theorem dX3_init_15 : decode cX3_init 15 = .ok (.new 17, 3) := by decide +kernel
theorem dX3_init_18 : decode cX3_init 18 = .ok (.dup, 1) := by decide +kernel
theorem dX3_init_19 : decode cX3_init 19 = .ok (.invokespecial 19, 3) := by decide +kernel
theorem dX3_init_22 : decode cX3_init 22 = .ok (.putfield 20, 3) := by decide +kernel
theorem dX3_init_25 : decode cX3_init 25 = .ok (.return_, 1) := by decide +kernel
theorem dX4_init_0 : decode cX4_init 0 = .ok (.aload_n 0, 1) := by decide +kernel
theorem dX4_init_1 : decode cX4_init 1 = .ok (.invokespecial 3, 3) := by decide +kernel
theorem dX4_init_4 : decode cX4_init 4 = .ok (.aload_n 0, 1) := by decide +kernel
theorem dX4_init_5 : decode cX4_init 5 = .ok (.aload_n 1, 1) := by decide +kernel
theorem dX4_init_6 : decode cX4_init 6 = .ok (.putfield 9, 3) := by decide +kernel
theorem dX4_init_9 : decode cX4_init 9 = .ok (.return_, 1) := by decide +kernel
set_option maxRecDepth 20000 in
theorem ggX4_number_X9_within : GoodIn wsX4_number wsX9_within := goodIn_r _ [4] (by decide +kernel) (by decide +kernel)
set_option maxRecDepth 20000 in
theorem gX4_number_X9_within_n15 : GoodIn wsX4_number (wsX9_within) := ggX4_number_X9_within
theorem dX4_number_0 : decode cX4_number 0 = .ok (.iload_n 1, 1) := by decide +kernel
theorem dX4_number_1 : decode cX4_number 1 = .ok (.iconst 0, 1) := by decide +kernel
theorem dX4_number_2 : decode cX4_number 2 = .ok (.aload_n 0, 1) := by decide +kernel
theorem dX4_number_3 : decode cX4_number 3 = .ok (.getfield 9, 3) := by decide +kernel
theorem dX4_number_6 : decode cX4_number 6 = .ok (.arraylength, 1) := by decide +kernel
theorem dX4_number_7 : decode cX4_number 7 = .ok (.iconst 1, 1) := by decide +kernel
theorem dX4_number_8 : decode cX4_number 8 = .ok (.isub, 1) := by decide +kernel
theorem dX4_number_9 : decode cX4_number 9 = .ok (.invokestatic 15, 3) := by decide +kernel
theorem dX4_number_12 : decode cX4_number 12 = .ok (.ifCond .eq 12, 3) := by decide +kernel
theorem dX4_number_15 : decode cX4_number 15 = .ok (.aload_n 0, 1) := by decide +kernel
theorem dX4_number_16 : decode cX4_number 16 = .ok (.getfield 9, 3) := by decide +kernel
theorem dX4_number_19 : decode cX4_number 19 = .ok (.iload_n 1, 1) := by decide +kernel
theorem dX4_number_20 : decode cX4_number 20 = .ok (.iaload, 1) := by decide +kernel
theorem dX4_number_21 : decode cX4_number 21 = .ok (.goto 5, 3) := by decide +kernel
theorem dX4_number_24 : decode cX4_number 24 = .ok (.bipush (-9), 2) := by decide +kernel
theorem dX4_number_26 : decode cX4_number 26 = .ok (.ireturn, 1) := by decide +kernel
theorem dX5_init_0 : decode cX5_init 0 = .ok (.aload_n 0, 1) := by decide +kernel
theorem dX5_init_1 : decode cX5_init 1 = .ok (.invokespecial 3, 3) := by decide +kernel
theorem dX5_init_4 : decode cX5_init 4 = .ok (.aload_n 0, 1) := by decide +kernel
theorem dX5_init_5 : decode cX5_init 5 = .ok (.sipush 301, 3) := by decide +kernel
theorem dX5_init_8 : decode cX5_init 8 = .ok (.newarray .int, 2) := by decide +kernel
theorem dX5_init_10 : decode cX5_init 10 = .ok (.putfield 9, 3) := by decide +kernel
theorem dX5_init_13 : decode cX5_init 13 = .ok (.return_, 1) := by decide +kernel
theorem dX5_isLet_0 : decode cX5_isLet 0 = .ok (.aload_n 0, 1) := by decide +kernel
theorem dX5_isLet_1 : decode cX5_isLet 1 = .ok (.getfield 15, 3) := by decide +kernel
theorem dX5_isLet_4 : decode cX5_isLet 4 = .ok (.ifCond .le 7, 3) := by decide +kernel
theorem dX5_isLet_7 : decode cX5_isLet 7 = .ok (.iconst 1, 1) := by decide +kernel
theorem dX5_isLet_8 : decode cX5_isLet 8 = .ok (.goto 4, 3) := by decide +kernel
theorem dX5_isLet_11 : decode cX5_isLet 11 = .ok (.iconst 0, 1) := by decide +kernel
theorem dX5_isLet_12 : decode cX5_isLet 12 = .ok (.ireturn, 1) := by decide +kernel
set_option maxRecDepth 20000 in
theorem ggX5_covers_X5_isLet : GoodIn wsX5_covers wsX5_isLet := goodIn_r _ [6, 7, 8, 9, 10, 11, 12] (by decide +kernel) (by decide +kernel)
set_option maxRecDepth 20000 in
theorem gX5_covers_X5_isLet : GoodIn wsX5_covers (wsV RX5 19 RX5 yX5_isLet wsX5_isLet) := goodIn_app (goodIn_of _ (by decide +kernel)) ggX5_covers_X5_isLet
theorem dX5_covers_0 : decode cX5_covers 0 = .ok (.aload_n 0, 1) := by decide +kernel
theorem dX5_covers_1 : decode cX5_covers 1 = .ok (.invokevirtual 19, 3) := by decide +kernel
theorem dX5_covers_4 : decode cX5_covers 4 = .ok (.ifCond .eq 15, 3) := by decide +kernel
theorem dX5_covers_7 : decode cX5_covers 7 = .ok (.iload_n 1, 1) := by decide +kernel
theorem dX5_covers_8 : decode cX5_covers 8 = .ok (.aload_n 0, 1) := by decide +kernel
theorem dX5_covers_9 : decode cX5_covers 9 = .ok (.getfield 23, 3) := by decide +kernel
theorem dX5_covers_12 : decode cX5_covers 12 = .ok (.if_icmp .lt 7, 3) := by decide +kernel
theorem dX5_covers_15 : decode cX5_covers 15 = .ok (.iconst 1, 1) := by decide +kernel
theorem dX5_covers_16 : decode cX5_covers 16 = .ok (.goto 4, 3) := by decide +kernel
theorem dX5_covers_19 : decode cX5_covers 19 = .ok (.iconst 0, 1) := by decide +kernel
theorem dX5_covers_20 : decode cX5_covers 20 = .ok (.ireturn, 1) := by decide +kernel
theorem dX5_begin_0 : decode cX5_begin 0 = .ok (.aload_n 0, 1) := by decide +kernel
theorem dX5_begin_1 : decode cX5_begin 1 = .ok (.dup, 1) := by decide +kernel
theorem dX5_begin_2 : decode cX5_begin 2 = .ok (.getfield 15, 3) := by decide +kernel
theorem dX5_begin_5 : decode cX5_begin 5 = .ok (.iconst 1, 1) := by decide +kernel
theorem dX5_begin_6 : decode cX5_begin 6 = .ok (.iadd, 1) := by decide +kernel
theorem dX5_begin_7 : decode cX5_begin 7 = .ok (.putfield 15, 3) := by decide +kernel
theorem dX5_begin_10 : decode cX5_begin 10 = .ok (.aload_n 0, 1) := by decide +kernel
theorem dX5_begin_11 : decode cX5_begin 11 = .ok (.iload_n 1, 1) := by decide +kernel
theorem dX5_begin_12 : decode cX5_begin 12 = .ok (.putfield 23, 3) := by decide +kernel
theorem dX5_begin_15 : decode cX5_begin 15 = .ok (.aload_n 0, 1) := by decide +kernel
theorem dX5_begin_16 : decode cX5_begin 16 = .ok (.iload_n 2, 1) := by decide +kernel
theorem dX5_begin_17 : decode cX5_begin 17 = .ok (.putfield 26, 3) := by decide +kernel
theorem dX5_begin_20 : decode cX5_begin 20 = .ok (.aload_n 0, 1) := by decide +kernel
theorem dX5_begin_21 : decode cX5_begin 21 = .ok (.iconst 0, 1) := by decide +kernel
theorem dX5_begin_22 : decode cX5_begin 22 = .ok (.putfield 29, 3) := by decide +kernel
theorem dX5_begin_25 : decode cX5_begin 25 = .ok (.iconst 0, 1) := by decide +kernel
theorem dX5_begin_26 : decode cX5_begin 26 = .ok (.istore_n 3, 1) := by decide +kernel
theorem dX5_begin_27 : decode cX5_begin 27 = .ok (.iload_n 3, 1) := by decide +kernel
theorem dX5_begin_28 : decode cX5_begin 28 = .ok (.aload_n 0, 1) := by decide +kernel
theorem dX5_begin_29 : decode cX5_begin 29 = .ok (.getfield 9, 3) := by decide +kernel
theorem dX5_begin_32 : decode cX5_begin 32 = .ok (.arraylength, 1) := by decide +kernel
theorem dX5_begin_33 : decode cX5_begin 33 = .ok (.if_icmp .ge 16, 3) := by decide +kernel
theorem dX5_begin_36 : decode cX5_begin 36 = .ok (.aload_n 0, 1) := by decide +kernel
theorem dX5_begin_37 : decode cX5_begin 37 = .ok (.getfield 9, 3) := by decide +kernel
theorem dX5_begin_40 : decode cX5_begin 40 = .ok (.iload_n 3, 1) := by decide +kernel
theorem dX5_begin_41 : decode cX5_begin 41 = .ok (.iconst 0, 1) := by decide +kernel
theorem dX5_begin_42 : decode cX5_begin 42 = .ok (.iastore, 1) := by decide +kernel
theorem dX5_begin_43 : decode cX5_begin 43 = .ok (.iinc 3 1, 3) := by decide +kernel
theorem dX5_begin_46 : decode cX5_begin 46 = .ok (.goto (-19), 3) := by decide +kernel
theorem dX5_begin_49 : decode cX5_begin 49 = .ok (.return_, 1) := by decide +kernel
set_option maxRecDepth 20000 in
theorem ggX5_take_X9_within : GoodIn wsX5_take wsX9_within := goodIn_r _ [5] (by decide +kernel) (by decide +kernel)
set_option maxRecDepth 20000 in
theorem gX5_take_X9_within_n32 : GoodIn wsX5_take (wsX9_within) := ggX5_take_X9_within
theorem dX5_take_0 : decode cX5_take 0 = .ok (.iload_n 1, 1) := by decide +kernel
theorem dX5_take_1 : decode cX5_take 1 = .ok (.iconst 0, 1) := by decide +kernel
theorem dX5_take_2 : decode cX5_take 2 = .ok (.aload_n 0, 1) := by decide +kernel
theorem dX5_take_3 : decode cX5_take 3 = .ok (.getfield 9, 3) := by decide +kernel
theorem dX5_take_6 : decode cX5_take 6 = .ok (.arraylength, 1) := by decide +kernel
theorem dX5_take_7 : decode cX5_take 7 = .ok (.iconst 1, 1) := by decide +kernel
theorem dX5_take_8 : decode cX5_take 8 = .ok (.isub, 1) := by decide +kernel
theorem dX5_take_9 : decode cX5_take 9 = .ok (.invokestatic 32, 3) := by decide +kernel
theorem dX5_take_12 : decode cX5_take 12 = .ok (.ifCond .eq 23, 3) := by decide +kernel
theorem dX5_take_15 : decode cX5_take 15 = .ok (.aload_n 0, 1) := by decide +kernel
theorem dX5_take_16 : decode cX5_take 16 = .ok (.getfield 9, 3) := by decide +kernel
theorem dX5_take_19 : decode cX5_take 19 = .ok (.iload_n 1, 1) := by decide +kernel
theorem dX5_take_20 : decode cX5_take 20 = .ok (.dup2, 1) := by decide +kernel
theorem dX5_take_21 : decode cX5_take 21 = .ok (.iaload, 1) := by decide +kernel
theorem dX5_take_22 : decode cX5_take 22 = .ok (.iload_n 2, 1) := by decide +kernel
theorem dX5_take_23 : decode cX5_take 23 = .ok (.iadd, 1) := by decide +kernel
theorem dX5_take_24 : decode cX5_take 24 = .ok (.iastore, 1) := by decide +kernel
theorem dX5_take_25 : decode cX5_take 25 = .ok (.aload_n 0, 1) := by decide +kernel
theorem dX5_take_26 : decode cX5_take 26 = .ok (.dup, 1) := by decide +kernel
theorem dX5_take_27 : decode cX5_take 27 = .ok (.getfield 29, 3) := by decide +kernel
theorem dX5_take_30 : decode cX5_take 30 = .ok (.iload_n 2, 1) := by decide +kernel
theorem dX5_take_31 : decode cX5_take 31 = .ok (.iadd, 1) := by decide +kernel
theorem dX5_take_32 : decode cX5_take 32 = .ok (.putfield 29, 3) := by decide +kernel
theorem dX5_take_35 : decode cX5_take 35 = .ok (.return_, 1) := by decide +kernel
set_option maxRecDepth 20000 in
theorem ggX5_paidOn_X9_within : GoodIn wsX5_paidOn wsX9_within := goodIn_r _ [4] (by decide +kernel) (by decide +kernel)
set_option maxRecDepth 20000 in
theorem gX5_paidOn_X9_within_n32 : GoodIn wsX5_paidOn (wsX9_within) := ggX5_paidOn_X9_within
theorem dX5_paidOn_0 : decode cX5_paidOn 0 = .ok (.iload_n 1, 1) := by decide +kernel
theorem dX5_paidOn_1 : decode cX5_paidOn 1 = .ok (.iconst 0, 1) := by decide +kernel
theorem dX5_paidOn_2 : decode cX5_paidOn 2 = .ok (.aload_n 0, 1) := by decide +kernel
theorem dX5_paidOn_3 : decode cX5_paidOn 3 = .ok (.getfield 9, 3) := by decide +kernel
theorem dX5_paidOn_6 : decode cX5_paidOn 6 = .ok (.arraylength, 1) := by decide +kernel
theorem dX5_paidOn_7 : decode cX5_paidOn 7 = .ok (.iconst 1, 1) := by decide +kernel
theorem dX5_paidOn_8 : decode cX5_paidOn 8 = .ok (.isub, 1) := by decide +kernel
theorem dX5_paidOn_9 : decode cX5_paidOn 9 = .ok (.invokestatic 32, 3) := by decide +kernel
theorem dX5_paidOn_12 : decode cX5_paidOn 12 = .ok (.ifCond .eq 12, 3) := by decide +kernel
theorem dX5_paidOn_15 : decode cX5_paidOn 15 = .ok (.aload_n 0, 1) := by decide +kernel
theorem dX5_paidOn_16 : decode cX5_paidOn 16 = .ok (.getfield 9, 3) := by decide +kernel
theorem dX5_paidOn_19 : decode cX5_paidOn 19 = .ok (.iload_n 1, 1) := by decide +kernel
theorem dX5_paidOn_20 : decode cX5_paidOn 20 = .ok (.iaload, 1) := by decide +kernel
theorem dX5_paidOn_21 : decode cX5_paidOn 21 = .ok (.goto 4, 3) := by decide +kernel
theorem dX5_paidOn_24 : decode cX5_paidOn 24 = .ok (.iconst 0, 1) := by decide +kernel
theorem dX5_paidOn_25 : decode cX5_paidOn 25 = .ok (.ireturn, 1) := by decide +kernel
theorem dX6_init_0 : decode cX6_init 0 = .ok (.aload_n 0, 1) := by decide +kernel
theorem dX6_init_1 : decode cX6_init 1 = .ok (.invokespecial 1, 3) := by decide +kernel
theorem dX6_init_4 : decode cX6_init 4 = .ok (.aload_n 0, 1) := by decide +kernel
theorem dX6_init_5 : decode cX6_init 5 = .ok (.iload_n 1, 1) := by decide +kernel
theorem dX6_init_6 : decode cX6_init 6 = .ok (.putfield 7, 3) := by decide +kernel
theorem dX6_init_9 : decode cX6_init 9 = .ok (.aload_n 0, 1) := by decide +kernel
theorem dX6_init_10 : decode cX6_init 10 = .ok (.iload_n 2, 1) := by decide +kernel
theorem dX6_init_11 : decode cX6_init 11 = .ok (.putfield 13, 3) := by decide +kernel
theorem dX6_init_14 : decode cX6_init 14 = .ok (.aload_n 0, 1) := by decide +kernel
theorem dX6_init_15 : decode cX6_init 15 = .ok (.iload_n 3, 1) := by decide +kernel
theorem dX6_init_16 : decode cX6_init 16 = .ok (.putfield 16, 3) := by decide +kernel
theorem dX6_init_19 : decode cX6_init 19 = .ok (.aload_n 0, 1) := by decide +kernel
theorem dX6_init_20 : decode cX6_init 20 = .ok (.iload 4, 2) := by decide +kernel
theorem dX6_init_22 : decode cX6_init 22 = .ok (.putfield 19, 3) := by decide +kernel
theorem dX6_init_25 : decode cX6_init 25 = .ok (.return_, 1) := by decide +kernel
theorem dX6_countsFor_0 : decode cX6_countsFor 0 = .ok (.aload_n 0, 1) := by decide +kernel
theorem dX6_countsFor_1 : decode cX6_countsFor 1 = .ok (.getfield 22, 3) := by decide +kernel
theorem dX6_countsFor_4 : decode cX6_countsFor 4 = .ok (.ifCond .ne 23, 3) := by decide +kernel
theorem dX6_countsFor_7 : decode cX6_countsFor 7 = .ok (.aload_n 0, 1) := by decide +kernel
theorem dX6_countsFor_8 : decode cX6_countsFor 8 = .ok (.getfield 7, 3) := by decide +kernel
theorem dX6_countsFor_11 : decode cX6_countsFor 11 = .ok (.iload_n 1, 1) := by decide +kernel
theorem dX6_countsFor_12 : decode cX6_countsFor 12 = .ok (.if_icmp .ne 15, 3) := by decide +kernel
theorem dX6_countsFor_15 : decode cX6_countsFor 15 = .ok (.aload_n 0, 1) := by decide +kernel
theorem dX6_countsFor_16 : decode cX6_countsFor 16 = .ok (.getfield 19, 3) := by decide +kernel
theorem dX6_countsFor_19 : decode cX6_countsFor 19 = .ok (.iload_n 2, 1) := by decide +kernel
theorem dX6_countsFor_20 : decode cX6_countsFor 20 = .ok (.if_icmp .gt 7, 3) := by decide +kernel
theorem dX6_countsFor_23 : decode cX6_countsFor 23 = .ok (.iconst 1, 1) := by decide +kernel
theorem dX6_countsFor_24 : decode cX6_countsFor 24 = .ok (.goto 4, 3) := by decide +kernel
theorem dX6_countsFor_27 : decode cX6_countsFor 27 = .ok (.iconst 0, 1) := by decide +kernel
theorem dX6_countsFor_28 : decode cX6_countsFor 28 = .ok (.ireturn, 1) := by decide +kernel
theorem dX6_putRight_0 : decode cX6_putRight 0 = .ok (.aload_n 0, 1) := by decide +kernel
theorem dX6_putRight_1 : decode cX6_putRight 1 = .ok (.getfield 16, 3) := by decide +kernel
theorem dX6_putRight_4 : decode cX6_putRight 4 = .ok (.iload_n 2, 1) := by decide +kernel
theorem dX6_putRight_5 : decode cX6_putRight 5 = .ok (.iload_n 1, 1) := by decide +kernel
theorem dX6_putRight_6 : decode cX6_putRight 6 = .ok (.aload_n 0, 1) := by decide +kernel
theorem dX6_putRight_7 : decode cX6_putRight 7 = .ok (.getfield 13, 3) := by decide +kernel
theorem dX6_putRight_10 : decode cX6_putRight 10 = .ok (.isub, 1) := by decide +kernel
theorem dX6_putRight_11 : decode cX6_putRight 11 = .ok (.imul, 1) := by decide +kernel
theorem dX6_putRight_12 : decode cX6_putRight 12 = .ok (.iadd, 1) := by decide +kernel
theorem dX6_putRight_13 : decode cX6_putRight 13 = .ok (.ireturn, 1) := by decide +kernel
set_option maxRecDepth 20000 in
theorem ggX7_init_X1_init : GoodIn wsX7_init wsX1_init := goodIn_r _ [4, 5, 6, 7, 8, 9, 10, 11, 12, 13, 14, 15, 16, 17, 18] (by decide +kernel) (by decide +kernel)
set_option maxRecDepth 20000 in
theorem gX7_init_X1_init : GoodIn wsX7_init (wsX1_init) := ggX7_init_X1_init
theorem dX7_init_0 : decode cX7_init 0 = .ok (.aload_n 0, 1) := by decide +kernel
theorem dX7_init_1 : decode cX7_init 1 = .ok (.iload_n 1, 1) := by decide +kernel
theorem dX7_init_2 : decode cX7_init 2 = .ok (.iload_n 2, 1) := by decide +kernel
theorem dX7_init_3 : decode cX7_init 3 = .ok (.invokespecial 1, 3) := by decide +kernel
theorem dX7_init_6 : decode cX7_init 6 = .ok (.return_, 1) := by decide +kernel
set_option maxRecDepth 20000 in
theorem ggX7_worth_X1_worth : GoodIn wsX7_worth wsX1_worth := goodIn_r _ [6, 7, 8, 9, 10, 11, 12, 13, 14, 19, 20, 21, 22, 23] (by decide +kernel) (by decide +kernel)
set_option maxRecDepth 20000 in
theorem gX7_worth_X1_worth_s7 : GoodIn wsX7_worth (va_wsSU RX7 7 yX1_worth wsX1_worth) := goodIn_app (goodIn_of _ (by decide +kernel)) ggX7_worth_X1_worth
set_option maxRecDepth 20000 in
theorem ggX7_worth_J9_floorDiv_7cf53 : GoodIn wsX7_worth wsJ9_floorDiv_7cf53 := goodIn_r _ [18] (by decide +kernel) (by decide +kernel)
set_option maxRecDepth 20000 in
theorem gX7_worth_J9_floorDiv_7cf53 : GoodIn wsX7_worth (va_wsS RX7 11 yJ9_floorDiv_7cf53 wsJ9_floorDiv_7cf53) := goodIn_app (goodIn_of _ (by decide +kernel)) ggX7_worth_J9_floorDiv_7cf53
theorem dX7_worth_0 : decode cX7_worth 0 = .ok (.aload_n 0, 1) := by decide +kernel
theorem dX7_worth_1 : decode cX7_worth 1 = .ok (.invokespecial 7, 3) := by decide +kernel
theorem dX7_worth_4 : decode cX7_worth 4 = .ok (.istore_n 1, 1) := by decide +kernel
theorem dX7_worth_5 : decode cX7_worth 5 = .ok (.iload_n 1, 1) := by decide +kernel
theorem dX7_worth_6 : decode cX7_worth 6 = .ok (.iload_n 1, 1) := by decide +kernel
theorem dX7_worth_7 : decode cX7_worth 7 = .ok (.iconst 4, 1) := by decide +kernel
theorem dX7_worth_8 : decode cX7_worth 8 = .ok (.invokestatic 11, 3) := by decide +kernel
theorem dX7_worth_11 : decode cX7_worth 11 = .ok (.isub, 1) := by decide +kernel
theorem dX7_worth_12 : decode cX7_worth 12 = .ok (.ireturn, 1) := by decide +kernel
set_option maxRecDepth 20000 in
theorem ggX7_marks_X1_marks : GoodIn wsX7_marks wsX1_marks := goodIn_r _ [6, 7, 8, 9, 10, 11, 12] (by decide +kernel) (by decide +kernel)
set_option maxRecDepth 20000 in
theorem gX7_marks_X1_marks_s17 : GoodIn wsX7_marks (va_wsSU RX7 17 yX1_marks wsX1_marks) := goodIn_app (goodIn_of _ (by decide +kernel)) ggX7_marks_X1_marks
theorem dX7_marks_0 : decode cX7_marks 0 = .ok (.aload_n 0, 1) := by decide +kernel
theorem dX7_marks_1 : decode cX7_marks 1 = .ok (.invokespecial 17, 3) := by decide +kernel
theorem dX7_marks_4 : decode cX7_marks 4 = .ok (.bipush 100, 2) := by decide +kernel
theorem dX7_marks_6 : decode cX7_marks 6 = .ok (.iadd, 1) := by decide +kernel
theorem dX7_marks_7 : decode cX7_marks 7 = .ok (.ireturn, 1) := by decide +kernel
theorem dX8_init_0 : decode cX8_init 0 = .ok (.aload_n 0, 1) := by decide +kernel
theorem dX8_init_1 : decode cX8_init 1 = .ok (.invokespecial 1, 3) := by decide +kernel
theorem dX8_init_4 : decode cX8_init 4 = .ok (.aload_n 0, 1) := by decide +kernel
theorem dX8_init_5 : decode cX8_init 5 = .ok (.iload_n 1, 1) := by decide +kernel
theorem dX8_init_6 : decode cX8_init 6 = .ok (.putfield 7, 3) := by decide +kernel
theorem dX8_init_9 : decode cX8_init 9 = .ok (.return_, 1) := by decide +kernel
theorem dX8_worth_0 : decode cX8_worth 0 = .ok (.bipush 10, 2) := by decide +kernel
theorem dX8_worth_2 : decode cX8_worth 2 = .ok (.aload_n 0, 1) := by decide +kernel
theorem dX8_worth_3 : decode cX8_worth 3 = .ok (.getfield 7, 3) := by decide +kernel
theorem dX8_worth_6 : decode cX8_worth 6 = .ok (.imul, 1) := by decide +kernel
theorem dX8_worth_7 : decode cX8_worth 7 = .ok (.ireturn, 1) := by decide +kernel
theorem dX8_marks_0 : decode cX8_marks 0 = .ok (.iconst 1, 1) := by decide +kernel
theorem dX8_marks_1 : decode cX8_marks 1 = .ok (.ireturn, 1) := by decide +kernel
set_option maxRecDepth 20000 in
theorem ggX9_init_X4_init : GoodIn wsX9_init wsX4_init := goodIn_r _ [23, 24, 2, 3, 25, 42] (by decide +kernel) (by decide +kernel)
set_option maxRecDepth 20000 in
theorem gX9_init_X4_init : GoodIn wsX9_init (wsX4_init) := ggX9_init_X4_init
set_option maxRecDepth 20000 in
theorem ggX9_init_X2_init : GoodIn wsX9_init wsX2_init := goodIn_r _ [27, 28, 2, 3, 14, 29, 43, 44, 45, 46, 47] (by decide +kernel) (by decide +kernel)
set_option maxRecDepth 20000 in
theorem gX9_init_X2_init_n42 : GoodIn wsX9_init (wsX2_init) := ggX9_init_X2_init
theorem dX9_init_0 : decode cX9_init 0 = .ok (.aload_n 0, 1) := by decide +kernel
theorem dX9_init_1 : decode cX9_init 1 = .ok (.invokespecial 1, 3) := by decide +kernel
theorem dX9_init_4 : decode cX9_init 4 = .ok (.aload_n 0, 1) := by decide +kernel
theorem dX9_init_5 : decode cX9_init 5 = .ok (.bipush 8, 2) := by decide +kernel
theorem dX9_init_7 : decode cX9_init 7 = .ok (.anewarray 9, 3) := by decide +kernel
theorem dX9_init_10 : decode cX9_init 10 = .ok (.putfield 11, 3) := by decide +kernel
theorem dX9_init_13 : decode cX9_init 13 = .ok (.aload_n 0, 1) := by decide +kernel
theorem dX9_init_14 : decode cX9_init 14 = .ok (.bipush 12, 2) := by decide +kernel
theorem dX9_init_16 : decode cX9_init 16 = .ok (.anewarray 15, 3) := by decide +kernel
theorem dX9_init_19 : decode cX9_init 19 = .ok (.putfield 17, 3) := by decide +kernel
theorem dX9_init_22 : decode cX9_init 22 = .ok (.aload_n 0, 1) := by decide +kernel
theorem dX9_init_23 : decode cX9_init 23 = .ok (.bipush 20, 2) := by decide +kernel
theorem dX9_init_25 : decode cX9_init 25 = .ok (.anewarray 21, 3) := by decide +kernel
theorem dX9_init_28 : decode cX9_init 28 = .ok (.putfield 23, 3) := by decide +kernel
theorem dX9_init_31 : decode cX9_init 31 = .ok (.aload_n 0, 1) := by decide +kernel
theorem dX9_init_32 : decode cX9_init 32 = .ok (.bipush 31, 2) := by decide +kernel
theorem dX9_init_34 : decode cX9_init 34 = .ok (.anewarray 27, 3) := by decide +kernel
theorem dX9_init_37 : decode cX9_init 37 = .ok (.putfield 29, 3) := by decide +kernel
theorem dX9_init_40 : decode cX9_init 40 = .ok (.aload_n 0, 1) := by decide +kernel
theorem dX9_init_41 : decode cX9_init 41 = .ok (.new 27, 3) := by decide +kernel
theorem dX9_init_44 : decode cX9_init 44 = .ok (.dup, 1) := by decide +kernel
theorem dX9_init_45 : decode cX9_init 45 = .ok (.bipush 8, 2) := by decide +kernel
theorem dX9_init_47 : decode cX9_init 47 = .ok (.newarray .int, 2) := by decide +kernel
theorem dX9_init_49 : decode cX9_init 49 = .ok (.dup, 1) := by decide +kernel
theorem dX9_init_50 : decode cX9_init 50 = .ok (.iconst 0, 1) := by decide +kernel
theorem dX9_init_51 : decode cX9_init 51 = .ok (.iconst 0, 1) := by decide +kernel
theorem dX9_init_52 : decode cX9_init 52 = .ok (.iastore, 1) := by decide +kernel
theorem dX9_init_53 : decode cX9_init 53 = .ok (.dup, 1) := by decide +kernel
theorem dX9_init_54 : decode cX9_init 54 = .ok (.iconst 1, 1) := by decide +kernel
theorem dX9_init_55 : decode cX9_init 55 = .ok (.iconst 0, 1) := by decide +kernel
theorem dX9_init_56 : decode cX9_init 56 = .ok (.iastore, 1) := by decide +kernel
theorem dX9_init_57 : decode cX9_init 57 = .ok (.dup, 1) := by decide +kernel
theorem dX9_init_58 : decode cX9_init 58 = .ok (.iconst 2, 1) := by decide +kernel
theorem dX9_init_59 : decode cX9_init 59 = .ok (.iconst 0, 1) := by decide +kernel
theorem dX9_init_60 : decode cX9_init 60 = .ok (.iastore, 1) := by decide +kernel
theorem dX9_init_61 : decode cX9_init 61 = .ok (.dup, 1) := by decide +kernel
theorem dX9_init_62 : decode cX9_init 62 = .ok (.iconst 3, 1) := by decide +kernel
theorem dX9_init_63 : decode cX9_init 63 = .ok (.iconst 1, 1) := by decide +kernel
theorem dX9_init_64 : decode cX9_init 64 = .ok (.iastore, 1) := by decide +kernel
theorem dX9_init_65 : decode cX9_init 65 = .ok (.dup, 1) := by decide +kernel
theorem dX9_init_66 : decode cX9_init 66 = .ok (.iconst 4, 1) := by decide +kernel
theorem dX9_init_67 : decode cX9_init 67 = .ok (.iconst 0, 1) := by decide +kernel
theorem dX9_init_68 : decode cX9_init 68 = .ok (.iastore, 1) := by decide +kernel
theorem dX9_init_69 : decode cX9_init 69 = .ok (.dup, 1) := by decide +kernel
theorem dX9_init_70 : decode cX9_init 70 = .ok (.iconst 5, 1) := by decide +kernel
theorem dX9_init_71 : decode cX9_init 71 = .ok (.sipush 500, 3) := by decide +kernel
theorem dX9_init_74 : decode cX9_init 74 = .ok (.iastore, 1) := by decide +kernel
theorem dX9_init_75 : decode cX9_init 75 = .ok (.dup, 1) := by decide +kernel
theorem dX9_init_76 : decode cX9_init 76 = .ok (.bipush 6, 2) := by decide +kernel
theorem dX9_init_78 : decode cX9_init 78 = .ok (.bipush 20, 2) := by decide +kernel
theorem dX9_init_80 : decode cX9_init 80 = .ok (.iastore, 1) := by decide +kernel
theorem dX9_init_81 : decode cX9_init 81 = .ok (.dup, 1) := by decide +kernel
theorem dX9_init_82 : decode cX9_init 82 = .ok (.bipush 7, 2) := by decide +kernel
theorem dX9_init_84 : decode cX9_init 84 = .ok (.bipush (-9), 2) := by decide +kernel
theorem dX9_init_86 : decode cX9_init 86 = .ok (.iastore, 1) := by decide +kernel
theorem dX9_init_87 : decode cX9_init 87 = .ok (.invokespecial 33, 3) := by decide +kernel
theorem dX9_init_90 : decode cX9_init 90 = .ok (.putfield 36, 3) := by decide +kernel
theorem dX9_init_93 : decode cX9_init 93 = .ok (.aload_n 0, 1) := by decide +kernel
theorem dX9_init_94 : decode cX9_init 94 = .ok (.new 40, 3) := by decide +kernel
theorem dX9_init_97 : decode cX9_init 97 = .ok (.dup, 1) := by decide +kernel
theorem dX9_init_98 : decode cX9_init 98 = .ok (.invokespecial 42, 3) := by decide +kernel
theorem dX9_init_101 : decode cX9_init 101 = .ok (.putfield 43, 3) := by decide +kernel
theorem dX9_init_104 : decode cX9_init 104 = .ok (.aload_n 0, 1) := by decide +kernel
theorem dX9_init_105 : decode cX9_init 105 = .ok (.sipush 301, 3) := by decide +kernel
theorem dX9_init_108 : decode cX9_init 108 = .ok (.newarray .int, 2) := by decide +kernel
theorem dX9_init_110 : decode cX9_init 110 = .ok (.putfield 47, 3) := by decide +kernel
theorem dX9_init_113 : decode cX9_init 113 = .ok (.return_, 1) := by decide +kernel
set_option maxRecDepth 20000 in
theorem ggX9_home_X9_within : GoodIn wsX9_home wsX9_within := goodIn_r _ [9] (by decide +kernel) (by decide +kernel)
set_option maxRecDepth 20000 in
theorem gX9_home_X9_within : GoodIn wsX9_home (va_wsS RX9 51 yX9_within wsX9_within) := goodIn_app (goodIn_of _ (by decide +kernel)) ggX9_home_X9_within
set_option maxRecDepth 20000 in
theorem ggX9_home_X9_bodyOf : GoodIn wsX9_home wsX9_bodyOf := goodIn_r _ [12, 13, 14, 15, 16, 17, 18, 19, 20, 21, 22, 23, 24, 25, 26, 27, 28, 29, 30, 31, 32, 33, 34, 35, 36, 37, 69, 70, 71, 72, 73] (by decide +kernel) (by decide +kernel)
set_option maxRecDepth 20000 in
theorem gX9_home_X9_bodyOf : GoodIn wsX9_home (va_wsS RX9 59 yX9_bodyOf wsX9_bodyOf) := goodIn_app (goodIn_of _ (by decide +kernel)) ggX9_home_X9_bodyOf
set_option maxRecDepth 20000 in
theorem ggX9_home_X3_init : GoodIn wsX9_home wsX3_init := goodIn_r _ [40, 41, 26, 27, 42, 43, 44, 45, 46, 47, 48, 49, 50, 51, 52, 65, 66, 67, 68, 74, 75, 76, 77, 78] (by decide +kernel) (by decide +kernel)
set_option maxRecDepth 20000 in
theorem gX9_home_X3_init : GoodIn wsX9_home (wsX3_init) := ggX9_home_X3_init
theorem dX9_home_0 : decode cX9_home 0 = .ok (.iload_n 1, 1) := by decide +kernel
theorem dX9_home_1 : decode cX9_home 1 = .ok (.iconst 0, 1) := by decide +kernel
theorem dX9_home_2 : decode cX9_home 2 = .ok (.iconst 2, 1) := by decide +kernel
theorem dX9_home_3 : decode cX9_home 3 = .ok (.invokestatic 51, 3) := by decide +kernel
theorem dX9_home_6 : decode cX9_home 6 = .ok (.ifCond .eq 33, 3) := by decide +kernel
theorem dX9_home_9 : decode cX9_home 9 = .ok (.iload_n 2, 1) := by decide +kernel
theorem dX9_home_10 : decode cX9_home 10 = .ok (.iconst 0, 1) := by decide +kernel
theorem dX9_home_11 : decode cX9_home 11 = .ok (.iconst 2, 1) := by decide +kernel
theorem dX9_home_12 : decode cX9_home 12 = .ok (.invokestatic 51, 3) := by decide +kernel
theorem dX9_home_15 : decode cX9_home 15 = .ok (.ifCond .eq 24, 3) := by decide +kernel
theorem dX9_home_18 : decode cX9_home 18 = .ok (.iload_n 3, 1) := by decide +kernel
theorem dX9_home_19 : decode cX9_home 19 = .ok (.iconst 1, 1) := by decide +kernel
theorem dX9_home_20 : decode cX9_home 20 = .ok (.bipush 9, 2) := by decide +kernel
theorem dX9_home_22 : decode cX9_home 22 = .ok (.invokestatic 51, 3) := by decide +kernel
theorem dX9_home_25 : decode cX9_home 25 = .ok (.ifCond .eq 14, 3) := by decide +kernel
theorem dX9_home_28 : decode cX9_home 28 = .ok (.iload 4, 2) := by decide +kernel
theorem dX9_home_30 : decode cX9_home 30 = .ok (.iconst 0, 1) := by decide +kernel
theorem dX9_home_31 : decode cX9_home 31 = .ok (.bipush 9, 2) := by decide +kernel
theorem dX9_home_33 : decode cX9_home 33 = .ok (.invokestatic 51, 3) := by decide +kernel
theorem dX9_home_36 : decode cX9_home 36 = .ok (.ifCond .ne 5, 3) := by decide +kernel
theorem dX9_home_39 : decode cX9_home 39 = .ok (.iconst (-1), 1) := by decide +kernel
theorem dX9_home_40 : decode cX9_home 40 = .ok (.ireturn, 1) := by decide +kernel
theorem dX9_home_41 : decode cX9_home 41 = .ok (.aload_n 0, 1) := by decide +kernel
theorem dX9_home_42 : decode cX9_home 42 = .ok (.getfield 55, 3) := by decide +kernel
theorem dX9_home_45 : decode cX9_home 45 = .ok (.aload_n 0, 1) := by decide +kernel
theorem dX9_home_46 : decode cX9_home 46 = .ok (.getfield 11, 3) := by decide +kernel
theorem dX9_home_49 : decode cX9_home 49 = .ok (.arraylength, 1) := by decide +kernel
theorem dX9_home_50 : decode cX9_home 50 = .ok (.if_icmp .lt 6, 3) := by decide +kernel
theorem dX9_home_53 : decode cX9_home 53 = .ok (.bipush (-3), 2) := by decide +kernel
theorem dX9_home_55 : decode cX9_home 55 = .ok (.ireturn, 1) := by decide +kernel
theorem dX9_home_56 : decode cX9_home 56 = .ok (.aload_n 0, 1) := by decide +kernel
theorem dX9_home_57 : decode cX9_home 57 = .ok (.getfield 11, 3) := by decide +kernel
theorem dX9_home_60 : decode cX9_home 60 = .ok (.aload_n 0, 1) := by decide +kernel
theorem dX9_home_61 : decode cX9_home 61 = .ok (.getfield 55, 3) := by decide +kernel
theorem dX9_home_64 : decode cX9_home 64 = .ok (.new 9, 3) := by decide +kernel
theorem dX9_home_67 : decode cX9_home 67 = .ok (.dup, 1) := by decide +kernel
theorem dX9_home_68 : decode cX9_home 68 = .ok (.iload_n 1, 1) := by decide +kernel
theorem dX9_home_69 : decode cX9_home 69 = .ok (.iload_n 3, 1) := by decide +kernel
theorem dX9_home_70 : decode cX9_home 70 = .ok (.iload 4, 2) := by decide +kernel
theorem dX9_home_72 : decode cX9_home 72 = .ok (.invokestatic 59, 3) := by decide +kernel
theorem dX9_home_75 : decode cX9_home 75 = .ok (.iload_n 2, 1) := by decide +kernel
theorem dX9_home_76 : decode cX9_home 76 = .ok (.invokespecial 63, 3) := by decide +kernel
theorem dX9_home_79 : decode cX9_home 79 = .ok (.aastore, 1) := by decide +kernel
theorem dX9_home_80 : decode cX9_home 80 = .ok (.aload_n 0, 1) := by decide +kernel
theorem dX9_home_81 : decode cX9_home 81 = .ok (.dup, 1) := by decide +kernel
theorem dX9_home_82 : decode cX9_home 82 = .ok (.getfield 55, 3) := by decide +kernel
theorem dX9_home_85 : decode cX9_home 85 = .ok (.iconst 1, 1) := by decide +kernel
theorem dX9_home_86 : decode cX9_home 86 = .ok (.iadd, 1) := by decide +kernel
theorem dX9_home_87 : decode cX9_home 87 = .ok (.putfield 55, 3) := by decide +kernel
theorem dX9_home_90 : decode cX9_home 90 = .ok (.aload_n 0, 1) := by decide +kernel
theorem dX9_home_91 : decode cX9_home 91 = .ok (.getfield 55, 3) := by decide +kernel
theorem dX9_home_94 : decode cX9_home 94 = .ok (.iconst 1, 1) := by decide +kernel
theorem dX9_home_95 : decode cX9_home 95 = .ok (.isub, 1) := by decide +kernel
theorem dX9_home_96 : decode cX9_home 96 = .ok (.ireturn, 1) := by decide +kernel
set_option maxRecDepth 20000 in
theorem ggX9_faults_X9_homeAt : GoodIn wsX9_faults wsX9_homeAt := goodIn_r _ [6, 7, 8, 9, 5, 10, 15, 16, 17, 18, 19, 20, 21, 22, 23, 24, 25, 26] (by decide +kernel) (by decide +kernel)
set_option maxRecDepth 20000 in
theorem gX9_faults_X9_homeAt : GoodIn wsX9_faults (wsV RX9 66 RX9 yX9_homeAt wsX9_homeAt) := goodIn_app (goodIn_of _ (by decide +kernel)) ggX9_faults_X9_homeAt
set_option maxRecDepth 20000 in
theorem ggX9_faults_X9_within : GoodIn wsX9_faults wsX9_within := goodIn_r _ [10] (by decide +kernel) (by decide +kernel)
set_option maxRecDepth 20000 in
theorem gX9_faults_X9_within : GoodIn wsX9_faults (va_wsS RX9 51 yX9_within wsX9_within) := goodIn_app (goodIn_of _ (by decide +kernel)) ggX9_faults_X9_within
theorem dX9_faults_0 : decode cX9_faults 0 = .ok (.aload_n 0, 1) := by decide +kernel
theorem dX9_faults_1 : decode cX9_faults 1 = .ok (.iload_n 1, 1) := by decide +kernel
theorem dX9_faults_2 : decode cX9_faults 2 = .ok (.invokevirtual 66, 3) := by decide +kernel
theorem dX9_faults_5 : decode cX9_faults 5 = .ok (.astore_n 3, 1) := by decide +kernel
theorem dX9_faults_6 : decode cX9_faults 6 = .ok (.aload_n 3, 1) := by decide +kernel
theorem dX9_faults_7 : decode cX9_faults 7 = .ok (.ifnull 13, 3) := by decide +kernel
theorem dX9_faults_10 : decode cX9_faults 10 = .ok (.iload_n 2, 1) := by decide +kernel
theorem dX9_faults_11 : decode cX9_faults 11 = .ok (.iconst 0, 1) := by decide +kernel
theorem dX9_faults_12 : decode cX9_faults 12 = .ok (.bipush 9, 2) := by decide +kernel
theorem dX9_faults_14 : decode cX9_faults 14 = .ok (.invokestatic 51, 3) := by decide +kernel
theorem dX9_faults_17 : decode cX9_faults 17 = .ok (.ifCond .ne 5, 3) := by decide +kernel
theorem dX9_faults_20 : decode cX9_faults 20 = .ok (.iconst (-1), 1) := by decide +kernel
theorem dX9_faults_21 : decode cX9_faults 21 = .ok (.ireturn, 1) := by decide +kernel
theorem dX9_faults_22 : decode cX9_faults 22 = .ok (.aload_n 3, 1) := by decide +kernel
theorem dX9_faults_23 : decode cX9_faults 23 = .ok (.getfield 70, 3) := by decide +kernel
theorem dX9_faults_26 : decode cX9_faults 26 = .ok (.istore 4, 2) := by decide +kernel
theorem dX9_faults_28 : decode cX9_faults 28 = .ok (.aload_n 3, 1) := by decide +kernel
theorem dX9_faults_29 : decode cX9_faults 29 = .ok (.iload_n 2, 1) := by decide +kernel
theorem dX9_faults_30 : decode cX9_faults 30 = .ok (.putfield 70, 3) := by decide +kernel
theorem dX9_faults_33 : decode cX9_faults 33 = .ok (.iload 4, 2) := by decide +kernel
theorem dX9_faults_35 : decode cX9_faults 35 = .ok (.ireturn, 1) := by decide +kernel
set_option maxRecDepth 20000 in
theorem ggX9_points_X9_homeAt : GoodIn wsX9_points wsX9_homeAt := goodIn_r _ [7, 8, 9, 10, 6, 11, 55, 56, 57, 58, 59, 60, 61, 62, 63, 64, 65, 66] (by decide +kernel) (by decide +kernel)
set_option maxRecDepth 20000 in
theorem gX9_points_X9_homeAt : GoodIn wsX9_points (wsV RX9 66 RX9 yX9_homeAt wsX9_homeAt) := goodIn_app (goodIn_of _ (by decide +kernel)) ggX9_points_X9_homeAt
set_option maxRecDepth 20000 in
theorem ggX9_points_X1_marks : GoodIn wsX9_points wsX1_marks := goodIn_r _ [18, 19, 13, 20, 21, 22, 23] (by decide +kernel) (by decide +kernel)
set_option maxRecDepth 20000 in
theorem gX9_points_X1_marks_u81X1 : GoodIn wsX9_points (va_wsO RX9 81 RX1 "FairRents$Plain" ⟨"FairRents$Plain", "marks", "()I"⟩ yX1_marks wsX1_marks) := goodIn_app (goodIn_of _ (by decide +kernel)) ggX9_points_X1_marks
set_option maxRecDepth 20000 in
theorem ggX9_points_X7_marks : GoodIn wsX9_points wsX7_marks := goodIn_r _ [27, 28, 29, 30, 16, 17, 18, 19, 13, 20, 21, 22, 23] (by decide +kernel) (by decide +kernel)
set_option maxRecDepth 20000 in
theorem gX9_points_X7_marks_u81X7 : GoodIn wsX9_points (va_wsO RX9 81 RX7 "FairRents$Plain" ⟨"FairRents$Plain", "marks", "()I"⟩ yX7_marks wsX7_marks) := goodIn_app (goodIn_of _ (by decide +kernel)) ggX9_points_X7_marks
set_option maxRecDepth 20000 in
theorem ggX9_points_X8_marks : GoodIn wsX9_points wsX8_marks := goodIn_r _ [23] (by decide +kernel) (by decide +kernel)
set_option maxRecDepth 20000 in
theorem gX9_points_X8_marks : GoodIn wsX9_points (wsV RX9 81 RX8 yX8_marks wsX8_marks) := goodIn_app (goodIn_of _ (by decide +kernel)) ggX9_points_X8_marks
set_option maxRecDepth 20000 in
theorem ggX9_points_X1_worth : GoodIn wsX9_points wsX1_worth := goodIn_r _ [38, 39, 40, 34, 20, 41, 22, 42, 43, 71, 72, 73, 74, 75] (by decide +kernel) (by decide +kernel)
set_option maxRecDepth 20000 in
theorem gX9_points_X1_worth_u87X1 : GoodIn wsX9_points (va_wsO RX9 87 RX1 "FairRents$Plain" ⟨"FairRents$Plain", "worth", "()I"⟩ yX1_worth wsX1_worth) := goodIn_app (goodIn_of _ (by decide +kernel)) ggX9_points_X1_worth
set_option maxRecDepth 20000 in
theorem ggX9_points_X7_worth : GoodIn wsX9_points wsX7_worth := goodIn_r _ [46, 47, 48, 30, 37, 17, 38, 39, 40, 34, 20, 41, 22, 42, 43, 49, 50, 51, 52, 71, 72, 73, 74, 75] (by decide +kernel) (by decide +kernel)
set_option maxRecDepth 20000 in
theorem gX9_points_X7_worth_u87X7 : GoodIn wsX9_points (va_wsO RX9 87 RX7 "FairRents$Plain" ⟨"FairRents$Plain", "worth", "()I"⟩ yX7_worth wsX7_worth) := goodIn_app (goodIn_of _ (by decide +kernel)) ggX9_points_X7_worth
set_option maxRecDepth 20000 in
theorem ggX9_points_X8_worth : GoodIn wsX9_points wsX8_worth := goodIn_r _ [42, 43, 71, 72, 73, 74, 75] (by decide +kernel) (by decide +kernel)
set_option maxRecDepth 20000 in
theorem gX9_points_X8_worth : GoodIn wsX9_points (wsV RX9 87 RX8 yX8_worth wsX8_worth) := goodIn_app (goodIn_of _ (by decide +kernel)) ggX9_points_X8_worth
theorem dX9_points_0 : decode cX9_points 0 = .ok (.aload_n 0, 1) := by decide +kernel
theorem dX9_points_1 : decode cX9_points 1 = .ok (.iload_n 1, 1) := by decide +kernel
theorem dX9_points_2 : decode cX9_points 2 = .ok (.invokevirtual 66, 3) := by decide +kernel
theorem dX9_points_5 : decode cX9_points 5 = .ok (.astore_n 2, 1) := by decide +kernel
theorem dX9_points_6 : decode cX9_points 6 = .ok (.aload_n 2, 1) := by decide +kernel
theorem dX9_points_7 : decode cX9_points 7 = .ok (.ifnonnull 5, 3) := by decide +kernel
theorem dX9_points_10 : decode cX9_points 10 = .ok (.iconst (-1), 1) := by decide +kernel
theorem dX9_points_11 : decode cX9_points 11 = .ok (.ireturn, 1) := by decide +kernel
theorem dX9_points_12 : decode cX9_points 12 = .ok (.aload_n 0, 1) := by decide +kernel
theorem dX9_points_13 : decode cX9_points 13 = .ok (.dup, 1) := by decide +kernel
theorem dX9_points_14 : decode cX9_points 14 = .ok (.getfield 73, 3) := by decide +kernel
theorem dX9_points_17 : decode cX9_points 17 = .ok (.aload_n 2, 1) := by decide +kernel
theorem dX9_points_18 : decode cX9_points 18 = .ok (.getfield 77, 3) := by decide +kernel
theorem dX9_points_21 : decode cX9_points 21 = .ok (.invokevirtual 81, 3) := by decide +kernel
theorem dX9_points_24 : decode cX9_points 24 = .ok (.i2l, 1) := by decide +kernel
theorem dX9_points_25 : decode cX9_points 25 = .ok (.ladd, 1) := by decide +kernel
theorem dX9_points_26 : decode cX9_points 26 = .ok (.putfield 73, 3) := by decide +kernel
theorem dX9_points_29 : decode cX9_points 29 = .ok (.aload_n 2, 1) := by decide +kernel
theorem dX9_points_30 : decode cX9_points 30 = .ok (.getfield 77, 3) := by decide +kernel
theorem dX9_points_33 : decode cX9_points 33 = .ok (.invokevirtual 87, 3) := by decide +kernel
theorem dX9_points_36 : decode cX9_points 36 = .ok (.ireturn, 1) := by decide +kernel
set_option maxRecDepth 20000 in
theorem ggX9_law_X9_lawful : GoodIn wsX9_law wsX9_lawful := goodIn_r _ [10, 11, 12, 13, 14, 9, 15] (by decide +kernel) (by decide +kernel)
set_option maxRecDepth 20000 in
theorem gX9_law_X9_lawful : GoodIn wsX9_law (va_wsS RX9 90 yX9_lawful wsX9_lawful) := goodIn_app (goodIn_of _ (by decide +kernel)) ggX9_law_X9_lawful
set_option maxRecDepth 20000 in
theorem ggX9_law_X9_within : GoodIn wsX9_law wsX9_within := goodIn_r _ [15] (by decide +kernel) (by decide +kernel)
set_option maxRecDepth 20000 in
theorem gX9_law_X9_within : GoodIn wsX9_law (va_wsS RX9 51 yX9_within wsX9_within) := goodIn_app (goodIn_of _ (by decide +kernel)) ggX9_law_X9_within
set_option maxRecDepth 20000 in
theorem ggX9_law_X4_init : GoodIn wsX9_law wsX4_init := goodIn_r _ [18, 19, 20, 21, 22, 35] (by decide +kernel) (by decide +kernel)
set_option maxRecDepth 20000 in
theorem gX9_law_X4_init : GoodIn wsX9_law (wsX4_init) := ggX9_law_X4_init
theorem dX9_law_0 : decode cX9_law 0 = .ok (.bipush 8, 2) := by decide +kernel
theorem dX9_law_2 : decode cX9_law 2 = .ok (.newarray .int, 2) := by decide +kernel
theorem dX9_law_4 : decode cX9_law 4 = .ok (.dup, 1) := by decide +kernel
theorem dX9_law_5 : decode cX9_law 5 = .ok (.iconst 0, 1) := by decide +kernel
theorem dX9_law_6 : decode cX9_law 6 = .ok (.iload_n 2, 1) := by decide +kernel
theorem dX9_law_7 : decode cX9_law 7 = .ok (.iastore, 1) := by decide +kernel
theorem dX9_law_8 : decode cX9_law 8 = .ok (.dup, 1) := by decide +kernel
theorem dX9_law_9 : decode cX9_law 9 = .ok (.iconst 1, 1) := by decide +kernel
theorem dX9_law_10 : decode cX9_law 10 = .ok (.iload_n 3, 1) := by decide +kernel
theorem dX9_law_11 : decode cX9_law 11 = .ok (.iastore, 1) := by decide +kernel
theorem dX9_law_12 : decode cX9_law 12 = .ok (.dup, 1) := by decide +kernel
theorem dX9_law_13 : decode cX9_law 13 = .ok (.iconst 2, 1) := by decide +kernel
theorem dX9_law_14 : decode cX9_law 14 = .ok (.iload 4, 2) := by decide +kernel
theorem dX9_law_16 : decode cX9_law 16 = .ok (.iastore, 1) := by decide +kernel
theorem dX9_law_17 : decode cX9_law 17 = .ok (.dup, 1) := by decide +kernel
theorem dX9_law_18 : decode cX9_law 18 = .ok (.iconst 3, 1) := by decide +kernel
theorem dX9_law_19 : decode cX9_law 19 = .ok (.iload 5, 2) := by decide +kernel
theorem dX9_law_21 : decode cX9_law 21 = .ok (.iastore, 1) := by decide +kernel
theorem dX9_law_22 : decode cX9_law 22 = .ok (.dup, 1) := by decide +kernel
theorem dX9_law_23 : decode cX9_law 23 = .ok (.iconst 4, 1) := by decide +kernel
theorem dX9_law_24 : decode cX9_law 24 = .ok (.iload 6, 2) := by decide +kernel
theorem dX9_law_26 : decode cX9_law 26 = .ok (.iastore, 1) := by decide +kernel
theorem dX9_law_27 : decode cX9_law 27 = .ok (.dup, 1) := by decide +kernel
theorem dX9_law_28 : decode cX9_law 28 = .ok (.iconst 5, 1) := by decide +kernel
theorem dX9_law_29 : decode cX9_law 29 = .ok (.iload 7, 2) := by decide +kernel
theorem dX9_law_31 : decode cX9_law 31 = .ok (.iastore, 1) := by decide +kernel
theorem dX9_law_32 : decode cX9_law 32 = .ok (.dup, 1) := by decide +kernel
theorem dX9_law_33 : decode cX9_law 33 = .ok (.bipush 6, 2) := by decide +kernel
theorem dX9_law_35 : decode cX9_law 35 = .ok (.iload 8, 2) := by decide +kernel
theorem dX9_law_37 : decode cX9_law 37 = .ok (.iastore, 1) := by decide +kernel
theorem dX9_law_38 : decode cX9_law 38 = .ok (.dup, 1) := by decide +kernel
theorem dX9_law_39 : decode cX9_law 39 = .ok (.bipush 7, 2) := by decide +kernel
theorem dX9_law_41 : decode cX9_law 41 = .ok (.iload_n 1, 1) := by decide +kernel
theorem dX9_law_42 : decode cX9_law 42 = .ok (.iastore, 1) := by decide +kernel
theorem dX9_law_43 : decode cX9_law 43 = .ok (.astore 9, 2) := by decide +kernel
theorem dX9_law_45 : decode cX9_law 45 = .ok (.aload 9, 2) := by decide +kernel
theorem dX9_law_47 : decode cX9_law 47 = .ok (.invokestatic 90, 3) := by decide +kernel
theorem dX9_law_50 : decode cX9_law 50 = .ok (.ifCond .eq 18, 3) := by decide +kernel
theorem dX9_law_53 : decode cX9_law 53 = .ok (.iload_n 1, 1) := by decide +kernel
theorem dX9_law_54 : decode cX9_law 54 = .ok (.iconst 0, 1) := by decide +kernel
theorem dX9_law_55 : decode cX9_law 55 = .ok (.aload_n 0, 1) := by decide +kernel
theorem dX9_law_56 : decode cX9_law 56 = .ok (.getfield 29, 3) := by decide +kernel
theorem dX9_law_59 : decode cX9_law 59 = .ok (.arraylength, 1) := by decide +kernel
theorem dX9_law_60 : decode cX9_law 60 = .ok (.iconst 1, 1) := by decide +kernel
theorem dX9_law_61 : decode cX9_law 61 = .ok (.isub, 1) := by decide +kernel
theorem dX9_law_62 : decode cX9_law 62 = .ok (.invokestatic 51, 3) := by decide +kernel
theorem dX9_law_65 : decode cX9_law 65 = .ok (.ifCond .ne 5, 3) := by decide +kernel
theorem dX9_law_68 : decode cX9_law 68 = .ok (.iconst (-1), 1) := by decide +kernel
theorem dX9_law_69 : decode cX9_law 69 = .ok (.ireturn, 1) := by decide +kernel
theorem dX9_law_70 : decode cX9_law 70 = .ok (.iload_n 1, 1) := by decide +kernel
theorem dX9_law_71 : decode cX9_law 71 = .ok (.bipush 10, 2) := by decide +kernel
theorem dX9_law_73 : decode cX9_law 73 = .ok (.imul, 1) := by decide +kernel
theorem dX9_law_74 : decode cX9_law 74 = .ok (.aload_n 0, 1) := by decide +kernel
theorem dX9_law_75 : decode cX9_law 75 = .ok (.getfield 94, 3) := by decide +kernel
theorem dX9_law_78 : decode cX9_law 78 = .ok (.if_icmp .gt 6, 3) := by decide +kernel
theorem dX9_law_81 : decode cX9_law 81 = .ok (.bipush (-2), 2) := by decide +kernel
theorem dX9_law_83 : decode cX9_law 83 = .ok (.ireturn, 1) := by decide +kernel
theorem dX9_law_84 : decode cX9_law 84 = .ok (.aload_n 0, 1) := by decide +kernel
theorem dX9_law_85 : decode cX9_law 85 = .ok (.getfield 29, 3) := by decide +kernel
theorem dX9_law_88 : decode cX9_law 88 = .ok (.iload_n 1, 1) := by decide +kernel
theorem dX9_law_89 : decode cX9_law 89 = .ok (.new 27, 3) := by decide +kernel
theorem dX9_law_92 : decode cX9_law 92 = .ok (.dup, 1) := by decide +kernel
theorem dX9_law_93 : decode cX9_law 93 = .ok (.aload 9, 2) := by decide +kernel
theorem dX9_law_95 : decode cX9_law 95 = .ok (.invokespecial 33, 3) := by decide +kernel
theorem dX9_law_98 : decode cX9_law 98 = .ok (.aastore, 1) := by decide +kernel
theorem dX9_law_99 : decode cX9_law 99 = .ok (.iconst 1, 1) := by decide +kernel
theorem dX9_law_100 : decode cX9_law 100 = .ok (.ireturn, 1) := by decide +kernel
set_option maxRecDepth 20000 in
theorem ggX9_force_X9_within : GoodIn wsX9_force wsX9_within := goodIn_r _ [4] (by decide +kernel) (by decide +kernel)
set_option maxRecDepth 20000 in
theorem gX9_force_X9_within : GoodIn wsX9_force (va_wsS RX9 51 yX9_within wsX9_within) := goodIn_app (goodIn_of _ (by decide +kernel)) ggX9_force_X9_within
set_option maxRecDepth 20000 in
theorem ggX9_force_X9_lawOn : GoodIn wsX9_force wsX9_lawOn := goodIn_r _ [8, 9, 10, 11, 12, 13, 14, 21, 22, 23, 24, 25, 26, 27, 28, 29, 30, 31, 32] (by decide +kernel) (by decide +kernel)
set_option maxRecDepth 20000 in
theorem gX9_force_X9_lawOn : GoodIn wsX9_force (wsV RX9 97 RX9 yX9_lawOn wsX9_lawOn) := goodIn_app (goodIn_of _ (by decide +kernel)) ggX9_force_X9_lawOn
set_option maxRecDepth 20000 in
theorem ggX9_force_X4_number : GoodIn wsX9_force wsX4_number := goodIn_r _ [19, 20, 2, 3, 4, 33] (by decide +kernel) (by decide +kernel)
set_option maxRecDepth 20000 in
theorem gX9_force_X4_number : GoodIn wsX9_force (wsV RX9 101 RX4 yX4_number wsX4_number) := goodIn_app (goodIn_of _ (by decide +kernel)) ggX9_force_X4_number
theorem dX9_force_0 : decode cX9_force 0 = .ok (.iload_n 1, 1) := by decide +kernel
theorem dX9_force_1 : decode cX9_force 1 = .ok (.iconst 0, 1) := by decide +kernel
theorem dX9_force_2 : decode cX9_force 2 = .ok (.sipush 400, 3) := by decide +kernel
theorem dX9_force_5 : decode cX9_force 5 = .ok (.invokestatic 51, 3) := by decide +kernel
theorem dX9_force_8 : decode cX9_force 8 = .ok (.ifCond .eq 13, 3) := by decide +kernel
theorem dX9_force_11 : decode cX9_force 11 = .ok (.iload_n 2, 1) := by decide +kernel
theorem dX9_force_12 : decode cX9_force 12 = .ok (.iconst 0, 1) := by decide +kernel
theorem dX9_force_13 : decode cX9_force 13 = .ok (.bipush 7, 2) := by decide +kernel
theorem dX9_force_15 : decode cX9_force 15 = .ok (.invokestatic 51, 3) := by decide +kernel
theorem dX9_force_18 : decode cX9_force 18 = .ok (.ifCond .ne 5, 3) := by decide +kernel
theorem dX9_force_21 : decode cX9_force 21 = .ok (.iconst (-1), 1) := by decide +kernel
theorem dX9_force_22 : decode cX9_force 22 = .ok (.ireturn, 1) := by decide +kernel
theorem dX9_force_23 : decode cX9_force 23 = .ok (.aload_n 0, 1) := by decide +kernel
theorem dX9_force_24 : decode cX9_force 24 = .ok (.iload_n 1, 1) := by decide +kernel
theorem dX9_force_25 : decode cX9_force 25 = .ok (.invokevirtual 97, 3) := by decide +kernel
theorem dX9_force_28 : decode cX9_force 28 = .ok (.iload_n 2, 1) := by decide +kernel
theorem dX9_force_29 : decode cX9_force 29 = .ok (.invokevirtual 101, 3) := by decide +kernel
theorem dX9_force_32 : decode cX9_force 32 = .ok (.ireturn, 1) := by decide +kernel
set_option maxRecDepth 20000 in
theorem ggX9_like_X9_within : GoodIn wsX9_like wsX9_within := goodIn_r _ [10] (by decide +kernel) (by decide +kernel)
set_option maxRecDepth 20000 in
theorem gX9_like_X9_within : GoodIn wsX9_like (va_wsS RX9 51 yX9_within wsX9_within) := goodIn_app (goodIn_of _ (by decide +kernel)) ggX9_like_X9_within
set_option maxRecDepth 20000 in
theorem ggX9_like_X6_init : GoodIn wsX9_like wsX6_init := goodIn_r _ [13, 14, 15, 16, 17, 18, 19, 20, 33, 34, 35, 36, 37] (by decide +kernel) (by decide +kernel)
set_option maxRecDepth 20000 in
theorem gX9_like_X6_init : GoodIn wsX9_like (wsX6_init) := ggX9_like_X6_init
theorem dX9_like_0 : decode cX9_like 0 = .ok (.iload_n 1, 1) := by decide +kernel
theorem dX9_like_1 : decode cX9_like 1 = .ok (.iconst 0, 1) := by decide +kernel
theorem dX9_like_2 : decode cX9_like 2 = .ok (.iconst 2, 1) := by decide +kernel
theorem dX9_like_3 : decode cX9_like 3 = .ok (.invokestatic 51, 3) := by decide +kernel
theorem dX9_like_6 : decode cX9_like 6 = .ok (.ifCond .eq 25, 3) := by decide +kernel
theorem dX9_like_9 : decode cX9_like 9 = .ok (.iload_n 2, 1) := by decide +kernel
theorem dX9_like_10 : decode cX9_like 10 = .ok (.iconst 0, 1) := by decide +kernel
theorem dX9_like_11 : decode cX9_like 11 = .ok (.sipush 200, 3) := by decide +kernel
theorem dX9_like_14 : decode cX9_like 14 = .ok (.invokestatic 51, 3) := by decide +kernel
theorem dX9_like_17 : decode cX9_like 17 = .ok (.ifCond .eq 14, 3) := by decide +kernel
theorem dX9_like_20 : decode cX9_like 20 = .ok (.iload_n 3, 1) := by decide +kernel
theorem dX9_like_21 : decode cX9_like 21 = .ok (.iconst 1, 1) := by decide +kernel
theorem dX9_like_22 : decode cX9_like 22 = .ok (.sipush 5000, 3) := by decide +kernel
theorem dX9_like_25 : decode cX9_like 25 = .ok (.invokestatic 51, 3) := by decide +kernel
theorem dX9_like_28 : decode cX9_like 28 = .ok (.ifCond .ne 5, 3) := by decide +kernel
theorem dX9_like_31 : decode cX9_like 31 = .ok (.iconst (-1), 1) := by decide +kernel
theorem dX9_like_32 : decode cX9_like 32 = .ok (.ireturn, 1) := by decide +kernel
theorem dX9_like_33 : decode cX9_like 33 = .ok (.aload_n 0, 1) := by decide +kernel
theorem dX9_like_34 : decode cX9_like 34 = .ok (.getfield 105, 3) := by decide +kernel
theorem dX9_like_37 : decode cX9_like 37 = .ok (.aload_n 0, 1) := by decide +kernel
theorem dX9_like_38 : decode cX9_like 38 = .ok (.getfield 17, 3) := by decide +kernel
theorem dX9_like_41 : decode cX9_like 41 = .ok (.arraylength, 1) := by decide +kernel
theorem dX9_like_42 : decode cX9_like 42 = .ok (.if_icmp .lt 6, 3) := by decide +kernel
theorem dX9_like_45 : decode cX9_like 45 = .ok (.bipush (-3), 2) := by decide +kernel
theorem dX9_like_47 : decode cX9_like 47 = .ok (.ireturn, 1) := by decide +kernel
theorem dX9_like_48 : decode cX9_like 48 = .ok (.aload_n 0, 1) := by decide +kernel
theorem dX9_like_49 : decode cX9_like 49 = .ok (.getfield 17, 3) := by decide +kernel
theorem dX9_like_52 : decode cX9_like 52 = .ok (.aload_n 0, 1) := by decide +kernel
theorem dX9_like_53 : decode cX9_like 53 = .ok (.getfield 105, 3) := by decide +kernel
theorem dX9_like_56 : decode cX9_like 56 = .ok (.new 15, 3) := by decide +kernel
theorem dX9_like_59 : decode cX9_like 59 = .ok (.dup, 1) := by decide +kernel
theorem dX9_like_60 : decode cX9_like 60 = .ok (.iload_n 1, 1) := by decide +kernel
theorem dX9_like_61 : decode cX9_like 61 = .ok (.iload_n 2, 1) := by decide +kernel
theorem dX9_like_62 : decode cX9_like 62 = .ok (.iload_n 3, 1) := by decide +kernel
theorem dX9_like_63 : decode cX9_like 63 = .ok (.aload_n 0, 1) := by decide +kernel
theorem dX9_like_64 : decode cX9_like 64 = .ok (.getfield 94, 3) := by decide +kernel
theorem dX9_like_67 : decode cX9_like 67 = .ok (.invokespecial 108, 3) := by decide +kernel
theorem dX9_like_70 : decode cX9_like 70 = .ok (.aastore, 1) := by decide +kernel
theorem dX9_like_71 : decode cX9_like 71 = .ok (.aload_n 0, 1) := by decide +kernel
theorem dX9_like_72 : decode cX9_like 72 = .ok (.dup, 1) := by decide +kernel
theorem dX9_like_73 : decode cX9_like 73 = .ok (.getfield 105, 3) := by decide +kernel
theorem dX9_like_76 : decode cX9_like 76 = .ok (.iconst 1, 1) := by decide +kernel
theorem dX9_like_77 : decode cX9_like 77 = .ok (.iadd, 1) := by decide +kernel
theorem dX9_like_78 : decode cX9_like 78 = .ok (.putfield 105, 3) := by decide +kernel
theorem dX9_like_81 : decode cX9_like 81 = .ok (.aload_n 0, 1) := by decide +kernel
theorem dX9_like_82 : decode cX9_like 82 = .ok (.getfield 105, 3) := by decide +kernel
theorem dX9_like_85 : decode cX9_like 85 = .ok (.iconst 1, 1) := by decide +kernel
theorem dX9_like_86 : decode cX9_like 86 = .ok (.isub, 1) := by decide +kernel
theorem dX9_like_87 : decode cX9_like 87 = .ok (.ireturn, 1) := by decide +kernel
set_option maxRecDepth 20000 in
theorem ggX9_strike_X9_within : GoodIn wsX9_strike wsX9_within := goodIn_r _ [6] (by decide +kernel) (by decide +kernel)
set_option maxRecDepth 20000 in
theorem gX9_strike_X9_within : GoodIn wsX9_strike (va_wsS RX9 51 yX9_within wsX9_within) := goodIn_app (goodIn_of _ (by decide +kernel)) ggX9_strike_X9_within
theorem dX9_strike_0 : decode cX9_strike 0 = .ok (.iload_n 1, 1) := by decide +kernel
theorem dX9_strike_1 : decode cX9_strike 1 = .ok (.iconst 0, 1) := by decide +kernel
theorem dX9_strike_2 : decode cX9_strike 2 = .ok (.aload_n 0, 1) := by decide +kernel
theorem dX9_strike_3 : decode cX9_strike 3 = .ok (.getfield 17, 3) := by decide +kernel
theorem dX9_strike_6 : decode cX9_strike 6 = .ok (.arraylength, 1) := by decide +kernel
theorem dX9_strike_7 : decode cX9_strike 7 = .ok (.iconst 1, 1) := by decide +kernel
theorem dX9_strike_8 : decode cX9_strike 8 = .ok (.isub, 1) := by decide +kernel
