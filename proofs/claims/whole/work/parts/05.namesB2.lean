theorem dX9_strike_9 : decode cX9_strike 9 = .ok (.invokestatic 51, 3) := by decide +kernel
theorem dX9_strike_12 : decode cX9_strike 12 = .ok (.ifCond .eq 12, 3) := by decide +kernel
theorem dX9_strike_15 : decode cX9_strike 15 = .ok (.aload_n 0, 1) := by decide +kernel
theorem dX9_strike_16 : decode cX9_strike 16 = .ok (.getfield 17, 3) := by decide +kernel
theorem dX9_strike_19 : decode cX9_strike 19 = .ok (.iload_n 1, 1) := by decide +kernel
theorem dX9_strike_20 : decode cX9_strike 20 = .ok (.aaload, 1) := by decide +kernel
theorem dX9_strike_21 : decode cX9_strike 21 = .ok (.goto 4, 3) := by decide +kernel
theorem dX9_strike_24 : decode cX9_strike 24 = .ok (.aconst_null, 1) := by decide +kernel
theorem dX9_strike_25 : decode cX9_strike 25 = .ok (.astore_n 2, 1) := by decide +kernel
theorem dX9_strike_26 : decode cX9_strike 26 = .ok (.aload_n 2, 1) := by decide +kernel
theorem dX9_strike_27 : decode cX9_strike 27 = .ok (.ifnonnull 5, 3) := by decide +kernel
theorem dX9_strike_30 : decode cX9_strike 30 = .ok (.iconst (-1), 1) := by decide +kernel
theorem dX9_strike_31 : decode cX9_strike 31 = .ok (.ireturn, 1) := by decide +kernel
theorem dX9_strike_32 : decode cX9_strike 32 = .ok (.aload_n 2, 1) := by decide +kernel
theorem dX9_strike_33 : decode cX9_strike 33 = .ok (.getfield 111, 3) := by decide +kernel
theorem dX9_strike_36 : decode cX9_strike 36 = .ok (.ifCond .eq 6, 3) := by decide +kernel
theorem dX9_strike_39 : decode cX9_strike 39 = .ok (.bipush (-2), 2) := by decide +kernel
theorem dX9_strike_41 : decode cX9_strike 41 = .ok (.ireturn, 1) := by decide +kernel
theorem dX9_strike_42 : decode cX9_strike 42 = .ok (.aload_n 2, 1) := by decide +kernel
theorem dX9_strike_43 : decode cX9_strike 43 = .ok (.iconst 1, 1) := by decide +kernel
theorem dX9_strike_44 : decode cX9_strike 44 = .ok (.putfield 111, 3) := by decide +kernel
theorem dX9_strike_47 : decode cX9_strike 47 = .ok (.iconst 1, 1) := by decide +kernel
theorem dX9_strike_48 : decode cX9_strike 48 = .ok (.ireturn, 1) := by decide +kernel
set_option maxRecDepth 20000 in
theorem ggX9_days_X9_within : GoodIn wsX9_days wsX9_within := goodIn_r _ [5] (by decide +kernel) (by decide +kernel)
set_option maxRecDepth 20000 in
theorem gX9_days_X9_within : GoodIn wsX9_days (va_wsS RX9 51 yX9_within wsX9_within) := goodIn_app (goodIn_of _ (by decide +kernel)) ggX9_days_X9_within
theorem dX9_days_0 : decode cX9_days 0 = .ok (.iload_n 1, 1) := by decide +kernel
theorem dX9_days_1 : decode cX9_days 1 = .ok (.iconst 1, 1) := by decide +kernel
theorem dX9_days_2 : decode cX9_days 2 = .ok (.bipush 30, 2) := by decide +kernel
theorem dX9_days_4 : decode cX9_days 4 = .ok (.invokestatic 51, 3) := by decide +kernel
theorem dX9_days_7 : decode cX9_days 7 = .ok (.ifCond .ne 5, 3) := by decide +kernel
theorem dX9_days_10 : decode cX9_days 10 = .ok (.iconst (-1), 1) := by decide +kernel
theorem dX9_days_11 : decode cX9_days 11 = .ok (.ireturn, 1) := by decide +kernel
theorem dX9_days_12 : decode cX9_days 12 = .ok (.aload_n 0, 1) := by decide +kernel
theorem dX9_days_13 : decode cX9_days 13 = .ok (.getfield 94, 3) := by decide +kernel
theorem dX9_days_16 : decode cX9_days 16 = .ok (.iload_n 1, 1) := by decide +kernel
theorem dX9_days_17 : decode cX9_days 17 = .ok (.iadd, 1) := by decide +kernel
theorem dX9_days_18 : decode cX9_days 18 = .ok (.sipush 300, 3) := by decide +kernel
theorem dX9_days_21 : decode cX9_days 21 = .ok (.if_icmp .le 6, 3) := by decide +kernel
theorem dX9_days_24 : decode cX9_days 24 = .ok (.bipush (-2), 2) := by decide +kernel
theorem dX9_days_26 : decode cX9_days 26 = .ok (.ireturn, 1) := by decide +kernel
theorem dX9_days_27 : decode cX9_days 27 = .ok (.aload_n 0, 1) := by decide +kernel
theorem dX9_days_28 : decode cX9_days 28 = .ok (.dup, 1) := by decide +kernel
theorem dX9_days_29 : decode cX9_days 29 = .ok (.getfield 94, 3) := by decide +kernel
theorem dX9_days_32 : decode cX9_days 32 = .ok (.iload_n 1, 1) := by decide +kernel
theorem dX9_days_33 : decode cX9_days 33 = .ok (.iadd, 1) := by decide +kernel
theorem dX9_days_34 : decode cX9_days 34 = .ok (.putfield 94, 3) := by decide +kernel
theorem dX9_days_37 : decode cX9_days 37 = .ok (.aload_n 0, 1) := by decide +kernel
theorem dX9_days_38 : decode cX9_days 38 = .ok (.getfield 94, 3) := by decide +kernel
theorem dX9_days_41 : decode cX9_days 41 = .ok (.ireturn, 1) := by decide +kernel
set_option maxRecDepth 20000 in
theorem ggX9_head_X9_homeAt : GoodIn wsX9_head wsX9_homeAt := goodIn_r _ [12, 13, 14, 15, 11, 16, 102, 103, 104, 105, 106, 107, 108, 109, 110, 111, 112, 113] (by decide +kernel) (by decide +kernel)
set_option maxRecDepth 20000 in
theorem gX9_head_X9_homeAt : GoodIn wsX9_head (wsV RX9 66 RX9 yX9_homeAt wsX9_homeAt) := goodIn_app (goodIn_of _ (by decide +kernel)) ggX9_head_X9_homeAt
set_option maxRecDepth 20000 in
theorem ggX9_head_X9_within : GoodIn wsX9_head wsX9_within := goodIn_r _ [16] (by decide +kernel) (by decide +kernel)
set_option maxRecDepth 20000 in
theorem gX9_head_X9_within : GoodIn wsX9_head (va_wsS RX9 51 yX9_within wsX9_within) := goodIn_app (goodIn_of _ (by decide +kernel)) ggX9_head_X9_within
set_option maxRecDepth 20000 in
theorem ggX9_head_X9_lawOn : GoodIn wsX9_head wsX9_lawOn := goodIn_r _ [20, 21, 22, 23, 24, 25, 26, 102, 103, 104, 105, 106, 107, 108, 109, 110, 111, 112, 113] (by decide +kernel) (by decide +kernel)
set_option maxRecDepth 20000 in
theorem gX9_head_X9_lawOn : GoodIn wsX9_head (wsV RX9 97 RX9 yX9_lawOn wsX9_lawOn) := goodIn_app (goodIn_of _ (by decide +kernel)) ggX9_head_X9_lawOn
set_option maxRecDepth 20000 in
theorem ggX9_head_X2_work : GoodIn wsX9_head wsX2_work := goodIn_r _ [31, 32, 33, 34, 35, 36, 37, 38, 39, 40, 41, 42, 43, 44, 45, 46, 47, 48, 49, 50, 51, 52, 53, 54, 55, 56, 57, 58, 59, 60, 61, 62, 63, 64, 65, 66, 67, 68, 69, 70, 71, 72, 73, 74, 75, 76, 77, 78, 79, 15, 11, 16, 80, 81, 82, 83, 84, 85, 86, 87, 88, 30, 89, 90, 91, 92, 93, 94, 114, 115, 116, 117, 118, 119, 120, 121, 122, 123, 124, 125, 126, 127, 128, 129, 130, 131, 132, 133] (by decide +kernel) (by decide +kernel)
set_option maxRecDepth 20000 in
theorem gX9_head_X2_work : GoodIn wsX9_head (wsV RX9 116 RX2 yX2_work wsX2_work) := goodIn_app (goodIn_of _ (by decide +kernel)) ggX9_head_X2_work
set_option maxRecDepth 20000 in
theorem ggX9_head_X2_fairRent : GoodIn wsX9_head wsX2_fairRent := goodIn_r _ [98, 35, 36, 38, 99, 100, 24, 101, 114, 115, 116, 117, 118] (by decide +kernel) (by decide +kernel)
set_option maxRecDepth 20000 in
theorem gX9_head_X2_fairRent : GoodIn wsX9_head (wsV RX9 129 RX2 yX2_fairRent wsX2_fairRent) := goodIn_app (goodIn_of _ (by decide +kernel)) ggX9_head_X2_fairRent
theorem dX9_head_0 : decode cX9_head 0 = .ok (.aload_n 0, 1) := by decide +kernel
theorem dX9_head_1 : decode cX9_head 1 = .ok (.iload_n 1, 1) := by decide +kernel
theorem dX9_head_2 : decode cX9_head 2 = .ok (.invokevirtual 66, 3) := by decide +kernel
theorem dX9_head_5 : decode cX9_head 5 = .ok (.astore 4, 2) := by decide +kernel
theorem dX9_head_7 : decode cX9_head 7 = .ok (.aload 4, 2) := by decide +kernel
theorem dX9_head_9 : decode cX9_head 9 = .ok (.ifnull 23, 3) := by decide +kernel
theorem dX9_head_12 : decode cX9_head 12 = .ok (.iload_n 2, 1) := by decide +kernel
theorem dX9_head_13 : decode cX9_head 13 = .ok (.iconst 0, 1) := by decide +kernel
theorem dX9_head_14 : decode cX9_head 14 = .ok (.sipush 300, 3) := by decide +kernel
theorem dX9_head_17 : decode cX9_head 17 = .ok (.invokestatic 51, 3) := by decide +kernel
theorem dX9_head_20 : decode cX9_head 20 = .ok (.ifCond .eq 12, 3) := by decide +kernel
theorem dX9_head_23 : decode cX9_head 23 = .ok (.iload_n 3, 1) := by decide +kernel
theorem dX9_head_24 : decode cX9_head 24 = .ok (.iconst 0, 1) := by decide +kernel
theorem dX9_head_25 : decode cX9_head 25 = .ok (.iconst 4, 1) := by decide +kernel
theorem dX9_head_26 : decode cX9_head 26 = .ok (.invokestatic 51, 3) := by decide +kernel
theorem dX9_head_29 : decode cX9_head 29 = .ok (.ifCond .ne 6, 3) := by decide +kernel
theorem dX9_head_32 : decode cX9_head 32 = .ok (.ldc 115, 2) := by decide +kernel
theorem dX9_head_34 : decode cX9_head 34 = .ok (.ireturn, 1) := by decide +kernel
theorem dX9_head_35 : decode cX9_head 35 = .ok (.aload_n 0, 1) := by decide +kernel
theorem dX9_head_36 : decode cX9_head 36 = .ok (.getfield 43, 3) := by decide +kernel
theorem dX9_head_39 : decode cX9_head 39 = .ok (.aload 4, 2) := by decide +kernel
theorem dX9_head_41 : decode cX9_head 41 = .ok (.aload_n 0, 1) := by decide +kernel
theorem dX9_head_42 : decode cX9_head 42 = .ok (.iload_n 2, 1) := by decide +kernel
theorem dX9_head_43 : decode cX9_head 43 = .ok (.invokevirtual 97, 3) := by decide +kernel
theorem dX9_head_46 : decode cX9_head 46 = .ok (.aload_n 0, 1) := by decide +kernel
theorem dX9_head_47 : decode cX9_head 47 = .ok (.getfield 17, 3) := by decide +kernel
theorem dX9_head_50 : decode cX9_head 50 = .ok (.iload_n 2, 1) := by decide +kernel
theorem dX9_head_51 : decode cX9_head 51 = .ok (.invokevirtual 116, 3) := by decide +kernel
theorem dX9_head_54 : decode cX9_head 54 = .ok (.iload_n 3, 1) := by decide +kernel
theorem dX9_head_55 : decode cX9_head 55 = .ok (.tableswitch 61 0 3 #[29, 37, 45, 53], 29) := by decide +kernel
theorem dX9_head_84 : decode cX9_head 84 = .ok (.aload_n 0, 1) := by decide +kernel
theorem dX9_head_85 : decode cX9_head 85 = .ok (.getfield 43, 3) := by decide +kernel
theorem dX9_head_88 : decode cX9_head 88 = .ok (.getfield 120, 3) := by decide +kernel
theorem dX9_head_91 : decode cX9_head 91 = .ok (.ireturn, 1) := by decide +kernel
theorem dX9_head_92 : decode cX9_head 92 = .ok (.aload_n 0, 1) := by decide +kernel
theorem dX9_head_93 : decode cX9_head 93 = .ok (.getfield 43, 3) := by decide +kernel
theorem dX9_head_96 : decode cX9_head 96 = .ok (.getfield 123, 3) := by decide +kernel
theorem dX9_head_99 : decode cX9_head 99 = .ok (.ireturn, 1) := by decide +kernel
theorem dX9_head_100 : decode cX9_head 100 = .ok (.aload_n 0, 1) := by decide +kernel
theorem dX9_head_101 : decode cX9_head 101 = .ok (.getfield 43, 3) := by decide +kernel
theorem dX9_head_104 : decode cX9_head 104 = .ok (.getfield 126, 3) := by decide +kernel
theorem dX9_head_107 : decode cX9_head 107 = .ok (.ireturn, 1) := by decide +kernel
theorem dX9_head_108 : decode cX9_head 108 = .ok (.aload_n 0, 1) := by decide +kernel
theorem dX9_head_109 : decode cX9_head 109 = .ok (.getfield 43, 3) := by decide +kernel
theorem dX9_head_112 : decode cX9_head 112 = .ok (.invokevirtual 129, 3) := by decide +kernel
theorem dX9_head_115 : decode cX9_head 115 = .ok (.ireturn, 1) := by decide +kernel
theorem dX9_head_116 : decode cX9_head 116 = .ok (.aload_n 0, 1) := by decide +kernel
theorem dX9_head_117 : decode cX9_head 117 = .ok (.getfield 43, 3) := by decide +kernel
theorem dX9_head_120 : decode cX9_head 120 = .ok (.getfield 132, 3) := by decide +kernel
theorem dX9_head_123 : decode cX9_head 123 = .ok (.ireturn, 1) := by decide +kernel
set_option maxRecDepth 20000 in
theorem ggX9_let_X9_homeAt : GoodIn wsX9_let wsX9_homeAt := goodIn_r _ [7, 8, 9, 10, 6, 11, 26, 27, 28, 29, 30, 31, 32, 33, 34, 35, 36, 37] (by decide +kernel) (by decide +kernel)
set_option maxRecDepth 20000 in
theorem gX9_let_X9_homeAt : GoodIn wsX9_let (wsV RX9 66 RX9 yX9_homeAt wsX9_homeAt) := goodIn_app (goodIn_of _ (by decide +kernel)) ggX9_let_X9_homeAt
set_option maxRecDepth 20000 in
theorem ggX9_let_X9_within : GoodIn wsX9_let wsX9_within := goodIn_r _ [11] (by decide +kernel) (by decide +kernel)
set_option maxRecDepth 20000 in
theorem gX9_let_X9_within : GoodIn wsX9_let (va_wsS RX9 51 yX9_within wsX9_within) := goodIn_app (goodIn_of _ (by decide +kernel)) ggX9_let_X9_within
set_option maxRecDepth 20000 in
theorem ggX9_let_X5_begin : GoodIn wsX9_let wsX5_begin := goodIn_r _ [16, 17, 18, 19, 20, 21, 38, 39, 40, 41, 42] (by decide +kernel) (by decide +kernel)
set_option maxRecDepth 20000 in
theorem gX9_let_X5_begin : GoodIn wsX9_let (wsV RX9 139 RX5 yX5_begin wsX5_begin) := goodIn_app (goodIn_of _ (by decide +kernel)) ggX9_let_X5_begin
theorem dX9_let_0 : decode cX9_let 0 = .ok (.aload_n 0, 1) := by decide +kernel
theorem dX9_let_1 : decode cX9_let 1 = .ok (.iload_n 1, 1) := by decide +kernel
theorem dX9_let_2 : decode cX9_let 2 = .ok (.invokevirtual 66, 3) := by decide +kernel
theorem dX9_let_5 : decode cX9_let 5 = .ok (.astore_n 3, 1) := by decide +kernel
theorem dX9_let_6 : decode cX9_let 6 = .ok (.aload_n 3, 1) := by decide +kernel
theorem dX9_let_7 : decode cX9_let 7 = .ok (.ifnull 14, 3) := by decide +kernel
theorem dX9_let_10 : decode cX9_let 10 = .ok (.iload_n 2, 1) := by decide +kernel
theorem dX9_let_11 : decode cX9_let 11 = .ok (.iconst 1, 1) := by decide +kernel
theorem dX9_let_12 : decode cX9_let 12 = .ok (.sipush 5000, 3) := by decide +kernel
theorem dX9_let_15 : decode cX9_let 15 = .ok (.invokestatic 51, 3) := by decide +kernel
theorem dX9_let_18 : decode cX9_let 18 = .ok (.ifCond .ne 5, 3) := by decide +kernel
theorem dX9_let_21 : decode cX9_let 21 = .ok (.iconst (-1), 1) := by decide +kernel
theorem dX9_let_22 : decode cX9_let 22 = .ok (.ireturn, 1) := by decide +kernel
theorem dX9_let_23 : decode cX9_let 23 = .ok (.aload_n 3, 1) := by decide +kernel
theorem dX9_let_24 : decode cX9_let 24 = .ok (.getfield 135, 3) := by decide +kernel
theorem dX9_let_27 : decode cX9_let 27 = .ok (.aload_n 0, 1) := by decide +kernel
theorem dX9_let_28 : decode cX9_let 28 = .ok (.getfield 94, 3) := by decide +kernel
theorem dX9_let_31 : decode cX9_let 31 = .ok (.iload_n 2, 1) := by decide +kernel
theorem dX9_let_32 : decode cX9_let 32 = .ok (.invokevirtual 139, 3) := by decide +kernel
theorem dX9_let_35 : decode cX9_let 35 = .ok (.iconst 1, 1) := by decide +kernel
theorem dX9_let_36 : decode cX9_let 36 = .ok (.ireturn, 1) := by decide +kernel
set_option maxRecDepth 20000 in
theorem ggX9_ask_X9_homeAt : GoodIn wsX9_ask wsX9_homeAt := goodIn_r _ [15, 16, 17, 18, 14, 19, 150, 151, 152, 153, 154, 155, 156, 157, 158, 159, 160, 161] (by decide +kernel) (by decide +kernel)
set_option maxRecDepth 20000 in
theorem gX9_ask_X9_homeAt : GoodIn wsX9_ask (wsV RX9 66 RX9 yX9_homeAt wsX9_homeAt) := goodIn_app (goodIn_of _ (by decide +kernel)) ggX9_ask_X9_homeAt
set_option maxRecDepth 20000 in
theorem ggX9_ask_X5_isLet : GoodIn wsX9_ask wsX5_isLet := goodIn_r _ [24, 25, 171, 172, 173, 174, 175] (by decide +kernel) (by decide +kernel)
set_option maxRecDepth 20000 in
theorem gX9_ask_X5_isLet : GoodIn wsX9_ask (wsV RX9 145 RX5 yX5_isLet wsX5_isLet) := goodIn_app (goodIn_of _ (by decide +kernel)) ggX9_ask_X5_isLet
set_option maxRecDepth 20000 in
theorem ggX9_ask_X9_barEnd : GoodIn wsX9_ask wsX9_barEnd := goodIn_r _ [29, 30, 31, 32, 33, 34, 14, 35, 4, 36, 37, 38, 39, 40, 41, 17, 18, 19, 42, 43, 44, 45, 46, 47, 162, 163, 164, 165, 166, 167, 168, 169, 170, 150, 151, 152, 153, 154, 155, 156, 157, 158, 159, 160, 161, 176] (by decide +kernel) (by decide +kernel)
set_option maxRecDepth 20000 in
theorem gX9_ask_X9_barEnd : GoodIn wsX9_ask (wsV RX9 149 RX9 yX9_barEnd wsX9_barEnd) := goodIn_app (goodIn_of _ (by decide +kernel)) ggX9_ask_X9_barEnd
set_option maxRecDepth 20000 in
theorem ggX9_ask_X9_lawOn : GoodIn wsX9_ask wsX9_lawOn := goodIn_r _ [51, 52, 53, 54, 55, 56, 57, 150, 151, 152, 153, 154, 155, 156, 157, 158, 159, 160, 161] (by decide +kernel) (by decide +kernel)
set_option maxRecDepth 20000 in
theorem gX9_ask_X9_lawOn : GoodIn wsX9_ask (wsV RX9 97 RX9 yX9_lawOn wsX9_lawOn) := goodIn_app (goodIn_of _ (by decide +kernel)) ggX9_ask_X9_lawOn
set_option maxRecDepth 20000 in
theorem ggX9_ask_X2_work : GoodIn wsX9_ask wsX2_work := goodIn_r _ [62, 63, 64, 65, 66, 67, 68, 69, 70, 71, 72, 73, 74, 75, 76, 77, 78, 79, 80, 81, 82, 83, 84, 85, 86, 87, 88, 89, 90, 91, 92, 93, 94, 95, 96, 97, 98, 99, 100, 101, 102, 103, 104, 105, 43, 44, 45, 46, 47, 18, 14, 19, 106, 107, 108, 109, 110, 111, 112, 113, 114, 61, 115, 116, 117, 118, 119, 120, 177, 178, 179, 180, 181, 146, 147, 148, 149, 182, 183, 184, 185, 186, 187, 188, 189, 190, 191, 176] (by decide +kernel) (by decide +kernel)
set_option maxRecDepth 20000 in
theorem gX9_ask_X2_work : GoodIn wsX9_ask (wsV RX9 116 RX2 yX2_work wsX2_work) := goodIn_app (goodIn_of _ (by decide +kernel)) ggX9_ask_X2_work
set_option maxRecDepth 20000 in
theorem ggX9_ask_X0_init : GoodIn wsX9_ask wsX0_init := goodIn_r _ [123, 124, 125, 126, 127, 128, 129, 130, 131, 132, 133, 134, 135, 136, 137, 138, 139, 140, 141, 61, 142, 66, 67, 69, 143, 144, 55, 145, 162, 163, 164, 165, 166, 167, 168, 169, 170, 177, 178, 179, 180, 181] (by decide +kernel) (by decide +kernel)
set_option maxRecDepth 20000 in
theorem gX9_ask_X0_init : GoodIn wsX9_ask (wsX0_init) := ggX9_ask_X0_init
theorem dX9_ask_0 : decode cX9_ask 0 = .ok (.aload_n 0, 1) := by decide +kernel
theorem dX9_ask_1 : decode cX9_ask 1 = .ok (.iload_n 1, 1) := by decide +kernel
theorem dX9_ask_2 : decode cX9_ask 2 = .ok (.invokevirtual 66, 3) := by decide +kernel
theorem dX9_ask_5 : decode cX9_ask 5 = .ok (.astore_n 2, 1) := by decide +kernel
theorem dX9_ask_6 : decode cX9_ask 6 = .ok (.aload_n 2, 1) := by decide +kernel
theorem dX9_ask_7 : decode cX9_ask 7 = .ok (.ifnonnull 5, 3) := by decide +kernel
theorem dX9_ask_10 : decode cX9_ask 10 = .ok (.iconst (-1), 1) := by decide +kernel
theorem dX9_ask_11 : decode cX9_ask 11 = .ok (.ireturn, 1) := by decide +kernel
theorem dX9_ask_12 : decode cX9_ask 12 = .ok (.aload_n 2, 1) := by decide +kernel
theorem dX9_ask_13 : decode cX9_ask 13 = .ok (.getfield 135, 3) := by decide +kernel
theorem dX9_ask_16 : decode cX9_ask 16 = .ok (.invokevirtual 145, 3) := by decide +kernel
theorem dX9_ask_19 : decode cX9_ask 19 = .ok (.ifCond .eq 15, 3) := by decide +kernel
theorem dX9_ask_22 : decode cX9_ask 22 = .ok (.aload_n 0, 1) := by decide +kernel
theorem dX9_ask_23 : decode cX9_ask 23 = .ok (.getfield 94, 3) := by decide +kernel
theorem dX9_ask_26 : decode cX9_ask 26 = .ok (.aload_n 0, 1) := by decide +kernel
theorem dX9_ask_27 : decode cX9_ask 27 = .ok (.iload_n 1, 1) := by decide +kernel
theorem dX9_ask_28 : decode cX9_ask 28 = .ok (.invokevirtual 149, 3) := by decide +kernel
theorem dX9_ask_31 : decode cX9_ask 31 = .ok (.if_icmp .ge 6, 3) := by decide +kernel
theorem dX9_ask_34 : decode cX9_ask 34 = .ok (.bipush (-2), 2) := by decide +kernel
theorem dX9_ask_36 : decode cX9_ask 36 = .ok (.ireturn, 1) := by decide +kernel
theorem dX9_ask_37 : decode cX9_ask 37 = .ok (.aload_n 0, 1) := by decide +kernel
theorem dX9_ask_38 : decode cX9_ask 38 = .ok (.getfield 152, 3) := by decide +kernel
theorem dX9_ask_41 : decode cX9_ask 41 = .ok (.aload_n 0, 1) := by decide +kernel
theorem dX9_ask_42 : decode cX9_ask 42 = .ok (.getfield 23, 3) := by decide +kernel
theorem dX9_ask_45 : decode cX9_ask 45 = .ok (.arraylength, 1) := by decide +kernel
theorem dX9_ask_46 : decode cX9_ask 46 = .ok (.if_icmp .lt 6, 3) := by decide +kernel
theorem dX9_ask_49 : decode cX9_ask 49 = .ok (.bipush (-3), 2) := by decide +kernel
theorem dX9_ask_51 : decode cX9_ask 51 = .ok (.ireturn, 1) := by decide +kernel
theorem dX9_ask_52 : decode cX9_ask 52 = .ok (.aload_n 0, 1) := by decide +kernel
theorem dX9_ask_53 : decode cX9_ask 53 = .ok (.aload_n 0, 1) := by decide +kernel
theorem dX9_ask_54 : decode cX9_ask 54 = .ok (.getfield 94, 3) := by decide +kernel
theorem dX9_ask_57 : decode cX9_ask 57 = .ok (.invokevirtual 97, 3) := by decide +kernel
theorem dX9_ask_60 : decode cX9_ask 60 = .ok (.astore_n 3, 1) := by decide +kernel
theorem dX9_ask_61 : decode cX9_ask 61 = .ok (.aload_n 0, 1) := by decide +kernel
theorem dX9_ask_62 : decode cX9_ask 62 = .ok (.getfield 43, 3) := by decide +kernel
theorem dX9_ask_65 : decode cX9_ask 65 = .ok (.aload_n 2, 1) := by decide +kernel
theorem dX9_ask_66 : decode cX9_ask 66 = .ok (.aload_n 3, 1) := by decide +kernel
theorem dX9_ask_67 : decode cX9_ask 67 = .ok (.aload_n 0, 1) := by decide +kernel
theorem dX9_ask_68 : decode cX9_ask 68 = .ok (.getfield 17, 3) := by decide +kernel
theorem dX9_ask_71 : decode cX9_ask 71 = .ok (.aload_n 0, 1) := by decide +kernel
theorem dX9_ask_72 : decode cX9_ask 72 = .ok (.getfield 94, 3) := by decide +kernel
theorem dX9_ask_75 : decode cX9_ask 75 = .ok (.invokevirtual 116, 3) := by decide +kernel
theorem dX9_ask_78 : decode cX9_ask 78 = .ok (.aload_n 0, 1) := by decide +kernel
theorem dX9_ask_79 : decode cX9_ask 79 = .ok (.getfield 23, 3) := by decide +kernel
theorem dX9_ask_82 : decode cX9_ask 82 = .ok (.aload_n 0, 1) := by decide +kernel
theorem dX9_ask_83 : decode cX9_ask 83 = .ok (.getfield 152, 3) := by decide +kernel
theorem dX9_ask_86 : decode cX9_ask 86 = .ok (.new 21, 3) := by decide +kernel
theorem dX9_ask_89 : decode cX9_ask 89 = .ok (.dup, 1) := by decide +kernel
theorem dX9_ask_90 : decode cX9_ask 90 = .ok (.iload_n 1, 1) := by decide +kernel
theorem dX9_ask_91 : decode cX9_ask 91 = .ok (.aload_n 2, 1) := by decide +kernel
theorem dX9_ask_92 : decode cX9_ask 92 = .ok (.getfield 135, 3) := by decide +kernel
theorem dX9_ask_95 : decode cX9_ask 95 = .ok (.getfield 155, 3) := by decide +kernel
theorem dX9_ask_98 : decode cX9_ask 98 = .ok (.aload_n 0, 1) := by decide +kernel
theorem dX9_ask_99 : decode cX9_ask 99 = .ok (.getfield 94, 3) := by decide +kernel
theorem dX9_ask_102 : decode cX9_ask 102 = .ok (.aload_n 3, 1) := by decide +kernel
theorem dX9_ask_103 : decode cX9_ask 103 = .ok (.aload_n 0, 1) := by decide +kernel
theorem dX9_ask_104 : decode cX9_ask 104 = .ok (.getfield 43, 3) := by decide +kernel
theorem dX9_ask_107 : decode cX9_ask 107 = .ok (.invokespecial 157, 3) := by decide +kernel
theorem dX9_ask_110 : decode cX9_ask 110 = .ok (.aastore, 1) := by decide +kernel
theorem dX9_ask_111 : decode cX9_ask 111 = .ok (.aload_n 0, 1) := by decide +kernel
theorem dX9_ask_112 : decode cX9_ask 112 = .ok (.dup, 1) := by decide +kernel
theorem dX9_ask_113 : decode cX9_ask 113 = .ok (.getfield 152, 3) := by decide +kernel
theorem dX9_ask_116 : decode cX9_ask 116 = .ok (.iconst 1, 1) := by decide +kernel
theorem dX9_ask_117 : decode cX9_ask 117 = .ok (.iadd, 1) := by decide +kernel
theorem dX9_ask_118 : decode cX9_ask 118 = .ok (.putfield 152, 3) := by decide +kernel
theorem dX9_ask_121 : decode cX9_ask 121 = .ok (.aload_n 0, 1) := by decide +kernel
theorem dX9_ask_122 : decode cX9_ask 122 = .ok (.getfield 152, 3) := by decide +kernel
theorem dX9_ask_125 : decode cX9_ask 125 = .ok (.iconst 1, 1) := by decide +kernel
theorem dX9_ask_126 : decode cX9_ask 126 = .ok (.isub, 1) := by decide +kernel
theorem dX9_ask_127 : decode cX9_ask 127 = .ok (.ireturn, 1) := by decide +kernel
set_option maxRecDepth 20000 in
theorem ggX9_open_X9_homeAt : GoodIn wsX9_open wsX9_homeAt := goodIn_r _ [10, 11, 12, 13, 9, 14, 38, 39, 40, 41, 42, 43, 44, 45, 46, 47, 48, 49] (by decide +kernel) (by decide +kernel)
set_option maxRecDepth 20000 in
theorem gX9_open_X9_homeAt : GoodIn wsX9_open (wsV RX9 66 RX9 yX9_homeAt wsX9_homeAt) := goodIn_app (goodIn_of _ (by decide +kernel)) ggX9_open_X9_homeAt
set_option maxRecDepth 20000 in
theorem ggX9_open_X9_barEnd : GoodIn wsX9_open wsX9_barEnd := goodIn_r _ [18, 19, 20, 21, 22, 23, 9, 24, 25, 26, 27, 28, 29, 30, 31, 12, 13, 14, 32, 33, 34, 35, 36, 37, 50, 51, 52, 53, 54, 55, 56, 57, 58, 38, 39, 40, 41, 42, 43, 44, 45, 46, 47, 48, 49, 59] (by decide +kernel) (by decide +kernel)
set_option maxRecDepth 20000 in
theorem gX9_open_X9_barEnd : GoodIn wsX9_open (wsV RX9 149 RX9 yX9_barEnd wsX9_barEnd) := goodIn_app (goodIn_of _ (by decide +kernel)) ggX9_open_X9_barEnd
theorem dX9_open_0 : decode cX9_open 0 = .ok (.aload_n 0, 1) := by decide +kernel
theorem dX9_open_1 : decode cX9_open 1 = .ok (.iload_n 1, 1) := by decide +kernel
theorem dX9_open_2 : decode cX9_open 2 = .ok (.invokevirtual 66, 3) := by decide +kernel
theorem dX9_open_5 : decode cX9_open 5 = .ok (.ifnonnull 5, 3) := by decide +kernel
theorem dX9_open_8 : decode cX9_open 8 = .ok (.iconst (-1), 1) := by decide +kernel
theorem dX9_open_9 : decode cX9_open 9 = .ok (.ireturn, 1) := by decide +kernel
theorem dX9_open_10 : decode cX9_open 10 = .ok (.aload_n 0, 1) := by decide +kernel
theorem dX9_open_11 : decode cX9_open 11 = .ok (.getfield 94, 3) := by decide +kernel
theorem dX9_open_14 : decode cX9_open 14 = .ok (.aload_n 0, 1) := by decide +kernel
theorem dX9_open_15 : decode cX9_open 15 = .ok (.iload_n 1, 1) := by decide +kernel
theorem dX9_open_16 : decode cX9_open 16 = .ok (.invokevirtual 149, 3) := by decide +kernel
theorem dX9_open_19 : decode cX9_open 19 = .ok (.invokestatic 160, 3) := by decide +kernel
theorem dX9_open_22 : decode cX9_open 22 = .ok (.ireturn, 1) := by decide +kernel
set_option maxRecDepth 20000 in
theorem ggX9_appeal_X9_homeAt : GoodIn wsX9_appeal wsX9_homeAt := goodIn_r _ [8, 9, 10, 11, 7, 12, 23, 24, 25, 26, 27, 28, 29, 30, 31, 32, 33, 34] (by decide +kernel) (by decide +kernel)
set_option maxRecDepth 20000 in
theorem gX9_appeal_X9_homeAt : GoodIn wsX9_appeal (wsV RX9 66 RX9 yX9_homeAt wsX9_homeAt) := goodIn_app (goodIn_of _ (by decide +kernel)) ggX9_appeal_X9_homeAt
set_option maxRecDepth 20000 in
theorem ggX9_appeal_X9_latestStanding : GoodIn wsX9_appeal wsX9_latestStanding := goodIn_r _ [16, 17, 3, 18, 23, 24, 25, 26, 27, 28, 29, 30, 31, 32, 33, 34, 35, 36, 37, 38, 39, 40, 41, 42, 43] (by decide +kernel) (by decide +kernel)
set_option maxRecDepth 20000 in
theorem gX9_appeal_X9_latestStanding : GoodIn wsX9_appeal (wsV RX9 166 RX9 yX9_latestStanding wsX9_latestStanding) := goodIn_app (goodIn_of _ (by decide +kernel)) ggX9_appeal_X9_latestStanding
set_option maxRecDepth 20000 in
theorem ggX9_appeal_X9_entryAt : GoodIn wsX9_appeal wsX9_entryAt := goodIn_r _ [22, 17, 10, 11, 7, 12, 23, 24, 25, 26, 27, 28, 29, 30, 31, 32, 33, 34] (by decide +kernel) (by decide +kernel)
set_option maxRecDepth 20000 in
theorem gX9_appeal_X9_entryAt : GoodIn wsX9_appeal (wsV RX9 169 RX9 yX9_entryAt wsX9_entryAt) := goodIn_app (goodIn_of _ (by decide +kernel)) ggX9_appeal_X9_entryAt
theorem dX9_appeal_0 : decode cX9_appeal 0 = .ok (.aload_n 0, 1) := by decide +kernel
theorem dX9_appeal_1 : decode cX9_appeal 1 = .ok (.iload_n 1, 1) := by decide +kernel
theorem dX9_appeal_2 : decode cX9_appeal 2 = .ok (.invokevirtual 66, 3) := by decide +kernel
theorem dX9_appeal_5 : decode cX9_appeal 5 = .ok (.ifnonnull 5, 3) := by decide +kernel
theorem dX9_appeal_8 : decode cX9_appeal 8 = .ok (.iconst (-1), 1) := by decide +kernel
theorem dX9_appeal_9 : decode cX9_appeal 9 = .ok (.ireturn, 1) := by decide +kernel
theorem dX9_appeal_10 : decode cX9_appeal 10 = .ok (.aload_n 0, 1) := by decide +kernel
theorem dX9_appeal_11 : decode cX9_appeal 11 = .ok (.iload_n 1, 1) := by decide +kernel
theorem dX9_appeal_12 : decode cX9_appeal 12 = .ok (.invokevirtual 166, 3) := by decide +kernel
theorem dX9_appeal_15 : decode cX9_appeal 15 = .ok (.istore_n 2, 1) := by decide +kernel
theorem dX9_appeal_16 : decode cX9_appeal 16 = .ok (.aload_n 0, 1) := by decide +kernel
theorem dX9_appeal_17 : decode cX9_appeal 17 = .ok (.iload_n 2, 1) := by decide +kernel
theorem dX9_appeal_18 : decode cX9_appeal 18 = .ok (.invokevirtual 169, 3) := by decide +kernel
theorem dX9_appeal_21 : decode cX9_appeal 21 = .ok (.astore_n 3, 1) := by decide +kernel
theorem dX9_appeal_22 : decode cX9_appeal 22 = .ok (.aload_n 3, 1) := by decide +kernel
theorem dX9_appeal_23 : decode cX9_appeal 23 = .ok (.ifnull 16, 3) := by decide +kernel
theorem dX9_appeal_26 : decode cX9_appeal 26 = .ok (.aload_n 0, 1) := by decide +kernel
theorem dX9_appeal_27 : decode cX9_appeal 27 = .ok (.getfield 94, 3) := by decide +kernel
theorem dX9_appeal_30 : decode cX9_appeal 30 = .ok (.aload_n 3, 1) := by decide +kernel
theorem dX9_appeal_31 : decode cX9_appeal 31 = .ok (.getfield 173, 3) := by decide +kernel
theorem dX9_appeal_34 : decode cX9_appeal 34 = .ok (.isub, 1) := by decide +kernel
theorem dX9_appeal_35 : decode cX9_appeal 35 = .ok (.iconst 5, 1) := by decide +kernel
theorem dX9_appeal_36 : decode cX9_appeal 36 = .ok (.if_icmp .le 6, 3) := by decide +kernel
theorem dX9_appeal_39 : decode cX9_appeal 39 = .ok (.bipush (-2), 2) := by decide +kernel
theorem dX9_appeal_41 : decode cX9_appeal 41 = .ok (.ireturn, 1) := by decide +kernel
theorem dX9_appeal_42 : decode cX9_appeal 42 = .ok (.aload_n 3, 1) := by decide +kernel
theorem dX9_appeal_43 : decode cX9_appeal 43 = .ok (.iconst 0, 1) := by decide +kernel
theorem dX9_appeal_44 : decode cX9_appeal 44 = .ok (.putfield 176, 3) := by decide +kernel
theorem dX9_appeal_47 : decode cX9_appeal 47 = .ok (.iload_n 2, 1) := by decide +kernel
theorem dX9_appeal_48 : decode cX9_appeal 48 = .ok (.ireturn, 1) := by decide +kernel
set_option maxRecDepth 20000 in
theorem ggX9_entry_X9_entryAt : GoodIn wsX9_entry wsX9_entryAt := goodIn_r _ [13, 14, 15, 16, 12, 17, 27, 28, 29, 30, 31, 32, 33, 34, 35, 36, 37, 38] (by decide +kernel) (by decide +kernel)
set_option maxRecDepth 20000 in
theorem gX9_entry_X9_entryAt : GoodIn wsX9_entry (wsV RX9 169 RX9 yX9_entryAt wsX9_entryAt) := goodIn_app (goodIn_of _ (by decide +kernel)) ggX9_entry_X9_entryAt
theorem dX9_entry_0 : decode cX9_entry 0 = .ok (.aload_n 0, 1) := by decide +kernel
theorem dX9_entry_1 : decode cX9_entry 1 = .ok (.iload_n 1, 1) := by decide +kernel
theorem dX9_entry_2 : decode cX9_entry 2 = .ok (.invokevirtual 169, 3) := by decide +kernel
theorem dX9_entry_5 : decode cX9_entry 5 = .ok (.astore_n 3, 1) := by decide +kernel
theorem dX9_entry_6 : decode cX9_entry 6 = .ok (.aload_n 3, 1) := by decide +kernel
theorem dX9_entry_7 : decode cX9_entry 7 = .ok (.ifnonnull 6, 3) := by decide +kernel
theorem dX9_entry_10 : decode cX9_entry 10 = .ok (.ldc 115, 2) := by decide +kernel
theorem dX9_entry_12 : decode cX9_entry 12 = .ok (.ireturn, 1) := by decide +kernel
theorem dX9_entry_13 : decode cX9_entry 13 = .ok (.iload_n 2, 1) := by decide +kernel
theorem dX9_entry_14 : decode cX9_entry 14 = .ok (.tableswitch 85 0 6 #[42, 47, 52, 57, 62, 67, 72], 42) := by decide +kernel
theorem dX9_entry_56 : decode cX9_entry 56 = .ok (.aload_n 3, 1) := by decide +kernel
theorem dX9_entry_57 : decode cX9_entry 57 = .ok (.getfield 179, 3) := by decide +kernel
theorem dX9_entry_60 : decode cX9_entry 60 = .ok (.ireturn, 1) := by decide +kernel
theorem dX9_entry_61 : decode cX9_entry 61 = .ok (.aload_n 3, 1) := by decide +kernel
theorem dX9_entry_62 : decode cX9_entry 62 = .ok (.getfield 173, 3) := by decide +kernel
theorem dX9_entry_65 : decode cX9_entry 65 = .ok (.ireturn, 1) := by decide +kernel
theorem dX9_entry_66 : decode cX9_entry 66 = .ok (.aload_n 3, 1) := by decide +kernel
theorem dX9_entry_67 : decode cX9_entry 67 = .ok (.getfield 182, 3) := by decide +kernel
theorem dX9_entry_70 : decode cX9_entry 70 = .ok (.ireturn, 1) := by decide +kernel
theorem dX9_entry_71 : decode cX9_entry 71 = .ok (.aload_n 3, 1) := by decide +kernel
theorem dX9_entry_72 : decode cX9_entry 72 = .ok (.getfield 185, 3) := by decide +kernel
theorem dX9_entry_75 : decode cX9_entry 75 = .ok (.ireturn, 1) := by decide +kernel
theorem dX9_entry_76 : decode cX9_entry 76 = .ok (.aload_n 3, 1) := by decide +kernel
theorem dX9_entry_77 : decode cX9_entry 77 = .ok (.getfield 186, 3) := by decide +kernel
theorem dX9_entry_80 : decode cX9_entry 80 = .ok (.ireturn, 1) := by decide +kernel
theorem dX9_entry_81 : decode cX9_entry 81 = .ok (.aload_n 3, 1) := by decide +kernel
theorem dX9_entry_82 : decode cX9_entry 82 = .ok (.getfield 187, 3) := by decide +kernel
theorem dX9_entry_85 : decode cX9_entry 85 = .ok (.ireturn, 1) := by decide +kernel
theorem dX9_entry_86 : decode cX9_entry 86 = .ok (.aload_n 3, 1) := by decide +kernel
theorem dX9_entry_87 : decode cX9_entry 87 = .ok (.getfield 176, 3) := by decide +kernel
theorem dX9_entry_90 : decode cX9_entry 90 = .ok (.ifCond .eq 7, 3) := by decide +kernel
theorem dX9_entry_93 : decode cX9_entry 93 = .ok (.iconst 1, 1) := by decide +kernel
theorem dX9_entry_94 : decode cX9_entry 94 = .ok (.goto 4, 3) := by decide +kernel
theorem dX9_entry_97 : decode cX9_entry 97 = .ok (.iconst 0, 1) := by decide +kernel
theorem dX9_entry_98 : decode cX9_entry 98 = .ok (.ireturn, 1) := by decide +kernel
theorem dX9_entry_99 : decode cX9_entry 99 = .ok (.ldc 115, 2) := by decide +kernel
theorem dX9_entry_101 : decode cX9_entry 101 = .ok (.ireturn, 1) := by decide +kernel
set_option maxRecDepth 20000 in
theorem ggX9_latest_X9_homeAt : GoodIn wsX9_latest wsX9_homeAt := goodIn_r _ [5, 6, 7, 8, 4, 9, 17, 18, 19, 20, 21, 22, 23, 24, 25, 26, 27, 28] (by decide +kernel) (by decide +kernel)
set_option maxRecDepth 20000 in
theorem gX9_latest_X9_homeAt : GoodIn wsX9_latest (wsV RX9 66 RX9 yX9_homeAt wsX9_homeAt) := goodIn_app (goodIn_of _ (by decide +kernel)) ggX9_latest_X9_homeAt
set_option maxRecDepth 20000 in
theorem ggX9_latest_X9_latestStanding : GoodIn wsX9_latest wsX9_latestStanding := goodIn_r _ [13, 14, 15, 16, 17, 18, 19, 20, 21, 22, 23, 24, 25, 26, 27, 28, 29, 30, 31, 32, 33, 34, 35, 36, 37] (by decide +kernel) (by decide +kernel)
set_option maxRecDepth 20000 in
theorem gX9_latest_X9_latestStanding : GoodIn wsX9_latest (wsV RX9 166 RX9 yX9_latestStanding wsX9_latestStanding) := goodIn_app (goodIn_of _ (by decide +kernel)) ggX9_latest_X9_latestStanding
theorem dX9_latest_0 : decode cX9_latest 0 = .ok (.aload_n 0, 1) := by decide +kernel
theorem dX9_latest_1 : decode cX9_latest 1 = .ok (.iload_n 1, 1) := by decide +kernel
theorem dX9_latest_2 : decode cX9_latest 2 = .ok (.invokevirtual 66, 3) := by decide +kernel
theorem dX9_latest_5 : decode cX9_latest 5 = .ok (.ifnonnull 5, 3) := by decide +kernel
theorem dX9_latest_8 : decode cX9_latest 8 = .ok (.iconst (-1), 1) := by decide +kernel
theorem dX9_latest_9 : decode cX9_latest 9 = .ok (.ireturn, 1) := by decide +kernel
theorem dX9_latest_10 : decode cX9_latest 10 = .ok (.aload_n 0, 1) := by decide +kernel
theorem dX9_latest_11 : decode cX9_latest 11 = .ok (.iload_n 1, 1) := by decide +kernel
theorem dX9_latest_12 : decode cX9_latest 12 = .ok (.invokevirtual 166, 3) := by decide +kernel
theorem dX9_latest_15 : decode cX9_latest 15 = .ok (.ireturn, 1) := by decide +kernel
set_option maxRecDepth 20000 in
theorem ggX9_due_X9_homeAt : GoodIn wsX9_due wsX9_homeAt := goodIn_r _ [7, 8, 9, 10, 6, 11, 61, 62, 63, 64, 65, 66, 67, 68, 69, 70, 71, 72] (by decide +kernel) (by decide +kernel)
set_option maxRecDepth 20000 in
theorem gX9_due_X9_homeAt : GoodIn wsX9_due (wsV RX9 66 RX9 yX9_homeAt wsX9_homeAt) := goodIn_app (goodIn_of _ (by decide +kernel)) ggX9_due_X9_homeAt
set_option maxRecDepth 20000 in
theorem ggX9_due_X9_within : GoodIn wsX9_due wsX9_within := goodIn_r _ [11] (by decide +kernel) (by decide +kernel)
set_option maxRecDepth 20000 in
theorem gX9_due_X9_within : GoodIn wsX9_due (va_wsS RX9 51 yX9_within wsX9_within) := goodIn_app (goodIn_of _ (by decide +kernel)) ggX9_due_X9_within
set_option maxRecDepth 20000 in
theorem ggX9_due_X5_covers : GoodIn wsX9_due wsX5_covers := goodIn_r _ [16, 17, 18, 19, 20, 15, 21, 22, 77, 78, 79, 80, 81] (by decide +kernel) (by decide +kernel)
set_option maxRecDepth 20000 in
theorem gX9_due_X5_covers : GoodIn wsX9_due (wsV RX9 188 RX5 yX5_covers wsX5_covers) := goodIn_app (goodIn_of _ (by decide +kernel)) ggX9_due_X5_covers
set_option maxRecDepth 20000 in
theorem ggX9_due_X9_workDues : GoodIn wsX9_due wsX9_workDues := goodIn_r _ [26, 27, 28, 29, 30, 31, 32, 33, 34, 35, 36, 37, 38, 39, 40, 41, 42, 43, 44, 45, 46, 47, 48, 49, 50, 51, 52, 53, 54, 55, 56, 57, 58, 59, 60, 10, 6, 11, 77, 78, 79, 80, 81, 61, 62, 63, 64, 65, 66, 67, 68, 69, 70, 71, 72, 82, 83, 84, 85, 86, 87, 88, 89, 90, 91] (by decide +kernel) (by decide +kernel)
set_option maxRecDepth 20000 in
theorem gX9_due_X9_workDues : GoodIn wsX9_due (wsV RX9 192 RX9 yX9_workDues wsX9_workDues) := goodIn_app (goodIn_of _ (by decide +kernel)) ggX9_due_X9_workDues
theorem dX9_due_0 : decode cX9_due 0 = .ok (.aload_n 0, 1) := by decide +kernel
theorem dX9_due_1 : decode cX9_due 1 = .ok (.iload_n 1, 1) := by decide +kernel
theorem dX9_due_2 : decode cX9_due 2 = .ok (.invokevirtual 66, 3) := by decide +kernel
theorem dX9_due_5 : decode cX9_due 5 = .ok (.astore_n 3, 1) := by decide +kernel
theorem dX9_due_6 : decode cX9_due 6 = .ok (.aload_n 3, 1) := by decide +kernel
theorem dX9_due_7 : decode cX9_due 7 = .ok (.ifnull 15, 3) := by decide +kernel
theorem dX9_due_10 : decode cX9_due 10 = .ok (.iload_n 2, 1) := by decide +kernel
theorem dX9_due_11 : decode cX9_due 11 = .ok (.iconst 0, 1) := by decide +kernel
theorem dX9_due_12 : decode cX9_due 12 = .ok (.aload_n 0, 1) := by decide +kernel
theorem dX9_due_13 : decode cX9_due 13 = .ok (.getfield 94, 3) := by decide +kernel
theorem dX9_due_16 : decode cX9_due 16 = .ok (.invokestatic 51, 3) := by decide +kernel
theorem dX9_due_19 : decode cX9_due 19 = .ok (.ifCond .ne 5, 3) := by decide +kernel
theorem dX9_due_22 : decode cX9_due 22 = .ok (.iconst (-1), 1) := by decide +kernel
theorem dX9_due_23 : decode cX9_due 23 = .ok (.ireturn, 1) := by decide +kernel
theorem dX9_due_24 : decode cX9_due 24 = .ok (.aload_n 3, 1) := by decide +kernel
theorem dX9_due_25 : decode cX9_due 25 = .ok (.getfield 135, 3) := by decide +kernel
theorem dX9_due_28 : decode cX9_due 28 = .ok (.iload_n 2, 1) := by decide +kernel
theorem dX9_due_29 : decode cX9_due 29 = .ok (.invokevirtual 188, 3) := by decide +kernel
theorem dX9_due_32 : decode cX9_due 32 = .ok (.ifCond .ne 6, 3) := by decide +kernel
theorem dX9_due_35 : decode cX9_due 35 = .ok (.bipush (-2), 2) := by decide +kernel
theorem dX9_due_37 : decode cX9_due 37 = .ok (.ireturn, 1) := by decide +kernel
theorem dX9_due_38 : decode cX9_due 38 = .ok (.aload_n 0, 1) := by decide +kernel
theorem dX9_due_39 : decode cX9_due 39 = .ok (.iload_n 1, 1) := by decide +kernel
theorem dX9_due_40 : decode cX9_due 40 = .ok (.aload_n 3, 1) := by decide +kernel
theorem dX9_due_41 : decode cX9_due 41 = .ok (.getfield 135, 3) := by decide +kernel
theorem dX9_due_44 : decode cX9_due 44 = .ok (.iload_n 2, 1) := by decide +kernel
theorem dX9_due_45 : decode cX9_due 45 = .ok (.invokevirtual 192, 3) := by decide +kernel
theorem dX9_due_48 : decode cX9_due 48 = .ok (.ireturn, 1) := by decide +kernel
set_option maxRecDepth 20000 in
theorem ggX9_pay_X9_homeAt : GoodIn wsX9_pay wsX9_homeAt := goodIn_r _ [10, 11, 12, 13, 9, 14, 36, 37, 38, 39, 40, 41, 42, 43, 44, 45, 46, 47] (by decide +kernel) (by decide +kernel)
set_option maxRecDepth 20000 in
theorem gX9_pay_X9_homeAt : GoodIn wsX9_pay (wsV RX9 66 RX9 yX9_homeAt wsX9_homeAt) := goodIn_app (goodIn_of _ (by decide +kernel)) ggX9_pay_X9_homeAt
set_option maxRecDepth 20000 in
theorem ggX9_pay_X9_within : GoodIn wsX9_pay wsX9_within := goodIn_r _ [14] (by decide +kernel) (by decide +kernel)
set_option maxRecDepth 20000 in
theorem gX9_pay_X9_within : GoodIn wsX9_pay (va_wsS RX9 51 yX9_within wsX9_within) := goodIn_app (goodIn_of _ (by decide +kernel)) ggX9_pay_X9_within
set_option maxRecDepth 20000 in
theorem ggX9_pay_X5_isLet : GoodIn wsX9_pay wsX5_isLet := goodIn_r _ [19, 20, 31, 32, 33, 34, 35] (by decide +kernel) (by decide +kernel)
set_option maxRecDepth 20000 in
theorem gX9_pay_X5_isLet : GoodIn wsX9_pay (wsV RX9 145 RX5 yX5_isLet wsX5_isLet) := goodIn_app (goodIn_of _ (by decide +kernel)) ggX9_pay_X5_isLet
set_option maxRecDepth 20000 in
theorem ggX9_pay_X5_take : GoodIn wsX9_pay wsX5_take := goodIn_r _ [24, 25, 26, 13, 9, 14, 31, 32, 33, 34, 35] (by decide +kernel) (by decide +kernel)
set_option maxRecDepth 20000 in
theorem gX9_pay_X5_take : GoodIn wsX9_pay (wsV RX9 201 RX5 yX5_take wsX5_take) := goodIn_app (goodIn_of _ (by decide +kernel)) ggX9_pay_X5_take
theorem dX9_pay_0 : decode cX9_pay 0 = .ok (.aload_n 0, 1) := by decide +kernel
theorem dX9_pay_1 : decode cX9_pay 1 = .ok (.iload_n 1, 1) := by decide +kernel
theorem dX9_pay_2 : decode cX9_pay 2 = .ok (.invokevirtual 66, 3) := by decide +kernel
theorem dX9_pay_5 : decode cX9_pay 5 = .ok (.astore_n 3, 1) := by decide +kernel
theorem dX9_pay_6 : decode cX9_pay 6 = .ok (.aload_n 3, 1) := by decide +kernel
theorem dX9_pay_7 : decode cX9_pay 7 = .ok (.ifnull 13, 3) := by decide +kernel
theorem dX9_pay_10 : decode cX9_pay 10 = .ok (.iload_n 2, 1) := by decide +kernel
theorem dX9_pay_11 : decode cX9_pay 11 = .ok (.iconst 0, 1) := by decide +kernel
theorem dX9_pay_12 : decode cX9_pay 12 = .ok (.ldc 196, 2) := by decide +kernel
theorem dX9_pay_14 : decode cX9_pay 14 = .ok (.invokestatic 51, 3) := by decide +kernel
theorem dX9_pay_17 : decode cX9_pay 17 = .ok (.ifCond .ne 5, 3) := by decide +kernel
theorem dX9_pay_20 : decode cX9_pay 20 = .ok (.iconst (-1), 1) := by decide +kernel
theorem dX9_pay_21 : decode cX9_pay 21 = .ok (.ireturn, 1) := by decide +kernel
theorem dX9_pay_22 : decode cX9_pay 22 = .ok (.aload_n 3, 1) := by decide +kernel
theorem dX9_pay_23 : decode cX9_pay 23 = .ok (.getfield 135, 3) := by decide +kernel
theorem dX9_pay_26 : decode cX9_pay 26 = .ok (.invokevirtual 145, 3) := by decide +kernel
theorem dX9_pay_29 : decode cX9_pay 29 = .ok (.ifCond .ne 6, 3) := by decide +kernel
theorem dX9_pay_32 : decode cX9_pay 32 = .ok (.bipush (-2), 2) := by decide +kernel
theorem dX9_pay_34 : decode cX9_pay 34 = .ok (.ireturn, 1) := by decide +kernel
theorem dX9_pay_35 : decode cX9_pay 35 = .ok (.aload_n 3, 1) := by decide +kernel
theorem dX9_pay_36 : decode cX9_pay 36 = .ok (.getfield 135, 3) := by decide +kernel
theorem dX9_pay_39 : decode cX9_pay 39 = .ok (.getfield 197, 3) := by decide +kernel
theorem dX9_pay_42 : decode cX9_pay 42 = .ok (.iload_n 2, 1) := by decide +kernel
theorem dX9_pay_43 : decode cX9_pay 43 = .ok (.iadd, 1) := by decide +kernel
theorem dX9_pay_44 : decode cX9_pay 44 = .ok (.ldc 200, 2) := by decide +kernel
theorem dX9_pay_46 : decode cX9_pay 46 = .ok (.if_icmp .le 6, 3) := by decide +kernel
theorem dX9_pay_49 : decode cX9_pay 49 = .ok (.bipush (-3), 2) := by decide +kernel
theorem dX9_pay_51 : decode cX9_pay 51 = .ok (.ireturn, 1) := by decide +kernel
theorem dX9_pay_52 : decode cX9_pay 52 = .ok (.aload_n 3, 1) := by decide +kernel
theorem dX9_pay_53 : decode cX9_pay 53 = .ok (.getfield 135, 3) := by decide +kernel
theorem dX9_pay_56 : decode cX9_pay 56 = .ok (.aload_n 0, 1) := by decide +kernel
theorem dX9_pay_57 : decode cX9_pay 57 = .ok (.getfield 94, 3) := by decide +kernel
theorem dX9_pay_60 : decode cX9_pay 60 = .ok (.iload_n 2, 1) := by decide +kernel
theorem dX9_pay_61 : decode cX9_pay 61 = .ok (.invokevirtual 201, 3) := by decide +kernel
theorem dX9_pay_64 : decode cX9_pay 64 = .ok (.aload_n 3, 1) := by decide +kernel
theorem dX9_pay_65 : decode cX9_pay 65 = .ok (.getfield 135, 3) := by decide +kernel
theorem dX9_pay_68 : decode cX9_pay 68 = .ok (.getfield 197, 3) := by decide +kernel
theorem dX9_pay_71 : decode cX9_pay 71 = .ok (.ireturn, 1) := by decide +kernel
set_option maxRecDepth 20000 in
theorem ggX9_owed_X9_homeAt : GoodIn wsX9_owed wsX9_homeAt := goodIn_r _ [14, 15, 16, 17, 13, 18, 67, 68, 69, 70, 71, 72, 73, 74, 75, 76, 77, 78] (by decide +kernel) (by decide +kernel)
set_option maxRecDepth 20000 in
theorem gX9_owed_X9_homeAt : GoodIn wsX9_owed (wsV RX9 66 RX9 yX9_homeAt wsX9_homeAt) := goodIn_app (goodIn_of _ (by decide +kernel)) ggX9_owed_X9_homeAt
set_option maxRecDepth 20000 in
theorem ggX9_owed_X9_within : GoodIn wsX9_owed wsX9_within := goodIn_r _ [18] (by decide +kernel) (by decide +kernel)
set_option maxRecDepth 20000 in
theorem gX9_owed_X9_within : GoodIn wsX9_owed (va_wsS RX9 51 yX9_within wsX9_within) := goodIn_app (goodIn_of _ (by decide +kernel)) ggX9_owed_X9_within
set_option maxRecDepth 20000 in
theorem ggX9_owed_X5_covers : GoodIn wsX9_owed wsX5_covers := goodIn_r _ [23, 24, 25, 26, 27, 22, 28, 29, 83, 84, 85, 86, 87] (by decide +kernel) (by decide +kernel)
set_option maxRecDepth 20000 in
theorem gX9_owed_X5_covers : GoodIn wsX9_owed (wsV RX9 188 RX5 yX5_covers wsX5_covers) := goodIn_app (goodIn_of _ (by decide +kernel)) ggX9_owed_X5_covers
set_option maxRecDepth 20000 in
theorem ggX9_owed_X9_workDues : GoodIn wsX9_owed wsX9_workDues := goodIn_r _ [33, 34, 4, 5, 6, 7, 8, 9, 35, 36, 37, 38, 39, 40, 41, 42, 43, 44, 45, 46, 47, 48, 49, 50, 51, 52, 53, 54, 55, 56, 57, 58, 59, 60, 61, 17, 13, 18, 83, 84, 85, 86, 87, 67, 68, 69, 70, 71, 72, 73, 74, 75, 76, 77, 78, 88, 89, 90, 91, 92, 93, 94, 95, 96, 97] (by decide +kernel) (by decide +kernel)
set_option maxRecDepth 20000 in
theorem gX9_owed_X9_workDues : GoodIn wsX9_owed (wsV RX9 192 RX9 yX9_workDues wsX9_workDues) := goodIn_app (goodIn_of _ (by decide +kernel)) ggX9_owed_X9_workDues
set_option maxRecDepth 20000 in
theorem ggX9_owed_X5_paidOn : GoodIn wsX9_owed wsX5_paidOn := goodIn_r _ [65, 66, 17, 13, 18, 83, 84, 85, 86, 87] (by decide +kernel) (by decide +kernel)
set_option maxRecDepth 20000 in
theorem gX9_owed_X5_paidOn : GoodIn wsX9_owed (wsV RX9 207 RX5 yX5_paidOn wsX5_paidOn) := goodIn_app (goodIn_of _ (by decide +kernel)) ggX9_owed_X5_paidOn
theorem dX9_owed_0 : decode cX9_owed 0 = .ok (.aload_n 0, 1) := by decide +kernel
theorem dX9_owed_1 : decode cX9_owed 1 = .ok (.iload_n 1, 1) := by decide +kernel
theorem dX9_owed_2 : decode cX9_owed 2 = .ok (.invokevirtual 66, 3) := by decide +kernel
theorem dX9_owed_5 : decode cX9_owed 5 = .ok (.astore_n 3, 1) := by decide +kernel
theorem dX9_owed_6 : decode cX9_owed 6 = .ok (.aload_n 3, 1) := by decide +kernel
theorem dX9_owed_7 : decode cX9_owed 7 = .ok (.ifnull 26, 3) := by decide +kernel
theorem dX9_owed_10 : decode cX9_owed 10 = .ok (.iload_n 2, 1) := by decide +kernel
theorem dX9_owed_11 : decode cX9_owed 11 = .ok (.iconst 0, 1) := by decide +kernel
theorem dX9_owed_12 : decode cX9_owed 12 = .ok (.aload_n 0, 1) := by decide +kernel
theorem dX9_owed_13 : decode cX9_owed 13 = .ok (.getfield 94, 3) := by decide +kernel
theorem dX9_owed_16 : decode cX9_owed 16 = .ok (.invokestatic 51, 3) := by decide +kernel
theorem dX9_owed_19 : decode cX9_owed 19 = .ok (.ifCond .eq 14, 3) := by decide +kernel
theorem dX9_owed_22 : decode cX9_owed 22 = .ok (.aload_n 3, 1) := by decide +kernel
theorem dX9_owed_23 : decode cX9_owed 23 = .ok (.getfield 135, 3) := by decide +kernel
theorem dX9_owed_26 : decode cX9_owed 26 = .ok (.iload_n 2, 1) := by decide +kernel
theorem dX9_owed_27 : decode cX9_owed 27 = .ok (.invokevirtual 188, 3) := by decide +kernel
theorem dX9_owed_30 : decode cX9_owed 30 = .ok (.ifCond .ne 6, 3) := by decide +kernel
theorem dX9_owed_33 : decode cX9_owed 33 = .ok (.ldc 115, 2) := by decide +kernel
theorem dX9_owed_35 : decode cX9_owed 35 = .ok (.ireturn, 1) := by decide +kernel
theorem dX9_owed_36 : decode cX9_owed 36 = .ok (.aload_n 3, 1) := by decide +kernel
theorem dX9_owed_37 : decode cX9_owed 37 = .ok (.getfield 135, 3) := by decide +kernel
theorem dX9_owed_40 : decode cX9_owed 40 = .ok (.astore 4, 2) := by decide +kernel
theorem dX9_owed_42 : decode cX9_owed 42 = .ok (.aload_n 0, 1) := by decide +kernel
theorem dX9_owed_43 : decode cX9_owed 43 = .ok (.iload_n 1, 1) := by decide +kernel
theorem dX9_owed_44 : decode cX9_owed 44 = .ok (.aload 4, 2) := by decide +kernel
theorem dX9_owed_46 : decode cX9_owed 46 = .ok (.iload_n 2, 1) := by decide +kernel
theorem dX9_owed_47 : decode cX9_owed 47 = .ok (.invokevirtual 192, 3) := by decide +kernel
theorem dX9_owed_50 : decode cX9_owed 50 = .ok (.pop, 1) := by decide +kernel
theorem dX9_owed_51 : decode cX9_owed 51 = .ok (.iconst 0, 1) := by decide +kernel
theorem dX9_owed_52 : decode cX9_owed 52 = .ok (.istore 5, 2) := by decide +kernel
theorem dX9_owed_54 : decode cX9_owed 54 = .ok (.aload 4, 2) := by decide +kernel
theorem dX9_owed_56 : decode cX9_owed 56 = .ok (.getfield 204, 3) := by decide +kernel
theorem dX9_owed_59 : decode cX9_owed 59 = .ok (.iconst 0, 1) := by decide +kernel
theorem dX9_owed_60 : decode cX9_owed 60 = .ok (.invokestatic 160, 3) := by decide +kernel
theorem dX9_owed_63 : decode cX9_owed 63 = .ok (.istore 6, 2) := by decide +kernel
theorem dX9_owed_65 : decode cX9_owed 65 = .ok (.iload 6, 2) := by decide +kernel
theorem dX9_owed_67 : decode cX9_owed 67 = .ok (.iload_n 2, 1) := by decide +kernel
theorem dX9_owed_68 : decode cX9_owed 68 = .ok (.if_icmp .gt 39, 3) := by decide +kernel
theorem dX9_owed_71 : decode cX9_owed 71 = .ok (.iload 6, 2) := by decide +kernel
theorem dX9_owed_73 : decode cX9_owed 73 = .ok (.aload_n 0, 1) := by decide +kernel
theorem dX9_owed_74 : decode cX9_owed 74 = .ok (.getfield 47, 3) := by decide +kernel
theorem dX9_owed_77 : decode cX9_owed 77 = .ok (.arraylength, 1) := by decide +kernel
theorem dX9_owed_78 : decode cX9_owed 78 = .ok (.if_icmp .ge 29, 3) := by decide +kernel
theorem dX9_owed_81 : decode cX9_owed 81 = .ok (.iload 5, 2) := by decide +kernel
theorem dX9_owed_83 : decode cX9_owed 83 = .ok (.aload_n 0, 1) := by decide +kernel
theorem dX9_owed_84 : decode cX9_owed 84 = .ok (.getfield 47, 3) := by decide +kernel
theorem dX9_owed_87 : decode cX9_owed 87 = .ok (.iload 6, 2) := by decide +kernel
theorem dX9_owed_89 : decode cX9_owed 89 = .ok (.iaload, 1) := by decide +kernel
theorem dX9_owed_90 : decode cX9_owed 90 = .ok (.aload 4, 2) := by decide +kernel
theorem dX9_owed_92 : decode cX9_owed 92 = .ok (.iload 6, 2) := by decide +kernel
theorem dX9_owed_94 : decode cX9_owed 94 = .ok (.invokevirtual 207, 3) := by decide +kernel
theorem dX9_owed_97 : decode cX9_owed 97 = .ok (.isub, 1) := by decide +kernel
theorem dX9_owed_98 : decode cX9_owed 98 = .ok (.iadd, 1) := by decide +kernel
theorem dX9_owed_99 : decode cX9_owed 99 = .ok (.istore 5, 2) := by decide +kernel
theorem dX9_owed_101 : decode cX9_owed 101 = .ok (.iinc 6 1, 3) := by decide +kernel
theorem dX9_owed_104 : decode cX9_owed 104 = .ok (.goto (-39), 3) := by decide +kernel
theorem dX9_owed_107 : decode cX9_owed 107 = .ok (.iload 5, 2) := by decide +kernel
theorem dX9_owed_109 : decode cX9_owed 109 = .ok (.ireturn, 1) := by decide +kernel
set_option maxRecDepth 20000 in
theorem ggX9_count_X9_homesLet : GoodIn wsX9_count wsX9_homesLet := goodIn_r _ [9, 10, 11, 12, 13, 14, 15, 16, 17, 23, 24, 25, 26, 27, 28, 29, 30, 31, 32, 33, 34, 35, 36, 37, 38, 39, 40, 41, 42, 43] (by decide +kernel) (by decide +kernel)
set_option maxRecDepth 20000 in
theorem gX9_count_X9_homesLet : GoodIn wsX9_count (wsV RX9 210 RX9 yX9_homesLet wsX9_homesLet) := goodIn_app (goodIn_of _ (by decide +kernel)) ggX9_count_X9_homesLet
set_option maxRecDepth 20000 in
theorem ggX9_count_X9_lawsTold : GoodIn wsX9_count wsX9_lawsTold := goodIn_r _ [21, 22, 23, 24, 25, 26, 27, 28, 29, 30, 31, 32, 33, 34] (by decide +kernel) (by decide +kernel)
set_option maxRecDepth 20000 in
theorem gX9_count_X9_lawsTold : GoodIn wsX9_count (wsV RX9 213 RX9 yX9_lawsTold wsX9_lawsTold) := goodIn_app (goodIn_of _ (by decide +kernel)) ggX9_count_X9_lawsTold
theorem dX9_count_0 : decode cX9_count 0 = .ok (.iload_n 1, 1) := by decide +kernel
theorem dX9_count_1 : decode cX9_count 1 = .ok (.tableswitch 69 0 5 #[39, 44, 49, 54, 59, 64], 39) := by decide +kernel
theorem dX9_count_40 : decode cX9_count 40 = .ok (.aload_n 0, 1) := by decide +kernel
theorem dX9_count_41 : decode cX9_count 41 = .ok (.getfield 55, 3) := by decide +kernel
theorem dX9_count_44 : decode cX9_count 44 = .ok (.ireturn, 1) := by decide +kernel
theorem dX9_count_45 : decode cX9_count 45 = .ok (.aload_n 0, 1) := by decide +kernel
theorem dX9_count_46 : decode cX9_count 46 = .ok (.getfield 105, 3) := by decide +kernel
theorem dX9_count_49 : decode cX9_count 49 = .ok (.ireturn, 1) := by decide +kernel
theorem dX9_count_50 : decode cX9_count 50 = .ok (.aload_n 0, 1) := by decide +kernel
theorem dX9_count_51 : decode cX9_count 51 = .ok (.getfield 152, 3) := by decide +kernel
theorem dX9_count_54 : decode cX9_count 54 = .ok (.ireturn, 1) := by decide +kernel
theorem dX9_count_55 : decode cX9_count 55 = .ok (.aload_n 0, 1) := by decide +kernel
theorem dX9_count_56 : decode cX9_count 56 = .ok (.getfield 94, 3) := by decide +kernel
theorem dX9_count_59 : decode cX9_count 59 = .ok (.ireturn, 1) := by decide +kernel
theorem dX9_count_60 : decode cX9_count 60 = .ok (.aload_n 0, 1) := by decide +kernel
theorem dX9_count_61 : decode cX9_count 61 = .ok (.invokevirtual 210, 3) := by decide +kernel
theorem dX9_count_64 : decode cX9_count 64 = .ok (.ireturn, 1) := by decide +kernel
theorem dX9_count_65 : decode cX9_count 65 = .ok (.aload_n 0, 1) := by decide +kernel
theorem dX9_count_66 : decode cX9_count 66 = .ok (.invokevirtual 213, 3) := by decide +kernel
theorem dX9_count_69 : decode cX9_count 69 = .ok (.ireturn, 1) := by decide +kernel
theorem dX9_count_70 : decode cX9_count 70 = .ok (.iconst (-1), 1) := by decide +kernel
theorem dX9_count_71 : decode cX9_count 71 = .ok (.ireturn, 1) := by decide +kernel
theorem dX9_trace_0 : decode cX9_trace 0 = .ok (.aload_n 0, 1) := by decide +kernel
theorem dX9_trace_1 : decode cX9_trace 1 = .ok (.getfield 73, 3) := by decide +kernel
theorem dX9_trace_4 : decode cX9_trace 4 = .ok (.lreturn, 1) := by decide +kernel
theorem dX9_within_0 : decode cX9_within 0 = .ok (.iload_n 0, 1) := by decide +kernel
theorem dX9_within_1 : decode cX9_within 1 = .ok (.iload_n 1, 1) := by decide +kernel
theorem dX9_within_2 : decode cX9_within 2 = .ok (.if_icmp .lt 12, 3) := by decide +kernel
theorem dX9_within_5 : decode cX9_within 5 = .ok (.iload_n 0, 1) := by decide +kernel
theorem dX9_within_6 : decode cX9_within 6 = .ok (.iload_n 2, 1) := by decide +kernel
theorem dX9_within_7 : decode cX9_within 7 = .ok (.if_icmp .gt 7, 3) := by decide +kernel
theorem dX9_within_10 : decode cX9_within 10 = .ok (.iconst 1, 1) := by decide +kernel
theorem dX9_within_11 : decode cX9_within 11 = .ok (.goto 4, 3) := by decide +kernel
theorem dX9_within_14 : decode cX9_within 14 = .ok (.iconst 0, 1) := by decide +kernel
theorem dX9_within_15 : decode cX9_within 15 = .ok (.ireturn, 1) := by decide +kernel
set_option maxRecDepth 20000 in
theorem ggX9_lawful_X9_within : GoodIn wsX9_lawful wsX9_within := goodIn_r _ [6] (by decide +kernel) (by decide +kernel)
set_option maxRecDepth 20000 in
theorem gX9_lawful_X9_within : GoodIn wsX9_lawful (va_wsS RX9 51 yX9_within wsX9_within) := goodIn_app (goodIn_of _ (by decide +kernel)) ggX9_lawful_X9_within
theorem dX9_lawful_0 : decode cX9_lawful 0 = .ok (.iconst 0, 1) := by decide +kernel
theorem dX9_lawful_1 : decode cX9_lawful 1 = .ok (.istore_n 1, 1) := by decide +kernel
theorem dX9_lawful_2 : decode cX9_lawful 2 = .ok (.iload_n 1, 1) := by decide +kernel
theorem dX9_lawful_3 : decode cX9_lawful 3 = .ok (.aload_n 0, 1) := by decide +kernel
theorem dX9_lawful_4 : decode cX9_lawful 4 = .ok (.arraylength, 1) := by decide +kernel
theorem dX9_lawful_5 : decode cX9_lawful 5 = .ok (.if_icmp .ge 46, 3) := by decide +kernel
theorem dX9_lawful_8 : decode cX9_lawful 8 = .ok (.iload_n 1, 1) := by decide +kernel
theorem dX9_lawful_9 : decode cX9_lawful 9 = .ok (.getstatic 216, 3) := by decide +kernel
theorem dX9_lawful_12 : decode cX9_lawful 12 = .ok (.arraylength, 1) := by decide +kernel
theorem dX9_lawful_13 : decode cX9_lawful 13 = .ok (.if_icmp .ge 38, 3) := by decide +kernel
theorem dX9_lawful_16 : decode cX9_lawful 16 = .ok (.iload_n 1, 1) := by decide +kernel
theorem dX9_lawful_17 : decode cX9_lawful 17 = .ok (.getstatic 219, 3) := by decide +kernel
theorem dX9_lawful_20 : decode cX9_lawful 20 = .ok (.arraylength, 1) := by decide +kernel
theorem dX9_lawful_21 : decode cX9_lawful 21 = .ok (.if_icmp .ge 30, 3) := by decide +kernel
theorem dX9_lawful_24 : decode cX9_lawful 24 = .ok (.aload_n 0, 1) := by decide +kernel
theorem dX9_lawful_25 : decode cX9_lawful 25 = .ok (.iload_n 1, 1) := by decide +kernel
theorem dX9_lawful_26 : decode cX9_lawful 26 = .ok (.iaload, 1) := by decide +kernel
theorem dX9_lawful_27 : decode cX9_lawful 27 = .ok (.getstatic 216, 3) := by decide +kernel
theorem dX9_lawful_30 : decode cX9_lawful 30 = .ok (.iload_n 1, 1) := by decide +kernel
theorem dX9_lawful_31 : decode cX9_lawful 31 = .ok (.iaload, 1) := by decide +kernel
theorem dX9_lawful_32 : decode cX9_lawful 32 = .ok (.getstatic 219, 3) := by decide +kernel
theorem dX9_lawful_35 : decode cX9_lawful 35 = .ok (.iload_n 1, 1) := by decide +kernel
theorem dX9_lawful_36 : decode cX9_lawful 36 = .ok (.iaload, 1) := by decide +kernel
theorem dX9_lawful_37 : decode cX9_lawful 37 = .ok (.invokestatic 51, 3) := by decide +kernel
theorem dX9_lawful_40 : decode cX9_lawful 40 = .ok (.ifCond .ne 5, 3) := by decide +kernel
theorem dX9_lawful_43 : decode cX9_lawful 43 = .ok (.iconst 0, 1) := by decide +kernel
theorem dX9_lawful_44 : decode cX9_lawful 44 = .ok (.ireturn, 1) := by decide +kernel
theorem dX9_lawful_45 : decode cX9_lawful 45 = .ok (.iinc 1 1, 3) := by decide +kernel
theorem dX9_lawful_48 : decode cX9_lawful 48 = .ok (.goto (-46), 3) := by decide +kernel
theorem dX9_lawful_51 : decode cX9_lawful 51 = .ok (.iconst 1, 1) := by decide +kernel
theorem dX9_lawful_52 : decode cX9_lawful 52 = .ok (.ireturn, 1) := by decide +kernel
set_option maxRecDepth 20000 in
theorem ggX9_bodyOf_X8_init : GoodIn wsX9_bodyOf wsX8_init := goodIn_r _ [12, 13, 14, 15, 16, 27, 28, 29, 30, 26] (by decide +kernel) (by decide +kernel)
set_option maxRecDepth 20000 in
theorem gX9_bodyOf_X8_init : GoodIn wsX9_bodyOf (wsX8_init) := ggX9_bodyOf_X8_init
set_option maxRecDepth 20000 in
theorem ggX9_bodyOf_X1_init : GoodIn wsX9_bodyOf wsX1_init := goodIn_r _ [19, 20, 21, 11, 3, 12, 13, 14, 15, 16, 27, 28, 29, 30, 26] (by decide +kernel) (by decide +kernel)
set_option maxRecDepth 20000 in
theorem gX9_bodyOf_X1_init : GoodIn wsX9_bodyOf (wsX1_init) := ggX9_bodyOf_X1_init
set_option maxRecDepth 20000 in
theorem ggX9_bodyOf_X7_init : GoodIn wsX9_bodyOf wsX7_init := goodIn_r _ [24, 25, 18, 6, 19, 20, 21, 11, 3, 12, 13, 14, 15, 16, 27, 28, 29, 30, 26] (by decide +kernel) (by decide +kernel)
set_option maxRecDepth 20000 in
theorem gX9_bodyOf_X7_init : GoodIn wsX9_bodyOf (wsX7_init) := ggX9_bodyOf_X7_init
theorem dX9_bodyOf_0 : decode cX9_bodyOf 0 = .ok (.iload_n 0, 1) := by decide +kernel
theorem dX9_bodyOf_1 : decode cX9_bodyOf 1 = .ok (.lookupswitch 46 #[(0, 27), (1, 36)], 27) := by decide +kernel
theorem dX9_bodyOf_28 : decode cX9_bodyOf 28 = .ok (.new 82, 3) := by decide +kernel
theorem dX9_bodyOf_31 : decode cX9_bodyOf 31 = .ok (.dup, 1) := by decide +kernel
theorem dX9_bodyOf_32 : decode cX9_bodyOf 32 = .ok (.iload_n 1, 1) := by decide +kernel
theorem dX9_bodyOf_33 : decode cX9_bodyOf 33 = .ok (.invokespecial 222, 3) := by decide +kernel
theorem dX9_bodyOf_36 : decode cX9_bodyOf 36 = .ok (.areturn, 1) := by decide +kernel
theorem dX9_bodyOf_37 : decode cX9_bodyOf 37 = .ok (.new 225, 3) := by decide +kernel
theorem dX9_bodyOf_40 : decode cX9_bodyOf 40 = .ok (.dup, 1) := by decide +kernel
theorem dX9_bodyOf_41 : decode cX9_bodyOf 41 = .ok (.iload_n 1, 1) := by decide +kernel
theorem dX9_bodyOf_42 : decode cX9_bodyOf 42 = .ok (.iload_n 2, 1) := by decide +kernel
theorem dX9_bodyOf_43 : decode cX9_bodyOf 43 = .ok (.invokespecial 227, 3) := by decide +kernel
theorem dX9_bodyOf_46 : decode cX9_bodyOf 46 = .ok (.areturn, 1) := by decide +kernel
theorem dX9_bodyOf_47 : decode cX9_bodyOf 47 = .ok (.new 229, 3) := by decide +kernel
theorem dX9_bodyOf_50 : decode cX9_bodyOf 50 = .ok (.dup, 1) := by decide +kernel
theorem dX9_bodyOf_51 : decode cX9_bodyOf 51 = .ok (.iload_n 1, 1) := by decide +kernel
theorem dX9_bodyOf_52 : decode cX9_bodyOf 52 = .ok (.iload_n 2, 1) := by decide +kernel
theorem dX9_bodyOf_53 : decode cX9_bodyOf 53 = .ok (.invokespecial 231, 3) := by decide +kernel
theorem dX9_bodyOf_56 : decode cX9_bodyOf 56 = .ok (.areturn, 1) := by decide +kernel
set_option maxRecDepth 20000 in
theorem ggX9_homeAt_X9_within : GoodIn wsX9_homeAt wsX9_within := goodIn_r _ [5] (by decide +kernel) (by decide +kernel)
set_option maxRecDepth 20000 in
theorem gX9_homeAt_X9_within : GoodIn wsX9_homeAt (va_wsS RX9 51 yX9_within wsX9_within) := goodIn_app (goodIn_of _ (by decide +kernel)) ggX9_homeAt_X9_within
theorem dX9_homeAt_0 : decode cX9_homeAt 0 = .ok (.iload_n 1, 1) := by decide +kernel
theorem dX9_homeAt_1 : decode cX9_homeAt 1 = .ok (.iconst 0, 1) := by decide +kernel
theorem dX9_homeAt_2 : decode cX9_homeAt 2 = .ok (.aload_n 0, 1) := by decide +kernel
theorem dX9_homeAt_3 : decode cX9_homeAt 3 = .ok (.getfield 11, 3) := by decide +kernel
theorem dX9_homeAt_6 : decode cX9_homeAt 6 = .ok (.arraylength, 1) := by decide +kernel
theorem dX9_homeAt_7 : decode cX9_homeAt 7 = .ok (.iconst 1, 1) := by decide +kernel
theorem dX9_homeAt_8 : decode cX9_homeAt 8 = .ok (.isub, 1) := by decide +kernel
theorem dX9_homeAt_9 : decode cX9_homeAt 9 = .ok (.invokestatic 51, 3) := by decide +kernel
theorem dX9_homeAt_12 : decode cX9_homeAt 12 = .ok (.ifCond .eq 12, 3) := by decide +kernel
theorem dX9_homeAt_15 : decode cX9_homeAt 15 = .ok (.aload_n 0, 1) := by decide +kernel
theorem dX9_homeAt_16 : decode cX9_homeAt 16 = .ok (.getfield 11, 3) := by decide +kernel
theorem dX9_homeAt_19 : decode cX9_homeAt 19 = .ok (.iload_n 1, 1) := by decide +kernel
theorem dX9_homeAt_20 : decode cX9_homeAt 20 = .ok (.aaload, 1) := by decide +kernel
theorem dX9_homeAt_21 : decode cX9_homeAt 21 = .ok (.goto 4, 3) := by decide +kernel
theorem dX9_homeAt_24 : decode cX9_homeAt 24 = .ok (.aconst_null, 1) := by decide +kernel
theorem dX9_homeAt_25 : decode cX9_homeAt 25 = .ok (.areturn, 1) := by decide +kernel
set_option maxRecDepth 20000 in
theorem ggX9_entryAt_X9_within : GoodIn wsX9_entryAt wsX9_within := goodIn_r _ [5] (by decide +kernel) (by decide +kernel)
set_option maxRecDepth 20000 in
theorem gX9_entryAt_X9_within : GoodIn wsX9_entryAt (va_wsS RX9 51 yX9_within wsX9_within) := goodIn_app (goodIn_of _ (by decide +kernel)) ggX9_entryAt_X9_within
theorem dX9_entryAt_0 : decode cX9_entryAt 0 = .ok (.iload_n 1, 1) := by decide +kernel
theorem dX9_entryAt_1 : decode cX9_entryAt 1 = .ok (.iconst 0, 1) := by decide +kernel
theorem dX9_entryAt_2 : decode cX9_entryAt 2 = .ok (.aload_n 0, 1) := by decide +kernel
theorem dX9_entryAt_3 : decode cX9_entryAt 3 = .ok (.getfield 23, 3) := by decide +kernel
theorem dX9_entryAt_6 : decode cX9_entryAt 6 = .ok (.arraylength, 1) := by decide +kernel
theorem dX9_entryAt_7 : decode cX9_entryAt 7 = .ok (.iconst 1, 1) := by decide +kernel
theorem dX9_entryAt_8 : decode cX9_entryAt 8 = .ok (.isub, 1) := by decide +kernel
theorem dX9_entryAt_9 : decode cX9_entryAt 9 = .ok (.invokestatic 51, 3) := by decide +kernel
theorem dX9_entryAt_12 : decode cX9_entryAt 12 = .ok (.ifCond .eq 12, 3) := by decide +kernel
theorem dX9_entryAt_15 : decode cX9_entryAt 15 = .ok (.aload_n 0, 1) := by decide +kernel
theorem dX9_entryAt_16 : decode cX9_entryAt 16 = .ok (.getfield 23, 3) := by decide +kernel
theorem dX9_entryAt_19 : decode cX9_entryAt 19 = .ok (.iload_n 1, 1) := by decide +kernel
theorem dX9_entryAt_20 : decode cX9_entryAt 20 = .ok (.aaload, 1) := by decide +kernel
theorem dX9_entryAt_21 : decode cX9_entryAt 21 = .ok (.goto 4, 3) := by decide +kernel
theorem dX9_entryAt_24 : decode cX9_entryAt 24 = .ok (.aconst_null, 1) := by decide +kernel
theorem dX9_entryAt_25 : decode cX9_entryAt 25 = .ok (.areturn, 1) := by decide +kernel
theorem dX9_lawOn_0 : decode cX9_lawOn 0 = .ok (.iload_n 1, 1) := by decide +kernel
theorem dX9_lawOn_1 : decode cX9_lawOn 1 = .ok (.bipush 10, 2) := by decide +kernel
theorem dX9_lawOn_3 : decode cX9_lawOn 3 = .ok (.idiv, 1) := by decide +kernel
theorem dX9_lawOn_4 : decode cX9_lawOn 4 = .ok (.aload_n 0, 1) := by decide +kernel
theorem dX9_lawOn_5 : decode cX9_lawOn 5 = .ok (.getfield 29, 3) := by decide +kernel
theorem dX9_lawOn_8 : decode cX9_lawOn 8 = .ok (.arraylength, 1) := by decide +kernel
theorem dX9_lawOn_9 : decode cX9_lawOn 9 = .ok (.iconst 1, 1) := by decide +kernel
theorem dX9_lawOn_10 : decode cX9_lawOn 10 = .ok (.isub, 1) := by decide +kernel
theorem dX9_lawOn_11 : decode cX9_lawOn 11 = .ok (.invokestatic 232, 3) := by decide +kernel
theorem dX9_lawOn_14 : decode cX9_lawOn 14 = .ok (.istore_n 2, 1) := by decide +kernel
theorem dX9_lawOn_15 : decode cX9_lawOn 15 = .ok (.iload_n 2, 1) := by decide +kernel
theorem dX9_lawOn_16 : decode cX9_lawOn 16 = .ok (.istore_n 3, 1) := by decide +kernel
theorem dX9_lawOn_17 : decode cX9_lawOn 17 = .ok (.iload_n 3, 1) := by decide +kernel
theorem dX9_lawOn_18 : decode cX9_lawOn 18 = .ok (.ifCond .lt 25, 3) := by decide +kernel
theorem dX9_lawOn_21 : decode cX9_lawOn 21 = .ok (.aload_n 0, 1) := by decide +kernel
theorem dX9_lawOn_22 : decode cX9_lawOn 22 = .ok (.getfield 29, 3) := by decide +kernel
theorem dX9_lawOn_25 : decode cX9_lawOn 25 = .ok (.iload_n 3, 1) := by decide +kernel
theorem dX9_lawOn_26 : decode cX9_lawOn 26 = .ok (.aaload, 1) := by decide +kernel
theorem dX9_lawOn_27 : decode cX9_lawOn 27 = .ok (.ifnull 10, 3) := by decide +kernel
theorem dX9_lawOn_30 : decode cX9_lawOn 30 = .ok (.aload_n 0, 1) := by decide +kernel
theorem dX9_lawOn_31 : decode cX9_lawOn 31 = .ok (.getfield 29, 3) := by decide +kernel
theorem dX9_lawOn_34 : decode cX9_lawOn 34 = .ok (.iload_n 3, 1) := by decide +kernel
theorem dX9_lawOn_35 : decode cX9_lawOn 35 = .ok (.aaload, 1) := by decide +kernel
theorem dX9_lawOn_36 : decode cX9_lawOn 36 = .ok (.areturn, 1) := by decide +kernel
theorem dX9_lawOn_37 : decode cX9_lawOn 37 = .ok (.iinc 3 (-1), 3) := by decide +kernel
theorem dX9_lawOn_40 : decode cX9_lawOn 40 = .ok (.goto (-23), 3) := by decide +kernel
theorem dX9_lawOn_43 : decode cX9_lawOn 43 = .ok (.aload_n 0, 1) := by decide +kernel
theorem dX9_lawOn_44 : decode cX9_lawOn 44 = .ok (.getfield 36, 3) := by decide +kernel
theorem dX9_lawOn_47 : decode cX9_lawOn 47 = .ok (.areturn, 1) := by decide +kernel
theorem dX9_latestStanding_0 : decode cX9_latestStanding 0 = .ok (.aload_n 0, 1) := by decide +kernel
theorem dX9_latestStanding_1 : decode cX9_latestStanding 1 = .ok (.getfield 23, 3) := by decide +kernel
theorem dX9_latestStanding_4 : decode cX9_latestStanding 4 = .ok (.arraylength, 1) := by decide +kernel
theorem dX9_latestStanding_5 : decode cX9_latestStanding 5 = .ok (.iconst 1, 1) := by decide +kernel
theorem dX9_latestStanding_6 : decode cX9_latestStanding 6 = .ok (.isub, 1) := by decide +kernel
theorem dX9_latestStanding_7 : decode cX9_latestStanding 7 = .ok (.istore_n 2, 1) := by decide +kernel
theorem dX9_latestStanding_8 : decode cX9_latestStanding 8 = .ok (.iload_n 2, 1) := by decide +kernel
theorem dX9_latestStanding_9 : decode cX9_latestStanding 9 = .ok (.ifCond .lt 37, 3) := by decide +kernel
theorem dX9_latestStanding_12 : decode cX9_latestStanding 12 = .ok (.aload_n 0, 1) := by decide +kernel
theorem dX9_latestStanding_13 : decode cX9_latestStanding 13 = .ok (.getfield 23, 3) := by decide +kernel
theorem dX9_latestStanding_16 : decode cX9_latestStanding 16 = .ok (.iload_n 2, 1) := by decide +kernel
theorem dX9_latestStanding_17 : decode cX9_latestStanding 17 = .ok (.aaload, 1) := by decide +kernel
theorem dX9_latestStanding_18 : decode cX9_latestStanding 18 = .ok (.astore_n 3, 1) := by decide +kernel
theorem dX9_latestStanding_19 : decode cX9_latestStanding 19 = .ok (.aload_n 3, 1) := by decide +kernel
theorem dX9_latestStanding_20 : decode cX9_latestStanding 20 = .ok (.ifnull 20, 3) := by decide +kernel
theorem dX9_latestStanding_23 : decode cX9_latestStanding 23 = .ok (.aload_n 3, 1) := by decide +kernel
theorem dX9_latestStanding_24 : decode cX9_latestStanding 24 = .ok (.getfield 176, 3) := by decide +kernel
theorem dX9_latestStanding_27 : decode cX9_latestStanding 27 = .ok (.ifCond .eq 13, 3) := by decide +kernel
theorem dX9_latestStanding_30 : decode cX9_latestStanding 30 = .ok (.aload_n 3, 1) := by decide +kernel
theorem dX9_latestStanding_31 : decode cX9_latestStanding 31 = .ok (.getfield 179, 3) := by decide +kernel
theorem dX9_latestStanding_34 : decode cX9_latestStanding 34 = .ok (.iload_n 1, 1) := by decide +kernel
theorem dX9_latestStanding_35 : decode cX9_latestStanding 35 = .ok (.if_icmp .ne 5, 3) := by decide +kernel
theorem dX9_latestStanding_38 : decode cX9_latestStanding 38 = .ok (.iload_n 2, 1) := by decide +kernel
theorem dX9_latestStanding_39 : decode cX9_latestStanding 39 = .ok (.ireturn, 1) := by decide +kernel
theorem dX9_latestStanding_40 : decode cX9_latestStanding 40 = .ok (.iinc 2 (-1), 3) := by decide +kernel
theorem dX9_latestStanding_43 : decode cX9_latestStanding 43 = .ok (.goto (-35), 3) := by decide +kernel
theorem dX9_latestStanding_46 : decode cX9_latestStanding 46 = .ok (.bipush (-9), 2) := by decide +kernel
theorem dX9_latestStanding_48 : decode cX9_latestStanding 48 = .ok (.ireturn, 1) := by decide +kernel
set_option maxRecDepth 20000 in
theorem ggX9_barEnd_X9_latestStanding : GoodIn wsX9_barEnd wsX9_latestStanding := goodIn_r _ [7, 8, 9, 10, 33, 34, 35, 36, 37, 38, 39, 40, 41, 42, 43, 44, 24, 25, 26, 27, 28, 29, 30, 31, 32] (by decide +kernel) (by decide +kernel)
set_option maxRecDepth 20000 in
theorem gX9_barEnd_X9_latestStanding : GoodIn wsX9_barEnd (wsV RX9 166 RX9 yX9_latestStanding wsX9_latestStanding) := goodIn_app (goodIn_of _ (by decide +kernel)) ggX9_barEnd_X9_latestStanding
set_option maxRecDepth 20000 in
theorem ggX9_barEnd_X9_entryAt : GoodIn wsX9_barEnd wsX9_entryAt := goodIn_r _ [14, 8, 15, 16, 6, 17, 33, 34, 35, 36, 37, 38, 39, 40, 41, 42, 43, 44] (by decide +kernel) (by decide +kernel)
set_option maxRecDepth 20000 in
theorem gX9_barEnd_X9_entryAt : GoodIn wsX9_barEnd (wsV RX9 169 RX9 yX9_entryAt wsX9_entryAt) := goodIn_app (goodIn_of _ (by decide +kernel)) ggX9_barEnd_X9_entryAt
set_option maxRecDepth 20000 in
theorem ggX9_barEnd_X4_number : GoodIn wsX9_barEnd wsX4_number := goodIn_r _ [22, 23, 16, 6, 17, 45] (by decide +kernel) (by decide +kernel)
set_option maxRecDepth 20000 in
theorem gX9_barEnd_X4_number : GoodIn wsX9_barEnd (wsV RX9 101 RX4 yX4_number wsX4_number) := goodIn_app (goodIn_of _ (by decide +kernel)) ggX9_barEnd_X4_number
theorem dX9_barEnd_0 : decode cX9_barEnd 0 = .ok (.aload_n 0, 1) := by decide +kernel
theorem dX9_barEnd_1 : decode cX9_barEnd 1 = .ok (.aload_n 0, 1) := by decide +kernel
theorem dX9_barEnd_2 : decode cX9_barEnd 2 = .ok (.iload_n 1, 1) := by decide +kernel
theorem dX9_barEnd_3 : decode cX9_barEnd 3 = .ok (.invokevirtual 166, 3) := by decide +kernel
theorem dX9_barEnd_6 : decode cX9_barEnd 6 = .ok (.invokevirtual 169, 3) := by decide +kernel
theorem dX9_barEnd_9 : decode cX9_barEnd 9 = .ok (.astore_n 2, 1) := by decide +kernel
theorem dX9_barEnd_10 : decode cX9_barEnd 10 = .ok (.aload_n 2, 1) := by decide +kernel
theorem dX9_barEnd_11 : decode cX9_barEnd 11 = .ok (.ifnonnull 7, 3) := by decide +kernel
theorem dX9_barEnd_14 : decode cX9_barEnd 14 = .ok (.iconst 0, 1) := by decide +kernel
theorem dX9_barEnd_15 : decode cX9_barEnd 15 = .ok (.goto 17, 3) := by decide +kernel
theorem dX9_barEnd_18 : decode cX9_barEnd 18 = .ok (.aload_n 2, 1) := by decide +kernel
theorem dX9_barEnd_19 : decode cX9_barEnd 19 = .ok (.getfield 173, 3) := by decide +kernel
theorem dX9_barEnd_22 : decode cX9_barEnd 22 = .ok (.aload_n 2, 1) := by decide +kernel
theorem dX9_barEnd_23 : decode cX9_barEnd 23 = .ok (.getfield 235, 3) := by decide +kernel
theorem dX9_barEnd_26 : decode cX9_barEnd 26 = .ok (.bipush 6, 2) := by decide +kernel
theorem dX9_barEnd_28 : decode cX9_barEnd 28 = .ok (.invokevirtual 101, 3) := by decide +kernel
theorem dX9_barEnd_31 : decode cX9_barEnd 31 = .ok (.iadd, 1) := by decide +kernel
theorem dX9_barEnd_32 : decode cX9_barEnd 32 = .ok (.ireturn, 1) := by decide +kernel
set_option maxRecDepth 20000 in
theorem ggX9_workDues_X0_binds : GoodIn wsX9_workDues wsX0_binds := goodIn_r _ [15, 16, 17, 18, 55, 56, 57, 58, 59, 60, 61, 62, 63] (by decide +kernel) (by decide +kernel)
set_option maxRecDepth 20000 in
theorem gX9_workDues_X0_binds : GoodIn wsX9_workDues (wsV RX9 239 RX0 yX0_binds wsX0_binds) := goodIn_app (goodIn_of _ (by decide +kernel)) ggX9_workDues_X0_binds
set_option maxRecDepth 20000 in
theorem ggX9_workDues_X0_steppedFrom : GoodIn wsX9_workDues wsX0_steppedFrom := goodIn_r _ [22, 23, 24, 25, 26, 27, 5, 28, 29, 30, 31, 32, 33, 34, 35, 36, 37, 55, 56, 57, 58, 59, 60, 61, 62, 63, 64] (by decide +kernel) (by decide +kernel)
set_option maxRecDepth 20000 in
theorem gX9_workDues_X0_steppedFrom : GoodIn wsX9_workDues (wsV RX9 243 RX0 yX0_steppedFrom wsX0_steppedFrom) := goodIn_app (goodIn_of _ (by decide +kernel)) ggX9_workDues_X0_steppedFrom
theorem dX9_workDues_0 : decode cX9_workDues 0 = .ok (.aconst_null, 1) := by decide +kernel
theorem dX9_workDues_1 : decode cX9_workDues 1 = .ok (.astore 4, 2) := by decide +kernel
theorem dX9_workDues_3 : decode cX9_workDues 3 = .ok (.aload_n 2, 1) := by decide +kernel
theorem dX9_workDues_4 : decode cX9_workDues 4 = .ok (.getfield 238, 3) := by decide +kernel
theorem dX9_workDues_7 : decode cX9_workDues 7 = .ok (.istore 5, 2) := by decide +kernel
theorem dX9_workDues_9 : decode cX9_workDues 9 = .ok (.aload_n 2, 1) := by decide +kernel
theorem dX9_workDues_10 : decode cX9_workDues 10 = .ok (.getfield 238, 3) := by decide +kernel
theorem dX9_workDues_13 : decode cX9_workDues 13 = .ok (.istore 6, 2) := by decide +kernel
theorem dX9_workDues_15 : decode cX9_workDues 15 = .ok (.iconst 0, 1) := by decide +kernel
theorem dX9_workDues_16 : decode cX9_workDues 16 = .ok (.istore 7, 2) := by decide +kernel
theorem dX9_workDues_18 : decode cX9_workDues 18 = .ok (.aload_n 2, 1) := by decide +kernel
theorem dX9_workDues_19 : decode cX9_workDues 19 = .ok (.getfield 204, 3) := by decide +kernel
theorem dX9_workDues_22 : decode cX9_workDues 22 = .ok (.iconst 0, 1) := by decide +kernel
theorem dX9_workDues_23 : decode cX9_workDues 23 = .ok (.invokestatic 160, 3) := by decide +kernel
theorem dX9_workDues_26 : decode cX9_workDues 26 = .ok (.istore 8, 2) := by decide +kernel
theorem dX9_workDues_28 : decode cX9_workDues 28 = .ok (.iload 8, 2) := by decide +kernel
theorem dX9_workDues_30 : decode cX9_workDues 30 = .ok (.iload_n 3, 1) := by decide +kernel
theorem dX9_workDues_31 : decode cX9_workDues 31 = .ok (.if_icmp .gt 120, 3) := by decide +kernel
theorem dX9_workDues_34 : decode cX9_workDues 34 = .ok (.iload 8, 2) := by decide +kernel
theorem dX9_workDues_36 : decode cX9_workDues 36 = .ok (.aload_n 0, 1) := by decide +kernel
theorem dX9_workDues_37 : decode cX9_workDues 37 = .ok (.getfield 47, 3) := by decide +kernel
theorem dX9_workDues_40 : decode cX9_workDues 40 = .ok (.arraylength, 1) := by decide +kernel
theorem dX9_workDues_41 : decode cX9_workDues 41 = .ok (.if_icmp .ge 110, 3) := by decide +kernel
theorem dX9_workDues_44 : decode cX9_workDues 44 = .ok (.iload 7, 2) := by decide +kernel
theorem dX9_workDues_46 : decode cX9_workDues 46 = .ok (.aload_n 0, 1) := by decide +kernel
theorem dX9_workDues_47 : decode cX9_workDues 47 = .ok (.getfield 23, 3) := by decide +kernel
theorem dX9_workDues_50 : decode cX9_workDues 50 = .ok (.arraylength, 1) := by decide +kernel
theorem dX9_workDues_51 : decode cX9_workDues 51 = .ok (.if_icmp .ge 57, 3) := by decide +kernel
theorem dX9_workDues_54 : decode cX9_workDues 54 = .ok (.aload_n 0, 1) := by decide +kernel
theorem dX9_workDues_55 : decode cX9_workDues 55 = .ok (.getfield 23, 3) := by decide +kernel
theorem dX9_workDues_58 : decode cX9_workDues 58 = .ok (.iload 7, 2) := by decide +kernel
theorem dX9_workDues_60 : decode cX9_workDues 60 = .ok (.aaload, 1) := by decide +kernel
theorem dX9_workDues_61 : decode cX9_workDues 61 = .ok (.astore 9, 2) := by decide +kernel
theorem dX9_workDues_63 : decode cX9_workDues 63 = .ok (.aload 9, 2) := by decide +kernel
theorem dX9_workDues_65 : decode cX9_workDues 65 = .ok (.ifnull 43, 3) := by decide +kernel
theorem dX9_workDues_68 : decode cX9_workDues 68 = .ok (.aload 9, 2) := by decide +kernel
theorem dX9_workDues_70 : decode cX9_workDues 70 = .ok (.getfield 173, 3) := by decide +kernel
theorem dX9_workDues_73 : decode cX9_workDues 73 = .ok (.iload 8, 2) := by decide +kernel
theorem dX9_workDues_75 : decode cX9_workDues 75 = .ok (.if_icmp .le 6, 3) := by decide +kernel
theorem dX9_workDues_78 : decode cX9_workDues 78 = .ok (.goto 30, 3) := by decide +kernel
theorem dX9_workDues_81 : decode cX9_workDues 81 = .ok (.aload 9, 2) := by decide +kernel
theorem dX9_workDues_83 : decode cX9_workDues 83 = .ok (.iload_n 1, 1) := by decide +kernel
theorem dX9_workDues_84 : decode cX9_workDues 84 = .ok (.aload_n 2, 1) := by decide +kernel
theorem dX9_workDues_85 : decode cX9_workDues 85 = .ok (.getfield 155, 3) := by decide +kernel
theorem dX9_workDues_88 : decode cX9_workDues 88 = .ok (.invokevirtual 239, 3) := by decide +kernel
theorem dX9_workDues_91 : decode cX9_workDues 91 = .ok (.ifCond .eq 11, 3) := by decide +kernel
theorem dX9_workDues_94 : decode cX9_workDues 94 = .ok (.aload 9, 2) := by decide +kernel
theorem dX9_workDues_96 : decode cX9_workDues 96 = .ok (.astore 4, 2) := by decide +kernel
theorem dX9_workDues_98 : decode cX9_workDues 98 = .ok (.iload 6, 2) := by decide +kernel
theorem dX9_workDues_100 : decode cX9_workDues 100 = .ok (.istore 5, 2) := by decide +kernel
theorem dX9_workDues_102 : decode cX9_workDues 102 = .ok (.iinc 7 1, 3) := by decide +kernel
theorem dX9_workDues_105 : decode cX9_workDues 105 = .ok (.goto (-61), 3) := by decide +kernel
theorem dX9_workDues_108 : decode cX9_workDues 108 = .ok (.aload_n 0, 1) := by decide +kernel
theorem dX9_workDues_109 : decode cX9_workDues 109 = .ok (.getfield 47, 3) := by decide +kernel
theorem dX9_workDues_112 : decode cX9_workDues 112 = .ok (.iload 8, 2) := by decide +kernel
theorem dX9_workDues_114 : decode cX9_workDues 114 = .ok (.aload 4, 2) := by decide +kernel
theorem dX9_workDues_116 : decode cX9_workDues 116 = .ok (.ifnonnull 10, 3) := by decide +kernel
theorem dX9_workDues_119 : decode cX9_workDues 119 = .ok (.aload_n 2, 1) := by decide +kernel
theorem dX9_workDues_120 : decode cX9_workDues 120 = .ok (.getfield 238, 3) := by decide +kernel
theorem dX9_workDues_123 : decode cX9_workDues 123 = .ok (.goto 12, 3) := by decide +kernel
theorem dX9_workDues_126 : decode cX9_workDues 126 = .ok (.aload 4, 2) := by decide +kernel
theorem dX9_workDues_128 : decode cX9_workDues 128 = .ok (.iload 5, 2) := by decide +kernel
theorem dX9_workDues_130 : decode cX9_workDues 130 = .ok (.iload 8, 2) := by decide +kernel
theorem dX9_workDues_132 : decode cX9_workDues 132 = .ok (.invokevirtual 243, 3) := by decide +kernel
theorem dX9_workDues_135 : decode cX9_workDues 135 = .ok (.iastore, 1) := by decide +kernel
theorem dX9_workDues_136 : decode cX9_workDues 136 = .ok (.aload_n 0, 1) := by decide +kernel
theorem dX9_workDues_137 : decode cX9_workDues 137 = .ok (.getfield 47, 3) := by decide +kernel
theorem dX9_workDues_140 : decode cX9_workDues 140 = .ok (.iload 8, 2) := by decide +kernel
theorem dX9_workDues_142 : decode cX9_workDues 142 = .ok (.iaload, 1) := by decide +kernel
theorem dX9_workDues_143 : decode cX9_workDues 143 = .ok (.istore 6, 2) := by decide +kernel
theorem dX9_workDues_145 : decode cX9_workDues 145 = .ok (.iinc 8 1, 3) := by decide +kernel
theorem dX9_workDues_148 : decode cX9_workDues 148 = .ok (.goto (-120), 3) := by decide +kernel
theorem dX9_workDues_151 : decode cX9_workDues 151 = .ok (.iload 6, 2) := by decide +kernel
theorem dX9_workDues_153 : decode cX9_workDues 153 = .ok (.ireturn, 1) := by decide +kernel
set_option maxRecDepth 20000 in
theorem ggX9_homesLet_X5_isLet : GoodIn wsX9_homesLet wsX5_isLet := goodIn_r _ [7, 8, 25, 26, 27, 28, 29] (by decide +kernel) (by decide +kernel)
set_option maxRecDepth 20000 in
theorem gX9_homesLet_X5_isLet : GoodIn wsX9_homesLet (wsV RX9 145 RX5 yX5_isLet wsX5_isLet) := goodIn_app (goodIn_of _ (by decide +kernel)) ggX9_homesLet_X5_isLet
theorem dX9_homesLet_0 : decode cX9_homesLet 0 = .ok (.iconst 0, 1) := by decide +kernel
theorem dX9_homesLet_1 : decode cX9_homesLet 1 = .ok (.istore_n 1, 1) := by decide +kernel
theorem dX9_homesLet_2 : decode cX9_homesLet 2 = .ok (.aload_n 0, 1) := by decide +kernel
theorem dX9_homesLet_3 : decode cX9_homesLet 3 = .ok (.getfield 11, 3) := by decide +kernel
theorem dX9_homesLet_6 : decode cX9_homesLet 6 = .ok (.astore_n 2, 1) := by decide +kernel
theorem dX9_homesLet_7 : decode cX9_homesLet 7 = .ok (.aload_n 2, 1) := by decide +kernel
theorem dX9_homesLet_8 : decode cX9_homesLet 8 = .ok (.arraylength, 1) := by decide +kernel
theorem dX9_homesLet_9 : decode cX9_homesLet 9 = .ok (.istore_n 3, 1) := by decide +kernel
theorem dX9_homesLet_10 : decode cX9_homesLet 10 = .ok (.iconst 0, 1) := by decide +kernel
theorem dX9_homesLet_11 : decode cX9_homesLet 11 = .ok (.istore 4, 2) := by decide +kernel
theorem dX9_homesLet_13 : decode cX9_homesLet 13 = .ok (.iload 4, 2) := by decide +kernel
theorem dX9_homesLet_15 : decode cX9_homesLet 15 = .ok (.iload_n 3, 1) := by decide +kernel
theorem dX9_homesLet_16 : decode cX9_homesLet 16 = .ok (.if_icmp .ge 34, 3) := by decide +kernel
theorem dX9_homesLet_19 : decode cX9_homesLet 19 = .ok (.aload_n 2, 1) := by decide +kernel
theorem dX9_homesLet_20 : decode cX9_homesLet 20 = .ok (.iload 4, 2) := by decide +kernel
theorem dX9_homesLet_22 : decode cX9_homesLet 22 = .ok (.aaload, 1) := by decide +kernel
theorem dX9_homesLet_23 : decode cX9_homesLet 23 = .ok (.astore 5, 2) := by decide +kernel
theorem dX9_homesLet_25 : decode cX9_homesLet 25 = .ok (.aload 5, 2) := by decide +kernel
theorem dX9_homesLet_27 : decode cX9_homesLet 27 = .ok (.ifnull 17, 3) := by decide +kernel
theorem dX9_homesLet_30 : decode cX9_homesLet 30 = .ok (.aload 5, 2) := by decide +kernel
theorem dX9_homesLet_32 : decode cX9_homesLet 32 = .ok (.getfield 135, 3) := by decide +kernel
theorem dX9_homesLet_35 : decode cX9_homesLet 35 = .ok (.invokevirtual 145, 3) := by decide +kernel
theorem dX9_homesLet_38 : decode cX9_homesLet 38 = .ok (.ifCond .eq 6, 3) := by decide +kernel
theorem dX9_homesLet_41 : decode cX9_homesLet 41 = .ok (.iinc 1 1, 3) := by decide +kernel
theorem dX9_homesLet_44 : decode cX9_homesLet 44 = .ok (.iinc 4 1, 3) := by decide +kernel
theorem dX9_homesLet_47 : decode cX9_homesLet 47 = .ok (.goto (-34), 3) := by decide +kernel
theorem dX9_homesLet_50 : decode cX9_homesLet 50 = .ok (.iload_n 1, 1) := by decide +kernel
theorem dX9_homesLet_51 : decode cX9_homesLet 51 = .ok (.ireturn, 1) := by decide +kernel
theorem dX9_lawsTold_0 : decode cX9_lawsTold 0 = .ok (.iconst 0, 1) := by decide +kernel
theorem dX9_lawsTold_1 : decode cX9_lawsTold 1 = .ok (.istore_n 1, 1) := by decide +kernel
theorem dX9_lawsTold_2 : decode cX9_lawsTold 2 = .ok (.aload_n 0, 1) := by decide +kernel
theorem dX9_lawsTold_3 : decode cX9_lawsTold 3 = .ok (.getfield 29, 3) := by decide +kernel
theorem dX9_lawsTold_6 : decode cX9_lawsTold 6 = .ok (.astore_n 2, 1) := by decide +kernel
theorem dX9_lawsTold_7 : decode cX9_lawsTold 7 = .ok (.aload_n 2, 1) := by decide +kernel
theorem dX9_lawsTold_8 : decode cX9_lawsTold 8 = .ok (.arraylength, 1) := by decide +kernel
theorem dX9_lawsTold_9 : decode cX9_lawsTold 9 = .ok (.istore_n 3, 1) := by decide +kernel
theorem dX9_lawsTold_10 : decode cX9_lawsTold 10 = .ok (.iconst 0, 1) := by decide +kernel
theorem dX9_lawsTold_11 : decode cX9_lawsTold 11 = .ok (.istore 4, 2) := by decide +kernel
theorem dX9_lawsTold_13 : decode cX9_lawsTold 13 = .ok (.iload 4, 2) := by decide +kernel
theorem dX9_lawsTold_15 : decode cX9_lawsTold 15 = .ok (.iload_n 3, 1) := by decide +kernel
theorem dX9_lawsTold_16 : decode cX9_lawsTold 16 = .ok (.if_icmp .ge 23, 3) := by decide +kernel
theorem dX9_lawsTold_19 : decode cX9_lawsTold 19 = .ok (.aload_n 2, 1) := by decide +kernel
theorem dX9_lawsTold_20 : decode cX9_lawsTold 20 = .ok (.iload 4, 2) := by decide +kernel
theorem dX9_lawsTold_22 : decode cX9_lawsTold 22 = .ok (.aaload, 1) := by decide +kernel
theorem dX9_lawsTold_23 : decode cX9_lawsTold 23 = .ok (.astore 5, 2) := by decide +kernel
theorem dX9_lawsTold_25 : decode cX9_lawsTold 25 = .ok (.aload 5, 2) := by decide +kernel
theorem dX9_lawsTold_27 : decode cX9_lawsTold 27 = .ok (.ifnull 6, 3) := by decide +kernel
theorem dX9_lawsTold_30 : decode cX9_lawsTold 30 = .ok (.iinc 1 1, 3) := by decide +kernel
theorem dX9_lawsTold_33 : decode cX9_lawsTold 33 = .ok (.iinc 4 1, 3) := by decide +kernel
theorem dX9_lawsTold_36 : decode cX9_lawsTold 36 = .ok (.goto (-23), 3) := by decide +kernel
theorem dX9_lawsTold_39 : decode cX9_lawsTold 39 = .ok (.iload_n 1, 1) := by decide +kernel
theorem dX9_lawsTold_40 : decode cX9_lawsTold 40 = .ok (.ireturn, 1) := by decide +kernel
theorem dJ9_floorDiv_7cf53_0 : decode cJ9_floorDiv_7cf53 0 = .ok (.iload_n 0, 1) := by decide +kernel
theorem dJ9_floorDiv_7cf53_1 : decode cJ9_floorDiv_7cf53 1 = .ok (.iload_n 1, 1) := by decide +kernel
theorem dJ9_floorDiv_7cf53_2 : decode cJ9_floorDiv_7cf53 2 = .ok (.idiv, 1) := by decide +kernel
theorem dJ9_floorDiv_7cf53_3 : decode cJ9_floorDiv_7cf53 3 = .ok (.istore_n 2, 1) := by decide +kernel
theorem dJ9_floorDiv_7cf53_4 : decode cJ9_floorDiv_7cf53 4 = .ok (.iload_n 0, 1) := by decide +kernel
theorem dJ9_floorDiv_7cf53_5 : decode cJ9_floorDiv_7cf53 5 = .ok (.iload_n 1, 1) := by decide +kernel
theorem dJ9_floorDiv_7cf53_6 : decode cJ9_floorDiv_7cf53 6 = .ok (.ixor, 1) := by decide +kernel
theorem dJ9_floorDiv_7cf53_7 : decode cJ9_floorDiv_7cf53 7 = .ok (.ifCond .ge 14, 3) := by decide +kernel
theorem dJ9_floorDiv_7cf53_10 : decode cJ9_floorDiv_7cf53 10 = .ok (.iload_n 2, 1) := by decide +kernel
theorem dJ9_floorDiv_7cf53_11 : decode cJ9_floorDiv_7cf53 11 = .ok (.iload_n 1, 1) := by decide +kernel
theorem dJ9_floorDiv_7cf53_12 : decode cJ9_floorDiv_7cf53 12 = .ok (.imul, 1) := by decide +kernel
theorem dJ9_floorDiv_7cf53_13 : decode cJ9_floorDiv_7cf53 13 = .ok (.iload_n 0, 1) := by decide +kernel
theorem dJ9_floorDiv_7cf53_14 : decode cJ9_floorDiv_7cf53 14 = .ok (.if_icmp .eq 7, 3) := by decide +kernel
theorem dJ9_floorDiv_7cf53_17 : decode cJ9_floorDiv_7cf53 17 = .ok (.iload_n 2, 1) := by decide +kernel
theorem dJ9_floorDiv_7cf53_18 : decode cJ9_floorDiv_7cf53 18 = .ok (.iconst 1, 1) := by decide +kernel
theorem dJ9_floorDiv_7cf53_19 : decode cJ9_floorDiv_7cf53 19 = .ok (.isub, 1) := by decide +kernel
theorem dJ9_floorDiv_7cf53_20 : decode cJ9_floorDiv_7cf53 20 = .ok (.ireturn, 1) := by decide +kernel
theorem dJ9_floorDiv_7cf53_21 : decode cJ9_floorDiv_7cf53 21 = .ok (.iload_n 2, 1) := by decide +kernel
theorem dJ9_floorDiv_7cf53_22 : decode cJ9_floorDiv_7cf53 22 = .ok (.ireturn, 1) := by decide +kernel
theorem dJ9_max_7cf53_0 : decode cJ9_max_7cf53 0 = .ok (.iload_n 0, 1) := by decide +kernel
theorem dJ9_max_7cf53_1 : decode cJ9_max_7cf53 1 = .ok (.iload_n 1, 1) := by decide +kernel
theorem dJ9_max_7cf53_2 : decode cJ9_max_7cf53 2 = .ok (.if_icmp .lt 7, 3) := by decide +kernel
theorem dJ9_max_7cf53_5 : decode cJ9_max_7cf53 5 = .ok (.iload_n 0, 1) := by decide +kernel
theorem dJ9_max_7cf53_6 : decode cJ9_max_7cf53 6 = .ok (.goto 4, 3) := by decide +kernel
theorem dJ9_max_7cf53_9 : decode cJ9_max_7cf53 9 = .ok (.iload_n 1, 1) := by decide +kernel
theorem dJ9_max_7cf53_10 : decode cJ9_max_7cf53 10 = .ok (.ireturn, 1) := by decide +kernel
theorem dJ9_min_7cf53_0 : decode cJ9_min_7cf53 0 = .ok (.iload_n 0, 1) := by decide +kernel
theorem dJ9_min_7cf53_1 : decode cJ9_min_7cf53 1 = .ok (.iload_n 1, 1) := by decide +kernel
theorem dJ9_min_7cf53_2 : decode cJ9_min_7cf53 2 = .ok (.if_icmp .gt 7, 3) := by decide +kernel
theorem dJ9_min_7cf53_5 : decode cJ9_min_7cf53 5 = .ok (.iload_n 0, 1) := by decide +kernel
theorem dJ9_min_7cf53_6 : decode cJ9_min_7cf53 6 = .ok (.goto 4, 3) := by decide +kernel
theorem dJ9_min_7cf53_9 : decode cJ9_min_7cf53 9 = .ok (.iload_n 1, 1) := by decide +kernel
theorem dJ9_min_7cf53_10 : decode cJ9_min_7cf53 10 = .ok (.ireturn, 1) := by decide +kernel
