theorem dX10_headOf_43 : decode cX10_headOf 43 = .ok (.aload_n 0, 1) := by decide +kernel
theorem dX10_headOf_44 : decode cX10_headOf 44 = .ok (.getfield 13, 3) := by decide +kernel
theorem dX10_headOf_47 : decode cX10_headOf 47 = .ok (.iload_n 1, 1) := by decide +kernel
theorem dX10_headOf_48 : decode cX10_headOf 48 = .ok (.iaload, 1) := by decide +kernel
theorem dX10_headOf_49 : decode cX10_headOf 49 = .ok (.invokevirtual 113, 3) := by decide +kernel
theorem dX10_headOf_52 : decode cX10_headOf 52 = .ok (.iload 4, 2) := by decide +kernel
theorem dX10_headOf_54 : decode cX10_headOf 54 = .ok (.imul, 1) := by decide +kernel
theorem dX10_headOf_55 : decode cX10_headOf 55 = .ok (.bipush 100, 2) := by decide +kernel
theorem dX10_headOf_57 : decode cX10_headOf 57 = .ok (.idiv, 1) := by decide +kernel
theorem dX10_headOf_58 : decode cX10_headOf 58 = .ok (.ineg, 1) := by decide +kernel
theorem dX10_headOf_59 : decode cX10_headOf 59 = .ok (.istore 5, 2) := by decide +kernel
theorem dX10_headOf_61 : decode cX10_headOf 61 = .ok (.aload_n 0, 1) := by decide +kernel
theorem dX10_headOf_62 : decode cX10_headOf 62 = .ok (.iload_n 2, 1) := by decide +kernel
theorem dX10_headOf_63 : decode cX10_headOf 63 = .ok (.iconst 4, 1) := by decide +kernel
theorem dX10_headOf_64 : decode cX10_headOf 64 = .ok (.invokevirtual 113, 3) := by decide +kernel
theorem dX10_headOf_67 : decode cX10_headOf 67 = .ok (.ineg, 1) := by decide +kernel
theorem dX10_headOf_68 : decode cX10_headOf 68 = .ok (.aload_n 0, 1) := by decide +kernel
theorem dX10_headOf_69 : decode cX10_headOf 69 = .ok (.getfield 22, 3) := by decide +kernel
theorem dX10_headOf_72 : decode cX10_headOf 72 = .ok (.iload_n 1, 1) := by decide +kernel
theorem dX10_headOf_73 : decode cX10_headOf 73 = .ok (.iaload, 1) := by decide +kernel
theorem dX10_headOf_74 : decode cX10_headOf 74 = .ok (.imul, 1) := by decide +kernel
theorem dX10_headOf_75 : decode cX10_headOf 75 = .ok (.istore 6, 2) := by decide +kernel
theorem dX10_headOf_77 : decode cX10_headOf 77 = .ok (.iload 4, 2) := by decide +kernel
theorem dX10_headOf_79 : decode cX10_headOf 79 = .ok (.iload 5, 2) := by decide +kernel
theorem dX10_headOf_81 : decode cX10_headOf 81 = .ok (.iadd, 1) := by decide +kernel
theorem dX10_headOf_82 : decode cX10_headOf 82 = .ok (.iload 6, 2) := by decide +kernel
theorem dX10_headOf_84 : decode cX10_headOf 84 = .ok (.iadd, 1) := by decide +kernel
theorem dX10_headOf_85 : decode cX10_headOf 85 = .ok (.istore 7, 2) := by decide +kernel
theorem dX10_headOf_87 : decode cX10_headOf 87 = .ok (.iload_n 3, 1) := by decide +kernel
theorem dX10_headOf_88 : decode cX10_headOf 88 = .ok (.ifCond .ne 8, 3) := by decide +kernel
theorem dX10_headOf_91 : decode cX10_headOf 91 = .ok (.iload 4, 2) := by decide +kernel
theorem dX10_headOf_93 : decode cX10_headOf 93 = .ok (.goto 47, 3) := by decide +kernel
theorem dX10_headOf_96 : decode cX10_headOf 96 = .ok (.iload_n 3, 1) := by decide +kernel
theorem dX10_headOf_97 : decode cX10_headOf 97 = .ok (.iconst 1, 1) := by decide +kernel
theorem dX10_headOf_98 : decode cX10_headOf 98 = .ok (.if_icmp .ne 8, 3) := by decide +kernel
theorem dX10_headOf_101 : decode cX10_headOf 101 = .ok (.iload 5, 2) := by decide +kernel
theorem dX10_headOf_103 : decode cX10_headOf 103 = .ok (.goto 37, 3) := by decide +kernel
theorem dX10_headOf_106 : decode cX10_headOf 106 = .ok (.iload_n 3, 1) := by decide +kernel
theorem dX10_headOf_107 : decode cX10_headOf 107 = .ok (.iconst 2, 1) := by decide +kernel
theorem dX10_headOf_108 : decode cX10_headOf 108 = .ok (.if_icmp .ne 8, 3) := by decide +kernel
theorem dX10_headOf_111 : decode cX10_headOf 111 = .ok (.iload 6, 2) := by decide +kernel
theorem dX10_headOf_113 : decode cX10_headOf 113 = .ok (.goto 27, 3) := by decide +kernel
theorem dX10_headOf_116 : decode cX10_headOf 116 = .ok (.iload_n 3, 1) := by decide +kernel
theorem dX10_headOf_117 : decode cX10_headOf 117 = .ok (.iconst 3, 1) := by decide +kernel
theorem dX10_headOf_118 : decode cX10_headOf 118 = .ok (.if_icmp .ne 18, 3) := by decide +kernel
theorem dX10_headOf_121 : decode cX10_headOf 121 = .ok (.iload 7, 2) := by decide +kernel
theorem dX10_headOf_123 : decode cX10_headOf 123 = .ok (.iconst 1, 1) := by decide +kernel
theorem dX10_headOf_124 : decode cX10_headOf 124 = .ok (.if_icmp .ge 7, 3) := by decide +kernel
theorem dX10_headOf_127 : decode cX10_headOf 127 = .ok (.iconst 1, 1) := by decide +kernel
theorem dX10_headOf_128 : decode cX10_headOf 128 = .ok (.goto 12, 3) := by decide +kernel
theorem dX10_headOf_131 : decode cX10_headOf 131 = .ok (.iload 7, 2) := by decide +kernel
theorem dX10_headOf_133 : decode cX10_headOf 133 = .ok (.goto 7, 3) := by decide +kernel
theorem dX10_headOf_136 : decode cX10_headOf 136 = .ok (.aload_n 0, 1) := by decide +kernel
theorem dX10_headOf_137 : decode cX10_headOf 137 = .ok (.getfield 120, 3) := by decide +kernel
theorem dX10_headOf_140 : decode cX10_headOf 140 = .ok (.ireturn, 1) := by decide +kernel
set_option maxRecDepth 20000 in
theorem ggX10_head_X10_isHome : GoodIn wsX10_head wsX10_isHome := goodIn_r _ [6, 7, 8, 9, 5, 10, 46, 47, 48, 49, 50, 51, 52, 53, 54, 55, 56, 57, 58, 59, 60, 61, 62, 63, 64, 65, 66, 67, 68, 69, 70, 71, 72, 73, 74, 75] (by decide +kernel) (by decide +kernel)
set_option maxRecDepth 20000 in
theorem gX10_head_X10_isHome : GoodIn wsX10_head (wsV RX10 91 RX10 yX10_isHome wsX10_isHome) := goodIn_app (goodIn_of _ (by decide +kernel)) ggX10_head_X10_isHome
set_option maxRecDepth 20000 in
theorem ggX10_head_X10_in : GoodIn wsX10_head wsX10_in := goodIn_r _ [10] (by decide +kernel) (by decide +kernel)
set_option maxRecDepth 20000 in
theorem gX10_head_X10_in : GoodIn wsX10_head (va_wsS RX10 87 yX10_in wsX10_in) := goodIn_app (goodIn_of _ (by decide +kernel)) ggX10_head_X10_in
set_option maxRecDepth 20000 in
theorem ggX10_head_X10_headOf : GoodIn wsX10_head wsX10_headOf := goodIn_r _ [14, 15, 16, 17, 18, 19, 20, 21, 5, 22, 23, 24, 25, 26, 27, 28, 29, 30, 31, 32, 33, 34, 35, 36, 37, 38, 39, 40, 41, 42, 43, 44, 45, 46, 47, 48, 49, 50, 51, 52, 53, 54, 55, 56, 57, 58, 59, 60, 61, 62, 63, 64, 65, 66, 67, 68, 69, 70, 71, 72, 73, 74, 75] (by decide +kernel) (by decide +kernel)
set_option maxRecDepth 20000 in
theorem gX10_head_X10_headOf : GoodIn wsX10_head (wsV RX10 127 RX10 yX10_headOf wsX10_headOf) := goodIn_app (goodIn_of _ (by decide +kernel)) ggX10_head_X10_headOf
theorem dX10_head_0 : decode cX10_head 0 = .ok (.aload_n 0, 1) := by decide +kernel
theorem dX10_head_1 : decode cX10_head 1 = .ok (.iload_n 1, 1) := by decide +kernel
theorem dX10_head_2 : decode cX10_head 2 = .ok (.invokevirtual 91, 3) := by decide +kernel
theorem dX10_head_5 : decode cX10_head 5 = .ok (.ifCond .eq 33, 3) := by decide +kernel
theorem dX10_head_8 : decode cX10_head 8 = .ok (.iload_n 2, 1) := by decide +kernel
theorem dX10_head_9 : decode cX10_head 9 = .ok (.iconst 0, 1) := by decide +kernel
theorem dX10_head_10 : decode cX10_head 10 = .ok (.sipush 300, 3) := by decide +kernel
theorem dX10_head_13 : decode cX10_head 13 = .ok (.invokestatic 87, 3) := by decide +kernel
theorem dX10_head_16 : decode cX10_head 16 = .ok (.ifCond .eq 22, 3) := by decide +kernel
theorem dX10_head_19 : decode cX10_head 19 = .ok (.iload_n 3, 1) := by decide +kernel
theorem dX10_head_20 : decode cX10_head 20 = .ok (.iconst 0, 1) := by decide +kernel
theorem dX10_head_21 : decode cX10_head 21 = .ok (.iconst 4, 1) := by decide +kernel
theorem dX10_head_22 : decode cX10_head 22 = .ok (.invokestatic 87, 3) := by decide +kernel
theorem dX10_head_25 : decode cX10_head 25 = .ok (.ifCond .eq 13, 3) := by decide +kernel
theorem dX10_head_28 : decode cX10_head 28 = .ok (.aload_n 0, 1) := by decide +kernel
theorem dX10_head_29 : decode cX10_head 29 = .ok (.iload_n 1, 1) := by decide +kernel
theorem dX10_head_30 : decode cX10_head 30 = .ok (.iload_n 2, 1) := by decide +kernel
theorem dX10_head_31 : decode cX10_head 31 = .ok (.iload_n 3, 1) := by decide +kernel
theorem dX10_head_32 : decode cX10_head 32 = .ok (.invokevirtual 127, 3) := by decide +kernel
theorem dX10_head_35 : decode cX10_head 35 = .ok (.goto 5, 3) := by decide +kernel
theorem dX10_head_38 : decode cX10_head 38 = .ok (.ldc 131, 2) := by decide +kernel
theorem dX10_head_40 : decode cX10_head 40 = .ok (.ireturn, 1) := by decide +kernel
set_option maxRecDepth 20000 in
theorem ggX10_let_X10_isHome : GoodIn wsX10_let wsX10_isHome := goodIn_r _ [10, 11, 12, 13, 9, 14, 15, 16, 17, 18, 19, 20, 21, 22, 23, 24, 25, 26, 27, 28, 29, 30, 31, 32, 33, 34, 35, 36, 37, 38, 39, 40, 41, 42, 43, 44] (by decide +kernel) (by decide +kernel)
set_option maxRecDepth 20000 in
theorem gX10_let_X10_isHome : GoodIn wsX10_let (wsV RX10 91 RX10 yX10_isHome wsX10_isHome) := goodIn_app (goodIn_of _ (by decide +kernel)) ggX10_let_X10_isHome
set_option maxRecDepth 20000 in
theorem ggX10_let_X10_in : GoodIn wsX10_let wsX10_in := goodIn_r _ [14] (by decide +kernel) (by decide +kernel)
set_option maxRecDepth 20000 in
theorem gX10_let_X10_in : GoodIn wsX10_let (va_wsS RX10 87 yX10_in wsX10_in) := goodIn_app (goodIn_of _ (by decide +kernel)) ggX10_let_X10_in
theorem dX10_let_0 : decode cX10_let 0 = .ok (.aload_n 0, 1) := by decide +kernel
theorem dX10_let_1 : decode cX10_let 1 = .ok (.iload_n 1, 1) := by decide +kernel
theorem dX10_let_2 : decode cX10_let 2 = .ok (.invokevirtual 91, 3) := by decide +kernel
theorem dX10_let_5 : decode cX10_let 5 = .ok (.ifCond .eq 14, 3) := by decide +kernel
theorem dX10_let_8 : decode cX10_let 8 = .ok (.iload_n 2, 1) := by decide +kernel
theorem dX10_let_9 : decode cX10_let 9 = .ok (.iconst 1, 1) := by decide +kernel
theorem dX10_let_10 : decode cX10_let 10 = .ok (.sipush 5000, 3) := by decide +kernel
theorem dX10_let_13 : decode cX10_let 13 = .ok (.invokestatic 87, 3) := by decide +kernel
theorem dX10_let_16 : decode cX10_let 16 = .ok (.ifCond .ne 5, 3) := by decide +kernel
theorem dX10_let_19 : decode cX10_let 19 = .ok (.iconst (-1), 1) := by decide +kernel
theorem dX10_let_20 : decode cX10_let 20 = .ok (.ireturn, 1) := by decide +kernel
theorem dX10_let_21 : decode cX10_let 21 = .ok (.aload_n 0, 1) := by decide +kernel
theorem dX10_let_22 : decode cX10_let 22 = .ok (.getfield 47, 3) := by decide +kernel
theorem dX10_let_25 : decode cX10_let 25 = .ok (.iload_n 1, 1) := by decide +kernel
theorem dX10_let_26 : decode cX10_let 26 = .ok (.aload_n 0, 1) := by decide +kernel
theorem dX10_let_27 : decode cX10_let 27 = .ok (.getfield 107, 3) := by decide +kernel
theorem dX10_let_30 : decode cX10_let 30 = .ok (.iastore, 1) := by decide +kernel
theorem dX10_let_31 : decode cX10_let 31 = .ok (.aload_n 0, 1) := by decide +kernel
theorem dX10_let_32 : decode cX10_let 32 = .ok (.getfield 50, 3) := by decide +kernel
theorem dX10_let_35 : decode cX10_let 35 = .ok (.iload_n 1, 1) := by decide +kernel
theorem dX10_let_36 : decode cX10_let 36 = .ok (.iload_n 2, 1) := by decide +kernel
theorem dX10_let_37 : decode cX10_let 37 = .ok (.iastore, 1) := by decide +kernel
theorem dX10_let_38 : decode cX10_let 38 = .ok (.aload_n 0, 1) := by decide +kernel
theorem dX10_let_39 : decode cX10_let 39 = .ok (.getfield 53, 3) := by decide +kernel
theorem dX10_let_42 : decode cX10_let 42 = .ok (.iload_n 1, 1) := by decide +kernel
theorem dX10_let_43 : decode cX10_let 43 = .ok (.dup2, 1) := by decide +kernel
theorem dX10_let_44 : decode cX10_let 44 = .ok (.iaload, 1) := by decide +kernel
theorem dX10_let_45 : decode cX10_let 45 = .ok (.iconst 1, 1) := by decide +kernel
theorem dX10_let_46 : decode cX10_let 46 = .ok (.iadd, 1) := by decide +kernel
theorem dX10_let_47 : decode cX10_let 47 = .ok (.iastore, 1) := by decide +kernel
theorem dX10_let_48 : decode cX10_let 48 = .ok (.iconst 0, 1) := by decide +kernel
theorem dX10_let_49 : decode cX10_let 49 = .ok (.istore_n 3, 1) := by decide +kernel
theorem dX10_let_50 : decode cX10_let 50 = .ok (.iload_n 3, 1) := by decide +kernel
theorem dX10_let_51 : decode cX10_let 51 = .ok (.sipush 300, 3) := by decide +kernel
theorem dX10_let_54 : decode cX10_let 54 = .ok (.if_icmp .gt 22, 3) := by decide +kernel
theorem dX10_let_57 : decode cX10_let 57 = .ok (.aload_n 0, 1) := by decide +kernel
theorem dX10_let_58 : decode cX10_let 58 = .ok (.getfield 56, 3) := by decide +kernel
theorem dX10_let_61 : decode cX10_let 61 = .ok (.sipush 301, 3) := by decide +kernel
theorem dX10_let_64 : decode cX10_let 64 = .ok (.iload_n 1, 1) := by decide +kernel
theorem dX10_let_65 : decode cX10_let 65 = .ok (.imul, 1) := by decide +kernel
theorem dX10_let_66 : decode cX10_let 66 = .ok (.iload_n 3, 1) := by decide +kernel
theorem dX10_let_67 : decode cX10_let 67 = .ok (.iadd, 1) := by decide +kernel
theorem dX10_let_68 : decode cX10_let 68 = .ok (.iconst 0, 1) := by decide +kernel
theorem dX10_let_69 : decode cX10_let 69 = .ok (.iastore, 1) := by decide +kernel
theorem dX10_let_70 : decode cX10_let 70 = .ok (.iinc 3 1, 3) := by decide +kernel
theorem dX10_let_73 : decode cX10_let 73 = .ok (.goto (-23), 3) := by decide +kernel
theorem dX10_let_76 : decode cX10_let 76 = .ok (.iconst 1, 1) := by decide +kernel
theorem dX10_let_77 : decode cX10_let 77 = .ok (.ireturn, 1) := by decide +kernel
theorem dX10_latestOf_0 : decode cX10_latestOf 0 = .ok (.aload_n 0, 1) := by decide +kernel
theorem dX10_latestOf_1 : decode cX10_latestOf 1 = .ok (.getfield 132, 3) := by decide +kernel
theorem dX10_latestOf_4 : decode cX10_latestOf 4 = .ok (.iconst 1, 1) := by decide +kernel
theorem dX10_latestOf_5 : decode cX10_latestOf 5 = .ok (.isub, 1) := by decide +kernel
theorem dX10_latestOf_6 : decode cX10_latestOf 6 = .ok (.istore_n 2, 1) := by decide +kernel
theorem dX10_latestOf_7 : decode cX10_latestOf 7 = .ok (.iload_n 2, 1) := by decide +kernel
theorem dX10_latestOf_8 : decode cX10_latestOf 8 = .ok (.ifCond .lt 28, 3) := by decide +kernel
theorem dX10_latestOf_11 : decode cX10_latestOf 11 = .ok (.aload_n 0, 1) := by decide +kernel
theorem dX10_latestOf_12 : decode cX10_latestOf 12 = .ok (.getfield 59, 3) := by decide +kernel
theorem dX10_latestOf_15 : decode cX10_latestOf 15 = .ok (.iload_n 2, 1) := by decide +kernel
theorem dX10_latestOf_16 : decode cX10_latestOf 16 = .ok (.iaload, 1) := by decide +kernel
theorem dX10_latestOf_17 : decode cX10_latestOf 17 = .ok (.iload_n 1, 1) := by decide +kernel
theorem dX10_latestOf_18 : decode cX10_latestOf 18 = .ok (.if_icmp .ne 12, 3) := by decide +kernel
theorem dX10_latestOf_21 : decode cX10_latestOf 21 = .ok (.aload_n 0, 1) := by decide +kernel
theorem dX10_latestOf_22 : decode cX10_latestOf 22 = .ok (.getfield 74, 3) := by decide +kernel
theorem dX10_latestOf_25 : decode cX10_latestOf 25 = .ok (.iload_n 2, 1) := by decide +kernel
theorem dX10_latestOf_26 : decode cX10_latestOf 26 = .ok (.baload, 1) := by decide +kernel
theorem dX10_latestOf_27 : decode cX10_latestOf 27 = .ok (.ifCond .eq 9, 3) := by decide +kernel
theorem dX10_latestOf_30 : decode cX10_latestOf 30 = .ok (.iinc 2 (-1), 3) := by decide +kernel
theorem dX10_latestOf_33 : decode cX10_latestOf 33 = .ok (.goto (-26), 3) := by decide +kernel
theorem dX10_latestOf_36 : decode cX10_latestOf 36 = .ok (.iload_n 2, 1) := by decide +kernel
theorem dX10_latestOf_37 : decode cX10_latestOf 37 = .ok (.ifCond .ge 8, 3) := by decide +kernel
theorem dX10_latestOf_40 : decode cX10_latestOf 40 = .ok (.bipush (-9), 2) := by decide +kernel
theorem dX10_latestOf_42 : decode cX10_latestOf 42 = .ok (.goto 4, 3) := by decide +kernel
theorem dX10_latestOf_45 : decode cX10_latestOf 45 = .ok (.iload_n 2, 1) := by decide +kernel
theorem dX10_latestOf_46 : decode cX10_latestOf 46 = .ok (.ireturn, 1) := by decide +kernel
set_option maxRecDepth 20000 in
theorem ggX10_openOf_X10_latestOf : GoodIn wsX10_openOf wsX10_latestOf := goodIn_r _ [7, 8, 9, 10, 21, 22, 23, 24, 25, 26, 27, 28, 29, 30, 31, 32, 33, 34, 35, 36, 37, 38, 39, 40, 41, 42, 43, 44, 45, 46, 47, 48, 49, 50] (by decide +kernel) (by decide +kernel)
set_option maxRecDepth 20000 in
theorem gX10_openOf_X10_latestOf : GoodIn wsX10_openOf (wsV RX10 135 RX10 yX10_latestOf wsX10_latestOf) := goodIn_app (goodIn_of _ (by decide +kernel)) ggX10_openOf_X10_latestOf
set_option maxRecDepth 20000 in
theorem ggX10_openOf_X10_lawOf : GoodIn wsX10_openOf wsX10_lawOf := goodIn_r _ [14, 15, 16, 17, 18, 6, 19, 20, 21, 22, 23, 24, 25, 26, 27, 28, 29, 30, 31, 32, 33, 34, 35, 36, 37, 38, 39, 40, 41, 42, 43, 44, 45, 46, 47, 48, 49, 50] (by decide +kernel) (by decide +kernel)
set_option maxRecDepth 20000 in
theorem gX10_openOf_X10_lawOf : GoodIn wsX10_openOf (wsV RX10 113 RX10 yX10_lawOf wsX10_lawOf) := goodIn_app (goodIn_of _ (by decide +kernel)) ggX10_openOf_X10_lawOf
theorem dX10_openOf_0 : decode cX10_openOf 0 = .ok (.aload_n 0, 1) := by decide +kernel
theorem dX10_openOf_1 : decode cX10_openOf 1 = .ok (.iload_n 1, 1) := by decide +kernel
theorem dX10_openOf_2 : decode cX10_openOf 2 = .ok (.invokevirtual 135, 3) := by decide +kernel
theorem dX10_openOf_5 : decode cX10_openOf 5 = .ok (.istore_n 2, 1) := by decide +kernel
theorem dX10_openOf_6 : decode cX10_openOf 6 = .ok (.iload_n 2, 1) := by decide +kernel
theorem dX10_openOf_7 : decode cX10_openOf 7 = .ok (.ifCond .ge 7, 3) := by decide +kernel
theorem dX10_openOf_10 : decode cX10_openOf 10 = .ok (.iconst 0, 1) := by decide +kernel
theorem dX10_openOf_11 : decode cX10_openOf 11 = .ok (.goto 22, 3) := by decide +kernel
theorem dX10_openOf_14 : decode cX10_openOf 14 = .ok (.aload_n 0, 1) := by decide +kernel
theorem dX10_openOf_15 : decode cX10_openOf 15 = .ok (.getfield 62, 3) := by decide +kernel
theorem dX10_openOf_18 : decode cX10_openOf 18 = .ok (.iload_n 2, 1) := by decide +kernel
theorem dX10_openOf_19 : decode cX10_openOf 19 = .ok (.iaload, 1) := by decide +kernel
theorem dX10_openOf_20 : decode cX10_openOf 20 = .ok (.aload_n 0, 1) := by decide +kernel
theorem dX10_openOf_21 : decode cX10_openOf 21 = .ok (.aload_n 0, 1) := by decide +kernel
theorem dX10_openOf_22 : decode cX10_openOf 22 = .ok (.getfield 62, 3) := by decide +kernel
theorem dX10_openOf_25 : decode cX10_openOf 25 = .ok (.iload_n 2, 1) := by decide +kernel
theorem dX10_openOf_26 : decode cX10_openOf 26 = .ok (.iaload, 1) := by decide +kernel
theorem dX10_openOf_27 : decode cX10_openOf 27 = .ok (.bipush 6, 2) := by decide +kernel
theorem dX10_openOf_29 : decode cX10_openOf 29 = .ok (.invokevirtual 113, 3) := by decide +kernel
theorem dX10_openOf_32 : decode cX10_openOf 32 = .ok (.iadd, 1) := by decide +kernel
theorem dX10_openOf_33 : decode cX10_openOf 33 = .ok (.istore_n 3, 1) := by decide +kernel
theorem dX10_openOf_34 : decode cX10_openOf 34 = .ok (.iload_n 3, 1) := by decide +kernel
theorem dX10_openOf_35 : decode cX10_openOf 35 = .ok (.aload_n 0, 1) := by decide +kernel
theorem dX10_openOf_36 : decode cX10_openOf 36 = .ok (.getfield 107, 3) := by decide +kernel
theorem dX10_openOf_39 : decode cX10_openOf 39 = .ok (.if_icmp .ge 10, 3) := by decide +kernel
theorem dX10_openOf_42 : decode cX10_openOf 42 = .ok (.aload_n 0, 1) := by decide +kernel
theorem dX10_openOf_43 : decode cX10_openOf 43 = .ok (.getfield 107, 3) := by decide +kernel
theorem dX10_openOf_46 : decode cX10_openOf 46 = .ok (.goto 4, 3) := by decide +kernel
theorem dX10_openOf_49 : decode cX10_openOf 49 = .ok (.iload_n 3, 1) := by decide +kernel
theorem dX10_openOf_50 : decode cX10_openOf 50 = .ok (.ireturn, 1) := by decide +kernel
set_option maxRecDepth 20000 in
theorem ggX10_ask_X10_isHome : GoodIn wsX10_ask wsX10_isHome := goodIn_r _ [15, 16, 17, 18, 14, 19, 63, 64, 65, 66, 67, 68, 69, 70, 71, 72, 73, 74, 75, 76, 77, 78, 79, 80, 81, 82, 83, 84, 85, 86, 87, 88, 89, 90, 91, 92] (by decide +kernel) (by decide +kernel)
set_option maxRecDepth 20000 in
theorem gX10_ask_X10_isHome : GoodIn wsX10_ask (wsV RX10 91 RX10 yX10_isHome wsX10_isHome) := goodIn_app (goodIn_of _ (by decide +kernel)) ggX10_ask_X10_isHome
set_option maxRecDepth 20000 in
theorem ggX10_ask_X10_openOf : GoodIn wsX10_ask wsX10_openOf := goodIn_r _ [23, 5, 2, 24, 25, 26, 14, 27, 3, 4, 10, 28, 29, 30, 31, 32, 33, 34, 35, 36, 37, 63, 64, 65, 66, 67, 68, 69, 70, 71, 72, 73, 74, 75, 76, 77, 78, 79, 80, 81, 82, 83, 84, 85, 86, 87, 88, 89, 90, 91, 92] (by decide +kernel) (by decide +kernel)
set_option maxRecDepth 20000 in
theorem gX10_ask_X10_openOf : GoodIn wsX10_ask (wsV RX10 138 RX10 yX10_openOf wsX10_openOf) := goodIn_app (goodIn_of _ (by decide +kernel)) ggX10_ask_X10_openOf
set_option maxRecDepth 20000 in
theorem ggX10_ask_X10_headOf : GoodIn wsX10_ask wsX10_headOf := goodIn_r _ [41, 42, 43, 44, 45, 46, 47, 48, 14, 49, 50, 51, 52, 53, 54, 55, 28, 29, 30, 31, 32, 33, 34, 35, 36, 37, 56, 57, 58, 59, 60, 61, 62, 63, 64, 65, 66, 67, 68, 69, 70, 71, 72, 73, 74, 75, 76, 77, 78, 79, 80, 81, 82, 83, 84, 85, 86, 87, 88, 89, 90, 91, 92] (by decide +kernel) (by decide +kernel)
set_option maxRecDepth 20000 in
theorem gX10_ask_X10_headOf : GoodIn wsX10_ask (wsV RX10 127 RX10 yX10_headOf wsX10_headOf) := goodIn_app (goodIn_of _ (by decide +kernel)) ggX10_ask_X10_headOf
theorem dX10_ask_0 : decode cX10_ask 0 = .ok (.aload_n 0, 1) := by decide +kernel
theorem dX10_ask_1 : decode cX10_ask 1 = .ok (.iload_n 1, 1) := by decide +kernel
theorem dX10_ask_2 : decode cX10_ask 2 = .ok (.invokevirtual 91, 3) := by decide +kernel
theorem dX10_ask_5 : decode cX10_ask 5 = .ok (.ifCond .ne 5, 3) := by decide +kernel
theorem dX10_ask_8 : decode cX10_ask 8 = .ok (.iconst (-1), 1) := by decide +kernel
theorem dX10_ask_9 : decode cX10_ask 9 = .ok (.ireturn, 1) := by decide +kernel
theorem dX10_ask_10 : decode cX10_ask 10 = .ok (.aload_n 0, 1) := by decide +kernel
theorem dX10_ask_11 : decode cX10_ask 11 = .ok (.getfield 47, 3) := by decide +kernel
theorem dX10_ask_14 : decode cX10_ask 14 = .ok (.iload_n 1, 1) := by decide +kernel
theorem dX10_ask_15 : decode cX10_ask 15 = .ok (.iaload, 1) := by decide +kernel
theorem dX10_ask_16 : decode cX10_ask 16 = .ok (.ifCond .lt 15, 3) := by decide +kernel
theorem dX10_ask_19 : decode cX10_ask 19 = .ok (.aload_n 0, 1) := by decide +kernel
theorem dX10_ask_20 : decode cX10_ask 20 = .ok (.iload_n 1, 1) := by decide +kernel
theorem dX10_ask_21 : decode cX10_ask 21 = .ok (.invokevirtual 138, 3) := by decide +kernel
theorem dX10_ask_24 : decode cX10_ask 24 = .ok (.aload_n 0, 1) := by decide +kernel
theorem dX10_ask_25 : decode cX10_ask 25 = .ok (.getfield 107, 3) := by decide +kernel
theorem dX10_ask_28 : decode cX10_ask 28 = .ok (.if_icmp .le 6, 3) := by decide +kernel
theorem dX10_ask_31 : decode cX10_ask 31 = .ok (.bipush (-2), 2) := by decide +kernel
theorem dX10_ask_33 : decode cX10_ask 33 = .ok (.ireturn, 1) := by decide +kernel
theorem dX10_ask_34 : decode cX10_ask 34 = .ok (.aload_n 0, 1) := by decide +kernel
theorem dX10_ask_35 : decode cX10_ask 35 = .ok (.getfield 132, 3) := by decide +kernel
theorem dX10_ask_38 : decode cX10_ask 38 = .ok (.bipush 20, 2) := by decide +kernel
theorem dX10_ask_40 : decode cX10_ask 40 = .ok (.if_icmp .ne 6, 3) := by decide +kernel
theorem dX10_ask_43 : decode cX10_ask 43 = .ok (.bipush (-3), 2) := by decide +kernel
theorem dX10_ask_45 : decode cX10_ask 45 = .ok (.ireturn, 1) := by decide +kernel
theorem dX10_ask_46 : decode cX10_ask 46 = .ok (.aload_n 0, 1) := by decide +kernel
theorem dX10_ask_47 : decode cX10_ask 47 = .ok (.getfield 59, 3) := by decide +kernel
theorem dX10_ask_50 : decode cX10_ask 50 = .ok (.aload_n 0, 1) := by decide +kernel
theorem dX10_ask_51 : decode cX10_ask 51 = .ok (.getfield 132, 3) := by decide +kernel
theorem dX10_ask_54 : decode cX10_ask 54 = .ok (.iload_n 1, 1) := by decide +kernel
theorem dX10_ask_55 : decode cX10_ask 55 = .ok (.iastore, 1) := by decide +kernel
theorem dX10_ask_56 : decode cX10_ask 56 = .ok (.aload_n 0, 1) := by decide +kernel
theorem dX10_ask_57 : decode cX10_ask 57 = .ok (.getfield 62, 3) := by decide +kernel
theorem dX10_ask_60 : decode cX10_ask 60 = .ok (.aload_n 0, 1) := by decide +kernel
theorem dX10_ask_61 : decode cX10_ask 61 = .ok (.getfield 132, 3) := by decide +kernel
theorem dX10_ask_64 : decode cX10_ask 64 = .ok (.aload_n 0, 1) := by decide +kernel
theorem dX10_ask_65 : decode cX10_ask 65 = .ok (.getfield 107, 3) := by decide +kernel
theorem dX10_ask_68 : decode cX10_ask 68 = .ok (.iastore, 1) := by decide +kernel
theorem dX10_ask_69 : decode cX10_ask 69 = .ok (.aload_n 0, 1) := by decide +kernel
theorem dX10_ask_70 : decode cX10_ask 70 = .ok (.getfield 65, 3) := by decide +kernel
theorem dX10_ask_73 : decode cX10_ask 73 = .ok (.aload_n 0, 1) := by decide +kernel
theorem dX10_ask_74 : decode cX10_ask 74 = .ok (.getfield 132, 3) := by decide +kernel
theorem dX10_ask_77 : decode cX10_ask 77 = .ok (.aload_n 0, 1) := by decide +kernel
theorem dX10_ask_78 : decode cX10_ask 78 = .ok (.iload_n 1, 1) := by decide +kernel
theorem dX10_ask_79 : decode cX10_ask 79 = .ok (.aload_n 0, 1) := by decide +kernel
theorem dX10_ask_80 : decode cX10_ask 80 = .ok (.getfield 107, 3) := by decide +kernel
theorem dX10_ask_83 : decode cX10_ask 83 = .ok (.iconst 3, 1) := by decide +kernel
theorem dX10_ask_84 : decode cX10_ask 84 = .ok (.invokevirtual 127, 3) := by decide +kernel
theorem dX10_ask_87 : decode cX10_ask 87 = .ok (.iastore, 1) := by decide +kernel
theorem dX10_ask_88 : decode cX10_ask 88 = .ok (.iconst 0, 1) := by decide +kernel
theorem dX10_ask_89 : decode cX10_ask 89 = .ok (.istore_n 2, 1) := by decide +kernel
theorem dX10_ask_90 : decode cX10_ask 90 = .ok (.iload_n 2, 1) := by decide +kernel
theorem dX10_ask_91 : decode cX10_ask 91 = .ok (.iconst 3, 1) := by decide +kernel
theorem dX10_ask_92 : decode cX10_ask 92 = .ok (.if_icmp .ge 32, 3) := by decide +kernel
theorem dX10_ask_95 : decode cX10_ask 95 = .ok (.aload_n 0, 1) := by decide +kernel
theorem dX10_ask_96 : decode cX10_ask 96 = .ok (.getfield 68, 3) := by decide +kernel
theorem dX10_ask_99 : decode cX10_ask 99 = .ok (.iconst 3, 1) := by decide +kernel
theorem dX10_ask_100 : decode cX10_ask 100 = .ok (.aload_n 0, 1) := by decide +kernel
theorem dX10_ask_101 : decode cX10_ask 101 = .ok (.getfield 132, 3) := by decide +kernel
theorem dX10_ask_104 : decode cX10_ask 104 = .ok (.imul, 1) := by decide +kernel
theorem dX10_ask_105 : decode cX10_ask 105 = .ok (.iload_n 2, 1) := by decide +kernel
theorem dX10_ask_106 : decode cX10_ask 106 = .ok (.iadd, 1) := by decide +kernel
theorem dX10_ask_107 : decode cX10_ask 107 = .ok (.aload_n 0, 1) := by decide +kernel
theorem dX10_ask_108 : decode cX10_ask 108 = .ok (.iload_n 1, 1) := by decide +kernel
theorem dX10_ask_109 : decode cX10_ask 109 = .ok (.aload_n 0, 1) := by decide +kernel
theorem dX10_ask_110 : decode cX10_ask 110 = .ok (.getfield 107, 3) := by decide +kernel
theorem dX10_ask_113 : decode cX10_ask 113 = .ok (.iload_n 2, 1) := by decide +kernel
theorem dX10_ask_114 : decode cX10_ask 114 = .ok (.invokevirtual 127, 3) := by decide +kernel
theorem dX10_ask_117 : decode cX10_ask 117 = .ok (.iastore, 1) := by decide +kernel
theorem dX10_ask_118 : decode cX10_ask 118 = .ok (.iinc 2 1, 3) := by decide +kernel
theorem dX10_ask_121 : decode cX10_ask 121 = .ok (.goto (-31), 3) := by decide +kernel
theorem dX10_ask_124 : decode cX10_ask 124 = .ok (.aload_n 0, 1) := by decide +kernel
theorem dX10_ask_125 : decode cX10_ask 125 = .ok (.getfield 71, 3) := by decide +kernel
theorem dX10_ask_128 : decode cX10_ask 128 = .ok (.aload_n 0, 1) := by decide +kernel
theorem dX10_ask_129 : decode cX10_ask 129 = .ok (.getfield 132, 3) := by decide +kernel
theorem dX10_ask_132 : decode cX10_ask 132 = .ok (.aload_n 0, 1) := by decide +kernel
theorem dX10_ask_133 : decode cX10_ask 133 = .ok (.getfield 53, 3) := by decide +kernel
theorem dX10_ask_136 : decode cX10_ask 136 = .ok (.iload_n 1, 1) := by decide +kernel
theorem dX10_ask_137 : decode cX10_ask 137 = .ok (.iaload, 1) := by decide +kernel
theorem dX10_ask_138 : decode cX10_ask 138 = .ok (.iastore, 1) := by decide +kernel
theorem dX10_ask_139 : decode cX10_ask 139 = .ok (.aload_n 0, 1) := by decide +kernel
theorem dX10_ask_140 : decode cX10_ask 140 = .ok (.getfield 74, 3) := by decide +kernel
theorem dX10_ask_143 : decode cX10_ask 143 = .ok (.aload_n 0, 1) := by decide +kernel
theorem dX10_ask_144 : decode cX10_ask 144 = .ok (.getfield 132, 3) := by decide +kernel
theorem dX10_ask_147 : decode cX10_ask 147 = .ok (.iconst 0, 1) := by decide +kernel
theorem dX10_ask_148 : decode cX10_ask 148 = .ok (.bastore, 1) := by decide +kernel
theorem dX10_ask_149 : decode cX10_ask 149 = .ok (.aload_n 0, 1) := by decide +kernel
theorem dX10_ask_150 : decode cX10_ask 150 = .ok (.dup, 1) := by decide +kernel
theorem dX10_ask_151 : decode cX10_ask 151 = .ok (.getfield 132, 3) := by decide +kernel
theorem dX10_ask_154 : decode cX10_ask 154 = .ok (.iconst 1, 1) := by decide +kernel
theorem dX10_ask_155 : decode cX10_ask 155 = .ok (.iadd, 1) := by decide +kernel
theorem dX10_ask_156 : decode cX10_ask 156 = .ok (.putfield 132, 3) := by decide +kernel
theorem dX10_ask_159 : decode cX10_ask 159 = .ok (.aload_n 0, 1) := by decide +kernel
theorem dX10_ask_160 : decode cX10_ask 160 = .ok (.getfield 132, 3) := by decide +kernel
theorem dX10_ask_163 : decode cX10_ask 163 = .ok (.iconst 1, 1) := by decide +kernel
theorem dX10_ask_164 : decode cX10_ask 164 = .ok (.isub, 1) := by decide +kernel
theorem dX10_ask_165 : decode cX10_ask 165 = .ok (.ireturn, 1) := by decide +kernel
set_option maxRecDepth 20000 in
theorem ggX10_open_X10_isHome : GoodIn wsX10_open wsX10_isHome := goodIn_r _ [5, 6, 7, 8, 4, 9, 33, 34, 35, 36, 37, 38, 39, 40, 41, 42, 43, 44, 45, 46, 47, 48, 49, 50, 51, 52, 53, 54, 55, 56, 57, 58, 59, 60, 61, 62] (by decide +kernel) (by decide +kernel)
set_option maxRecDepth 20000 in
theorem gX10_open_X10_isHome : GoodIn wsX10_open (wsV RX10 91 RX10 yX10_isHome wsX10_isHome) := goodIn_app (goodIn_of _ (by decide +kernel)) ggX10_open_X10_isHome
set_option maxRecDepth 20000 in
theorem ggX10_open_X10_openOf : GoodIn wsX10_open wsX10_openOf := goodIn_r _ [13, 14, 15, 16, 17, 18, 4, 19, 20, 21, 22, 23, 24, 25, 26, 27, 28, 29, 30, 31, 32, 33, 34, 35, 36, 37, 38, 39, 40, 41, 42, 43, 44, 45, 46, 47, 48, 49, 50, 51, 52, 53, 54, 55, 56, 57, 58, 59, 60, 61, 62] (by decide +kernel) (by decide +kernel)
set_option maxRecDepth 20000 in
theorem gX10_open_X10_openOf : GoodIn wsX10_open (wsV RX10 138 RX10 yX10_openOf wsX10_openOf) := goodIn_app (goodIn_of _ (by decide +kernel)) ggX10_open_X10_openOf
theorem dX10_open_0 : decode cX10_open 0 = .ok (.aload_n 0, 1) := by decide +kernel
theorem dX10_open_1 : decode cX10_open 1 = .ok (.iload_n 1, 1) := by decide +kernel
theorem dX10_open_2 : decode cX10_open 2 = .ok (.invokevirtual 91, 3) := by decide +kernel
theorem dX10_open_5 : decode cX10_open 5 = .ok (.ifCond .eq 11, 3) := by decide +kernel
theorem dX10_open_8 : decode cX10_open 8 = .ok (.aload_n 0, 1) := by decide +kernel
theorem dX10_open_9 : decode cX10_open 9 = .ok (.iload_n 1, 1) := by decide +kernel
theorem dX10_open_10 : decode cX10_open 10 = .ok (.invokevirtual 138, 3) := by decide +kernel
theorem dX10_open_13 : decode cX10_open 13 = .ok (.goto 4, 3) := by decide +kernel
theorem dX10_open_16 : decode cX10_open 16 = .ok (.iconst (-1), 1) := by decide +kernel
theorem dX10_open_17 : decode cX10_open 17 = .ok (.ireturn, 1) := by decide +kernel
set_option maxRecDepth 20000 in
theorem ggX10_appeal_X10_isHome : GoodIn wsX10_appeal wsX10_isHome := goodIn_r _ [8, 9, 10, 11, 7, 12, 19, 20, 21, 22, 23, 24, 25, 26, 27, 28, 29, 30, 31, 32, 33, 34, 35, 36, 37, 38, 39, 40, 41, 42, 43, 44, 45, 46, 47, 48] (by decide +kernel) (by decide +kernel)
set_option maxRecDepth 20000 in
theorem gX10_appeal_X10_isHome : GoodIn wsX10_appeal (wsV RX10 91 RX10 yX10_isHome wsX10_isHome) := goodIn_app (goodIn_of _ (by decide +kernel)) ggX10_appeal_X10_isHome
set_option maxRecDepth 20000 in
theorem ggX10_appeal_X10_latestOf : GoodIn wsX10_appeal wsX10_latestOf := goodIn_r _ [16, 17, 18, 3, 19, 20, 21, 22, 23, 24, 25, 26, 27, 28, 29, 30, 31, 32, 33, 34, 35, 36, 37, 38, 39, 40, 41, 42, 43, 44, 45, 46, 47, 48] (by decide +kernel) (by decide +kernel)
set_option maxRecDepth 20000 in
theorem gX10_appeal_X10_latestOf : GoodIn wsX10_appeal (wsV RX10 135 RX10 yX10_latestOf wsX10_latestOf) := goodIn_app (goodIn_of _ (by decide +kernel)) ggX10_appeal_X10_latestOf
theorem dX10_appeal_0 : decode cX10_appeal 0 = .ok (.aload_n 0, 1) := by decide +kernel
theorem dX10_appeal_1 : decode cX10_appeal 1 = .ok (.iload_n 1, 1) := by decide +kernel
theorem dX10_appeal_2 : decode cX10_appeal 2 = .ok (.invokevirtual 91, 3) := by decide +kernel
theorem dX10_appeal_5 : decode cX10_appeal 5 = .ok (.ifCond .ne 5, 3) := by decide +kernel
theorem dX10_appeal_8 : decode cX10_appeal 8 = .ok (.iconst (-1), 1) := by decide +kernel
theorem dX10_appeal_9 : decode cX10_appeal 9 = .ok (.ireturn, 1) := by decide +kernel
theorem dX10_appeal_10 : decode cX10_appeal 10 = .ok (.aload_n 0, 1) := by decide +kernel
theorem dX10_appeal_11 : decode cX10_appeal 11 = .ok (.iload_n 1, 1) := by decide +kernel
theorem dX10_appeal_12 : decode cX10_appeal 12 = .ok (.invokevirtual 135, 3) := by decide +kernel
theorem dX10_appeal_15 : decode cX10_appeal 15 = .ok (.istore_n 2, 1) := by decide +kernel
theorem dX10_appeal_16 : decode cX10_appeal 16 = .ok (.iload_n 2, 1) := by decide +kernel
theorem dX10_appeal_17 : decode cX10_appeal 17 = .ok (.ifCond .lt 18, 3) := by decide +kernel
theorem dX10_appeal_20 : decode cX10_appeal 20 = .ok (.aload_n 0, 1) := by decide +kernel
theorem dX10_appeal_21 : decode cX10_appeal 21 = .ok (.getfield 107, 3) := by decide +kernel
theorem dX10_appeal_24 : decode cX10_appeal 24 = .ok (.aload_n 0, 1) := by decide +kernel
theorem dX10_appeal_25 : decode cX10_appeal 25 = .ok (.getfield 62, 3) := by decide +kernel
theorem dX10_appeal_28 : decode cX10_appeal 28 = .ok (.iload_n 2, 1) := by decide +kernel
theorem dX10_appeal_29 : decode cX10_appeal 29 = .ok (.iaload, 1) := by decide +kernel
theorem dX10_appeal_30 : decode cX10_appeal 30 = .ok (.isub, 1) := by decide +kernel
theorem dX10_appeal_31 : decode cX10_appeal 31 = .ok (.iconst 5, 1) := by decide +kernel
theorem dX10_appeal_32 : decode cX10_appeal 32 = .ok (.if_icmp .le 6, 3) := by decide +kernel
theorem dX10_appeal_35 : decode cX10_appeal 35 = .ok (.bipush (-2), 2) := by decide +kernel
theorem dX10_appeal_37 : decode cX10_appeal 37 = .ok (.ireturn, 1) := by decide +kernel
theorem dX10_appeal_38 : decode cX10_appeal 38 = .ok (.aload_n 0, 1) := by decide +kernel
theorem dX10_appeal_39 : decode cX10_appeal 39 = .ok (.getfield 74, 3) := by decide +kernel
theorem dX10_appeal_42 : decode cX10_appeal 42 = .ok (.iload_n 2, 1) := by decide +kernel
theorem dX10_appeal_43 : decode cX10_appeal 43 = .ok (.iconst 1, 1) := by decide +kernel
theorem dX10_appeal_44 : decode cX10_appeal 44 = .ok (.bastore, 1) := by decide +kernel
theorem dX10_appeal_45 : decode cX10_appeal 45 = .ok (.iload_n 2, 1) := by decide +kernel
theorem dX10_appeal_46 : decode cX10_appeal 46 = .ok (.ireturn, 1) := by decide +kernel
set_option maxRecDepth 20000 in
theorem ggX10_entry_X10_in : GoodIn wsX10_entry wsX10_in := goodIn_r _ [11] (by decide +kernel) (by decide +kernel)
set_option maxRecDepth 20000 in
theorem gX10_entry_X10_in : GoodIn wsX10_entry (va_wsS RX10 87 yX10_in wsX10_in) := goodIn_app (goodIn_of _ (by decide +kernel)) ggX10_entry_X10_in
theorem dX10_entry_0 : decode cX10_entry 0 = .ok (.iload_n 1, 1) := by decide +kernel
theorem dX10_entry_1 : decode cX10_entry 1 = .ok (.iconst 0, 1) := by decide +kernel
theorem dX10_entry_2 : decode cX10_entry 2 = .ok (.aload_n 0, 1) := by decide +kernel
theorem dX10_entry_3 : decode cX10_entry 3 = .ok (.getfield 132, 3) := by decide +kernel
theorem dX10_entry_6 : decode cX10_entry 6 = .ok (.iconst 1, 1) := by decide +kernel
theorem dX10_entry_7 : decode cX10_entry 7 = .ok (.isub, 1) := by decide +kernel
theorem dX10_entry_8 : decode cX10_entry 8 = .ok (.invokestatic 87, 3) := by decide +kernel
theorem dX10_entry_11 : decode cX10_entry 11 = .ok (.ifCond .eq 13, 3) := by decide +kernel
theorem dX10_entry_14 : decode cX10_entry 14 = .ok (.iload_n 2, 1) := by decide +kernel
theorem dX10_entry_15 : decode cX10_entry 15 = .ok (.iconst 0, 1) := by decide +kernel
theorem dX10_entry_16 : decode cX10_entry 16 = .ok (.bipush 6, 2) := by decide +kernel
theorem dX10_entry_18 : decode cX10_entry 18 = .ok (.invokestatic 87, 3) := by decide +kernel
theorem dX10_entry_21 : decode cX10_entry 21 = .ok (.ifCond .ne 6, 3) := by decide +kernel
theorem dX10_entry_24 : decode cX10_entry 24 = .ok (.ldc 131, 2) := by decide +kernel
theorem dX10_entry_26 : decode cX10_entry 26 = .ok (.ireturn, 1) := by decide +kernel
theorem dX10_entry_27 : decode cX10_entry 27 = .ok (.iload_n 2, 1) := by decide +kernel
theorem dX10_entry_28 : decode cX10_entry 28 = .ok (.tableswitch 80 0 6 #[44, 51, 58, 80, 80, 80, 65], 44) := by decide +kernel
theorem dX10_entry_72 : decode cX10_entry 72 = .ok (.aload_n 0, 1) := by decide +kernel
theorem dX10_entry_73 : decode cX10_entry 73 = .ok (.getfield 59, 3) := by decide +kernel
theorem dX10_entry_76 : decode cX10_entry 76 = .ok (.iload_n 1, 1) := by decide +kernel
theorem dX10_entry_77 : decode cX10_entry 77 = .ok (.iaload, 1) := by decide +kernel
theorem dX10_entry_78 : decode cX10_entry 78 = .ok (.ireturn, 1) := by decide +kernel
theorem dX10_entry_79 : decode cX10_entry 79 = .ok (.aload_n 0, 1) := by decide +kernel
theorem dX10_entry_80 : decode cX10_entry 80 = .ok (.getfield 62, 3) := by decide +kernel
theorem dX10_entry_83 : decode cX10_entry 83 = .ok (.iload_n 1, 1) := by decide +kernel
theorem dX10_entry_84 : decode cX10_entry 84 = .ok (.iaload, 1) := by decide +kernel
theorem dX10_entry_85 : decode cX10_entry 85 = .ok (.ireturn, 1) := by decide +kernel
theorem dX10_entry_86 : decode cX10_entry 86 = .ok (.aload_n 0, 1) := by decide +kernel
theorem dX10_entry_87 : decode cX10_entry 87 = .ok (.getfield 65, 3) := by decide +kernel
theorem dX10_entry_90 : decode cX10_entry 90 = .ok (.iload_n 1, 1) := by decide +kernel
theorem dX10_entry_91 : decode cX10_entry 91 = .ok (.iaload, 1) := by decide +kernel
theorem dX10_entry_92 : decode cX10_entry 92 = .ok (.ireturn, 1) := by decide +kernel
theorem dX10_entry_93 : decode cX10_entry 93 = .ok (.aload_n 0, 1) := by decide +kernel
theorem dX10_entry_94 : decode cX10_entry 94 = .ok (.getfield 74, 3) := by decide +kernel
theorem dX10_entry_97 : decode cX10_entry 97 = .ok (.iload_n 1, 1) := by decide +kernel
theorem dX10_entry_98 : decode cX10_entry 98 = .ok (.baload, 1) := by decide +kernel
theorem dX10_entry_99 : decode cX10_entry 99 = .ok (.ifCond .eq 7, 3) := by decide +kernel
theorem dX10_entry_102 : decode cX10_entry 102 = .ok (.iconst 0, 1) := by decide +kernel
theorem dX10_entry_103 : decode cX10_entry 103 = .ok (.goto 4, 3) := by decide +kernel
theorem dX10_entry_106 : decode cX10_entry 106 = .ok (.iconst 1, 1) := by decide +kernel
theorem dX10_entry_107 : decode cX10_entry 107 = .ok (.ireturn, 1) := by decide +kernel
theorem dX10_entry_108 : decode cX10_entry 108 = .ok (.aload_n 0, 1) := by decide +kernel
theorem dX10_entry_109 : decode cX10_entry 109 = .ok (.getfield 68, 3) := by decide +kernel
theorem dX10_entry_112 : decode cX10_entry 112 = .ok (.iconst 3, 1) := by decide +kernel
theorem dX10_entry_113 : decode cX10_entry 113 = .ok (.iload_n 1, 1) := by decide +kernel
theorem dX10_entry_114 : decode cX10_entry 114 = .ok (.imul, 1) := by decide +kernel
theorem dX10_entry_115 : decode cX10_entry 115 = .ok (.iload_n 2, 1) := by decide +kernel
theorem dX10_entry_116 : decode cX10_entry 116 = .ok (.iadd, 1) := by decide +kernel
theorem dX10_entry_117 : decode cX10_entry 117 = .ok (.iconst 3, 1) := by decide +kernel
theorem dX10_entry_118 : decode cX10_entry 118 = .ok (.isub, 1) := by decide +kernel
theorem dX10_entry_119 : decode cX10_entry 119 = .ok (.iaload, 1) := by decide +kernel
theorem dX10_entry_120 : decode cX10_entry 120 = .ok (.ireturn, 1) := by decide +kernel
set_option maxRecDepth 20000 in
theorem ggX10_latest_X10_isHome : GoodIn wsX10_latest wsX10_isHome := goodIn_r _ [5, 6, 7, 8, 4, 9, 17, 18, 19, 20, 21, 22, 23, 24, 25, 26, 27, 28, 29, 30, 31, 32, 33, 34, 35, 36, 37, 38, 39, 40, 41, 42, 43, 44, 45, 46] (by decide +kernel) (by decide +kernel)
set_option maxRecDepth 20000 in
theorem gX10_latest_X10_isHome : GoodIn wsX10_latest (wsV RX10 91 RX10 yX10_isHome wsX10_isHome) := goodIn_app (goodIn_of _ (by decide +kernel)) ggX10_latest_X10_isHome
set_option maxRecDepth 20000 in
theorem ggX10_latest_X10_latestOf : GoodIn wsX10_latest wsX10_latestOf := goodIn_r _ [13, 14, 15, 16, 17, 18, 19, 20, 21, 22, 23, 24, 25, 26, 27, 28, 29, 30, 31, 32, 33, 34, 35, 36, 37, 38, 39, 40, 41, 42, 43, 44, 45, 46] (by decide +kernel) (by decide +kernel)
set_option maxRecDepth 20000 in
theorem gX10_latest_X10_latestOf : GoodIn wsX10_latest (wsV RX10 135 RX10 yX10_latestOf wsX10_latestOf) := goodIn_app (goodIn_of _ (by decide +kernel)) ggX10_latest_X10_latestOf
theorem dX10_latest_0 : decode cX10_latest 0 = .ok (.aload_n 0, 1) := by decide +kernel
theorem dX10_latest_1 : decode cX10_latest 1 = .ok (.iload_n 1, 1) := by decide +kernel
theorem dX10_latest_2 : decode cX10_latest 2 = .ok (.invokevirtual 91, 3) := by decide +kernel
theorem dX10_latest_5 : decode cX10_latest 5 = .ok (.ifCond .eq 11, 3) := by decide +kernel
theorem dX10_latest_8 : decode cX10_latest 8 = .ok (.aload_n 0, 1) := by decide +kernel
theorem dX10_latest_9 : decode cX10_latest 9 = .ok (.iload_n 1, 1) := by decide +kernel
theorem dX10_latest_10 : decode cX10_latest 10 = .ok (.invokevirtual 135, 3) := by decide +kernel
theorem dX10_latest_13 : decode cX10_latest 13 = .ok (.goto 4, 3) := by decide +kernel
theorem dX10_latest_16 : decode cX10_latest 16 = .ok (.iconst (-1), 1) := by decide +kernel
theorem dX10_latest_17 : decode cX10_latest 17 = .ok (.ireturn, 1) := by decide +kernel
set_option maxRecDepth 20000 in
theorem ggX10_work_X10_lawOf : GoodIn wsX10_work wsX10_lawOf := goodIn_r _ [15, 16, 17, 18, 19, 14, 20, 21, 22, 23, 24, 25, 26, 27, 28, 29, 30, 31, 32, 33, 34, 35, 36, 37, 38, 39, 40, 41, 42, 43, 44, 45, 46, 47, 48, 49, 50, 51] (by decide +kernel) (by decide +kernel)
set_option maxRecDepth 20000 in
theorem gX10_work_X10_lawOf : GoodIn wsX10_work (wsV RX10 113 RX10 yX10_lawOf wsX10_lawOf) := goodIn_app (goodIn_of _ (by decide +kernel)) ggX10_work_X10_lawOf
theorem dX10_work_0 : decode cX10_work 0 = .ok (.aload_n 0, 1) := by decide +kernel
theorem dX10_work_1 : decode cX10_work 1 = .ok (.getfield 47, 3) := by decide +kernel
theorem dX10_work_4 : decode cX10_work 4 = .ok (.iload_n 1, 1) := by decide +kernel
theorem dX10_work_5 : decode cX10_work 5 = .ok (.iaload, 1) := by decide +kernel
theorem dX10_work_6 : decode cX10_work 6 = .ok (.istore_n 3, 1) := by decide +kernel
theorem dX10_work_7 : decode cX10_work 7 = .ok (.iload_n 3, 1) := by decide +kernel
theorem dX10_work_8 : decode cX10_work 8 = .ok (.iload_n 2, 1) := by decide +kernel
theorem dX10_work_9 : decode cX10_work 9 = .ok (.if_icmp .gt 211, 3) := by decide +kernel
theorem dX10_work_12 : decode cX10_work 12 = .ok (.aload_n 0, 1) := by decide +kernel
theorem dX10_work_13 : decode cX10_work 13 = .ok (.getfield 132, 3) := by decide +kernel
theorem dX10_work_16 : decode cX10_work 16 = .ok (.iconst 1, 1) := by decide +kernel
theorem dX10_work_17 : decode cX10_work 17 = .ok (.isub, 1) := by decide +kernel
theorem dX10_work_18 : decode cX10_work 18 = .ok (.istore 4, 2) := by decide +kernel
theorem dX10_work_20 : decode cX10_work 20 = .ok (.iload 4, 2) := by decide +kernel
theorem dX10_work_22 : decode cX10_work 22 = .ok (.ifCond .lt 57, 3) := by decide +kernel
theorem dX10_work_25 : decode cX10_work 25 = .ok (.aload_n 0, 1) := by decide +kernel
theorem dX10_work_26 : decode cX10_work 26 = .ok (.getfield 59, 3) := by decide +kernel
theorem dX10_work_29 : decode cX10_work 29 = .ok (.iload 4, 2) := by decide +kernel
theorem dX10_work_31 : decode cX10_work 31 = .ok (.iaload, 1) := by decide +kernel
theorem dX10_work_32 : decode cX10_work 32 = .ok (.iload_n 1, 1) := by decide +kernel
theorem dX10_work_33 : decode cX10_work 33 = .ok (.if_icmp .ne 40, 3) := by decide +kernel
theorem dX10_work_36 : decode cX10_work 36 = .ok (.aload_n 0, 1) := by decide +kernel
theorem dX10_work_37 : decode cX10_work 37 = .ok (.getfield 74, 3) := by decide +kernel
theorem dX10_work_40 : decode cX10_work 40 = .ok (.iload 4, 2) := by decide +kernel
theorem dX10_work_42 : decode cX10_work 42 = .ok (.baload, 1) := by decide +kernel
theorem dX10_work_43 : decode cX10_work 43 = .ok (.ifCond .ne 30, 3) := by decide +kernel
theorem dX10_work_46 : decode cX10_work 46 = .ok (.aload_n 0, 1) := by decide +kernel
theorem dX10_work_47 : decode cX10_work 47 = .ok (.getfield 71, 3) := by decide +kernel
theorem dX10_work_50 : decode cX10_work 50 = .ok (.iload 4, 2) := by decide +kernel
theorem dX10_work_52 : decode cX10_work 52 = .ok (.iaload, 1) := by decide +kernel
theorem dX10_work_53 : decode cX10_work 53 = .ok (.aload_n 0, 1) := by decide +kernel
theorem dX10_work_54 : decode cX10_work 54 = .ok (.getfield 53, 3) := by decide +kernel
theorem dX10_work_57 : decode cX10_work 57 = .ok (.iload_n 1, 1) := by decide +kernel
theorem dX10_work_58 : decode cX10_work 58 = .ok (.iaload, 1) := by decide +kernel
theorem dX10_work_59 : decode cX10_work 59 = .ok (.if_icmp .ne 14, 3) := by decide +kernel
theorem dX10_work_62 : decode cX10_work 62 = .ok (.aload_n 0, 1) := by decide +kernel
theorem dX10_work_63 : decode cX10_work 63 = .ok (.getfield 62, 3) := by decide +kernel
theorem dX10_work_66 : decode cX10_work 66 = .ok (.iload 4, 2) := by decide +kernel
theorem dX10_work_68 : decode cX10_work 68 = .ok (.iaload, 1) := by decide +kernel
theorem dX10_work_69 : decode cX10_work 69 = .ok (.iload_n 3, 1) := by decide +kernel
theorem dX10_work_70 : decode cX10_work 70 = .ok (.if_icmp .le 9, 3) := by decide +kernel
theorem dX10_work_73 : decode cX10_work 73 = .ok (.iinc 4 (-1), 3) := by decide +kernel
theorem dX10_work_76 : decode cX10_work 76 = .ok (.goto (-56), 3) := by decide +kernel
theorem dX10_work_79 : decode cX10_work 79 = .ok (.iload 4, 2) := by decide +kernel
theorem dX10_work_81 : decode cX10_work 81 = .ok (.ifCond .ge 18, 3) := by decide +kernel
theorem dX10_work_84 : decode cX10_work 84 = .ok (.aload_n 0, 1) := by decide +kernel
theorem dX10_work_85 : decode cX10_work 85 = .ok (.getfield 80, 3) := by decide +kernel
theorem dX10_work_88 : decode cX10_work 88 = .ok (.iload_n 3, 1) := by decide +kernel
theorem dX10_work_89 : decode cX10_work 89 = .ok (.aload_n 0, 1) := by decide +kernel
theorem dX10_work_90 : decode cX10_work 90 = .ok (.getfield 50, 3) := by decide +kernel
theorem dX10_work_93 : decode cX10_work 93 = .ok (.iload_n 1, 1) := by decide +kernel
theorem dX10_work_94 : decode cX10_work 94 = .ok (.iaload, 1) := by decide +kernel
theorem dX10_work_95 : decode cX10_work 95 = .ok (.iastore, 1) := by decide +kernel
theorem dX10_work_96 : decode cX10_work 96 = .ok (.goto 118, 3) := by decide +kernel
theorem dX10_work_99 : decode cX10_work 99 = .ok (.aload_n 0, 1) := by decide +kernel
theorem dX10_work_100 : decode cX10_work 100 = .ok (.getfield 62, 3) := by decide +kernel
theorem dX10_work_103 : decode cX10_work 103 = .ok (.iload 4, 2) := by decide +kernel
theorem dX10_work_105 : decode cX10_work 105 = .ok (.iaload, 1) := by decide +kernel
theorem dX10_work_106 : decode cX10_work 106 = .ok (.aload_n 0, 1) := by decide +kernel
theorem dX10_work_107 : decode cX10_work 107 = .ok (.getfield 47, 3) := by decide +kernel
theorem dX10_work_110 : decode cX10_work 110 = .ok (.iload_n 1, 1) := by decide +kernel
theorem dX10_work_111 : decode cX10_work 111 = .ok (.iaload, 1) := by decide +kernel
theorem dX10_work_112 : decode cX10_work 112 = .ok (.if_icmp .ne 12, 3) := by decide +kernel
theorem dX10_work_115 : decode cX10_work 115 = .ok (.aload_n 0, 1) := by decide +kernel
theorem dX10_work_116 : decode cX10_work 116 = .ok (.getfield 50, 3) := by decide +kernel
theorem dX10_work_119 : decode cX10_work 119 = .ok (.iload_n 1, 1) := by decide +kernel
theorem dX10_work_120 : decode cX10_work 120 = .ok (.iaload, 1) := by decide +kernel
theorem dX10_work_121 : decode cX10_work 121 = .ok (.goto 17, 3) := by decide +kernel
theorem dX10_work_124 : decode cX10_work 124 = .ok (.aload_n 0, 1) := by decide +kernel
theorem dX10_work_125 : decode cX10_work 125 = .ok (.getfield 80, 3) := by decide +kernel
theorem dX10_work_128 : decode cX10_work 128 = .ok (.aload_n 0, 1) := by decide +kernel
theorem dX10_work_129 : decode cX10_work 129 = .ok (.getfield 62, 3) := by decide +kernel
theorem dX10_work_132 : decode cX10_work 132 = .ok (.iload 4, 2) := by decide +kernel
theorem dX10_work_134 : decode cX10_work 134 = .ok (.iaload, 1) := by decide +kernel
theorem dX10_work_135 : decode cX10_work 135 = .ok (.iconst 1, 1) := by decide +kernel
theorem dX10_work_136 : decode cX10_work 136 = .ok (.isub, 1) := by decide +kernel
theorem dX10_work_137 : decode cX10_work 137 = .ok (.iaload, 1) := by decide +kernel
theorem dX10_work_138 : decode cX10_work 138 = .ok (.istore 5, 2) := by decide +kernel
theorem dX10_work_140 : decode cX10_work 140 = .ok (.iload 5, 2) := by decide +kernel
theorem dX10_work_142 : decode cX10_work 142 = .ok (.aload_n 0, 1) := by decide +kernel
theorem dX10_work_143 : decode cX10_work 143 = .ok (.aload_n 0, 1) := by decide +kernel
theorem dX10_work_144 : decode cX10_work 144 = .ok (.getfield 62, 3) := by decide +kernel
theorem dX10_work_147 : decode cX10_work 147 = .ok (.iload 4, 2) := by decide +kernel
theorem dX10_work_149 : decode cX10_work 149 = .ok (.iaload, 1) := by decide +kernel
theorem dX10_work_150 : decode cX10_work 150 = .ok (.iconst 5, 1) := by decide +kernel
theorem dX10_work_151 : decode cX10_work 151 = .ok (.invokevirtual 113, 3) := by decide +kernel
theorem dX10_work_154 : decode cX10_work 154 = .ok (.iload_n 3, 1) := by decide +kernel
theorem dX10_work_155 : decode cX10_work 155 = .ok (.aload_n 0, 1) := by decide +kernel
theorem dX10_work_156 : decode cX10_work 156 = .ok (.getfield 62, 3) := by decide +kernel
theorem dX10_work_159 : decode cX10_work 159 = .ok (.iload 4, 2) := by decide +kernel
theorem dX10_work_161 : decode cX10_work 161 = .ok (.iaload, 1) := by decide +kernel
theorem dX10_work_162 : decode cX10_work 162 = .ok (.isub, 1) := by decide +kernel
theorem dX10_work_163 : decode cX10_work 163 = .ok (.bipush 10, 2) := by decide +kernel
theorem dX10_work_165 : decode cX10_work 165 = .ok (.idiv, 1) := by decide +kernel
theorem dX10_work_166 : decode cX10_work 166 = .ok (.iconst 1, 1) := by decide +kernel
theorem dX10_work_167 : decode cX10_work 167 = .ok (.iadd, 1) := by decide +kernel
theorem dX10_work_168 : decode cX10_work 168 = .ok (.imul, 1) := by decide +kernel
theorem dX10_work_169 : decode cX10_work 169 = .ok (.iadd, 1) := by decide +kernel
theorem dX10_work_170 : decode cX10_work 170 = .ok (.istore 6, 2) := by decide +kernel
theorem dX10_work_172 : decode cX10_work 172 = .ok (.aload_n 0, 1) := by decide +kernel
theorem dX10_work_173 : decode cX10_work 173 = .ok (.getfield 80, 3) := by decide +kernel
theorem dX10_work_176 : decode cX10_work 176 = .ok (.iload_n 3, 1) := by decide +kernel
theorem dX10_work_177 : decode cX10_work 177 = .ok (.aload_n 0, 1) := by decide +kernel
theorem dX10_work_178 : decode cX10_work 178 = .ok (.getfield 65, 3) := by decide +kernel
theorem dX10_work_181 : decode cX10_work 181 = .ok (.iload 4, 2) := by decide +kernel
theorem dX10_work_183 : decode cX10_work 183 = .ok (.iaload, 1) := by decide +kernel
theorem dX10_work_184 : decode cX10_work 184 = .ok (.iload 5, 2) := by decide +kernel
theorem dX10_work_186 : decode cX10_work 186 = .ok (.if_icmp .le 15, 3) := by decide +kernel
theorem dX10_work_189 : decode cX10_work 189 = .ok (.aload_n 0, 1) := by decide +kernel
theorem dX10_work_190 : decode cX10_work 190 = .ok (.getfield 65, 3) := by decide +kernel
theorem dX10_work_193 : decode cX10_work 193 = .ok (.iload 4, 2) := by decide +kernel
theorem dX10_work_195 : decode cX10_work 195 = .ok (.iaload, 1) := by decide +kernel
theorem dX10_work_196 : decode cX10_work 196 = .ok (.iload 6, 2) := by decide +kernel
theorem dX10_work_198 : decode cX10_work 198 = .ok (.if_icmp .ge 13, 3) := by decide +kernel
theorem dX10_work_201 : decode cX10_work 201 = .ok (.aload_n 0, 1) := by decide +kernel
theorem dX10_work_202 : decode cX10_work 202 = .ok (.getfield 65, 3) := by decide +kernel
theorem dX10_work_205 : decode cX10_work 205 = .ok (.iload 4, 2) := by decide +kernel
theorem dX10_work_207 : decode cX10_work 207 = .ok (.iaload, 1) := by decide +kernel
theorem dX10_work_208 : decode cX10_work 208 = .ok (.goto 5, 3) := by decide +kernel
theorem dX10_work_211 : decode cX10_work 211 = .ok (.iload 6, 2) := by decide +kernel
theorem dX10_work_213 : decode cX10_work 213 = .ok (.iastore, 1) := by decide +kernel
theorem dX10_work_214 : decode cX10_work 214 = .ok (.iinc 3 1, 3) := by decide +kernel
theorem dX10_work_217 : decode cX10_work 217 = .ok (.goto (-210), 3) := by decide +kernel
theorem dX10_work_220 : decode cX10_work 220 = .ok (.return_, 1) := by decide +kernel
set_option maxRecDepth 20000 in
theorem ggX10_due_X10_isHome : GoodIn wsX10_due wsX10_isHome := goodIn_r _ [8, 9, 10, 11, 7, 12, 35, 36, 37, 38, 39, 40, 41, 42, 43, 44, 45, 46, 47, 48, 49, 50, 51, 52, 53, 54, 55, 56, 57, 58, 59, 60, 61, 62, 63, 64] (by decide +kernel) (by decide +kernel)
set_option maxRecDepth 20000 in
theorem gX10_due_X10_isHome : GoodIn wsX10_due (wsV RX10 91 RX10 yX10_isHome wsX10_isHome) := goodIn_app (goodIn_of _ (by decide +kernel)) ggX10_due_X10_isHome
set_option maxRecDepth 20000 in
theorem ggX10_due_X10_in : GoodIn wsX10_due wsX10_in := goodIn_r _ [12] (by decide +kernel) (by decide +kernel)
set_option maxRecDepth 20000 in
theorem gX10_due_X10_in : GoodIn wsX10_due (va_wsS RX10 87 yX10_in wsX10_in) := goodIn_app (goodIn_of _ (by decide +kernel)) ggX10_due_X10_in
set_option maxRecDepth 20000 in
theorem ggX10_due_X10_work : GoodIn wsX10_due wsX10_work := goodIn_r _ [16, 2, 17, 18, 19, 20, 21, 22, 3, 23, 24, 25, 26, 27, 7, 28, 29, 30, 31, 32, 33, 34, 35, 36, 37, 38, 39, 40, 41, 42, 43, 44, 45, 46, 47, 48, 49, 50, 51, 52, 53, 54, 55, 56, 57, 58, 59, 60, 61, 62, 63, 64] (by decide +kernel) (by decide +kernel)
set_option maxRecDepth 20000 in
theorem gX10_due_X10_work : GoodIn wsX10_due (wsV RX10 141 RX10 yX10_work wsX10_work) := goodIn_app (goodIn_of _ (by decide +kernel)) ggX10_due_X10_work
theorem dX10_due_0 : decode cX10_due 0 = .ok (.aload_n 0, 1) := by decide +kernel
theorem dX10_due_1 : decode cX10_due 1 = .ok (.iload_n 1, 1) := by decide +kernel
theorem dX10_due_2 : decode cX10_due 2 = .ok (.invokevirtual 91, 3) := by decide +kernel
theorem dX10_due_5 : decode cX10_due 5 = .ok (.ifCond .eq 15, 3) := by decide +kernel
theorem dX10_due_8 : decode cX10_due 8 = .ok (.iload_n 2, 1) := by decide +kernel
theorem dX10_due_9 : decode cX10_due 9 = .ok (.iconst 0, 1) := by decide +kernel
theorem dX10_due_10 : decode cX10_due 10 = .ok (.aload_n 0, 1) := by decide +kernel
theorem dX10_due_11 : decode cX10_due 11 = .ok (.getfield 107, 3) := by decide +kernel
theorem dX10_due_14 : decode cX10_due 14 = .ok (.invokestatic 87, 3) := by decide +kernel
theorem dX10_due_17 : decode cX10_due 17 = .ok (.ifCond .ne 5, 3) := by decide +kernel
theorem dX10_due_20 : decode cX10_due 20 = .ok (.iconst (-1), 1) := by decide +kernel
theorem dX10_due_21 : decode cX10_due 21 = .ok (.ireturn, 1) := by decide +kernel
theorem dX10_due_22 : decode cX10_due 22 = .ok (.aload_n 0, 1) := by decide +kernel
theorem dX10_due_23 : decode cX10_due 23 = .ok (.getfield 47, 3) := by decide +kernel
theorem dX10_due_26 : decode cX10_due 26 = .ok (.iload_n 1, 1) := by decide +kernel
theorem dX10_due_27 : decode cX10_due 27 = .ok (.iaload, 1) := by decide +kernel
theorem dX10_due_28 : decode cX10_due 28 = .ok (.ifCond .lt 13, 3) := by decide +kernel
theorem dX10_due_31 : decode cX10_due 31 = .ok (.iload_n 2, 1) := by decide +kernel
theorem dX10_due_32 : decode cX10_due 32 = .ok (.aload_n 0, 1) := by decide +kernel
theorem dX10_due_33 : decode cX10_due 33 = .ok (.getfield 47, 3) := by decide +kernel
theorem dX10_due_36 : decode cX10_due 36 = .ok (.iload_n 1, 1) := by decide +kernel
theorem dX10_due_37 : decode cX10_due 37 = .ok (.iaload, 1) := by decide +kernel
theorem dX10_due_38 : decode cX10_due 38 = .ok (.if_icmp .ge 6, 3) := by decide +kernel
theorem dX10_due_41 : decode cX10_due 41 = .ok (.bipush (-2), 2) := by decide +kernel
theorem dX10_due_43 : decode cX10_due 43 = .ok (.ireturn, 1) := by decide +kernel
theorem dX10_due_44 : decode cX10_due 44 = .ok (.aload_n 0, 1) := by decide +kernel
theorem dX10_due_45 : decode cX10_due 45 = .ok (.iload_n 1, 1) := by decide +kernel
theorem dX10_due_46 : decode cX10_due 46 = .ok (.iload_n 2, 1) := by decide +kernel
theorem dX10_due_47 : decode cX10_due 47 = .ok (.invokevirtual 141, 3) := by decide +kernel
theorem dX10_due_50 : decode cX10_due 50 = .ok (.aload_n 0, 1) := by decide +kernel
theorem dX10_due_51 : decode cX10_due 51 = .ok (.getfield 80, 3) := by decide +kernel
theorem dX10_due_54 : decode cX10_due 54 = .ok (.iload_n 2, 1) := by decide +kernel
theorem dX10_due_55 : decode cX10_due 55 = .ok (.iaload, 1) := by decide +kernel
theorem dX10_due_56 : decode cX10_due 56 = .ok (.ireturn, 1) := by decide +kernel
theorem dX10_paidBy_0 : decode cX10_paidBy 0 = .ok (.iconst 0, 1) := by decide +kernel
theorem dX10_paidBy_1 : decode cX10_paidBy 1 = .ok (.istore_n 3, 1) := by decide +kernel
theorem dX10_paidBy_2 : decode cX10_paidBy 2 = .ok (.iconst 0, 1) := by decide +kernel
theorem dX10_paidBy_3 : decode cX10_paidBy 3 = .ok (.istore 4, 2) := by decide +kernel
theorem dX10_paidBy_5 : decode cX10_paidBy 5 = .ok (.iload 4, 2) := by decide +kernel
theorem dX10_paidBy_7 : decode cX10_paidBy 7 = .ok (.iload_n 2, 1) := by decide +kernel
theorem dX10_paidBy_8 : decode cX10_paidBy 8 = .ok (.if_icmp .gt 25, 3) := by decide +kernel
theorem dX10_paidBy_11 : decode cX10_paidBy 11 = .ok (.iload_n 3, 1) := by decide +kernel
theorem dX10_paidBy_12 : decode cX10_paidBy 12 = .ok (.aload_n 0, 1) := by decide +kernel
theorem dX10_paidBy_13 : decode cX10_paidBy 13 = .ok (.getfield 56, 3) := by decide +kernel
theorem dX10_paidBy_16 : decode cX10_paidBy 16 = .ok (.sipush 301, 3) := by decide +kernel
theorem dX10_paidBy_19 : decode cX10_paidBy 19 = .ok (.iload_n 1, 1) := by decide +kernel
theorem dX10_paidBy_20 : decode cX10_paidBy 20 = .ok (.imul, 1) := by decide +kernel
theorem dX10_paidBy_21 : decode cX10_paidBy 21 = .ok (.iload 4, 2) := by decide +kernel
theorem dX10_paidBy_23 : decode cX10_paidBy 23 = .ok (.iadd, 1) := by decide +kernel
theorem dX10_paidBy_24 : decode cX10_paidBy 24 = .ok (.iaload, 1) := by decide +kernel
theorem dX10_paidBy_25 : decode cX10_paidBy 25 = .ok (.iadd, 1) := by decide +kernel
theorem dX10_paidBy_26 : decode cX10_paidBy 26 = .ok (.istore_n 3, 1) := by decide +kernel
theorem dX10_paidBy_27 : decode cX10_paidBy 27 = .ok (.iinc 4 1, 3) := by decide +kernel
theorem dX10_paidBy_30 : decode cX10_paidBy 30 = .ok (.goto (-25), 3) := by decide +kernel
theorem dX10_paidBy_33 : decode cX10_paidBy 33 = .ok (.iload_n 3, 1) := by decide +kernel
theorem dX10_paidBy_34 : decode cX10_paidBy 34 = .ok (.ireturn, 1) := by decide +kernel
set_option maxRecDepth 20000 in
theorem ggX10_pay_X10_isHome : GoodIn wsX10_pay wsX10_isHome := goodIn_r _ [10, 11, 12, 13, 9, 14, 19, 20, 21, 22, 23, 24, 25, 26, 27, 28, 29, 30, 31, 32, 33, 34, 35, 36, 37, 38, 39, 40, 41, 42, 43, 44, 45, 46, 47, 48] (by decide +kernel) (by decide +kernel)
set_option maxRecDepth 20000 in
theorem gX10_pay_X10_isHome : GoodIn wsX10_pay (wsV RX10 91 RX10 yX10_isHome wsX10_isHome) := goodIn_app (goodIn_of _ (by decide +kernel)) ggX10_pay_X10_isHome
set_option maxRecDepth 20000 in
theorem ggX10_pay_X10_in : GoodIn wsX10_pay wsX10_in := goodIn_r _ [14] (by decide +kernel) (by decide +kernel)
set_option maxRecDepth 20000 in
theorem gX10_pay_X10_in : GoodIn wsX10_pay (va_wsS RX10 87 yX10_in wsX10_in) := goodIn_app (goodIn_of _ (by decide +kernel)) ggX10_pay_X10_in
set_option maxRecDepth 20000 in
theorem ggX10_pay_X10_paidBy : GoodIn wsX10_pay wsX10_paidBy := goodIn_r _ [18, 5, 19, 20, 21, 22, 23, 24, 25, 26, 27, 28, 29, 30, 31, 32, 33, 34, 35, 36, 37, 38, 39, 40, 41, 42, 43, 44, 45, 46, 47, 48] (by decide +kernel) (by decide +kernel)
set_option maxRecDepth 20000 in
theorem gX10_pay_X10_paidBy : GoodIn wsX10_pay (wsV RX10 145 RX10 yX10_paidBy wsX10_paidBy) := goodIn_app (goodIn_of _ (by decide +kernel)) ggX10_pay_X10_paidBy
theorem dX10_pay_0 : decode cX10_pay 0 = .ok (.aload_n 0, 1) := by decide +kernel
theorem dX10_pay_1 : decode cX10_pay 1 = .ok (.iload_n 1, 1) := by decide +kernel
theorem dX10_pay_2 : decode cX10_pay 2 = .ok (.invokevirtual 91, 3) := by decide +kernel
theorem dX10_pay_5 : decode cX10_pay 5 = .ok (.ifCond .eq 13, 3) := by decide +kernel
theorem dX10_pay_8 : decode cX10_pay 8 = .ok (.iload_n 2, 1) := by decide +kernel
theorem dX10_pay_9 : decode cX10_pay 9 = .ok (.iconst 0, 1) := by decide +kernel
theorem dX10_pay_10 : decode cX10_pay 10 = .ok (.ldc 144, 2) := by decide +kernel
theorem dX10_pay_12 : decode cX10_pay 12 = .ok (.invokestatic 87, 3) := by decide +kernel
theorem dX10_pay_15 : decode cX10_pay 15 = .ok (.ifCond .ne 5, 3) := by decide +kernel
theorem dX10_pay_18 : decode cX10_pay 18 = .ok (.iconst (-1), 1) := by decide +kernel
theorem dX10_pay_19 : decode cX10_pay 19 = .ok (.ireturn, 1) := by decide +kernel
theorem dX10_pay_20 : decode cX10_pay 20 = .ok (.aload_n 0, 1) := by decide +kernel
theorem dX10_pay_21 : decode cX10_pay 21 = .ok (.getfield 47, 3) := by decide +kernel
theorem dX10_pay_24 : decode cX10_pay 24 = .ok (.iload_n 1, 1) := by decide +kernel
theorem dX10_pay_25 : decode cX10_pay 25 = .ok (.iaload, 1) := by decide +kernel
theorem dX10_pay_26 : decode cX10_pay 26 = .ok (.ifCond .ge 6, 3) := by decide +kernel
theorem dX10_pay_29 : decode cX10_pay 29 = .ok (.bipush (-2), 2) := by decide +kernel
theorem dX10_pay_31 : decode cX10_pay 31 = .ok (.ireturn, 1) := by decide +kernel
theorem dX10_pay_32 : decode cX10_pay 32 = .ok (.aload_n 0, 1) := by decide +kernel
theorem dX10_pay_33 : decode cX10_pay 33 = .ok (.iload_n 1, 1) := by decide +kernel
theorem dX10_pay_34 : decode cX10_pay 34 = .ok (.aload_n 0, 1) := by decide +kernel
theorem dX10_pay_35 : decode cX10_pay 35 = .ok (.getfield 107, 3) := by decide +kernel
theorem dX10_pay_38 : decode cX10_pay 38 = .ok (.invokevirtual 145, 3) := by decide +kernel
theorem dX10_pay_41 : decode cX10_pay 41 = .ok (.iload_n 2, 1) := by decide +kernel
theorem dX10_pay_42 : decode cX10_pay 42 = .ok (.iadd, 1) := by decide +kernel
theorem dX10_pay_43 : decode cX10_pay 43 = .ok (.istore_n 3, 1) := by decide +kernel
theorem dX10_pay_44 : decode cX10_pay 44 = .ok (.iload_n 3, 1) := by decide +kernel
theorem dX10_pay_45 : decode cX10_pay 45 = .ok (.ldc 148, 2) := by decide +kernel
theorem dX10_pay_47 : decode cX10_pay 47 = .ok (.if_icmp .le 6, 3) := by decide +kernel
theorem dX10_pay_50 : decode cX10_pay 50 = .ok (.bipush (-3), 2) := by decide +kernel
theorem dX10_pay_52 : decode cX10_pay 52 = .ok (.ireturn, 1) := by decide +kernel
theorem dX10_pay_53 : decode cX10_pay 53 = .ok (.aload_n 0, 1) := by decide +kernel
theorem dX10_pay_54 : decode cX10_pay 54 = .ok (.getfield 56, 3) := by decide +kernel
theorem dX10_pay_57 : decode cX10_pay 57 = .ok (.sipush 301, 3) := by decide +kernel
theorem dX10_pay_60 : decode cX10_pay 60 = .ok (.iload_n 1, 1) := by decide +kernel
theorem dX10_pay_61 : decode cX10_pay 61 = .ok (.imul, 1) := by decide +kernel
theorem dX10_pay_62 : decode cX10_pay 62 = .ok (.aload_n 0, 1) := by decide +kernel
theorem dX10_pay_63 : decode cX10_pay 63 = .ok (.getfield 107, 3) := by decide +kernel
theorem dX10_pay_66 : decode cX10_pay 66 = .ok (.iadd, 1) := by decide +kernel
theorem dX10_pay_67 : decode cX10_pay 67 = .ok (.dup2, 1) := by decide +kernel
theorem dX10_pay_68 : decode cX10_pay 68 = .ok (.iaload, 1) := by decide +kernel
theorem dX10_pay_69 : decode cX10_pay 69 = .ok (.iload_n 2, 1) := by decide +kernel
theorem dX10_pay_70 : decode cX10_pay 70 = .ok (.iadd, 1) := by decide +kernel
theorem dX10_pay_71 : decode cX10_pay 71 = .ok (.iastore, 1) := by decide +kernel
theorem dX10_pay_72 : decode cX10_pay 72 = .ok (.iload_n 3, 1) := by decide +kernel
theorem dX10_pay_73 : decode cX10_pay 73 = .ok (.ireturn, 1) := by decide +kernel
set_option maxRecDepth 20000 in
theorem ggX10_owed_X10_isHome : GoodIn wsX10_owed wsX10_isHome := goodIn_r _ [9, 10, 11, 12, 8, 13, 41, 42, 43, 44, 45, 46, 47, 48, 49, 50, 51, 52, 53, 54, 55, 56, 57, 58, 59, 60, 61, 62, 63, 64, 65, 66, 67, 68, 69, 70] (by decide +kernel) (by decide +kernel)
set_option maxRecDepth 20000 in
theorem gX10_owed_X10_isHome : GoodIn wsX10_owed (wsV RX10 91 RX10 yX10_isHome wsX10_isHome) := goodIn_app (goodIn_of _ (by decide +kernel)) ggX10_owed_X10_isHome
set_option maxRecDepth 20000 in
theorem ggX10_owed_X10_in : GoodIn wsX10_owed wsX10_in := goodIn_r _ [13] (by decide +kernel) (by decide +kernel)
set_option maxRecDepth 20000 in
theorem gX10_owed_X10_in : GoodIn wsX10_owed (va_wsS RX10 87 yX10_in wsX10_in) := goodIn_app (goodIn_of _ (by decide +kernel)) ggX10_owed_X10_in
set_option maxRecDepth 20000 in
theorem ggX10_owed_X10_work : GoodIn wsX10_owed wsX10_work := goodIn_r _ [17, 2, 18, 19, 20, 21, 22, 23, 4, 24, 25, 26, 27, 28, 8, 29, 30, 31, 32, 33, 34, 35, 41, 42, 43, 44, 45, 46, 47, 48, 49, 50, 51, 52, 53, 54, 55, 56, 57, 58, 59, 60, 61, 62, 63, 64, 65, 66, 67, 68, 69, 70] (by decide +kernel) (by decide +kernel)
set_option maxRecDepth 20000 in
theorem gX10_owed_X10_work : GoodIn wsX10_owed (wsV RX10 141 RX10 yX10_work wsX10_work) := goodIn_app (goodIn_of _ (by decide +kernel)) ggX10_owed_X10_work
set_option maxRecDepth 20000 in
theorem ggX10_owed_X10_paidBy : GoodIn wsX10_owed wsX10_paidBy := goodIn_r _ [39, 40, 41, 42, 43, 44, 45, 46, 47, 48, 49, 50, 51, 52, 53, 54, 55, 56, 57, 58, 59, 60, 61, 62, 63, 64, 65, 66, 67, 68, 69, 70] (by decide +kernel) (by decide +kernel)
set_option maxRecDepth 20000 in
theorem gX10_owed_X10_paidBy : GoodIn wsX10_owed (wsV RX10 145 RX10 yX10_paidBy wsX10_paidBy) := goodIn_app (goodIn_of _ (by decide +kernel)) ggX10_owed_X10_paidBy
theorem dX10_owed_0 : decode cX10_owed 0 = .ok (.aload_n 0, 1) := by decide +kernel
theorem dX10_owed_1 : decode cX10_owed 1 = .ok (.iload_n 1, 1) := by decide +kernel
theorem dX10_owed_2 : decode cX10_owed 2 = .ok (.invokevirtual 91, 3) := by decide +kernel
theorem dX10_owed_5 : decode cX10_owed 5 = .ok (.ifCond .eq 34, 3) := by decide +kernel
theorem dX10_owed_8 : decode cX10_owed 8 = .ok (.iload_n 2, 1) := by decide +kernel
theorem dX10_owed_9 : decode cX10_owed 9 = .ok (.iconst 0, 1) := by decide +kernel
theorem dX10_owed_10 : decode cX10_owed 10 = .ok (.aload_n 0, 1) := by decide +kernel
theorem dX10_owed_11 : decode cX10_owed 11 = .ok (.getfield 107, 3) := by decide +kernel
theorem dX10_owed_14 : decode cX10_owed 14 = .ok (.invokestatic 87, 3) := by decide +kernel
theorem dX10_owed_17 : decode cX10_owed 17 = .ok (.ifCond .eq 22, 3) := by decide +kernel
theorem dX10_owed_20 : decode cX10_owed 20 = .ok (.aload_n 0, 1) := by decide +kernel
theorem dX10_owed_21 : decode cX10_owed 21 = .ok (.getfield 47, 3) := by decide +kernel
theorem dX10_owed_24 : decode cX10_owed 24 = .ok (.iload_n 1, 1) := by decide +kernel
theorem dX10_owed_25 : decode cX10_owed 25 = .ok (.iaload, 1) := by decide +kernel
theorem dX10_owed_26 : decode cX10_owed 26 = .ok (.ifCond .lt 13, 3) := by decide +kernel
theorem dX10_owed_29 : decode cX10_owed 29 = .ok (.iload_n 2, 1) := by decide +kernel
theorem dX10_owed_30 : decode cX10_owed 30 = .ok (.aload_n 0, 1) := by decide +kernel
theorem dX10_owed_31 : decode cX10_owed 31 = .ok (.getfield 47, 3) := by decide +kernel
theorem dX10_owed_34 : decode cX10_owed 34 = .ok (.iload_n 1, 1) := by decide +kernel
theorem dX10_owed_35 : decode cX10_owed 35 = .ok (.iaload, 1) := by decide +kernel
theorem dX10_owed_36 : decode cX10_owed 36 = .ok (.if_icmp .ge 6, 3) := by decide +kernel
theorem dX10_owed_39 : decode cX10_owed 39 = .ok (.ldc 131, 2) := by decide +kernel
theorem dX10_owed_41 : decode cX10_owed 41 = .ok (.ireturn, 1) := by decide +kernel
theorem dX10_owed_42 : decode cX10_owed 42 = .ok (.aload_n 0, 1) := by decide +kernel
theorem dX10_owed_43 : decode cX10_owed 43 = .ok (.iload_n 1, 1) := by decide +kernel
theorem dX10_owed_44 : decode cX10_owed 44 = .ok (.iload_n 2, 1) := by decide +kernel
theorem dX10_owed_45 : decode cX10_owed 45 = .ok (.invokevirtual 141, 3) := by decide +kernel
theorem dX10_owed_48 : decode cX10_owed 48 = .ok (.aload_n 0, 1) := by decide +kernel
theorem dX10_owed_49 : decode cX10_owed 49 = .ok (.iload_n 1, 1) := by decide +kernel
theorem dX10_owed_50 : decode cX10_owed 50 = .ok (.iload_n 2, 1) := by decide +kernel
theorem dX10_owed_51 : decode cX10_owed 51 = .ok (.invokevirtual 145, 3) := by decide +kernel
theorem dX10_owed_54 : decode cX10_owed 54 = .ok (.ineg, 1) := by decide +kernel
theorem dX10_owed_55 : decode cX10_owed 55 = .ok (.istore_n 3, 1) := by decide +kernel
theorem dX10_owed_56 : decode cX10_owed 56 = .ok (.aload_n 0, 1) := by decide +kernel
theorem dX10_owed_57 : decode cX10_owed 57 = .ok (.getfield 47, 3) := by decide +kernel
theorem dX10_owed_60 : decode cX10_owed 60 = .ok (.iload_n 1, 1) := by decide +kernel
theorem dX10_owed_61 : decode cX10_owed 61 = .ok (.iaload, 1) := by decide +kernel
theorem dX10_owed_62 : decode cX10_owed 62 = .ok (.istore 4, 2) := by decide +kernel
theorem dX10_owed_64 : decode cX10_owed 64 = .ok (.iload 4, 2) := by decide +kernel
theorem dX10_owed_66 : decode cX10_owed 66 = .ok (.iload_n 2, 1) := by decide +kernel
theorem dX10_owed_67 : decode cX10_owed 67 = .ok (.if_icmp .gt 19, 3) := by decide +kernel
theorem dX10_owed_70 : decode cX10_owed 70 = .ok (.iload_n 3, 1) := by decide +kernel
theorem dX10_owed_71 : decode cX10_owed 71 = .ok (.aload_n 0, 1) := by decide +kernel
theorem dX10_owed_72 : decode cX10_owed 72 = .ok (.getfield 80, 3) := by decide +kernel
theorem dX10_owed_75 : decode cX10_owed 75 = .ok (.iload 4, 2) := by decide +kernel
theorem dX10_owed_77 : decode cX10_owed 77 = .ok (.iaload, 1) := by decide +kernel
theorem dX10_owed_78 : decode cX10_owed 78 = .ok (.iadd, 1) := by decide +kernel
theorem dX10_owed_79 : decode cX10_owed 79 = .ok (.istore_n 3, 1) := by decide +kernel
theorem dX10_owed_80 : decode cX10_owed 80 = .ok (.iinc 4 1, 3) := by decide +kernel
theorem dX10_owed_83 : decode cX10_owed 83 = .ok (.goto (-19), 3) := by decide +kernel
theorem dX10_owed_86 : decode cX10_owed 86 = .ok (.iload_n 3, 1) := by decide +kernel
theorem dX10_owed_87 : decode cX10_owed 87 = .ok (.ireturn, 1) := by decide +kernel
theorem dX10_count_0 : decode cX10_count 0 = .ok (.iconst 0, 1) := by decide +kernel
theorem dX10_count_1 : decode cX10_count 1 = .ok (.istore_n 2, 1) := by decide +kernel
theorem dX10_count_2 : decode cX10_count 2 = .ok (.iload_n 1, 1) := by decide +kernel
theorem dX10_count_3 : decode cX10_count 3 = .ok (.tableswitch 125 0 5 #[37, 42, 47, 52, 57, 92], 37) := by decide +kernel
theorem dX10_count_40 : decode cX10_count 40 = .ok (.aload_n 0, 1) := by decide +kernel
theorem dX10_count_41 : decode cX10_count 41 = .ok (.getfield 83, 3) := by decide +kernel
theorem dX10_count_44 : decode cX10_count 44 = .ok (.ireturn, 1) := by decide +kernel
theorem dX10_count_45 : decode cX10_count 45 = .ok (.aload_n 0, 1) := by decide +kernel
theorem dX10_count_46 : decode cX10_count 46 = .ok (.getfield 117, 3) := by decide +kernel
theorem dX10_count_49 : decode cX10_count 49 = .ok (.ireturn, 1) := by decide +kernel
theorem dX10_count_50 : decode cX10_count 50 = .ok (.aload_n 0, 1) := by decide +kernel
theorem dX10_count_51 : decode cX10_count 51 = .ok (.getfield 132, 3) := by decide +kernel
theorem dX10_count_54 : decode cX10_count 54 = .ok (.ireturn, 1) := by decide +kernel
theorem dX10_count_55 : decode cX10_count 55 = .ok (.aload_n 0, 1) := by decide +kernel
theorem dX10_count_56 : decode cX10_count 56 = .ok (.getfield 107, 3) := by decide +kernel
theorem dX10_count_59 : decode cX10_count 59 = .ok (.ireturn, 1) := by decide +kernel
theorem dX10_count_60 : decode cX10_count 60 = .ok (.iconst 0, 1) := by decide +kernel
theorem dX10_count_61 : decode cX10_count 61 = .ok (.istore_n 3, 1) := by decide +kernel
theorem dX10_count_62 : decode cX10_count 62 = .ok (.iload_n 3, 1) := by decide +kernel
theorem dX10_count_63 : decode cX10_count 63 = .ok (.aload_n 0, 1) := by decide +kernel
theorem dX10_count_64 : decode cX10_count 64 = .ok (.getfield 83, 3) := by decide +kernel
theorem dX10_count_67 : decode cX10_count 67 = .ok (.if_icmp .ge 26, 3) := by decide +kernel
theorem dX10_count_70 : decode cX10_count 70 = .ok (.iload_n 2, 1) := by decide +kernel
theorem dX10_count_71 : decode cX10_count 71 = .ok (.aload_n 0, 1) := by decide +kernel
theorem dX10_count_72 : decode cX10_count 72 = .ok (.getfield 47, 3) := by decide +kernel
theorem dX10_count_75 : decode cX10_count 75 = .ok (.iload_n 3, 1) := by decide +kernel
theorem dX10_count_76 : decode cX10_count 76 = .ok (.iaload, 1) := by decide +kernel
theorem dX10_count_77 : decode cX10_count 77 = .ok (.ifCond .ge 7, 3) := by decide +kernel
theorem dX10_count_80 : decode cX10_count 80 = .ok (.iconst 0, 1) := by decide +kernel
theorem dX10_count_81 : decode cX10_count 81 = .ok (.goto 4, 3) := by decide +kernel
theorem dX10_count_84 : decode cX10_count 84 = .ok (.iconst 1, 1) := by decide +kernel
theorem dX10_count_85 : decode cX10_count 85 = .ok (.iadd, 1) := by decide +kernel
theorem dX10_count_86 : decode cX10_count 86 = .ok (.istore_n 2, 1) := by decide +kernel
theorem dX10_count_87 : decode cX10_count 87 = .ok (.iinc 3 1, 3) := by decide +kernel
theorem dX10_count_90 : decode cX10_count 90 = .ok (.goto (-28), 3) := by decide +kernel
theorem dX10_count_93 : decode cX10_count 93 = .ok (.iload_n 2, 1) := by decide +kernel
theorem dX10_count_94 : decode cX10_count 94 = .ok (.ireturn, 1) := by decide +kernel
theorem dX10_count_95 : decode cX10_count 95 = .ok (.iconst 0, 1) := by decide +kernel
theorem dX10_count_96 : decode cX10_count 96 = .ok (.istore_n 3, 1) := by decide +kernel
theorem dX10_count_97 : decode cX10_count 97 = .ok (.iload_n 3, 1) := by decide +kernel
theorem dX10_count_98 : decode cX10_count 98 = .ok (.bipush 31, 2) := by decide +kernel
theorem dX10_count_100 : decode cX10_count 100 = .ok (.if_icmp .ge 26, 3) := by decide +kernel
theorem dX10_count_103 : decode cX10_count 103 = .ok (.iload_n 2, 1) := by decide +kernel
theorem dX10_count_104 : decode cX10_count 104 = .ok (.aload_n 0, 1) := by decide +kernel
theorem dX10_count_105 : decode cX10_count 105 = .ok (.getfield 28, 3) := by decide +kernel
theorem dX10_count_108 : decode cX10_count 108 = .ok (.iload_n 3, 1) := by decide +kernel
theorem dX10_count_109 : decode cX10_count 109 = .ok (.baload, 1) := by decide +kernel
theorem dX10_count_110 : decode cX10_count 110 = .ok (.ifCond .eq 7, 3) := by decide +kernel
theorem dX10_count_113 : decode cX10_count 113 = .ok (.iconst 1, 1) := by decide +kernel
theorem dX10_count_114 : decode cX10_count 114 = .ok (.goto 4, 3) := by decide +kernel
theorem dX10_count_117 : decode cX10_count 117 = .ok (.iconst 0, 1) := by decide +kernel
theorem dX10_count_118 : decode cX10_count 118 = .ok (.iadd, 1) := by decide +kernel
theorem dX10_count_119 : decode cX10_count 119 = .ok (.istore_n 2, 1) := by decide +kernel
theorem dX10_count_120 : decode cX10_count 120 = .ok (.iinc 3 1, 3) := by decide +kernel
theorem dX10_count_123 : decode cX10_count 123 = .ok (.goto (-26), 3) := by decide +kernel
theorem dX10_count_126 : decode cX10_count 126 = .ok (.iload_n 2, 1) := by decide +kernel
theorem dX10_count_127 : decode cX10_count 127 = .ok (.ireturn, 1) := by decide +kernel
theorem dX10_count_128 : decode cX10_count 128 = .ok (.iconst (-1), 1) := by decide +kernel
theorem dX10_count_129 : decode cX10_count 129 = .ok (.ireturn, 1) := by decide +kernel
theorem dX10_trace_0 : decode cX10_trace 0 = .ok (.aload_n 0, 1) := by decide +kernel
theorem dX10_trace_1 : decode cX10_trace 1 = .ok (.getfield 95, 3) := by decide +kernel
theorem dX10_trace_4 : decode cX10_trace 4 = .ok (.lreturn, 1) := by decide +kernel
