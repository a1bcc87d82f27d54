theorem dX11_routine_34 : decode cX11_routine 34 = .ok (.getfield 158, 3) := by decide +kernel
theorem dX11_routine_37 : decode cX11_routine 37 = .ok (.iconst 1, 1) := by decide +kernel
theorem dX11_routine_38 : decode cX11_routine 38 = .ok (.iadd, 1) := by decide +kernel
theorem dX11_routine_39 : decode cX11_routine 39 = .ok (.putfield 158, 3) := by decide +kernel
theorem dX11_routine_42 : decode cX11_routine 42 = .ok (.aload_n 0, 1) := by decide +kernel
theorem dX11_routine_43 : decode cX11_routine 43 = .ok (.getfield 158, 3) := by decide +kernel
theorem dX11_routine_46 : decode cX11_routine 46 = .ok (.iconst 1, 1) := by decide +kernel
theorem dX11_routine_47 : decode cX11_routine 47 = .ok (.isub, 1) := by decide +kernel
theorem dX11_routine_48 : decode cX11_routine 48 = .ok (.ireturn, 1) := by decide +kernel
set_option maxRecDepth 20000 in
theorem ggX11_isLine_X11_in : GoodIn wsX11_isLine wsX11_in := goodIn_r _ [4] (by decide +kernel) (by decide +kernel)
set_option maxRecDepth 20000 in
theorem gX11_isLine_X11_in : GoodIn wsX11_isLine (va_wsS RX11 151 yX11_in wsX11_in) := goodIn_app (goodIn_of _ (by decide +kernel)) ggX11_isLine_X11_in
set_option maxRecDepth 20000 in
theorem ggX11_isLine_X11_isTable : GoodIn wsX11_isLine wsX11_isTable := goodIn_r _ [8, 9, 1, 2, 3, 4, 15, 16, 17, 18, 19, 20, 21, 22, 23, 24, 25, 26, 27, 28, 29, 30, 31, 32, 33, 34, 35, 36, 37, 38, 39, 40, 41, 42, 43, 44, 45, 46, 47, 48, 49, 50, 51, 52, 53, 54, 55, 56, 57, 58, 59, 60, 61, 62, 63, 64, 65, 66, 67, 68, 69, 70, 71, 72, 73, 74, 75, 76, 77] (by decide +kernel) (by decide +kernel)
set_option maxRecDepth 20000 in
theorem gX11_isLine_X11_isTable : GoodIn wsX11_isLine (wsV RX11 165 RX11 yX11_isTable wsX11_isTable) := goodIn_app (goodIn_of _ (by decide +kernel)) ggX11_isLine_X11_isTable
set_option maxRecDepth 20000 in
theorem ggX11_isLine_X11_isRoutine : GoodIn wsX11_isLine wsX11_isRoutine := goodIn_r _ [13, 14, 1, 2, 3, 4, 15, 16, 17, 18, 19, 20, 21, 22, 23, 24, 25, 26, 27, 28, 29, 30, 31, 32, 33, 34, 35, 36, 37, 38, 39, 40, 41, 42, 43, 44, 45, 46, 47, 48, 49, 50, 51, 52, 53, 54, 55, 56, 57, 58, 59, 60, 61, 62, 63, 64, 65, 66, 67, 68, 69, 70, 71, 72, 73, 74, 75, 76, 77] (by decide +kernel) (by decide +kernel)
set_option maxRecDepth 20000 in
theorem gX11_isLine_X11_isRoutine : GoodIn wsX11_isLine (wsV RX11 168 RX11 yX11_isRoutine wsX11_isRoutine) := goodIn_app (goodIn_of _ (by decide +kernel)) ggX11_isLine_X11_isRoutine
theorem dX11_isLine_0 : decode cX11_isLine 0 = .ok (.iload_n 1, 1) := by decide +kernel
theorem dX11_isLine_1 : decode cX11_isLine 1 = .ok (.tableswitch 150 0 8 #[51, 51, 74, 74, 98, 116, 136, 74, 74], 51) := by decide +kernel
theorem dX11_isLine_52 : decode cX11_isLine 52 = .ok (.iload_n 2, 1) := by decide +kernel
theorem dX11_isLine_53 : decode cX11_isLine 53 = .ok (.sipush (-999), 3) := by decide +kernel
theorem dX11_isLine_56 : decode cX11_isLine 56 = .ok (.sipush 999, 3) := by decide +kernel
theorem dX11_isLine_59 : decode cX11_isLine 59 = .ok (.invokestatic 151, 3) := by decide +kernel
theorem dX11_isLine_62 : decode cX11_isLine 62 = .ok (.ifCond .eq 11, 3) := by decide +kernel
theorem dX11_isLine_65 : decode cX11_isLine 65 = .ok (.iload_n 3, 1) := by decide +kernel
theorem dX11_isLine_66 : decode cX11_isLine 66 = .ok (.ifCond .ne 7, 3) := by decide +kernel
theorem dX11_isLine_69 : decode cX11_isLine 69 = .ok (.iconst 1, 1) := by decide +kernel
theorem dX11_isLine_70 : decode cX11_isLine 70 = .ok (.goto 4, 3) := by decide +kernel
theorem dX11_isLine_73 : decode cX11_isLine 73 = .ok (.iconst 0, 1) := by decide +kernel
theorem dX11_isLine_74 : decode cX11_isLine 74 = .ok (.ireturn, 1) := by decide +kernel
theorem dX11_isLine_75 : decode cX11_isLine 75 = .ok (.aload_n 0, 1) := by decide +kernel
theorem dX11_isLine_76 : decode cX11_isLine 76 = .ok (.iload_n 2, 1) := by decide +kernel
theorem dX11_isLine_77 : decode cX11_isLine 77 = .ok (.invokevirtual 165, 3) := by decide +kernel
theorem dX11_isLine_80 : decode cX11_isLine 80 = .ok (.ifCond .eq 17, 3) := by decide +kernel
theorem dX11_isLine_83 : decode cX11_isLine 83 = .ok (.iload_n 3, 1) := by decide +kernel
theorem dX11_isLine_84 : decode cX11_isLine 84 = .ok (.iconst 0, 1) := by decide +kernel
theorem dX11_isLine_85 : decode cX11_isLine 85 = .ok (.bipush 7, 2) := by decide +kernel
theorem dX11_isLine_87 : decode cX11_isLine 87 = .ok (.invokestatic 151, 3) := by decide +kernel
theorem dX11_isLine_90 : decode cX11_isLine 90 = .ok (.ifCond .eq 7, 3) := by decide +kernel
theorem dX11_isLine_93 : decode cX11_isLine 93 = .ok (.iconst 1, 1) := by decide +kernel
theorem dX11_isLine_94 : decode cX11_isLine 94 = .ok (.goto 4, 3) := by decide +kernel
theorem dX11_isLine_97 : decode cX11_isLine 97 = .ok (.iconst 0, 1) := by decide +kernel
theorem dX11_isLine_98 : decode cX11_isLine 98 = .ok (.ireturn, 1) := by decide +kernel
theorem dX11_isLine_99 : decode cX11_isLine 99 = .ok (.aload_n 0, 1) := by decide +kernel
theorem dX11_isLine_100 : decode cX11_isLine 100 = .ok (.iload_n 2, 1) := by decide +kernel
theorem dX11_isLine_101 : decode cX11_isLine 101 = .ok (.invokevirtual 168, 3) := by decide +kernel
theorem dX11_isLine_104 : decode cX11_isLine 104 = .ok (.ifCond .eq 11, 3) := by decide +kernel
theorem dX11_isLine_107 : decode cX11_isLine 107 = .ok (.iload_n 3, 1) := by decide +kernel
theorem dX11_isLine_108 : decode cX11_isLine 108 = .ok (.ifCond .ne 7, 3) := by decide +kernel
theorem dX11_isLine_111 : decode cX11_isLine 111 = .ok (.iconst 1, 1) := by decide +kernel
theorem dX11_isLine_112 : decode cX11_isLine 112 = .ok (.goto 4, 3) := by decide +kernel
theorem dX11_isLine_115 : decode cX11_isLine 115 = .ok (.iconst 0, 1) := by decide +kernel
theorem dX11_isLine_116 : decode cX11_isLine 116 = .ok (.ireturn, 1) := by decide +kernel
theorem dX11_isLine_117 : decode cX11_isLine 117 = .ok (.iload_n 2, 1) := by decide +kernel
theorem dX11_isLine_118 : decode cX11_isLine 118 = .ok (.iconst 1, 1) := by decide +kernel
theorem dX11_isLine_119 : decode cX11_isLine 119 = .ok (.bipush 15, 2) := by decide +kernel
theorem dX11_isLine_121 : decode cX11_isLine 121 = .ok (.invokestatic 151, 3) := by decide +kernel
theorem dX11_isLine_124 : decode cX11_isLine 124 = .ok (.ifCond .eq 11, 3) := by decide +kernel
theorem dX11_isLine_127 : decode cX11_isLine 127 = .ok (.iload_n 3, 1) := by decide +kernel
theorem dX11_isLine_128 : decode cX11_isLine 128 = .ok (.ifCond .ne 7, 3) := by decide +kernel
theorem dX11_isLine_131 : decode cX11_isLine 131 = .ok (.iconst 1, 1) := by decide +kernel
theorem dX11_isLine_132 : decode cX11_isLine 132 = .ok (.goto 4, 3) := by decide +kernel
theorem dX11_isLine_135 : decode cX11_isLine 135 = .ok (.iconst 0, 1) := by decide +kernel
theorem dX11_isLine_136 : decode cX11_isLine 136 = .ok (.ireturn, 1) := by decide +kernel
theorem dX11_isLine_137 : decode cX11_isLine 137 = .ok (.iload_n 2, 1) := by decide +kernel
theorem dX11_isLine_138 : decode cX11_isLine 138 = .ok (.ifCond .ne 11, 3) := by decide +kernel
theorem dX11_isLine_141 : decode cX11_isLine 141 = .ok (.iload_n 3, 1) := by decide +kernel
theorem dX11_isLine_142 : decode cX11_isLine 142 = .ok (.ifCond .ne 7, 3) := by decide +kernel
theorem dX11_isLine_145 : decode cX11_isLine 145 = .ok (.iconst 1, 1) := by decide +kernel
theorem dX11_isLine_146 : decode cX11_isLine 146 = .ok (.goto 4, 3) := by decide +kernel
theorem dX11_isLine_149 : decode cX11_isLine 149 = .ok (.iconst 0, 1) := by decide +kernel
theorem dX11_isLine_150 : decode cX11_isLine 150 = .ok (.ireturn, 1) := by decide +kernel
theorem dX11_isLine_151 : decode cX11_isLine 151 = .ok (.iconst 0, 1) := by decide +kernel
theorem dX11_isLine_152 : decode cX11_isLine 152 = .ok (.ireturn, 1) := by decide +kernel
set_option maxRecDepth 20000 in
theorem ggX11_line_X11_isRoutine : GoodIn wsX11_line wsX11_isRoutine := goodIn_r _ [9, 10, 11, 12, 8, 13, 23, 24, 25, 26, 27, 28, 29, 30, 31, 32, 33, 34, 35, 36, 37, 38, 39, 40, 41, 42, 43, 44, 45, 46, 47, 48, 49, 50, 51, 52, 53, 54, 55, 56, 57, 58, 59, 60, 61, 62, 63, 64, 65, 66, 67, 68, 69, 70, 71, 72, 73, 74, 75, 76, 77, 78, 79, 80, 81, 82, 83, 84, 85] (by decide +kernel) (by decide +kernel)
set_option maxRecDepth 20000 in
theorem gX11_line_X11_isRoutine : GoodIn wsX11_line (wsV RX11 168 RX11 yX11_isRoutine wsX11_isRoutine) := goodIn_app (goodIn_of _ (by decide +kernel)) ggX11_line_X11_isRoutine
set_option maxRecDepth 20000 in
theorem ggX11_line_X11_isLine : GoodIn wsX11_line wsX11_isLine := goodIn_r _ [17, 11, 12, 8, 13, 18, 19, 20, 21, 22, 5, 6, 7, 9, 10, 23, 24, 25, 26, 27, 28, 29, 30, 31, 32, 33, 34, 35, 36, 37, 38, 39, 40, 41, 42, 43, 44, 45, 46, 47, 48, 49, 50, 51, 52, 53, 54, 55, 56, 57, 58, 59, 60, 61, 62, 63, 64, 65, 66, 67, 68, 69, 70, 71, 72, 73, 74, 75, 76, 77, 78, 79, 80, 81, 82, 83, 84, 85] (by decide +kernel) (by decide +kernel)
set_option maxRecDepth 20000 in
theorem gX11_line_X11_isLine : GoodIn wsX11_line (wsV RX11 171 RX11 yX11_isLine wsX11_isLine) := goodIn_app (goodIn_of _ (by decide +kernel)) ggX11_line_X11_isLine
theorem dX11_line_0 : decode cX11_line 0 = .ok (.aload_n 0, 1) := by decide +kernel
theorem dX11_line_1 : decode cX11_line 1 = .ok (.iload_n 1, 1) := by decide +kernel
theorem dX11_line_2 : decode cX11_line 2 = .ok (.invokevirtual 168, 3) := by decide +kernel
theorem dX11_line_5 : decode cX11_line 5 = .ok (.ifCond .eq 14, 3) := by decide +kernel
theorem dX11_line_8 : decode cX11_line 8 = .ok (.aload_n 0, 1) := by decide +kernel
theorem dX11_line_9 : decode cX11_line 9 = .ok (.iload_n 2, 1) := by decide +kernel
theorem dX11_line_10 : decode cX11_line 10 = .ok (.iload_n 3, 1) := by decide +kernel
theorem dX11_line_11 : decode cX11_line 11 = .ok (.iload 4, 2) := by decide +kernel
theorem dX11_line_13 : decode cX11_line 13 = .ok (.invokevirtual 171, 3) := by decide +kernel
theorem dX11_line_16 : decode cX11_line 16 = .ok (.ifCond .ne 5, 3) := by decide +kernel
theorem dX11_line_19 : decode cX11_line 19 = .ok (.iconst (-1), 1) := by decide +kernel
theorem dX11_line_20 : decode cX11_line 20 = .ok (.ireturn, 1) := by decide +kernel
theorem dX11_line_21 : decode cX11_line 21 = .ok (.aload_n 0, 1) := by decide +kernel
theorem dX11_line_22 : decode cX11_line 22 = .ok (.getfield 19, 3) := by decide +kernel
theorem dX11_line_25 : decode cX11_line 25 = .ok (.iload_n 1, 1) := by decide +kernel
theorem dX11_line_26 : decode cX11_line 26 = .ok (.iaload, 1) := by decide +kernel
theorem dX11_line_27 : decode cX11_line 27 = .ok (.bipush 16, 2) := by decide +kernel
theorem dX11_line_29 : decode cX11_line 29 = .ok (.if_icmp .ne 6, 3) := by decide +kernel
theorem dX11_line_32 : decode cX11_line 32 = .ok (.bipush (-3), 2) := by decide +kernel
theorem dX11_line_34 : decode cX11_line 34 = .ok (.ireturn, 1) := by decide +kernel
theorem dX11_line_35 : decode cX11_line 35 = .ok (.bipush 16, 2) := by decide +kernel
theorem dX11_line_37 : decode cX11_line 37 = .ok (.iload_n 1, 1) := by decide +kernel
theorem dX11_line_38 : decode cX11_line 38 = .ok (.imul, 1) := by decide +kernel
theorem dX11_line_39 : decode cX11_line 39 = .ok (.aload_n 0, 1) := by decide +kernel
theorem dX11_line_40 : decode cX11_line 40 = .ok (.getfield 19, 3) := by decide +kernel
theorem dX11_line_43 : decode cX11_line 43 = .ok (.iload_n 1, 1) := by decide +kernel
theorem dX11_line_44 : decode cX11_line 44 = .ok (.iaload, 1) := by decide +kernel
theorem dX11_line_45 : decode cX11_line 45 = .ok (.iadd, 1) := by decide +kernel
theorem dX11_line_46 : decode cX11_line 46 = .ok (.istore 5, 2) := by decide +kernel
theorem dX11_line_48 : decode cX11_line 48 = .ok (.aload_n 0, 1) := by decide +kernel
theorem dX11_line_49 : decode cX11_line 49 = .ok (.getfield 22, 3) := by decide +kernel
theorem dX11_line_52 : decode cX11_line 52 = .ok (.iload 5, 2) := by decide +kernel
theorem dX11_line_54 : decode cX11_line 54 = .ok (.iload_n 2, 1) := by decide +kernel
theorem dX11_line_55 : decode cX11_line 55 = .ok (.iastore, 1) := by decide +kernel
theorem dX11_line_56 : decode cX11_line 56 = .ok (.aload_n 0, 1) := by decide +kernel
theorem dX11_line_57 : decode cX11_line 57 = .ok (.getfield 25, 3) := by decide +kernel
theorem dX11_line_60 : decode cX11_line 60 = .ok (.iload 5, 2) := by decide +kernel
theorem dX11_line_62 : decode cX11_line 62 = .ok (.iload_n 3, 1) := by decide +kernel
theorem dX11_line_63 : decode cX11_line 63 = .ok (.iastore, 1) := by decide +kernel
theorem dX11_line_64 : decode cX11_line 64 = .ok (.aload_n 0, 1) := by decide +kernel
theorem dX11_line_65 : decode cX11_line 65 = .ok (.getfield 28, 3) := by decide +kernel
theorem dX11_line_68 : decode cX11_line 68 = .ok (.iload 5, 2) := by decide +kernel
theorem dX11_line_70 : decode cX11_line 70 = .ok (.iload 4, 2) := by decide +kernel
theorem dX11_line_72 : decode cX11_line 72 = .ok (.iastore, 1) := by decide +kernel
theorem dX11_line_73 : decode cX11_line 73 = .ok (.aload_n 0, 1) := by decide +kernel
theorem dX11_line_74 : decode cX11_line 74 = .ok (.getfield 19, 3) := by decide +kernel
theorem dX11_line_77 : decode cX11_line 77 = .ok (.iload_n 1, 1) := by decide +kernel
theorem dX11_line_78 : decode cX11_line 78 = .ok (.dup2, 1) := by decide +kernel
theorem dX11_line_79 : decode cX11_line 79 = .ok (.iaload, 1) := by decide +kernel
theorem dX11_line_80 : decode cX11_line 80 = .ok (.iconst 1, 1) := by decide +kernel
theorem dX11_line_81 : decode cX11_line 81 = .ok (.iadd, 1) := by decide +kernel
theorem dX11_line_82 : decode cX11_line 82 = .ok (.iastore, 1) := by decide +kernel
theorem dX11_line_83 : decode cX11_line 83 = .ok (.aload_n 0, 1) := by decide +kernel
theorem dX11_line_84 : decode cX11_line 84 = .ok (.getfield 19, 3) := by decide +kernel
theorem dX11_line_87 : decode cX11_line 87 = .ok (.iload_n 1, 1) := by decide +kernel
theorem dX11_line_88 : decode cX11_line 88 = .ok (.iaload, 1) := by decide +kernel
theorem dX11_line_89 : decode cX11_line 89 = .ok (.iconst 1, 1) := by decide +kernel
theorem dX11_line_90 : decode cX11_line 90 = .ok (.isub, 1) := by decide +kernel
theorem dX11_line_91 : decode cX11_line 91 = .ok (.ireturn, 1) := by decide +kernel
set_option maxRecDepth 20000 in
theorem ggX11_clear_X11_isRoutine : GoodIn wsX11_clear wsX11_isRoutine := goodIn_r _ [6, 7, 8, 9, 5, 10, 11, 12, 13, 14, 15, 16, 17, 18, 19, 20, 21, 22, 23, 24, 25, 26, 27, 28, 29, 30, 31, 32, 33, 34, 35, 36, 37, 38, 39, 40, 41, 42, 43, 44, 45, 46, 47, 48, 49, 50, 51, 52, 53, 54, 55, 56, 57, 58, 59, 60, 61, 62, 63, 64, 65, 66, 67, 68, 69, 70, 71, 72, 73] (by decide +kernel) (by decide +kernel)
set_option maxRecDepth 20000 in
theorem gX11_clear_X11_isRoutine : GoodIn wsX11_clear (wsV RX11 168 RX11 yX11_isRoutine wsX11_isRoutine) := goodIn_app (goodIn_of _ (by decide +kernel)) ggX11_clear_X11_isRoutine
theorem dX11_clear_0 : decode cX11_clear 0 = .ok (.aload_n 0, 1) := by decide +kernel
theorem dX11_clear_1 : decode cX11_clear 1 = .ok (.iload_n 1, 1) := by decide +kernel
theorem dX11_clear_2 : decode cX11_clear 2 = .ok (.invokevirtual 168, 3) := by decide +kernel
theorem dX11_clear_5 : decode cX11_clear 5 = .ok (.ifCond .ne 5, 3) := by decide +kernel
theorem dX11_clear_8 : decode cX11_clear 8 = .ok (.iconst (-1), 1) := by decide +kernel
theorem dX11_clear_9 : decode cX11_clear 9 = .ok (.ireturn, 1) := by decide +kernel
theorem dX11_clear_10 : decode cX11_clear 10 = .ok (.aload_n 0, 1) := by decide +kernel
theorem dX11_clear_11 : decode cX11_clear 11 = .ok (.getfield 19, 3) := by decide +kernel
theorem dX11_clear_14 : decode cX11_clear 14 = .ok (.iload_n 1, 1) := by decide +kernel
theorem dX11_clear_15 : decode cX11_clear 15 = .ok (.iaload, 1) := by decide +kernel
theorem dX11_clear_16 : decode cX11_clear 16 = .ok (.istore_n 2, 1) := by decide +kernel
theorem dX11_clear_17 : decode cX11_clear 17 = .ok (.aload_n 0, 1) := by decide +kernel
theorem dX11_clear_18 : decode cX11_clear 18 = .ok (.getfield 19, 3) := by decide +kernel
theorem dX11_clear_21 : decode cX11_clear 21 = .ok (.iload_n 1, 1) := by decide +kernel
theorem dX11_clear_22 : decode cX11_clear 22 = .ok (.iconst 0, 1) := by decide +kernel
theorem dX11_clear_23 : decode cX11_clear 23 = .ok (.iastore, 1) := by decide +kernel
theorem dX11_clear_24 : decode cX11_clear 24 = .ok (.iload_n 2, 1) := by decide +kernel
theorem dX11_clear_25 : decode cX11_clear 25 = .ok (.ireturn, 1) := by decide +kernel
set_option maxRecDepth 20000 in
theorem ggX11_works_X11_does : GoodIn wsX11_works wsX11_does := goodIn_r _ [19, 7, 1, 5, 2, 20, 6, 4, 21, 22, 23, 24, 25, 26, 27, 28, 29, 30, 31, 32, 33, 34, 35, 36, 37, 38, 39, 40, 41, 42, 43, 44, 45, 46, 47, 48, 49, 50, 51, 52, 53, 54, 55, 56, 57, 58, 59, 60, 61, 62, 63, 64, 65, 66, 67, 68, 69, 70, 71, 72, 73, 74, 75, 76, 77, 78, 79, 80, 81, 82, 83] (by decide +kernel) (by decide +kernel)
set_option maxRecDepth 20000 in
theorem gX11_works_X11_does : GoodIn wsX11_works (wsV RX11 180 RX11 yX11_does wsX11_does) := goodIn_app (goodIn_of _ (by decide +kernel)) ggX11_works_X11_does
theorem dX11_works_0 : decode cX11_works 0 = .ok (.iconst 0, 1) := by decide +kernel
theorem dX11_works_1 : decode cX11_works 1 = .ok (.istore 4, 2) := by decide +kernel
theorem dX11_works_3 : decode cX11_works 3 = .ok (.iload 4, 2) := by decide +kernel
theorem dX11_works_5 : decode cX11_works 5 = .ok (.sipush 128, 3) := by decide +kernel
theorem dX11_works_8 : decode cX11_works 8 = .ok (.if_icmp .ge 28, 3) := by decide +kernel
theorem dX11_works_11 : decode cX11_works 11 = .ok (.aload_n 0, 1) := by decide +kernel
theorem dX11_works_12 : decode cX11_works 12 = .ok (.getfield 37, 3) := by decide +kernel
theorem dX11_works_15 : decode cX11_works 15 = .ok (.iload 4, 2) := by decide +kernel
theorem dX11_works_17 : decode cX11_works 17 = .ok (.aload_n 3, 1) := by decide +kernel
theorem dX11_works_18 : decode cX11_works 18 = .ok (.iload 4, 2) := by decide +kernel
theorem dX11_works_20 : decode cX11_works 20 = .ok (.iaload, 1) := by decide +kernel
theorem dX11_works_21 : decode cX11_works 21 = .ok (.iastore, 1) := by decide +kernel
theorem dX11_works_22 : decode cX11_works 22 = .ok (.aload_n 0, 1) := by decide +kernel
theorem dX11_works_23 : decode cX11_works 23 = .ok (.getfield 52, 3) := by decide +kernel
theorem dX11_works_26 : decode cX11_works 26 = .ok (.iload 4, 2) := by decide +kernel
theorem dX11_works_28 : decode cX11_works 28 = .ok (.iconst 0, 1) := by decide +kernel
theorem dX11_works_29 : decode cX11_works 29 = .ok (.bastore, 1) := by decide +kernel
theorem dX11_works_30 : decode cX11_works 30 = .ok (.iinc 4 1, 3) := by decide +kernel
theorem dX11_works_33 : decode cX11_works 33 = .ok (.goto (-30), 3) := by decide +kernel
theorem dX11_works_36 : decode cX11_works 36 = .ok (.iconst 0, 1) := by decide +kernel
theorem dX11_works_37 : decode cX11_works 37 = .ok (.istore 4, 2) := by decide +kernel
theorem dX11_works_39 : decode cX11_works 39 = .ok (.iload 4, 2) := by decide +kernel
theorem dX11_works_41 : decode cX11_works 41 = .ok (.bipush 100, 2) := by decide +kernel
theorem dX11_works_43 : decode cX11_works 43 = .ok (.if_icmp .ge 17, 3) := by decide +kernel
theorem dX11_works_46 : decode cX11_works 46 = .ok (.aload_n 0, 1) := by decide +kernel
theorem dX11_works_47 : decode cX11_works 47 = .ok (.getfield 40, 3) := by decide +kernel
theorem dX11_works_50 : decode cX11_works 50 = .ok (.iload 4, 2) := by decide +kernel
theorem dX11_works_52 : decode cX11_works 52 = .ok (.iconst 0, 1) := by decide +kernel
theorem dX11_works_53 : decode cX11_works 53 = .ok (.iastore, 1) := by decide +kernel
theorem dX11_works_54 : decode cX11_works 54 = .ok (.iinc 4 1, 3) := by decide +kernel
theorem dX11_works_57 : decode cX11_works 57 = .ok (.goto (-18), 3) := by decide +kernel
theorem dX11_works_60 : decode cX11_works 60 = .ok (.iconst 0, 1) := by decide +kernel
theorem dX11_works_61 : decode cX11_works 61 = .ok (.istore 4, 2) := by decide +kernel
theorem dX11_works_63 : decode cX11_works 63 = .ok (.iload 4, 2) := by decide +kernel
theorem dX11_works_65 : decode cX11_works 65 = .ok (.sipush 160, 3) := by decide +kernel
theorem dX11_works_68 : decode cX11_works 68 = .ok (.if_icmp .ge 25, 3) := by decide +kernel
theorem dX11_works_71 : decode cX11_works 71 = .ok (.aload_n 0, 1) := by decide +kernel
theorem dX11_works_72 : decode cX11_works 72 = .ok (.getfield 43, 3) := by decide +kernel
theorem dX11_works_75 : decode cX11_works 75 = .ok (.iload 4, 2) := by decide +kernel
theorem dX11_works_77 : decode cX11_works 77 = .ok (.iconst 0, 1) := by decide +kernel
theorem dX11_works_78 : decode cX11_works 78 = .ok (.iastore, 1) := by decide +kernel
theorem dX11_works_79 : decode cX11_works 79 = .ok (.aload_n 0, 1) := by decide +kernel
theorem dX11_works_80 : decode cX11_works 80 = .ok (.getfield 46, 3) := by decide +kernel
theorem dX11_works_83 : decode cX11_works 83 = .ok (.iload 4, 2) := by decide +kernel
theorem dX11_works_85 : decode cX11_works 85 = .ok (.iconst 0, 1) := by decide +kernel
theorem dX11_works_86 : decode cX11_works 86 = .ok (.iastore, 1) := by decide +kernel
theorem dX11_works_87 : decode cX11_works 87 = .ok (.iinc 4 1, 3) := by decide +kernel
theorem dX11_works_90 : decode cX11_works 90 = .ok (.goto (-27), 3) := by decide +kernel
theorem dX11_works_93 : decode cX11_works 93 = .ok (.aload_n 0, 1) := by decide +kernel
theorem dX11_works_94 : decode cX11_works 94 = .ok (.iconst 0, 1) := by decide +kernel
theorem dX11_works_95 : decode cX11_works 95 = .ok (.putfield 174, 3) := by decide +kernel
theorem dX11_works_98 : decode cX11_works 98 = .ok (.aload_n 0, 1) := by decide +kernel
theorem dX11_works_99 : decode cX11_works 99 = .ok (.iload_n 2, 1) := by decide +kernel
theorem dX11_works_100 : decode cX11_works 100 = .ok (.putfield 177, 3) := by decide +kernel
theorem dX11_works_103 : decode cX11_works 103 = .ok (.iconst 1, 1) := by decide +kernel
theorem dX11_works_104 : decode cX11_works 104 = .ok (.istore 4, 2) := by decide +kernel
theorem dX11_works_106 : decode cX11_works 106 = .ok (.iconst 0, 1) := by decide +kernel
theorem dX11_works_107 : decode cX11_works 107 = .ok (.istore 5, 2) := by decide +kernel
theorem dX11_works_109 : decode cX11_works 109 = .ok (.aload_n 0, 1) := by decide +kernel
theorem dX11_works_110 : decode cX11_works 110 = .ok (.getfield 56, 3) := by decide +kernel
theorem dX11_works_113 : decode cX11_works 113 = .ok (.iconst 0, 1) := by decide +kernel
theorem dX11_works_114 : decode cX11_works 114 = .ok (.iload_n 1, 1) := by decide +kernel
theorem dX11_works_115 : decode cX11_works 115 = .ok (.iastore, 1) := by decide +kernel
theorem dX11_works_116 : decode cX11_works 116 = .ok (.aload_n 0, 1) := by decide +kernel
theorem dX11_works_117 : decode cX11_works 117 = .ok (.getfield 59, 3) := by decide +kernel
theorem dX11_works_120 : decode cX11_works 120 = .ok (.iconst 0, 1) := by decide +kernel
theorem dX11_works_121 : decode cX11_works 121 = .ok (.iconst 0, 1) := by decide +kernel
theorem dX11_works_122 : decode cX11_works 122 = .ok (.iastore, 1) := by decide +kernel
theorem dX11_works_123 : decode cX11_works 123 = .ok (.iload 4, 2) := by decide +kernel
theorem dX11_works_125 : decode cX11_works 125 = .ok (.ifCond .le 250, 3) := by decide +kernel
theorem dX11_works_128 : decode cX11_works 128 = .ok (.aload_n 0, 1) := by decide +kernel
theorem dX11_works_129 : decode cX11_works 129 = .ok (.getfield 56, 3) := by decide +kernel
theorem dX11_works_132 : decode cX11_works 132 = .ok (.iload 4, 2) := by decide +kernel
theorem dX11_works_134 : decode cX11_works 134 = .ok (.iconst 1, 1) := by decide +kernel
theorem dX11_works_135 : decode cX11_works 135 = .ok (.isub, 1) := by decide +kernel
theorem dX11_works_136 : decode cX11_works 136 = .ok (.iaload, 1) := by decide +kernel
theorem dX11_works_137 : decode cX11_works 137 = .ok (.istore 6, 2) := by decide +kernel
theorem dX11_works_139 : decode cX11_works 139 = .ok (.aload_n 0, 1) := by decide +kernel
theorem dX11_works_140 : decode cX11_works 140 = .ok (.getfield 59, 3) := by decide +kernel
theorem dX11_works_143 : decode cX11_works 143 = .ok (.iload 4, 2) := by decide +kernel
theorem dX11_works_145 : decode cX11_works 145 = .ok (.iconst 1, 1) := by decide +kernel
theorem dX11_works_146 : decode cX11_works 146 = .ok (.isub, 1) := by decide +kernel
theorem dX11_works_147 : decode cX11_works 147 = .ok (.iaload, 1) := by decide +kernel
theorem dX11_works_148 : decode cX11_works 148 = .ok (.aload_n 0, 1) := by decide +kernel
theorem dX11_works_149 : decode cX11_works 149 = .ok (.getfield 19, 3) := by decide +kernel
theorem dX11_works_152 : decode cX11_works 152 = .ok (.iload 6, 2) := by decide +kernel
theorem dX11_works_154 : decode cX11_works 154 = .ok (.iaload, 1) := by decide +kernel
theorem dX11_works_155 : decode cX11_works 155 = .ok (.if_icmp .lt 9, 3) := by decide +kernel
theorem dX11_works_158 : decode cX11_works 158 = .ok (.iinc 4 (-1), 3) := by decide +kernel
theorem dX11_works_161 : decode cX11_works 161 = .ok (.goto (-38), 3) := by decide +kernel
theorem dX11_works_164 : decode cX11_works 164 = .ok (.iload 5, 2) := by decide +kernel
theorem dX11_works_166 : decode cX11_works 166 = .ok (.sipush 300, 3) := by decide +kernel
theorem dX11_works_169 : decode cX11_works 169 = .ok (.if_icmp .ne 5, 3) := by decide +kernel
theorem dX11_works_172 : decode cX11_works 172 = .ok (.iconst 0, 1) := by decide +kernel
theorem dX11_works_173 : decode cX11_works 173 = .ok (.ireturn, 1) := by decide +kernel
theorem dX11_works_174 : decode cX11_works 174 = .ok (.iinc 5 1, 3) := by decide +kernel
theorem dX11_works_177 : decode cX11_works 177 = .ok (.bipush 16, 2) := by decide +kernel
theorem dX11_works_179 : decode cX11_works 179 = .ok (.iload 6, 2) := by decide +kernel
theorem dX11_works_181 : decode cX11_works 181 = .ok (.imul, 1) := by decide +kernel
theorem dX11_works_182 : decode cX11_works 182 = .ok (.aload_n 0, 1) := by decide +kernel
theorem dX11_works_183 : decode cX11_works 183 = .ok (.getfield 59, 3) := by decide +kernel
theorem dX11_works_186 : decode cX11_works 186 = .ok (.iload 4, 2) := by decide +kernel
theorem dX11_works_188 : decode cX11_works 188 = .ok (.iconst 1, 1) := by decide +kernel
theorem dX11_works_189 : decode cX11_works 189 = .ok (.isub, 1) := by decide +kernel
theorem dX11_works_190 : decode cX11_works 190 = .ok (.iaload, 1) := by decide +kernel
theorem dX11_works_191 : decode cX11_works 191 = .ok (.iadd, 1) := by decide +kernel
theorem dX11_works_192 : decode cX11_works 192 = .ok (.istore 7, 2) := by decide +kernel
theorem dX11_works_194 : decode cX11_works 194 = .ok (.aload_n 0, 1) := by decide +kernel
theorem dX11_works_195 : decode cX11_works 195 = .ok (.getfield 59, 3) := by decide +kernel
theorem dX11_works_198 : decode cX11_works 198 = .ok (.iload 4, 2) := by decide +kernel
theorem dX11_works_200 : decode cX11_works 200 = .ok (.iconst 1, 1) := by decide +kernel
theorem dX11_works_201 : decode cX11_works 201 = .ok (.isub, 1) := by decide +kernel
theorem dX11_works_202 : decode cX11_works 202 = .ok (.dup2, 1) := by decide +kernel
theorem dX11_works_203 : decode cX11_works 203 = .ok (.iaload, 1) := by decide +kernel
theorem dX11_works_204 : decode cX11_works 204 = .ok (.iconst 1, 1) := by decide +kernel
theorem dX11_works_205 : decode cX11_works 205 = .ok (.iadd, 1) := by decide +kernel
theorem dX11_works_206 : decode cX11_works 206 = .ok (.iastore, 1) := by decide +kernel
theorem dX11_works_207 : decode cX11_works 207 = .ok (.aload_n 0, 1) := by decide +kernel
theorem dX11_works_208 : decode cX11_works 208 = .ok (.getfield 25, 3) := by decide +kernel
theorem dX11_works_211 : decode cX11_works 211 = .ok (.iload 7, 2) := by decide +kernel
theorem dX11_works_213 : decode cX11_works 213 = .ok (.iaload, 1) := by decide +kernel
theorem dX11_works_214 : decode cX11_works 214 = .ok (.istore 8, 2) := by decide +kernel
theorem dX11_works_216 : decode cX11_works 216 = .ok (.aload_n 0, 1) := by decide +kernel
theorem dX11_works_217 : decode cX11_works 217 = .ok (.getfield 16, 3) := by decide +kernel
theorem dX11_works_220 : decode cX11_works 220 = .ok (.iload 6, 2) := by decide +kernel
theorem dX11_works_222 : decode cX11_works 222 = .ok (.iaload, 1) := by decide +kernel
theorem dX11_works_223 : decode cX11_works 223 = .ok (.istore 9, 2) := by decide +kernel
theorem dX11_works_225 : decode cX11_works 225 = .ok (.aload_n 0, 1) := by decide +kernel
theorem dX11_works_226 : decode cX11_works 226 = .ok (.getfield 22, 3) := by decide +kernel
theorem dX11_works_229 : decode cX11_works 229 = .ok (.iload 7, 2) := by decide +kernel
theorem dX11_works_231 : decode cX11_works 231 = .ok (.iaload, 1) := by decide +kernel
theorem dX11_works_232 : decode cX11_works 232 = .ok (.iconst 4, 1) := by decide +kernel
theorem dX11_works_233 : decode cX11_works 233 = .ok (.if_icmp .ne 57, 3) := by decide +kernel
theorem dX11_works_236 : decode cX11_works 236 = .ok (.iload 4, 2) := by decide +kernel
theorem dX11_works_238 : decode cX11_works 238 = .ok (.bipush 8, 2) := by decide +kernel
theorem dX11_works_240 : decode cX11_works 240 = .ok (.if_icmp .ne 5, 3) := by decide +kernel
theorem dX11_works_243 : decode cX11_works 243 = .ok (.iconst 0, 1) := by decide +kernel
theorem dX11_works_244 : decode cX11_works 244 = .ok (.ireturn, 1) := by decide +kernel
theorem dX11_works_245 : decode cX11_works 245 = .ok (.aload_n 0, 1) := by decide +kernel
theorem dX11_works_246 : decode cX11_works 246 = .ok (.getfield 40, 3) := by decide +kernel
theorem dX11_works_249 : decode cX11_works 249 = .ok (.bipush 10, 2) := by decide +kernel
theorem dX11_works_251 : decode cX11_works 251 = .ok (.iload 9, 2) := by decide +kernel
theorem dX11_works_253 : decode cX11_works 253 = .ok (.imul, 1) := by decide +kernel
theorem dX11_works_254 : decode cX11_works 254 = .ok (.aload_n 0, 1) := by decide +kernel
theorem dX11_works_255 : decode cX11_works 255 = .ok (.getfield 16, 3) := by decide +kernel
theorem dX11_works_258 : decode cX11_works 258 = .ok (.iload 8, 2) := by decide +kernel
theorem dX11_works_260 : decode cX11_works 260 = .ok (.iaload, 1) := by decide +kernel
theorem dX11_works_261 : decode cX11_works 261 = .ok (.iadd, 1) := by decide +kernel
theorem dX11_works_262 : decode cX11_works 262 = .ok (.dup2, 1) := by decide +kernel
theorem dX11_works_263 : decode cX11_works 263 = .ok (.iaload, 1) := by decide +kernel
theorem dX11_works_264 : decode cX11_works 264 = .ok (.iconst 1, 1) := by decide +kernel
theorem dX11_works_265 : decode cX11_works 265 = .ok (.iadd, 1) := by decide +kernel
theorem dX11_works_266 : decode cX11_works 266 = .ok (.iastore, 1) := by decide +kernel
theorem dX11_works_267 : decode cX11_works 267 = .ok (.aload_n 0, 1) := by decide +kernel
theorem dX11_works_268 : decode cX11_works 268 = .ok (.getfield 56, 3) := by decide +kernel
theorem dX11_works_271 : decode cX11_works 271 = .ok (.iload 4, 2) := by decide +kernel
theorem dX11_works_273 : decode cX11_works 273 = .ok (.iload 8, 2) := by decide +kernel
theorem dX11_works_275 : decode cX11_works 275 = .ok (.iastore, 1) := by decide +kernel
theorem dX11_works_276 : decode cX11_works 276 = .ok (.aload_n 0, 1) := by decide +kernel
theorem dX11_works_277 : decode cX11_works 277 = .ok (.getfield 59, 3) := by decide +kernel
theorem dX11_works_280 : decode cX11_works 280 = .ok (.iload 4, 2) := by decide +kernel
theorem dX11_works_282 : decode cX11_works 282 = .ok (.iconst 0, 1) := by decide +kernel
theorem dX11_works_283 : decode cX11_works 283 = .ok (.iastore, 1) := by decide +kernel
theorem dX11_works_284 : decode cX11_works 284 = .ok (.iinc 4 1, 3) := by decide +kernel
theorem dX11_works_287 : decode cX11_works 287 = .ok (.goto 85, 3) := by decide +kernel
theorem dX11_works_290 : decode cX11_works 290 = .ok (.aload_n 0, 1) := by decide +kernel
theorem dX11_works_291 : decode cX11_works 291 = .ok (.getfield 22, 3) := by decide +kernel
theorem dX11_works_294 : decode cX11_works 294 = .ok (.iload 7, 2) := by decide +kernel
theorem dX11_works_296 : decode cX11_works 296 = .ok (.iaload, 1) := by decide +kernel
theorem dX11_works_297 : decode cX11_works 297 = .ok (.iconst 5, 1) := by decide +kernel
theorem dX11_works_298 : decode cX11_works 298 = .ok (.if_icmp .ne 31, 3) := by decide +kernel
theorem dX11_works_301 : decode cX11_works 301 = .ok (.aload_n 0, 1) := by decide +kernel
theorem dX11_works_302 : decode cX11_works 302 = .ok (.getfield 59, 3) := by decide +kernel
theorem dX11_works_305 : decode cX11_works 305 = .ok (.iload 4, 2) := by decide +kernel
theorem dX11_works_307 : decode cX11_works 307 = .ok (.iconst 1, 1) := by decide +kernel
theorem dX11_works_308 : decode cX11_works 308 = .ok (.isub, 1) := by decide +kernel
theorem dX11_works_309 : decode cX11_works 309 = .ok (.dup2, 1) := by decide +kernel
theorem dX11_works_310 : decode cX11_works 310 = .ok (.iaload, 1) := by decide +kernel
theorem dX11_works_311 : decode cX11_works 311 = .ok (.aload_n 0, 1) := by decide +kernel
theorem dX11_works_312 : decode cX11_works 312 = .ok (.getfield 177, 3) := by decide +kernel
theorem dX11_works_315 : decode cX11_works 315 = .ok (.ifCond .ne 8, 3) := by decide +kernel
theorem dX11_works_318 : decode cX11_works 318 = .ok (.iload 8, 2) := by decide +kernel
theorem dX11_works_320 : decode cX11_works 320 = .ok (.goto 4, 3) := by decide +kernel
theorem dX11_works_323 : decode cX11_works 323 = .ok (.iconst 0, 1) := by decide +kernel
theorem dX11_works_324 : decode cX11_works 324 = .ok (.iadd, 1) := by decide +kernel
theorem dX11_works_325 : decode cX11_works 325 = .ok (.iastore, 1) := by decide +kernel
theorem dX11_works_326 : decode cX11_works 326 = .ok (.goto 46, 3) := by decide +kernel
theorem dX11_works_329 : decode cX11_works 329 = .ok (.aload_n 0, 1) := by decide +kernel
theorem dX11_works_330 : decode cX11_works 330 = .ok (.getfield 22, 3) := by decide +kernel
theorem dX11_works_333 : decode cX11_works 333 = .ok (.iload 7, 2) := by decide +kernel
theorem dX11_works_335 : decode cX11_works 335 = .ok (.iaload, 1) := by decide +kernel
theorem dX11_works_336 : decode cX11_works 336 = .ok (.bipush 6, 2) := by decide +kernel
theorem dX11_works_338 : decode cX11_works 338 = .ok (.if_icmp .ne 12, 3) := by decide +kernel
theorem dX11_works_341 : decode cX11_works 341 = .ok (.aload_n 0, 1) := by decide +kernel
theorem dX11_works_342 : decode cX11_works 342 = .ok (.getfield 177, 3) := by decide +kernel
theorem dX11_works_345 : decode cX11_works 345 = .ok (.ifCond .ge 27, 3) := by decide +kernel
theorem dX11_works_348 : decode cX11_works 348 = .ok (.iconst 0, 1) := by decide +kernel
theorem dX11_works_349 : decode cX11_works 349 = .ok (.ireturn, 1) := by decide +kernel
theorem dX11_works_350 : decode cX11_works 350 = .ok (.aload_n 0, 1) := by decide +kernel
theorem dX11_works_351 : decode cX11_works 351 = .ok (.aload_n 0, 1) := by decide +kernel
theorem dX11_works_352 : decode cX11_works 352 = .ok (.getfield 22, 3) := by decide +kernel
theorem dX11_works_355 : decode cX11_works 355 = .ok (.iload 7, 2) := by decide +kernel
theorem dX11_works_357 : decode cX11_works 357 = .ok (.iaload, 1) := by decide +kernel
theorem dX11_works_358 : decode cX11_works 358 = .ok (.iload 9, 2) := by decide +kernel
theorem dX11_works_360 : decode cX11_works 360 = .ok (.iload 8, 2) := by decide +kernel
theorem dX11_works_362 : decode cX11_works 362 = .ok (.aload_n 0, 1) := by decide +kernel
theorem dX11_works_363 : decode cX11_works 363 = .ok (.getfield 28, 3) := by decide +kernel
theorem dX11_works_366 : decode cX11_works 366 = .ok (.iload 7, 2) := by decide +kernel
theorem dX11_works_368 : decode cX11_works 368 = .ok (.iaload, 1) := by decide +kernel
theorem dX11_works_369 : decode cX11_works 369 = .ok (.invokevirtual 180, 3) := by decide +kernel
theorem dX11_works_372 : decode cX11_works 372 = .ok (.goto (-249), 3) := by decide +kernel
theorem dX11_works_375 : decode cX11_works 375 = .ok (.iconst 1, 1) := by decide +kernel
theorem dX11_works_376 : decode cX11_works 376 = .ok (.ireturn, 1) := by decide +kernel
theorem dX11_does_0 : decode cX11_does 0 = .ok (.iload_n 1, 1) := by decide +kernel
theorem dX11_does_1 : decode cX11_does 1 = .ok (.ifCond .ne 9, 3) := by decide +kernel
theorem dX11_does_4 : decode cX11_does 4 = .ok (.aload_n 0, 1) := by decide +kernel
theorem dX11_does_5 : decode cX11_does 5 = .ok (.iload_n 3, 1) := by decide +kernel
theorem dX11_does_6 : decode cX11_does 6 = .ok (.putfield 177, 3) := by decide +kernel
theorem dX11_does_9 : decode cX11_does 9 = .ok (.return_, 1) := by decide +kernel
theorem dX11_does_10 : decode cX11_does 10 = .ok (.iload_n 1, 1) := by decide +kernel
theorem dX11_does_11 : decode cX11_does 11 = .ok (.iconst 1, 1) := by decide +kernel
theorem dX11_does_12 : decode cX11_does 12 = .ok (.if_icmp .ne 14, 3) := by decide +kernel
theorem dX11_does_15 : decode cX11_does 15 = .ok (.aload_n 0, 1) := by decide +kernel
theorem dX11_does_16 : decode cX11_does 16 = .ok (.dup, 1) := by decide +kernel
theorem dX11_does_17 : decode cX11_does 17 = .ok (.getfield 177, 3) := by decide +kernel
theorem dX11_does_20 : decode cX11_does 20 = .ok (.iload_n 3, 1) := by decide +kernel
theorem dX11_does_21 : decode cX11_does 21 = .ok (.iadd, 1) := by decide +kernel
theorem dX11_does_22 : decode cX11_does 22 = .ok (.putfield 177, 3) := by decide +kernel
theorem dX11_does_25 : decode cX11_does 25 = .ok (.return_, 1) := by decide +kernel
theorem dX11_does_26 : decode cX11_does 26 = .ok (.bipush 8, 2) := by decide +kernel
theorem dX11_does_28 : decode cX11_does 28 = .ok (.iload_n 3, 1) := by decide +kernel
theorem dX11_does_29 : decode cX11_does 29 = .ok (.imul, 1) := by decide +kernel
theorem dX11_does_30 : decode cX11_does 30 = .ok (.iload 4, 2) := by decide +kernel
theorem dX11_does_32 : decode cX11_does 32 = .ok (.iadd, 1) := by decide +kernel
theorem dX11_does_33 : decode cX11_does 33 = .ok (.istore 5, 2) := by decide +kernel
theorem dX11_does_35 : decode cX11_does 35 = .ok (.iload_n 1, 1) := by decide +kernel
theorem dX11_does_36 : decode cX11_does 36 = .ok (.iconst 3, 1) := by decide +kernel
theorem dX11_does_37 : decode cX11_does 37 = .ok (.if_icmp .ne 70, 3) := by decide +kernel
theorem dX11_does_40 : decode cX11_does 40 = .ok (.aload_n 0, 1) := by decide +kernel
theorem dX11_does_41 : decode cX11_does 41 = .ok (.getfield 37, 3) := by decide +kernel
theorem dX11_does_44 : decode cX11_does 44 = .ok (.iload 5, 2) := by decide +kernel
theorem dX11_does_46 : decode cX11_does 46 = .ok (.aload_n 0, 1) := by decide +kernel
theorem dX11_does_47 : decode cX11_does 47 = .ok (.getfield 177, 3) := by decide +kernel
theorem dX11_does_50 : decode cX11_does 50 = .ok (.iastore, 1) := by decide +kernel
theorem dX11_does_51 : decode cX11_does 51 = .ok (.aload_n 0, 1) := by decide +kernel
theorem dX11_does_52 : decode cX11_does 52 = .ok (.getfield 46, 3) := by decide +kernel
theorem dX11_does_55 : decode cX11_does 55 = .ok (.bipush 16, 2) := by decide +kernel
theorem dX11_does_57 : decode cX11_does 57 = .ok (.iload_n 2, 1) := by decide +kernel
theorem dX11_does_58 : decode cX11_does 58 = .ok (.imul, 1) := by decide +kernel
theorem dX11_does_59 : decode cX11_does 59 = .ok (.iload_n 3, 1) := by decide +kernel
theorem dX11_does_60 : decode cX11_does 60 = .ok (.iadd, 1) := by decide +kernel
theorem dX11_does_61 : decode cX11_does 61 = .ok (.dup2, 1) := by decide +kernel
theorem dX11_does_62 : decode cX11_does 62 = .ok (.iaload, 1) := by decide +kernel
theorem dX11_does_63 : decode cX11_does 63 = .ok (.iconst 1, 1) := by decide +kernel
theorem dX11_does_64 : decode cX11_does 64 = .ok (.iadd, 1) := by decide +kernel
theorem dX11_does_65 : decode cX11_does 65 = .ok (.iastore, 1) := by decide +kernel
theorem dX11_does_66 : decode cX11_does 66 = .ok (.aload_n 0, 1) := by decide +kernel
theorem dX11_does_67 : decode cX11_does 67 = .ok (.getfield 52, 3) := by decide +kernel
theorem dX11_does_70 : decode cX11_does 70 = .ok (.iload 5, 2) := by decide +kernel
theorem dX11_does_72 : decode cX11_does 72 = .ok (.baload, 1) := by decide +kernel
theorem dX11_does_73 : decode cX11_does 73 = .ok (.ifCond .eq 4, 3) := by decide +kernel
theorem dX11_does_76 : decode cX11_does 76 = .ok (.return_, 1) := by decide +kernel
theorem dX11_does_77 : decode cX11_does 77 = .ok (.aload_n 0, 1) := by decide +kernel
theorem dX11_does_78 : decode cX11_does 78 = .ok (.getfield 52, 3) := by decide +kernel
theorem dX11_does_81 : decode cX11_does 81 = .ok (.iload 5, 2) := by decide +kernel
theorem dX11_does_83 : decode cX11_does 83 = .ok (.iconst 1, 1) := by decide +kernel
theorem dX11_does_84 : decode cX11_does 84 = .ok (.bastore, 1) := by decide +kernel
theorem dX11_does_85 : decode cX11_does 85 = .ok (.aload_n 0, 1) := by decide +kernel
theorem dX11_does_86 : decode cX11_does 86 = .ok (.getfield 49, 3) := by decide +kernel
theorem dX11_does_89 : decode cX11_does 89 = .ok (.aload_n 0, 1) := by decide +kernel
theorem dX11_does_90 : decode cX11_does 90 = .ok (.getfield 174, 3) := by decide +kernel
theorem dX11_does_93 : decode cX11_does 93 = .ok (.iload 5, 2) := by decide +kernel
theorem dX11_does_95 : decode cX11_does 95 = .ok (.iastore, 1) := by decide +kernel
theorem dX11_does_96 : decode cX11_does 96 = .ok (.aload_n 0, 1) := by decide +kernel
theorem dX11_does_97 : decode cX11_does 97 = .ok (.dup, 1) := by decide +kernel
theorem dX11_does_98 : decode cX11_does 98 = .ok (.getfield 174, 3) := by decide +kernel
theorem dX11_does_101 : decode cX11_does 101 = .ok (.iconst 1, 1) := by decide +kernel
theorem dX11_does_102 : decode cX11_does 102 = .ok (.iadd, 1) := by decide +kernel
theorem dX11_does_103 : decode cX11_does 103 = .ok (.putfield 174, 3) := by decide +kernel
theorem dX11_does_106 : decode cX11_does 106 = .ok (.return_, 1) := by decide +kernel
theorem dX11_does_107 : decode cX11_does 107 = .ok (.aload_n 0, 1) := by decide +kernel
theorem dX11_does_108 : decode cX11_does 108 = .ok (.getfield 43, 3) := by decide +kernel
theorem dX11_does_111 : decode cX11_does 111 = .ok (.bipush 16, 2) := by decide +kernel
theorem dX11_does_113 : decode cX11_does 113 = .ok (.iload_n 2, 1) := by decide +kernel
theorem dX11_does_114 : decode cX11_does 114 = .ok (.imul, 1) := by decide +kernel
theorem dX11_does_115 : decode cX11_does 115 = .ok (.iload_n 3, 1) := by decide +kernel
theorem dX11_does_116 : decode cX11_does 116 = .ok (.iadd, 1) := by decide +kernel
theorem dX11_does_117 : decode cX11_does 117 = .ok (.dup2, 1) := by decide +kernel
theorem dX11_does_118 : decode cX11_does 118 = .ok (.iaload, 1) := by decide +kernel
theorem dX11_does_119 : decode cX11_does 119 = .ok (.iconst 1, 1) := by decide +kernel
theorem dX11_does_120 : decode cX11_does 120 = .ok (.iadd, 1) := by decide +kernel
theorem dX11_does_121 : decode cX11_does 121 = .ok (.iastore, 1) := by decide +kernel
theorem dX11_does_122 : decode cX11_does 122 = .ok (.aload_n 0, 1) := by decide +kernel
theorem dX11_does_123 : decode cX11_does 123 = .ok (.iload_n 1, 1) := by decide +kernel
theorem dX11_does_124 : decode cX11_does 124 = .ok (.iconst 2, 1) := by decide +kernel
theorem dX11_does_125 : decode cX11_does 125 = .ok (.if_icmp .ne 13, 3) := by decide +kernel
theorem dX11_does_128 : decode cX11_does 128 = .ok (.aload_n 0, 1) := by decide +kernel
theorem dX11_does_129 : decode cX11_does 129 = .ok (.getfield 37, 3) := by decide +kernel
theorem dX11_does_132 : decode cX11_does 132 = .ok (.iload 5, 2) := by decide +kernel
theorem dX11_does_134 : decode cX11_does 134 = .ok (.iaload, 1) := by decide +kernel
theorem dX11_does_135 : decode cX11_does 135 = .ok (.goto 36, 3) := by decide +kernel
theorem dX11_does_138 : decode cX11_does 138 = .ok (.iload_n 1, 1) := by decide +kernel
theorem dX11_does_139 : decode cX11_does 139 = .ok (.bipush 7, 2) := by decide +kernel
theorem dX11_does_141 : decode cX11_does 141 = .ok (.if_icmp .ne 18, 3) := by decide +kernel
theorem dX11_does_144 : decode cX11_does 144 = .ok (.aload_n 0, 1) := by decide +kernel
theorem dX11_does_145 : decode cX11_does 145 = .ok (.getfield 177, 3) := by decide +kernel
theorem dX11_does_148 : decode cX11_does 148 = .ok (.aload_n 0, 1) := by decide +kernel
theorem dX11_does_149 : decode cX11_does 149 = .ok (.getfield 37, 3) := by decide +kernel
theorem dX11_does_152 : decode cX11_does 152 = .ok (.iload 5, 2) := by decide +kernel
theorem dX11_does_154 : decode cX11_does 154 = .ok (.iaload, 1) := by decide +kernel
theorem dX11_does_155 : decode cX11_does 155 = .ok (.iadd, 1) := by decide +kernel
theorem dX11_does_156 : decode cX11_does 156 = .ok (.goto 15, 3) := by decide +kernel
theorem dX11_does_159 : decode cX11_does 159 = .ok (.aload_n 0, 1) := by decide +kernel
theorem dX11_does_160 : decode cX11_does 160 = .ok (.getfield 177, 3) := by decide +kernel
theorem dX11_does_163 : decode cX11_does 163 = .ok (.aload_n 0, 1) := by decide +kernel
theorem dX11_does_164 : decode cX11_does 164 = .ok (.getfield 37, 3) := by decide +kernel
theorem dX11_does_167 : decode cX11_does 167 = .ok (.iload 5, 2) := by decide +kernel
theorem dX11_does_169 : decode cX11_does 169 = .ok (.iaload, 1) := by decide +kernel
theorem dX11_does_170 : decode cX11_does 170 = .ok (.isub, 1) := by decide +kernel
theorem dX11_does_171 : decode cX11_does 171 = .ok (.putfield 177, 3) := by decide +kernel
theorem dX11_does_174 : decode cX11_does 174 = .ok (.return_, 1) := by decide +kernel
set_option maxRecDepth 20000 in
theorem ggX11_runOld_X11_works : GoodIn wsX11_runOld wsX11_works := goodIn_r _ [21, 4, 22, 6, 8, 10, 11, 16, 23, 24, 25, 26, 27, 28, 29, 30, 31, 32, 20, 33, 13, 34, 35, 36, 37, 38, 39, 40, 41, 42, 43, 44, 45, 46, 47, 48, 49, 50, 51, 52, 53, 54, 55, 56, 57, 58, 59, 60, 61, 62, 63, 64, 65, 66, 67, 68, 69, 70, 71, 72, 73, 74, 75, 76, 77, 78, 79, 80, 81, 82, 83, 84, 85, 86, 87, 88, 89, 90, 91, 92, 93, 94, 95, 96] (by decide +kernel) (by decide +kernel)
set_option maxRecDepth 20000 in
theorem gX11_runOld_X11_works : GoodIn wsX11_runOld (wsV RX11 184 RX11 yX11_works wsX11_works) := goodIn_app (goodIn_of _ (by decide +kernel)) ggX11_runOld_X11_works
theorem dX11_runOld_0 : decode cX11_runOld 0 = .ok (.aload_n 0, 1) := by decide +kernel
theorem dX11_runOld_1 : decode cX11_runOld 1 = .ok (.aload_n 0, 1) := by decide +kernel
theorem dX11_runOld_2 : decode cX11_runOld 2 = .ok (.iload_n 1, 1) := by decide +kernel
theorem dX11_runOld_3 : decode cX11_runOld 3 = .ok (.iload_n 2, 1) := by decide +kernel
theorem dX11_runOld_4 : decode cX11_runOld 4 = .ok (.aload_n 0, 1) := by decide +kernel
theorem dX11_runOld_5 : decode cX11_runOld 5 = .ok (.getfield 31, 3) := by decide +kernel
theorem dX11_runOld_8 : decode cX11_runOld 8 = .ok (.invokevirtual 184, 3) := by decide +kernel
theorem dX11_runOld_11 : decode cX11_runOld 11 = .ok (.putfield 188, 3) := by decide +kernel
theorem dX11_runOld_14 : decode cX11_runOld 14 = .ok (.aload_n 0, 1) := by decide +kernel
theorem dX11_runOld_15 : decode cX11_runOld 15 = .ok (.getfield 188, 3) := by decide +kernel
theorem dX11_runOld_18 : decode cX11_runOld 18 = .ok (.ifCond .ne 6, 3) := by decide +kernel
theorem dX11_runOld_21 : decode cX11_runOld 21 = .ok (.ldc 192, 2) := by decide +kernel
theorem dX11_runOld_23 : decode cX11_runOld 23 = .ok (.ireturn, 1) := by decide +kernel
theorem dX11_runOld_24 : decode cX11_runOld 24 = .ok (.iconst 0, 1) := by decide +kernel
theorem dX11_runOld_25 : decode cX11_runOld 25 = .ok (.istore_n 3, 1) := by decide +kernel
theorem dX11_runOld_26 : decode cX11_runOld 26 = .ok (.iload_n 3, 1) := by decide +kernel
theorem dX11_runOld_27 : decode cX11_runOld 27 = .ok (.sipush 128, 3) := by decide +kernel
theorem dX11_runOld_30 : decode cX11_runOld 30 = .ok (.if_icmp .ge 21, 3) := by decide +kernel
theorem dX11_runOld_33 : decode cX11_runOld 33 = .ok (.aload_n 0, 1) := by decide +kernel
theorem dX11_runOld_34 : decode cX11_runOld 34 = .ok (.getfield 31, 3) := by decide +kernel
theorem dX11_runOld_37 : decode cX11_runOld 37 = .ok (.iload_n 3, 1) := by decide +kernel
theorem dX11_runOld_38 : decode cX11_runOld 38 = .ok (.aload_n 0, 1) := by decide +kernel
theorem dX11_runOld_39 : decode cX11_runOld 39 = .ok (.getfield 37, 3) := by decide +kernel
theorem dX11_runOld_42 : decode cX11_runOld 42 = .ok (.iload_n 3, 1) := by decide +kernel
theorem dX11_runOld_43 : decode cX11_runOld 43 = .ok (.iaload, 1) := by decide +kernel
theorem dX11_runOld_44 : decode cX11_runOld 44 = .ok (.iastore, 1) := by decide +kernel
theorem dX11_runOld_45 : decode cX11_runOld 45 = .ok (.iinc 3 1, 3) := by decide +kernel
theorem dX11_runOld_48 : decode cX11_runOld 48 = .ok (.goto (-22), 3) := by decide +kernel
theorem dX11_runOld_51 : decode cX11_runOld 51 = .ok (.iconst 0, 1) := by decide +kernel
theorem dX11_runOld_52 : decode cX11_runOld 52 = .ok (.istore_n 3, 1) := by decide +kernel
theorem dX11_runOld_53 : decode cX11_runOld 53 = .ok (.iload_n 3, 1) := by decide +kernel
theorem dX11_runOld_54 : decode cX11_runOld 54 = .ok (.bipush 100, 2) := by decide +kernel
theorem dX11_runOld_56 : decode cX11_runOld 56 = .ok (.if_icmp .ge 24, 3) := by decide +kernel
theorem dX11_runOld_59 : decode cX11_runOld 59 = .ok (.aload_n 0, 1) := by decide +kernel
theorem dX11_runOld_60 : decode cX11_runOld 60 = .ok (.getfield 62, 3) := by decide +kernel
theorem dX11_runOld_63 : decode cX11_runOld 63 = .ok (.iload_n 3, 1) := by decide +kernel
theorem dX11_runOld_64 : decode cX11_runOld 64 = .ok (.dup2, 1) := by decide +kernel
theorem dX11_runOld_65 : decode cX11_runOld 65 = .ok (.iaload, 1) := by decide +kernel
theorem dX11_runOld_66 : decode cX11_runOld 66 = .ok (.aload_n 0, 1) := by decide +kernel
theorem dX11_runOld_67 : decode cX11_runOld 67 = .ok (.getfield 40, 3) := by decide +kernel
theorem dX11_runOld_70 : decode cX11_runOld 70 = .ok (.iload_n 3, 1) := by decide +kernel
theorem dX11_runOld_71 : decode cX11_runOld 71 = .ok (.iaload, 1) := by decide +kernel
theorem dX11_runOld_72 : decode cX11_runOld 72 = .ok (.iadd, 1) := by decide +kernel
theorem dX11_runOld_73 : decode cX11_runOld 73 = .ok (.iastore, 1) := by decide +kernel
theorem dX11_runOld_74 : decode cX11_runOld 74 = .ok (.iinc 3 1, 3) := by decide +kernel
theorem dX11_runOld_77 : decode cX11_runOld 77 = .ok (.goto (-24), 3) := by decide +kernel
theorem dX11_runOld_80 : decode cX11_runOld 80 = .ok (.iconst 0, 1) := by decide +kernel
theorem dX11_runOld_81 : decode cX11_runOld 81 = .ok (.istore_n 3, 1) := by decide +kernel
theorem dX11_runOld_82 : decode cX11_runOld 82 = .ok (.iload_n 3, 1) := by decide +kernel
theorem dX11_runOld_83 : decode cX11_runOld 83 = .ok (.sipush 160, 3) := by decide +kernel
theorem dX11_runOld_86 : decode cX11_runOld 86 = .ok (.if_icmp .ge 39, 3) := by decide +kernel
theorem dX11_runOld_89 : decode cX11_runOld 89 = .ok (.aload_n 0, 1) := by decide +kernel
theorem dX11_runOld_90 : decode cX11_runOld 90 = .ok (.getfield 65, 3) := by decide +kernel
theorem dX11_runOld_93 : decode cX11_runOld 93 = .ok (.iload_n 3, 1) := by decide +kernel
theorem dX11_runOld_94 : decode cX11_runOld 94 = .ok (.dup2, 1) := by decide +kernel
theorem dX11_runOld_95 : decode cX11_runOld 95 = .ok (.iaload, 1) := by decide +kernel
theorem dX11_runOld_96 : decode cX11_runOld 96 = .ok (.aload_n 0, 1) := by decide +kernel
theorem dX11_runOld_97 : decode cX11_runOld 97 = .ok (.getfield 43, 3) := by decide +kernel
theorem dX11_runOld_100 : decode cX11_runOld 100 = .ok (.iload_n 3, 1) := by decide +kernel
theorem dX11_runOld_101 : decode cX11_runOld 101 = .ok (.iaload, 1) := by decide +kernel
theorem dX11_runOld_102 : decode cX11_runOld 102 = .ok (.iadd, 1) := by decide +kernel
theorem dX11_runOld_103 : decode cX11_runOld 103 = .ok (.iastore, 1) := by decide +kernel
theorem dX11_runOld_104 : decode cX11_runOld 104 = .ok (.aload_n 0, 1) := by decide +kernel
theorem dX11_runOld_105 : decode cX11_runOld 105 = .ok (.getfield 68, 3) := by decide +kernel
theorem dX11_runOld_108 : decode cX11_runOld 108 = .ok (.iload_n 3, 1) := by decide +kernel
theorem dX11_runOld_109 : decode cX11_runOld 109 = .ok (.dup2, 1) := by decide +kernel
theorem dX11_runOld_110 : decode cX11_runOld 110 = .ok (.iaload, 1) := by decide +kernel
theorem dX11_runOld_111 : decode cX11_runOld 111 = .ok (.aload_n 0, 1) := by decide +kernel
theorem dX11_runOld_112 : decode cX11_runOld 112 = .ok (.getfield 46, 3) := by decide +kernel
theorem dX11_runOld_115 : decode cX11_runOld 115 = .ok (.iload_n 3, 1) := by decide +kernel
theorem dX11_runOld_116 : decode cX11_runOld 116 = .ok (.iaload, 1) := by decide +kernel
theorem dX11_runOld_117 : decode cX11_runOld 117 = .ok (.iadd, 1) := by decide +kernel
theorem dX11_runOld_118 : decode cX11_runOld 118 = .ok (.iastore, 1) := by decide +kernel
theorem dX11_runOld_119 : decode cX11_runOld 119 = .ok (.iinc 3 1, 3) := by decide +kernel
theorem dX11_runOld_122 : decode cX11_runOld 122 = .ok (.goto (-40), 3) := by decide +kernel
theorem dX11_runOld_125 : decode cX11_runOld 125 = .ok (.iconst 0, 1) := by decide +kernel
theorem dX11_runOld_126 : decode cX11_runOld 126 = .ok (.istore_n 3, 1) := by decide +kernel
theorem dX11_runOld_127 : decode cX11_runOld 127 = .ok (.iconst 0, 1) := by decide +kernel
theorem dX11_runOld_128 : decode cX11_runOld 128 = .ok (.istore 4, 2) := by decide +kernel
theorem dX11_runOld_130 : decode cX11_runOld 130 = .ok (.iload 4, 2) := by decide +kernel
theorem dX11_runOld_132 : decode cX11_runOld 132 = .ok (.aload_n 0, 1) := by decide +kernel
theorem dX11_runOld_133 : decode cX11_runOld 133 = .ok (.getfield 174, 3) := by decide +kernel
theorem dX11_runOld_136 : decode cX11_runOld 136 = .ok (.if_icmp .ge 29, 3) := by decide +kernel
theorem dX11_runOld_139 : decode cX11_runOld 139 = .ok (.iload_n 3, 1) := by decide +kernel
theorem dX11_runOld_140 : decode cX11_runOld 140 = .ok (.iconst 1, 1) := by decide +kernel
theorem dX11_runOld_141 : decode cX11_runOld 141 = .ok (.aload_n 0, 1) := by decide +kernel
theorem dX11_runOld_142 : decode cX11_runOld 142 = .ok (.getfield 13, 3) := by decide +kernel
theorem dX11_runOld_145 : decode cX11_runOld 145 = .ok (.aload_n 0, 1) := by decide +kernel
theorem dX11_runOld_146 : decode cX11_runOld 146 = .ok (.getfield 49, 3) := by decide +kernel
theorem dX11_runOld_149 : decode cX11_runOld 149 = .ok (.iload 4, 2) := by decide +kernel
theorem dX11_runOld_151 : decode cX11_runOld 151 = .ok (.iaload, 1) := by decide +kernel
theorem dX11_runOld_152 : decode cX11_runOld 152 = .ok (.bipush 8, 2) := by decide +kernel
theorem dX11_runOld_154 : decode cX11_runOld 154 = .ok (.idiv, 1) := by decide +kernel
theorem dX11_runOld_155 : decode cX11_runOld 155 = .ok (.iaload, 1) := by decide +kernel
theorem dX11_runOld_156 : decode cX11_runOld 156 = .ok (.ishl, 1) := by decide +kernel
theorem dX11_runOld_157 : decode cX11_runOld 157 = .ok (.ior, 1) := by decide +kernel
theorem dX11_runOld_158 : decode cX11_runOld 158 = .ok (.istore_n 3, 1) := by decide +kernel
theorem dX11_runOld_159 : decode cX11_runOld 159 = .ok (.iinc 4 1, 3) := by decide +kernel
theorem dX11_runOld_162 : decode cX11_runOld 162 = .ok (.goto (-32), 3) := by decide +kernel
theorem dX11_runOld_165 : decode cX11_runOld 165 = .ok (.iload_n 3, 1) := by decide +kernel
theorem dX11_runOld_166 : decode cX11_runOld 166 = .ok (.ifCond .eq 13, 3) := by decide +kernel
theorem dX11_runOld_169 : decode cX11_runOld 169 = .ok (.aload_n 0, 1) := by decide +kernel
theorem dX11_runOld_170 : decode cX11_runOld 170 = .ok (.getfield 71, 3) := by decide +kernel
theorem dX11_runOld_173 : decode cX11_runOld 173 = .ok (.iload_n 3, 1) := by decide +kernel
theorem dX11_runOld_174 : decode cX11_runOld 174 = .ok (.dup2, 1) := by decide +kernel
theorem dX11_runOld_175 : decode cX11_runOld 175 = .ok (.iaload, 1) := by decide +kernel
theorem dX11_runOld_176 : decode cX11_runOld 176 = .ok (.iconst 1, 1) := by decide +kernel
theorem dX11_runOld_177 : decode cX11_runOld 177 = .ok (.iadd, 1) := by decide +kernel
theorem dX11_runOld_178 : decode cX11_runOld 178 = .ok (.iastore, 1) := by decide +kernel
theorem dX11_runOld_179 : decode cX11_runOld 179 = .ok (.aload_n 0, 1) := by decide +kernel
theorem dX11_runOld_180 : decode cX11_runOld 180 = .ok (.dup, 1) := by decide +kernel
theorem dX11_runOld_181 : decode cX11_runOld 181 = .ok (.getfield 193, 3) := by decide +kernel
theorem dX11_runOld_184 : decode cX11_runOld 184 = .ok (.iconst 1, 1) := by decide +kernel
theorem dX11_runOld_185 : decode cX11_runOld 185 = .ok (.iadd, 1) := by decide +kernel
theorem dX11_runOld_186 : decode cX11_runOld 186 = .ok (.putfield 193, 3) := by decide +kernel
theorem dX11_runOld_189 : decode cX11_runOld 189 = .ok (.aload_n 0, 1) := by decide +kernel
theorem dX11_runOld_190 : decode cX11_runOld 190 = .ok (.getfield 177, 3) := by decide +kernel
theorem dX11_runOld_193 : decode cX11_runOld 193 = .ok (.ireturn, 1) := by decide +kernel
set_option maxRecDepth 20000 in
theorem ggX11_run_X11_isRoutine : GoodIn wsX11_run wsX11_isRoutine := goodIn_r _ [5, 6, 7, 8, 4, 9, 46, 47, 48, 49, 50, 51, 52, 53, 54, 55, 56, 57, 58, 59, 60, 61, 62, 63, 64, 65, 66, 67, 68, 69, 70, 71, 72, 73, 74, 75, 76, 77, 78, 79, 80, 81, 82, 83, 84, 85, 86, 87, 88, 89, 90, 91, 92, 93, 94, 95, 96, 97, 98, 99, 100, 101, 102, 103, 104, 105, 106, 107, 108] (by decide +kernel) (by decide +kernel)
set_option maxRecDepth 20000 in
theorem gX11_run_X11_isRoutine : GoodIn wsX11_run (wsV RX11 168 RX11 yX11_isRoutine wsX11_isRoutine) := goodIn_app (goodIn_of _ (by decide +kernel)) ggX11_run_X11_isRoutine
set_option maxRecDepth 20000 in
theorem ggX11_run_X11_runOld : GoodIn wsX11_run wsX11_runOld := goodIn_r _ [13, 14, 15, 16, 17, 18, 19, 20, 21, 22, 23, 24, 25, 26, 27, 28, 29, 30, 31, 32, 4, 33, 34, 35, 36, 37, 38, 39, 40, 41, 42, 43, 44, 45, 46, 47, 48, 49, 50, 51, 52, 53, 54, 55, 56, 57, 58, 59, 60, 61, 62, 63, 64, 65, 66, 67, 68, 69, 70, 71, 72, 73, 74, 75, 76, 77, 78, 79, 80, 81, 82, 83, 84, 85, 86, 87, 88, 89, 90, 91, 92, 93, 94, 95, 96, 97, 98, 99, 100, 101, 102, 103, 104, 105, 106, 107, 108] (by decide +kernel) (by decide +kernel)
set_option maxRecDepth 20000 in
theorem gX11_run_X11_runOld : GoodIn wsX11_run (wsV RX11 196 RX11 yX11_runOld wsX11_runOld) := goodIn_app (goodIn_of _ (by decide +kernel)) ggX11_run_X11_runOld
theorem dX11_run_0 : decode cX11_run 0 = .ok (.aload_n 0, 1) := by decide +kernel
theorem dX11_run_1 : decode cX11_run 1 = .ok (.iload_n 1, 1) := by decide +kernel
theorem dX11_run_2 : decode cX11_run 2 = .ok (.invokevirtual 168, 3) := by decide +kernel
theorem dX11_run_5 : decode cX11_run 5 = .ok (.ifCond .eq 12, 3) := by decide +kernel
theorem dX11_run_8 : decode cX11_run 8 = .ok (.aload_n 0, 1) := by decide +kernel
theorem dX11_run_9 : decode cX11_run 9 = .ok (.iload_n 1, 1) := by decide +kernel
theorem dX11_run_10 : decode cX11_run 10 = .ok (.iload_n 2, 1) := by decide +kernel
theorem dX11_run_11 : decode cX11_run 11 = .ok (.invokevirtual 196, 3) := by decide +kernel
theorem dX11_run_14 : decode cX11_run 14 = .ok (.goto 4, 3) := by decide +kernel
theorem dX11_run_17 : decode cX11_run 17 = .ok (.iconst (-1), 1) := by decide +kernel
theorem dX11_run_18 : decode cX11_run 18 = .ok (.ireturn, 1) := by decide +kernel
set_option maxRecDepth 20000 in
theorem ggX11_cell_X11_in : GoodIn wsX11_cell wsX11_in := goodIn_r _ [7] (by decide +kernel) (by decide +kernel)
set_option maxRecDepth 20000 in
theorem gX11_cell_X11_in : GoodIn wsX11_cell (va_wsS RX11 151 yX11_in wsX11_in) := goodIn_app (goodIn_of _ (by decide +kernel)) ggX11_cell_X11_in
set_option maxRecDepth 20000 in
theorem ggX11_cell_X11_isTable : GoodIn wsX11_cell wsX11_isTable := goodIn_r _ [11, 12, 4, 5, 6, 7, 13, 14, 15, 16, 17, 18, 19, 20, 21, 22, 23, 24, 25, 26, 27, 28, 29, 30, 31, 32, 33, 34, 35, 36, 37, 38, 39, 40, 41, 42, 43, 44, 45, 46, 47, 48, 49, 50, 51, 52, 53, 54, 55, 56, 57, 58, 59, 60, 61, 62, 63, 64, 65, 66, 67, 68, 69, 70, 71, 72, 73, 74, 75] (by decide +kernel) (by decide +kernel)
set_option maxRecDepth 20000 in
theorem gX11_cell_X11_isTable : GoodIn wsX11_cell (wsV RX11 165 RX11 yX11_isTable wsX11_isTable) := goodIn_app (goodIn_of _ (by decide +kernel)) ggX11_cell_X11_isTable
theorem dX11_cell_0 : decode cX11_cell 0 = .ok (.iload_n 1, 1) := by decide +kernel
theorem dX11_cell_1 : decode cX11_cell 1 = .ok (.iconst 0, 1) := by decide +kernel
theorem dX11_cell_2 : decode cX11_cell 2 = .ok (.iconst 1, 1) := by decide +kernel
theorem dX11_cell_3 : decode cX11_cell 3 = .ok (.invokestatic 151, 3) := by decide +kernel
theorem dX11_cell_6 : decode cX11_cell 6 = .ok (.ifCond .eq 21, 3) := by decide +kernel
theorem dX11_cell_9 : decode cX11_cell 9 = .ok (.aload_n 0, 1) := by decide +kernel
theorem dX11_cell_10 : decode cX11_cell 10 = .ok (.iload_n 2, 1) := by decide +kernel
theorem dX11_cell_11 : decode cX11_cell 11 = .ok (.invokevirtual 165, 3) := by decide +kernel
theorem dX11_cell_14 : decode cX11_cell 14 = .ok (.ifCond .eq 13, 3) := by decide +kernel
theorem dX11_cell_17 : decode cX11_cell 17 = .ok (.iload_n 3, 1) := by decide +kernel
theorem dX11_cell_18 : decode cX11_cell 18 = .ok (.iconst 0, 1) := by decide +kernel
theorem dX11_cell_19 : decode cX11_cell 19 = .ok (.bipush 7, 2) := by decide +kernel
theorem dX11_cell_21 : decode cX11_cell 21 = .ok (.invokestatic 151, 3) := by decide +kernel
theorem dX11_cell_24 : decode cX11_cell 24 = .ok (.ifCond .ne 8, 3) := by decide +kernel
theorem dX11_cell_27 : decode cX11_cell 27 = .ok (.ldc 192, 2) := by decide +kernel
theorem dX11_cell_29 : decode cX11_cell 29 = .ok (.goto 32, 3) := by decide +kernel
theorem dX11_cell_32 : decode cX11_cell 32 = .ok (.iload_n 1, 1) := by decide +kernel
theorem dX11_cell_33 : decode cX11_cell 33 = .ok (.ifCond .ne 17, 3) := by decide +kernel
theorem dX11_cell_36 : decode cX11_cell 36 = .ok (.aload_n 0, 1) := by decide +kernel
theorem dX11_cell_37 : decode cX11_cell 37 = .ok (.getfield 31, 3) := by decide +kernel
theorem dX11_cell_40 : decode cX11_cell 40 = .ok (.bipush 8, 2) := by decide +kernel
theorem dX11_cell_42 : decode cX11_cell 42 = .ok (.iload_n 2, 1) := by decide +kernel
theorem dX11_cell_43 : decode cX11_cell 43 = .ok (.imul, 1) := by decide +kernel
theorem dX11_cell_44 : decode cX11_cell 44 = .ok (.iload_n 3, 1) := by decide +kernel
theorem dX11_cell_45 : decode cX11_cell 45 = .ok (.iadd, 1) := by decide +kernel
theorem dX11_cell_46 : decode cX11_cell 46 = .ok (.iaload, 1) := by decide +kernel
theorem dX11_cell_47 : decode cX11_cell 47 = .ok (.goto 14, 3) := by decide +kernel
theorem dX11_cell_50 : decode cX11_cell 50 = .ok (.aload_n 0, 1) := by decide +kernel
theorem dX11_cell_51 : decode cX11_cell 51 = .ok (.getfield 34, 3) := by decide +kernel
theorem dX11_cell_54 : decode cX11_cell 54 = .ok (.bipush 8, 2) := by decide +kernel
theorem dX11_cell_56 : decode cX11_cell 56 = .ok (.iload_n 2, 1) := by decide +kernel
theorem dX11_cell_57 : decode cX11_cell 57 = .ok (.imul, 1) := by decide +kernel
theorem dX11_cell_58 : decode cX11_cell 58 = .ok (.iload_n 3, 1) := by decide +kernel
theorem dX11_cell_59 : decode cX11_cell 59 = .ok (.iadd, 1) := by decide +kernel
theorem dX11_cell_60 : decode cX11_cell 60 = .ok (.iaload, 1) := by decide +kernel
theorem dX11_cell_61 : decode cX11_cell 61 = .ok (.ireturn, 1) := by decide +kernel
set_option maxRecDepth 20000 in
theorem ggX11_isCount_X11_in : GoodIn wsX11_isCount wsX11_in := goodIn_r _ [4] (by decide +kernel) (by decide +kernel)
set_option maxRecDepth 20000 in
theorem gX11_isCount_X11_in : GoodIn wsX11_isCount (va_wsS RX11 151 yX11_in wsX11_in) := goodIn_app (goodIn_of _ (by decide +kernel)) ggX11_isCount_X11_in
set_option maxRecDepth 20000 in
theorem ggX11_isCount_X11_isModule : GoodIn wsX11_isCount wsX11_isModule := goodIn_r _ [8, 9, 1, 2, 3, 4, 15, 16, 17, 18, 19, 20, 21, 22, 23, 24, 25, 26, 27, 28, 29, 30, 31, 32, 33, 34, 35, 36, 37, 38, 39, 40, 41, 42, 43, 44, 45, 46, 47, 48, 49, 50, 51, 52, 53, 54, 55, 56, 57, 58, 59, 60, 61, 62, 63, 64, 65, 66, 67, 68, 69, 70, 71, 72, 73, 74, 75, 76, 77] (by decide +kernel) (by decide +kernel)
set_option maxRecDepth 20000 in
theorem gX11_isCount_X11_isModule : GoodIn wsX11_isCount (wsV RX11 161 RX11 yX11_isModule wsX11_isModule) := goodIn_app (goodIn_of _ (by decide +kernel)) ggX11_isCount_X11_isModule
set_option maxRecDepth 20000 in
theorem ggX11_isCount_X11_isTable : GoodIn wsX11_isCount wsX11_isTable := goodIn_r _ [13, 14, 1, 2, 3, 4, 15, 16, 17, 18, 19, 20, 21, 22, 23, 24, 25, 26, 27, 28, 29, 30, 31, 32, 33, 34, 35, 36, 37, 38, 39, 40, 41, 42, 43, 44, 45, 46, 47, 48, 49, 50, 51, 52, 53, 54, 55, 56, 57, 58, 59, 60, 61, 62, 63, 64, 65, 66, 67, 68, 69, 70, 71, 72, 73, 74, 75, 76, 77] (by decide +kernel) (by decide +kernel)
set_option maxRecDepth 20000 in
theorem gX11_isCount_X11_isTable : GoodIn wsX11_isCount (wsV RX11 165 RX11 yX11_isTable wsX11_isTable) := goodIn_app (goodIn_of _ (by decide +kernel)) ggX11_isCount_X11_isTable
theorem dX11_isCount_0 : decode cX11_isCount 0 = .ok (.iload_n 1, 1) := by decide +kernel
theorem dX11_isCount_1 : decode cX11_isCount 1 = .ok (.iconst 0, 1) := by decide +kernel
theorem dX11_isCount_2 : decode cX11_isCount 2 = .ok (.iconst 2, 1) := by decide +kernel
theorem dX11_isCount_3 : decode cX11_isCount 3 = .ok (.invokestatic 151, 3) := by decide +kernel
theorem dX11_isCount_6 : decode cX11_isCount 6 = .ok (.ifCond .eq 38, 3) := by decide +kernel
theorem dX11_isCount_9 : decode cX11_isCount 9 = .ok (.aload_n 0, 1) := by decide +kernel
theorem dX11_isCount_10 : decode cX11_isCount 10 = .ok (.iload_n 2, 1) := by decide +kernel
theorem dX11_isCount_11 : decode cX11_isCount 11 = .ok (.invokevirtual 161, 3) := by decide +kernel
theorem dX11_isCount_14 : decode cX11_isCount 14 = .ok (.ifCond .eq 30, 3) := by decide +kernel
theorem dX11_isCount_17 : decode cX11_isCount 17 = .ok (.iload_n 1, 1) := by decide +kernel
theorem dX11_isCount_18 : decode cX11_isCount 18 = .ok (.ifCond .ne 14, 3) := by decide +kernel
theorem dX11_isCount_21 : decode cX11_isCount 21 = .ok (.aload_n 0, 1) := by decide +kernel
theorem dX11_isCount_22 : decode cX11_isCount 22 = .ok (.iload_n 3, 1) := by decide +kernel
theorem dX11_isCount_23 : decode cX11_isCount 23 = .ok (.invokevirtual 161, 3) := by decide +kernel
theorem dX11_isCount_26 : decode cX11_isCount 26 = .ok (.ifCond .eq 18, 3) := by decide +kernel
theorem dX11_isCount_29 : decode cX11_isCount 29 = .ok (.goto 11, 3) := by decide +kernel
theorem dX11_isCount_32 : decode cX11_isCount 32 = .ok (.aload_n 0, 1) := by decide +kernel
theorem dX11_isCount_33 : decode cX11_isCount 33 = .ok (.iload_n 3, 1) := by decide +kernel
theorem dX11_isCount_34 : decode cX11_isCount 34 = .ok (.invokevirtual 165, 3) := by decide +kernel
theorem dX11_isCount_37 : decode cX11_isCount 37 = .ok (.ifCond .eq 7, 3) := by decide +kernel
theorem dX11_isCount_40 : decode cX11_isCount 40 = .ok (.iconst 1, 1) := by decide +kernel
theorem dX11_isCount_41 : decode cX11_isCount 41 = .ok (.goto 4, 3) := by decide +kernel
theorem dX11_isCount_44 : decode cX11_isCount 44 = .ok (.iconst 0, 1) := by decide +kernel
theorem dX11_isCount_45 : decode cX11_isCount 45 = .ok (.ireturn, 1) := by decide +kernel
set_option maxRecDepth 20000 in
theorem ggX11_counted_X11_isCount : GoodIn wsX11_counted wsX11_isCount := goodIn_r _ [8, 9, 10, 7, 11, 12, 13, 14, 15, 16, 17, 18, 19, 20, 21, 22, 23, 24, 25, 26, 27, 28, 29, 30, 31, 32, 33, 34, 35, 36, 37, 38, 39, 40, 41, 42, 43, 44, 45, 46, 47, 48, 49, 50, 51, 52, 53, 54, 55, 56, 57, 58, 59, 60, 61, 62, 63, 64, 65, 66, 67, 68, 69, 70, 71, 72, 73, 74, 75, 76, 77, 78, 79, 80, 81, 82, 83, 84] (by decide +kernel) (by decide +kernel)
set_option maxRecDepth 20000 in
theorem gX11_counted_X11_isCount : GoodIn wsX11_counted (wsV RX11 200 RX11 yX11_isCount wsX11_isCount) := goodIn_app (goodIn_of _ (by decide +kernel)) ggX11_counted_X11_isCount
theorem dX11_counted_0 : decode cX11_counted 0 = .ok (.aload_n 0, 1) := by decide +kernel
theorem dX11_counted_1 : decode cX11_counted 1 = .ok (.iload_n 1, 1) := by decide +kernel
theorem dX11_counted_2 : decode cX11_counted 2 = .ok (.iload_n 2, 1) := by decide +kernel
theorem dX11_counted_3 : decode cX11_counted 3 = .ok (.iload_n 3, 1) := by decide +kernel
theorem dX11_counted_4 : decode cX11_counted 4 = .ok (.invokevirtual 200, 3) := by decide +kernel
theorem dX11_counted_7 : decode cX11_counted 7 = .ok (.ifCond .ne 5, 3) := by decide +kernel
theorem dX11_counted_10 : decode cX11_counted 10 = .ok (.iconst (-1), 1) := by decide +kernel
theorem dX11_counted_11 : decode cX11_counted 11 = .ok (.ireturn, 1) := by decide +kernel
theorem dX11_counted_12 : decode cX11_counted 12 = .ok (.iload_n 1, 1) := by decide +kernel
theorem dX11_counted_13 : decode cX11_counted 13 = .ok (.ifCond .ne 17, 3) := by decide +kernel
theorem dX11_counted_16 : decode cX11_counted 16 = .ok (.aload_n 0, 1) := by decide +kernel
theorem dX11_counted_17 : decode cX11_counted 17 = .ok (.getfield 62, 3) := by decide +kernel
theorem dX11_counted_20 : decode cX11_counted 20 = .ok (.bipush 10, 2) := by decide +kernel
theorem dX11_counted_22 : decode cX11_counted 22 = .ok (.iload_n 2, 1) := by decide +kernel
theorem dX11_counted_23 : decode cX11_counted 23 = .ok (.imul, 1) := by decide +kernel
theorem dX11_counted_24 : decode cX11_counted 24 = .ok (.iload_n 3, 1) := by decide +kernel
theorem dX11_counted_25 : decode cX11_counted 25 = .ok (.iadd, 1) := by decide +kernel
theorem dX11_counted_26 : decode cX11_counted 26 = .ok (.iaload, 1) := by decide +kernel
theorem dX11_counted_27 : decode cX11_counted 27 = .ok (.goto 33, 3) := by decide +kernel
theorem dX11_counted_30 : decode cX11_counted 30 = .ok (.iload_n 1, 1) := by decide +kernel
theorem dX11_counted_31 : decode cX11_counted 31 = .ok (.iconst 1, 1) := by decide +kernel
theorem dX11_counted_32 : decode cX11_counted 32 = .ok (.if_icmp .ne 17, 3) := by decide +kernel
theorem dX11_counted_35 : decode cX11_counted 35 = .ok (.aload_n 0, 1) := by decide +kernel
theorem dX11_counted_36 : decode cX11_counted 36 = .ok (.getfield 65, 3) := by decide +kernel
theorem dX11_counted_39 : decode cX11_counted 39 = .ok (.bipush 16, 2) := by decide +kernel
theorem dX11_counted_41 : decode cX11_counted 41 = .ok (.iload_n 2, 1) := by decide +kernel
theorem dX11_counted_42 : decode cX11_counted 42 = .ok (.imul, 1) := by decide +kernel
theorem dX11_counted_43 : decode cX11_counted 43 = .ok (.iload_n 3, 1) := by decide +kernel
theorem dX11_counted_44 : decode cX11_counted 44 = .ok (.iadd, 1) := by decide +kernel
theorem dX11_counted_45 : decode cX11_counted 45 = .ok (.iaload, 1) := by decide +kernel
theorem dX11_counted_46 : decode cX11_counted 46 = .ok (.goto 14, 3) := by decide +kernel
theorem dX11_counted_49 : decode cX11_counted 49 = .ok (.aload_n 0, 1) := by decide +kernel
theorem dX11_counted_50 : decode cX11_counted 50 = .ok (.getfield 68, 3) := by decide +kernel
theorem dX11_counted_53 : decode cX11_counted 53 = .ok (.bipush 16, 2) := by decide +kernel
theorem dX11_counted_55 : decode cX11_counted 55 = .ok (.iload_n 2, 1) := by decide +kernel
theorem dX11_counted_56 : decode cX11_counted 56 = .ok (.imul, 1) := by decide +kernel
theorem dX11_counted_57 : decode cX11_counted 57 = .ok (.iload_n 3, 1) := by decide +kernel
theorem dX11_counted_58 : decode cX11_counted 58 = .ok (.iadd, 1) := by decide +kernel
theorem dX11_counted_59 : decode cX11_counted 59 = .ok (.iaload, 1) := by decide +kernel
theorem dX11_counted_60 : decode cX11_counted 60 = .ok (.ireturn, 1) := by decide +kernel
theorem dX11_isTied_0 : decode cX11_isTied 0 = .ok (.iconst 0, 1) := by decide +kernel
theorem dX11_isTied_1 : decode cX11_isTied 1 = .ok (.istore 4, 2) := by decide +kernel
theorem dX11_isTied_3 : decode cX11_isTied 3 = .ok (.iload 4, 2) := by decide +kernel
theorem dX11_isTied_5 : decode cX11_isTied 5 = .ok (.aload_n 0, 1) := by decide +kernel
theorem dX11_isTied_6 : decode cX11_isTied 6 = .ok (.getfield 158, 3) := by decide +kernel
theorem dX11_isTied_9 : decode cX11_isTied 9 = .ok (.if_icmp .ge 153, 3) := by decide +kernel
theorem dX11_isTied_12 : decode cX11_isTied 12 = .ok (.aload_n 0, 1) := by decide +kernel
theorem dX11_isTied_13 : decode cX11_isTied 13 = .ok (.getfield 16, 3) := by decide +kernel
theorem dX11_isTied_16 : decode cX11_isTied 16 = .ok (.iload 4, 2) := by decide +kernel
theorem dX11_isTied_18 : decode cX11_isTied 18 = .ok (.iaload, 1) := by decide +kernel
theorem dX11_isTied_19 : decode cX11_isTied 19 = .ok (.iload_n 2, 1) := by decide +kernel
theorem dX11_isTied_20 : decode cX11_isTied 20 = .ok (.if_icmp .eq 6, 3) := by decide +kernel
theorem dX11_isTied_23 : decode cX11_isTied 23 = .ok (.goto 133, 3) := by decide +kernel
theorem dX11_isTied_26 : decode cX11_isTied 26 = .ok (.bipush 16, 2) := by decide +kernel
theorem dX11_isTied_28 : decode cX11_isTied 28 = .ok (.iload 4, 2) := by decide +kernel
theorem dX11_isTied_30 : decode cX11_isTied 30 = .ok (.imul, 1) := by decide +kernel
theorem dX11_isTied_31 : decode cX11_isTied 31 = .ok (.istore 5, 2) := by decide +kernel
theorem dX11_isTied_33 : decode cX11_isTied 33 = .ok (.iload 5, 2) := by decide +kernel
theorem dX11_isTied_35 : decode cX11_isTied 35 = .ok (.bipush 16, 2) := by decide +kernel
theorem dX11_isTied_37 : decode cX11_isTied 37 = .ok (.iload 4, 2) := by decide +kernel
theorem dX11_isTied_39 : decode cX11_isTied 39 = .ok (.imul, 1) := by decide +kernel
theorem dX11_isTied_40 : decode cX11_isTied 40 = .ok (.aload_n 0, 1) := by decide +kernel
theorem dX11_isTied_41 : decode cX11_isTied 41 = .ok (.getfield 19, 3) := by decide +kernel
theorem dX11_isTied_44 : decode cX11_isTied 44 = .ok (.iload 4, 2) := by decide +kernel
theorem dX11_isTied_46 : decode cX11_isTied 46 = .ok (.iaload, 1) := by decide +kernel
theorem dX11_isTied_47 : decode cX11_isTied 47 = .ok (.iadd, 1) := by decide +kernel
theorem dX11_isTied_48 : decode cX11_isTied 48 = .ok (.if_icmp .ge 108, 3) := by decide +kernel
theorem dX11_isTied_51 : decode cX11_isTied 51 = .ok (.aload_n 0, 1) := by decide +kernel
theorem dX11_isTied_52 : decode cX11_isTied 52 = .ok (.getfield 22, 3) := by decide +kernel
theorem dX11_isTied_55 : decode cX11_isTied 55 = .ok (.iload 5, 2) := by decide +kernel
theorem dX11_isTied_57 : decode cX11_isTied 57 = .ok (.iaload, 1) := by decide +kernel
theorem dX11_isTied_58 : decode cX11_isTied 58 = .ok (.istore 6, 2) := by decide +kernel
theorem dX11_isTied_60 : decode cX11_isTied 60 = .ok (.iload_n 1, 1) := by decide +kernel
theorem dX11_isTied_61 : decode cX11_isTied 61 = .ok (.ifCond .ne 27, 3) := by decide +kernel
theorem dX11_isTied_64 : decode cX11_isTied 64 = .ok (.iload 6, 2) := by decide +kernel
theorem dX11_isTied_66 : decode cX11_isTied 66 = .ok (.iconst 4, 1) := by decide +kernel
theorem dX11_isTied_67 : decode cX11_isTied 67 = .ok (.if_icmp .ne 21, 3) := by decide +kernel
theorem dX11_isTied_70 : decode cX11_isTied 70 = .ok (.aload_n 0, 1) := by decide +kernel
theorem dX11_isTied_71 : decode cX11_isTied 71 = .ok (.getfield 16, 3) := by decide +kernel
theorem dX11_isTied_74 : decode cX11_isTied 74 = .ok (.aload_n 0, 1) := by decide +kernel
theorem dX11_isTied_75 : decode cX11_isTied 75 = .ok (.getfield 25, 3) := by decide +kernel
theorem dX11_isTied_78 : decode cX11_isTied 78 = .ok (.iload 5, 2) := by decide +kernel
theorem dX11_isTied_80 : decode cX11_isTied 80 = .ok (.iaload, 1) := by decide +kernel
theorem dX11_isTied_81 : decode cX11_isTied 81 = .ok (.iaload, 1) := by decide +kernel
theorem dX11_isTied_82 : decode cX11_isTied 82 = .ok (.iload_n 3, 1) := by decide +kernel
theorem dX11_isTied_83 : decode cX11_isTied 83 = .ok (.if_icmp .ne 5, 3) := by decide +kernel
theorem dX11_isTied_86 : decode cX11_isTied 86 = .ok (.iconst 1, 1) := by decide +kernel
theorem dX11_isTied_87 : decode cX11_isTied 87 = .ok (.ireturn, 1) := by decide +kernel
theorem dX11_isTied_88 : decode cX11_isTied 88 = .ok (.iload_n 1, 1) := by decide +kernel
theorem dX11_isTied_89 : decode cX11_isTied 89 = .ok (.iconst 1, 1) := by decide +kernel
theorem dX11_isTied_90 : decode cX11_isTied 90 = .ok (.if_icmp .ne 36, 3) := by decide +kernel
theorem dX11_isTied_93 : decode cX11_isTied 93 = .ok (.iload 6, 2) := by decide +kernel
theorem dX11_isTied_95 : decode cX11_isTied 95 = .ok (.iconst 2, 1) := by decide +kernel
theorem dX11_isTied_96 : decode cX11_isTied 96 = .ok (.if_icmp .eq 17, 3) := by decide +kernel
theorem dX11_isTied_99 : decode cX11_isTied 99 = .ok (.iload 6, 2) := by decide +kernel
theorem dX11_isTied_101 : decode cX11_isTied 101 = .ok (.bipush 7, 2) := by decide +kernel
theorem dX11_isTied_103 : decode cX11_isTied 103 = .ok (.if_icmp .eq 10, 3) := by decide +kernel
theorem dX11_isTied_106 : decode cX11_isTied 106 = .ok (.iload 6, 2) := by decide +kernel
theorem dX11_isTied_108 : decode cX11_isTied 108 = .ok (.bipush 8, 2) := by decide +kernel
theorem dX11_isTied_110 : decode cX11_isTied 110 = .ok (.if_icmp .ne 16, 3) := by decide +kernel
theorem dX11_isTied_113 : decode cX11_isTied 113 = .ok (.aload_n 0, 1) := by decide +kernel
theorem dX11_isTied_114 : decode cX11_isTied 114 = .ok (.getfield 25, 3) := by decide +kernel
theorem dX11_isTied_117 : decode cX11_isTied 117 = .ok (.iload 5, 2) := by decide +kernel
theorem dX11_isTied_119 : decode cX11_isTied 119 = .ok (.iaload, 1) := by decide +kernel
theorem dX11_isTied_120 : decode cX11_isTied 120 = .ok (.iload_n 3, 1) := by decide +kernel
theorem dX11_isTied_121 : decode cX11_isTied 121 = .ok (.if_icmp .ne 5, 3) := by decide +kernel
theorem dX11_isTied_124 : decode cX11_isTied 124 = .ok (.iconst 1, 1) := by decide +kernel
theorem dX11_isTied_125 : decode cX11_isTied 125 = .ok (.ireturn, 1) := by decide +kernel
theorem dX11_isTied_126 : decode cX11_isTied 126 = .ok (.iload_n 1, 1) := by decide +kernel
theorem dX11_isTied_127 : decode cX11_isTied 127 = .ok (.iconst 2, 1) := by decide +kernel
theorem dX11_isTied_128 : decode cX11_isTied 128 = .ok (.if_icmp .ne 22, 3) := by decide +kernel
theorem dX11_isTied_131 : decode cX11_isTied 131 = .ok (.iload 6, 2) := by decide +kernel
theorem dX11_isTied_133 : decode cX11_isTied 133 = .ok (.iconst 3, 1) := by decide +kernel
theorem dX11_isTied_134 : decode cX11_isTied 134 = .ok (.if_icmp .ne 16, 3) := by decide +kernel
theorem dX11_isTied_137 : decode cX11_isTied 137 = .ok (.aload_n 0, 1) := by decide +kernel
theorem dX11_isTied_138 : decode cX11_isTied 138 = .ok (.getfield 25, 3) := by decide +kernel
theorem dX11_isTied_141 : decode cX11_isTied 141 = .ok (.iload 5, 2) := by decide +kernel
theorem dX11_isTied_143 : decode cX11_isTied 143 = .ok (.iaload, 1) := by decide +kernel
theorem dX11_isTied_144 : decode cX11_isTied 144 = .ok (.iload_n 3, 1) := by decide +kernel
theorem dX11_isTied_145 : decode cX11_isTied 145 = .ok (.if_icmp .ne 5, 3) := by decide +kernel
theorem dX11_isTied_148 : decode cX11_isTied 148 = .ok (.iconst 1, 1) := by decide +kernel
theorem dX11_isTied_149 : decode cX11_isTied 149 = .ok (.ireturn, 1) := by decide +kernel
theorem dX11_isTied_150 : decode cX11_isTied 150 = .ok (.iinc 5 1, 3) := by decide +kernel
theorem dX11_isTied_153 : decode cX11_isTied 153 = .ok (.goto (-120), 3) := by decide +kernel
theorem dX11_isTied_156 : decode cX11_isTied 156 = .ok (.iinc 4 1, 3) := by decide +kernel
theorem dX11_isTied_159 : decode cX11_isTied 159 = .ok (.goto (-156), 3) := by decide +kernel
theorem dX11_isTied_162 : decode cX11_isTied 162 = .ok (.iconst 0, 1) := by decide +kernel
theorem dX11_isTied_163 : decode cX11_isTied 163 = .ok (.ireturn, 1) := by decide +kernel
set_option maxRecDepth 20000 in
theorem ggX11_tied_X11_isCount : GoodIn wsX11_tied wsX11_isCount := goodIn_r _ [5, 6, 7, 4, 8, 9, 10, 11, 12, 13, 14, 15, 16, 17, 18, 28, 29, 30, 31, 32, 33, 34, 35, 36, 37, 38, 39, 40, 41, 42, 43, 44, 45, 46, 47, 48, 49, 50, 51, 52, 53, 54, 55, 56, 57, 58, 59, 60, 61, 62, 63, 64, 65, 66, 67, 68, 69, 70, 71, 72, 73, 74, 75, 76, 77, 78, 79, 80, 81, 82, 83, 84, 85, 86, 87, 88, 89, 90] (by decide +kernel) (by decide +kernel)
set_option maxRecDepth 20000 in
theorem gX11_tied_X11_isCount : GoodIn wsX11_tied (wsV RX11 200 RX11 yX11_isCount wsX11_isCount) := goodIn_app (goodIn_of _ (by decide +kernel)) ggX11_tied_X11_isCount
set_option maxRecDepth 20000 in
theorem ggX11_tied_X11_isTied : GoodIn wsX11_tied wsX11_isTied := goodIn_r _ [22, 23, 24, 25, 26, 27, 28, 29, 30, 31, 32, 33, 34, 35, 36, 37, 38, 39, 40, 41, 42, 43, 44, 45, 46, 47, 48, 49, 50, 51, 52, 53, 54, 55, 56, 57, 58, 59, 60, 61, 62, 63, 64, 65, 66, 67, 68, 69, 70, 71, 72, 73, 74, 75, 76, 77, 78, 79, 80, 81, 82, 83, 84, 85, 86, 87, 88, 89, 90] (by decide +kernel) (by decide +kernel)
set_option maxRecDepth 20000 in
theorem gX11_tied_X11_isTied : GoodIn wsX11_tied (wsV RX11 203 RX11 yX11_isTied wsX11_isTied) := goodIn_app (goodIn_of _ (by decide +kernel)) ggX11_tied_X11_isTied
theorem dX11_tied_0 : decode cX11_tied 0 = .ok (.aload_n 0, 1) := by decide +kernel
theorem dX11_tied_1 : decode cX11_tied 1 = .ok (.iload_n 1, 1) := by decide +kernel
theorem dX11_tied_2 : decode cX11_tied 2 = .ok (.iload_n 2, 1) := by decide +kernel
theorem dX11_tied_3 : decode cX11_tied 3 = .ok (.iload_n 3, 1) := by decide +kernel
theorem dX11_tied_4 : decode cX11_tied 4 = .ok (.invokevirtual 200, 3) := by decide +kernel
theorem dX11_tied_7 : decode cX11_tied 7 = .ok (.ifCond .ne 7, 3) := by decide +kernel
theorem dX11_tied_10 : decode cX11_tied 10 = .ok (.iconst (-1), 1) := by decide +kernel
theorem dX11_tied_11 : decode cX11_tied 11 = .ok (.goto 18, 3) := by decide +kernel
theorem dX11_tied_14 : decode cX11_tied 14 = .ok (.aload_n 0, 1) := by decide +kernel
theorem dX11_tied_15 : decode cX11_tied 15 = .ok (.iload_n 1, 1) := by decide +kernel
theorem dX11_tied_16 : decode cX11_tied 16 = .ok (.iload_n 2, 1) := by decide +kernel
theorem dX11_tied_17 : decode cX11_tied 17 = .ok (.iload_n 3, 1) := by decide +kernel
theorem dX11_tied_18 : decode cX11_tied 18 = .ok (.invokevirtual 203, 3) := by decide +kernel
theorem dX11_tied_21 : decode cX11_tied 21 = .ok (.ifCond .eq 7, 3) := by decide +kernel
theorem dX11_tied_24 : decode cX11_tied 24 = .ok (.iconst 1, 1) := by decide +kernel
theorem dX11_tied_25 : decode cX11_tied 25 = .ok (.goto 4, 3) := by decide +kernel
theorem dX11_tied_28 : decode cX11_tied 28 = .ok (.iconst 0, 1) := by decide +kernel
theorem dX11_tied_29 : decode cX11_tied 29 = .ok (.ireturn, 1) := by decide +kernel
set_option maxRecDepth 20000 in
theorem ggX11_room_X11_isModule : GoodIn wsX11_room wsX11_isModule := goodIn_r _ [6, 7, 8, 9, 5, 10, 20, 21, 22, 23, 24, 25, 26, 27, 28, 29, 30, 31, 32, 33, 34, 35, 36, 37, 38, 39, 40, 41, 42, 43, 44, 45, 46, 47, 48, 49, 50, 51, 52, 53, 54, 55, 56, 57, 58, 59, 60, 61, 62, 63, 64, 65, 66, 67, 68, 69, 70, 71, 72, 73, 74, 75, 76, 77, 78, 79, 80, 81, 82] (by decide +kernel) (by decide +kernel)
set_option maxRecDepth 20000 in
theorem gX11_room_X11_isModule : GoodIn wsX11_room (wsV RX11 161 RX11 yX11_isModule wsX11_isModule) := goodIn_app (goodIn_of _ (by decide +kernel)) ggX11_room_X11_isModule
set_option maxRecDepth 20000 in
theorem ggX11_room_X11_isRoom : GoodIn wsX11_room wsX11_isRoom := goodIn_r _ [13, 8, 9, 5, 10] (by decide +kernel) (by decide +kernel)
set_option maxRecDepth 20000 in
theorem gX11_room_X11_isRoom : GoodIn wsX11_room (va_wsS RX11 206 yX11_isRoom wsX11_isRoom) := goodIn_app (goodIn_of _ (by decide +kernel)) ggX11_room_X11_isRoom
set_option maxRecDepth 20000 in
theorem ggX11_room_X11_waitingNow : GoodIn wsX11_room wsX11_waitingNow := goodIn_r _ [17, 18, 19, 20, 21, 22, 23, 24, 25, 26, 27, 28, 29, 30, 31, 32, 33, 34, 35, 36, 37, 38, 39, 40, 41, 42, 43, 44, 45, 46, 47, 48, 49, 50, 51, 52, 53, 54, 55, 56, 57, 58, 59, 60, 61, 62, 63, 64, 65, 66, 67, 68, 69, 70, 71, 72, 73, 74, 75, 76, 77, 78, 79, 80, 81, 82] (by decide +kernel) (by decide +kernel)
set_option maxRecDepth 20000 in
theorem gX11_room_X11_waitingNow : GoodIn wsX11_room (wsV RX11 209 RX11 yX11_waitingNow wsX11_waitingNow) := goodIn_app (goodIn_of _ (by decide +kernel)) ggX11_room_X11_waitingNow
theorem dX11_room_0 : decode cX11_room 0 = .ok (.aload_n 0, 1) := by decide +kernel
theorem dX11_room_1 : decode cX11_room 1 = .ok (.iload_n 1, 1) := by decide +kernel
theorem dX11_room_2 : decode cX11_room 2 = .ok (.invokevirtual 161, 3) := by decide +kernel
theorem dX11_room_5 : decode cX11_room 5 = .ok (.ifCond .eq 10, 3) := by decide +kernel
theorem dX11_room_8 : decode cX11_room 8 = .ok (.iload_n 2, 1) := by decide +kernel
theorem dX11_room_9 : decode cX11_room 9 = .ok (.invokestatic 206, 3) := by decide +kernel
theorem dX11_room_12 : decode cX11_room 12 = .ok (.ifCond .ne 5, 3) := by decide +kernel
theorem dX11_room_15 : decode cX11_room 15 = .ok (.iconst (-1), 1) := by decide +kernel
theorem dX11_room_16 : decode cX11_room 16 = .ok (.ireturn, 1) := by decide +kernel
theorem dX11_room_17 : decode cX11_room 17 = .ok (.aload_n 0, 1) := by decide +kernel
theorem dX11_room_18 : decode cX11_room 18 = .ok (.invokevirtual 209, 3) := by decide +kernel
theorem dX11_room_21 : decode cX11_room 21 = .ok (.ifCond .le 6, 3) := by decide +kernel
theorem dX11_room_24 : decode cX11_room 24 = .ok (.bipush (-2), 2) := by decide +kernel
theorem dX11_room_26 : decode cX11_room 26 = .ok (.ireturn, 1) := by decide +kernel
theorem dX11_room_27 : decode cX11_room 27 = .ok (.aload_n 0, 1) := by decide +kernel
theorem dX11_room_28 : decode cX11_room 28 = .ok (.getfield 74, 3) := by decide +kernel
theorem dX11_room_31 : decode cX11_room 31 = .ok (.iload_n 1, 1) := by decide +kernel
theorem dX11_room_32 : decode cX11_room 32 = .ok (.iaload, 1) := by decide +kernel
theorem dX11_room_33 : decode cX11_room 33 = .ok (.istore_n 3, 1) := by decide +kernel
theorem dX11_room_34 : decode cX11_room 34 = .ok (.aload_n 0, 1) := by decide +kernel
theorem dX11_room_35 : decode cX11_room 35 = .ok (.getfield 74, 3) := by decide +kernel
theorem dX11_room_38 : decode cX11_room 38 = .ok (.iload_n 1, 1) := by decide +kernel
theorem dX11_room_39 : decode cX11_room 39 = .ok (.iload_n 2, 1) := by decide +kernel
theorem dX11_room_40 : decode cX11_room 40 = .ok (.iastore, 1) := by decide +kernel
theorem dX11_room_41 : decode cX11_room 41 = .ok (.iload_n 3, 1) := by decide +kernel
theorem dX11_room_42 : decode cX11_room 42 = .ok (.ireturn, 1) := by decide +kernel
set_option maxRecDepth 20000 in
theorem ggX11_weight_X11_in : GoodIn wsX11_weight wsX11_in := goodIn_r _ [5] (by decide +kernel) (by decide +kernel)
set_option maxRecDepth 20000 in
theorem gX11_weight_X11_in : GoodIn wsX11_weight (va_wsS RX11 151 yX11_in wsX11_in) := goodIn_app (goodIn_of _ (by decide +kernel)) ggX11_weight_X11_in
theorem dX11_weight_0 : decode cX11_weight 0 = .ok (.iload_n 1, 1) := by decide +kernel
theorem dX11_weight_1 : decode cX11_weight 1 = .ok (.iconst 0, 1) := by decide +kernel
theorem dX11_weight_2 : decode cX11_weight 2 = .ok (.iconst 3, 1) := by decide +kernel
theorem dX11_weight_3 : decode cX11_weight 3 = .ok (.invokestatic 151, 3) := by decide +kernel
theorem dX11_weight_6 : decode cX11_weight 6 = .ok (.ifCond .eq 13, 3) := by decide +kernel
theorem dX11_weight_9 : decode cX11_weight 9 = .ok (.iload_n 2, 1) := by decide +kernel
theorem dX11_weight_10 : decode cX11_weight 10 = .ok (.iconst 0, 1) := by decide +kernel
theorem dX11_weight_11 : decode cX11_weight 11 = .ok (.bipush 99, 2) := by decide +kernel
theorem dX11_weight_13 : decode cX11_weight 13 = .ok (.invokestatic 151, 3) := by decide +kernel
theorem dX11_weight_16 : decode cX11_weight 16 = .ok (.ifCond .ne 5, 3) := by decide +kernel
theorem dX11_weight_19 : decode cX11_weight 19 = .ok (.iconst (-1), 1) := by decide +kernel
theorem dX11_weight_20 : decode cX11_weight 20 = .ok (.ireturn, 1) := by decide +kernel
theorem dX11_weight_21 : decode cX11_weight 21 = .ok (.aload_n 0, 1) := by decide +kernel
theorem dX11_weight_22 : decode cX11_weight 22 = .ok (.getfield 77, 3) := by decide +kernel
theorem dX11_weight_25 : decode cX11_weight 25 = .ok (.iload_n 1, 1) := by decide +kernel
theorem dX11_weight_26 : decode cX11_weight 26 = .ok (.iaload, 1) := by decide +kernel
theorem dX11_weight_27 : decode cX11_weight 27 = .ok (.istore_n 3, 1) := by decide +kernel
theorem dX11_weight_28 : decode cX11_weight 28 = .ok (.aload_n 0, 1) := by decide +kernel
theorem dX11_weight_29 : decode cX11_weight 29 = .ok (.getfield 77, 3) := by decide +kernel
theorem dX11_weight_32 : decode cX11_weight 32 = .ok (.iload_n 1, 1) := by decide +kernel
theorem dX11_weight_33 : decode cX11_weight 33 = .ok (.iload_n 2, 1) := by decide +kernel
theorem dX11_weight_34 : decode cX11_weight 34 = .ok (.iastore, 1) := by decide +kernel
theorem dX11_weight_35 : decode cX11_weight 35 = .ok (.iload_n 3, 1) := by decide +kernel
theorem dX11_weight_36 : decode cX11_weight 36 = .ok (.ireturn, 1) := by decide +kernel
set_option maxRecDepth 20000 in
theorem ggX11_tell_X11_isModule : GoodIn wsX11_tell wsX11_isModule := goodIn_r _ [6, 7, 8, 9, 5, 10, 11, 12, 13, 14, 15, 16, 17, 18, 19, 20, 21, 22, 23, 24, 25, 26, 27, 28, 29, 30, 31, 32, 33, 34, 35, 36, 37, 38, 39, 40, 41, 42, 43, 44, 45, 46, 47, 48, 49, 50, 51, 52, 53, 54, 55, 56, 57, 58, 59, 60, 61, 62, 63, 64, 65, 66, 67, 68, 69, 70, 71, 72, 73] (by decide +kernel) (by decide +kernel)
set_option maxRecDepth 20000 in
theorem gX11_tell_X11_isModule : GoodIn wsX11_tell (wsV RX11 161 RX11 yX11_isModule wsX11_isModule) := goodIn_app (goodIn_of _ (by decide +kernel)) ggX11_tell_X11_isModule
set_option maxRecDepth 20000 in
theorem ggX11_tell_X11_in : GoodIn wsX11_tell wsX11_in := goodIn_r _ [10] (by decide +kernel) (by decide +kernel)
set_option maxRecDepth 20000 in
theorem gX11_tell_X11_in : GoodIn wsX11_tell (va_wsS RX11 151 yX11_in wsX11_in) := goodIn_app (goodIn_of _ (by decide +kernel)) ggX11_tell_X11_in
theorem dX11_tell_0 : decode cX11_tell 0 = .ok (.aload_n 0, 1) := by decide +kernel
theorem dX11_tell_1 : decode cX11_tell 1 = .ok (.iload_n 1, 1) := by decide +kernel
theorem dX11_tell_2 : decode cX11_tell 2 = .ok (.invokevirtual 161, 3) := by decide +kernel
theorem dX11_tell_5 : decode cX11_tell 5 = .ok (.ifCond .eq 25, 3) := by decide +kernel
theorem dX11_tell_8 : decode cX11_tell 8 = .ok (.aload_n 0, 1) := by decide +kernel
theorem dX11_tell_9 : decode cX11_tell 9 = .ok (.iload_n 2, 1) := by decide +kernel
theorem dX11_tell_10 : decode cX11_tell 10 = .ok (.invokevirtual 161, 3) := by decide +kernel
theorem dX11_tell_13 : decode cX11_tell 13 = .ok (.ifCond .eq 17, 3) := by decide +kernel
theorem dX11_tell_16 : decode cX11_tell 16 = .ok (.iload_n 1, 1) := by decide +kernel
theorem dX11_tell_17 : decode cX11_tell 17 = .ok (.iload_n 2, 1) := by decide +kernel
theorem dX11_tell_18 : decode cX11_tell 18 = .ok (.if_icmp .eq 12, 3) := by decide +kernel
theorem dX11_tell_21 : decode cX11_tell 21 = .ok (.iload_n 3, 1) := by decide +kernel
theorem dX11_tell_22 : decode cX11_tell 22 = .ok (.iconst 0, 1) := by decide +kernel
theorem dX11_tell_23 : decode cX11_tell 23 = .ok (.iconst 2, 1) := by decide +kernel
theorem dX11_tell_24 : decode cX11_tell 24 = .ok (.invokestatic 151, 3) := by decide +kernel
theorem dX11_tell_27 : decode cX11_tell 27 = .ok (.ifCond .ne 5, 3) := by decide +kernel
theorem dX11_tell_30 : decode cX11_tell 30 = .ok (.iconst (-1), 1) := by decide +kernel
theorem dX11_tell_31 : decode cX11_tell 31 = .ok (.ireturn, 1) := by decide +kernel
theorem dX11_tell_32 : decode cX11_tell 32 = .ok (.aload_n 0, 1) := by decide +kernel
theorem dX11_tell_33 : decode cX11_tell 33 = .ok (.getfield 80, 3) := by decide +kernel
theorem dX11_tell_36 : decode cX11_tell 36 = .ok (.bipush 10, 2) := by decide +kernel
theorem dX11_tell_38 : decode cX11_tell 38 = .ok (.iload_n 1, 1) := by decide +kernel
theorem dX11_tell_39 : decode cX11_tell 39 = .ok (.imul, 1) := by decide +kernel
theorem dX11_tell_40 : decode cX11_tell 40 = .ok (.iload_n 2, 1) := by decide +kernel
theorem dX11_tell_41 : decode cX11_tell 41 = .ok (.iadd, 1) := by decide +kernel
theorem dX11_tell_42 : decode cX11_tell 42 = .ok (.iaload, 1) := by decide +kernel
theorem dX11_tell_43 : decode cX11_tell 43 = .ok (.istore 4, 2) := by decide +kernel
theorem dX11_tell_45 : decode cX11_tell 45 = .ok (.aload_n 0, 1) := by decide +kernel
theorem dX11_tell_46 : decode cX11_tell 46 = .ok (.getfield 80, 3) := by decide +kernel
theorem dX11_tell_49 : decode cX11_tell 49 = .ok (.bipush 10, 2) := by decide +kernel
theorem dX11_tell_51 : decode cX11_tell 51 = .ok (.iload_n 1, 1) := by decide +kernel
theorem dX11_tell_52 : decode cX11_tell 52 = .ok (.imul, 1) := by decide +kernel
theorem dX11_tell_53 : decode cX11_tell 53 = .ok (.iload_n 2, 1) := by decide +kernel
theorem dX11_tell_54 : decode cX11_tell 54 = .ok (.iadd, 1) := by decide +kernel
theorem dX11_tell_55 : decode cX11_tell 55 = .ok (.iload_n 3, 1) := by decide +kernel
theorem dX11_tell_56 : decode cX11_tell 56 = .ok (.iastore, 1) := by decide +kernel
theorem dX11_tell_57 : decode cX11_tell 57 = .ok (.aload_n 0, 1) := by decide +kernel
theorem dX11_tell_58 : decode cX11_tell 58 = .ok (.getfield 80, 3) := by decide +kernel
theorem dX11_tell_61 : decode cX11_tell 61 = .ok (.bipush 10, 2) := by decide +kernel
theorem dX11_tell_63 : decode cX11_tell 63 = .ok (.iload_n 2, 1) := by decide +kernel
theorem dX11_tell_64 : decode cX11_tell 64 = .ok (.imul, 1) := by decide +kernel
theorem dX11_tell_65 : decode cX11_tell 65 = .ok (.iload_n 1, 1) := by decide +kernel
theorem dX11_tell_66 : decode cX11_tell 66 = .ok (.iadd, 1) := by decide +kernel
theorem dX11_tell_67 : decode cX11_tell 67 = .ok (.iload_n 3, 1) := by decide +kernel
theorem dX11_tell_68 : decode cX11_tell 68 = .ok (.iastore, 1) := by decide +kernel
theorem dX11_tell_69 : decode cX11_tell 69 = .ok (.iload 4, 2) := by decide +kernel
theorem dX11_tell_71 : decode cX11_tell 71 = .ok (.ireturn, 1) := by decide +kernel
theorem dX11_priceOf_0 : decode cX11_priceOf 0 = .ok (.lconst 0, 1) := by decide +kernel
theorem dX11_priceOf_1 : decode cX11_priceOf 1 = .ok (.lstore_n 3, 1) := by decide +kernel
theorem dX11_priceOf_2 : decode cX11_priceOf 2 = .ok (.iconst 0, 1) := by decide +kernel
theorem dX11_priceOf_3 : decode cX11_priceOf 3 = .ok (.istore 5, 2) := by decide +kernel
theorem dX11_priceOf_5 : decode cX11_priceOf 5 = .ok (.iload 5, 2) := by decide +kernel
theorem dX11_priceOf_7 : decode cX11_priceOf 7 = .ok (.iload_n 2, 1) := by decide +kernel
theorem dX11_priceOf_8 : decode cX11_priceOf 8 = .ok (.if_icmp .ge 60, 3) := by decide +kernel
theorem dX11_priceOf_11 : decode cX11_priceOf 11 = .ok (.iconst 0, 1) := by decide +kernel
theorem dX11_priceOf_12 : decode cX11_priceOf 12 = .ok (.istore 6, 2) := by decide +kernel
theorem dX11_priceOf_14 : decode cX11_priceOf 14 = .ok (.iload 6, 2) := by decide +kernel
theorem dX11_priceOf_16 : decode cX11_priceOf 16 = .ok (.iload_n 2, 1) := by decide +kernel
theorem dX11_priceOf_17 : decode cX11_priceOf 17 = .ok (.if_icmp .ge 45, 3) := by decide +kernel
theorem dX11_priceOf_20 : decode cX11_priceOf 20 = .ok (.aload_n 1, 1) := by decide +kernel
theorem dX11_priceOf_21 : decode cX11_priceOf 21 = .ok (.iload 5, 2) := by decide +kernel
theorem dX11_priceOf_23 : decode cX11_priceOf 23 = .ok (.iaload, 1) := by decide +kernel
theorem dX11_priceOf_24 : decode cX11_priceOf 24 = .ok (.aload_n 1, 1) := by decide +kernel
theorem dX11_priceOf_25 : decode cX11_priceOf 25 = .ok (.iload 6, 2) := by decide +kernel
theorem dX11_priceOf_27 : decode cX11_priceOf 27 = .ok (.iaload, 1) := by decide +kernel
theorem dX11_priceOf_28 : decode cX11_priceOf 28 = .ok (.if_icmp .eq 28, 3) := by decide +kernel
theorem dX11_priceOf_31 : decode cX11_priceOf 31 = .ok (.lload_n 3, 1) := by decide +kernel
theorem dX11_priceOf_32 : decode cX11_priceOf 32 = .ok (.aload_n 0, 1) := by decide +kernel
theorem dX11_priceOf_33 : decode cX11_priceOf 33 = .ok (.getfield 77, 3) := by decide +kernel
theorem dX11_priceOf_36 : decode cX11_priceOf 36 = .ok (.iconst 0, 1) := by decide +kernel
theorem dX11_priceOf_37 : decode cX11_priceOf 37 = .ok (.iaload, 1) := by decide +kernel
theorem dX11_priceOf_38 : decode cX11_priceOf 38 = .ok (.i2l, 1) := by decide +kernel
theorem dX11_priceOf_39 : decode cX11_priceOf 39 = .ok (.aload_n 0, 1) := by decide +kernel
theorem dX11_priceOf_40 : decode cX11_priceOf 40 = .ok (.getfield 62, 3) := by decide +kernel
theorem dX11_priceOf_43 : decode cX11_priceOf 43 = .ok (.bipush 10, 2) := by decide +kernel
theorem dX11_priceOf_45 : decode cX11_priceOf 45 = .ok (.iload 5, 2) := by decide +kernel
theorem dX11_priceOf_47 : decode cX11_priceOf 47 = .ok (.imul, 1) := by decide +kernel
theorem dX11_priceOf_48 : decode cX11_priceOf 48 = .ok (.iload 6, 2) := by decide +kernel
theorem dX11_priceOf_50 : decode cX11_priceOf 50 = .ok (.iadd, 1) := by decide +kernel
theorem dX11_priceOf_51 : decode cX11_priceOf 51 = .ok (.iaload, 1) := by decide +kernel
theorem dX11_priceOf_52 : decode cX11_priceOf 52 = .ok (.i2l, 1) := by decide +kernel
theorem dX11_priceOf_53 : decode cX11_priceOf 53 = .ok (.lmul, 1) := by decide +kernel
theorem dX11_priceOf_54 : decode cX11_priceOf 54 = .ok (.ladd, 1) := by decide +kernel
theorem dX11_priceOf_55 : decode cX11_priceOf 55 = .ok (.lstore_n 3, 1) := by decide +kernel
theorem dX11_priceOf_56 : decode cX11_priceOf 56 = .ok (.iinc 6 1, 3) := by decide +kernel
theorem dX11_priceOf_59 : decode cX11_priceOf 59 = .ok (.goto (-45), 3) := by decide +kernel
theorem dX11_priceOf_62 : decode cX11_priceOf 62 = .ok (.iinc 5 1, 3) := by decide +kernel
theorem dX11_priceOf_65 : decode cX11_priceOf 65 = .ok (.goto (-60), 3) := by decide +kernel
theorem dX11_priceOf_68 : decode cX11_priceOf 68 = .ok (.iconst 0, 1) := by decide +kernel
theorem dX11_priceOf_69 : decode cX11_priceOf 69 = .ok (.istore 5, 2) := by decide +kernel
theorem dX11_priceOf_71 : decode cX11_priceOf 71 = .ok (.iload 5, 2) := by decide +kernel
theorem dX11_priceOf_73 : decode cX11_priceOf 73 = .ok (.iload_n 2, 1) := by decide +kernel
theorem dX11_priceOf_74 : decode cX11_priceOf 74 = .ok (.if_icmp .ge 105, 3) := by decide +kernel
theorem dX11_priceOf_77 : decode cX11_priceOf 77 = .ok (.iconst 0, 1) := by decide +kernel
theorem dX11_priceOf_78 : decode cX11_priceOf 78 = .ok (.istore 6, 2) := by decide +kernel
theorem dX11_priceOf_80 : decode cX11_priceOf 80 = .ok (.iload 6, 2) := by decide +kernel
theorem dX11_priceOf_82 : decode cX11_priceOf 82 = .ok (.aload_n 0, 1) := by decide +kernel
theorem dX11_priceOf_83 : decode cX11_priceOf 83 = .ok (.getfield 155, 3) := by decide +kernel
theorem dX11_priceOf_86 : decode cX11_priceOf 86 = .ok (.if_icmp .ge 87, 3) := by decide +kernel
theorem dX11_priceOf_89 : decode cX11_priceOf 89 = .ok (.aload_n 0, 1) := by decide +kernel
theorem dX11_priceOf_90 : decode cX11_priceOf 90 = .ok (.getfield 13, 3) := by decide +kernel
theorem dX11_priceOf_93 : decode cX11_priceOf 93 = .ok (.iload 6, 2) := by decide +kernel
theorem dX11_priceOf_95 : decode cX11_priceOf 95 = .ok (.iaload, 1) := by decide +kernel
theorem dX11_priceOf_96 : decode cX11_priceOf 96 = .ok (.iload_n 2, 1) := by decide +kernel
theorem dX11_priceOf_97 : decode cX11_priceOf 97 = .ok (.if_icmp .ge 70, 3) := by decide +kernel
theorem dX11_priceOf_100 : decode cX11_priceOf 100 = .ok (.aload_n 1, 1) := by decide +kernel
theorem dX11_priceOf_101 : decode cX11_priceOf 101 = .ok (.iload 5, 2) := by decide +kernel
theorem dX11_priceOf_103 : decode cX11_priceOf 103 = .ok (.iaload, 1) := by decide +kernel
theorem dX11_priceOf_104 : decode cX11_priceOf 104 = .ok (.aload_n 1, 1) := by decide +kernel
theorem dX11_priceOf_105 : decode cX11_priceOf 105 = .ok (.aload_n 0, 1) := by decide +kernel
theorem dX11_priceOf_106 : decode cX11_priceOf 106 = .ok (.getfield 13, 3) := by decide +kernel
theorem dX11_priceOf_109 : decode cX11_priceOf 109 = .ok (.iload 6, 2) := by decide +kernel
theorem dX11_priceOf_111 : decode cX11_priceOf 111 = .ok (.iaload, 1) := by decide +kernel
theorem dX11_priceOf_112 : decode cX11_priceOf 112 = .ok (.iaload, 1) := by decide +kernel
theorem dX11_priceOf_113 : decode cX11_priceOf 113 = .ok (.if_icmp .ne 6, 3) := by decide +kernel
theorem dX11_priceOf_116 : decode cX11_priceOf 116 = .ok (.goto 51, 3) := by decide +kernel
theorem dX11_priceOf_119 : decode cX11_priceOf 119 = .ok (.lload_n 3, 1) := by decide +kernel
theorem dX11_priceOf_120 : decode cX11_priceOf 120 = .ok (.aload_n 0, 1) := by decide +kernel
theorem dX11_priceOf_121 : decode cX11_priceOf 121 = .ok (.getfield 77, 3) := by decide +kernel
theorem dX11_priceOf_124 : decode cX11_priceOf 124 = .ok (.iconst 1, 1) := by decide +kernel
theorem dX11_priceOf_125 : decode cX11_priceOf 125 = .ok (.iaload, 1) := by decide +kernel
theorem dX11_priceOf_126 : decode cX11_priceOf 126 = .ok (.i2l, 1) := by decide +kernel
theorem dX11_priceOf_127 : decode cX11_priceOf 127 = .ok (.aload_n 0, 1) := by decide +kernel
theorem dX11_priceOf_128 : decode cX11_priceOf 128 = .ok (.getfield 65, 3) := by decide +kernel
theorem dX11_priceOf_131 : decode cX11_priceOf 131 = .ok (.bipush 16, 2) := by decide +kernel
theorem dX11_priceOf_133 : decode cX11_priceOf 133 = .ok (.iload 5, 2) := by decide +kernel
theorem dX11_priceOf_135 : decode cX11_priceOf 135 = .ok (.imul, 1) := by decide +kernel
theorem dX11_priceOf_136 : decode cX11_priceOf 136 = .ok (.iload 6, 2) := by decide +kernel
theorem dX11_priceOf_138 : decode cX11_priceOf 138 = .ok (.iadd, 1) := by decide +kernel
theorem dX11_priceOf_139 : decode cX11_priceOf 139 = .ok (.iaload, 1) := by decide +kernel
theorem dX11_priceOf_140 : decode cX11_priceOf 140 = .ok (.i2l, 1) := by decide +kernel
theorem dX11_priceOf_141 : decode cX11_priceOf 141 = .ok (.lmul, 1) := by decide +kernel
theorem dX11_priceOf_142 : decode cX11_priceOf 142 = .ok (.aload_n 0, 1) := by decide +kernel
theorem dX11_priceOf_143 : decode cX11_priceOf 143 = .ok (.getfield 77, 3) := by decide +kernel
theorem dX11_priceOf_146 : decode cX11_priceOf 146 = .ok (.iconst 2, 1) := by decide +kernel
theorem dX11_priceOf_147 : decode cX11_priceOf 147 = .ok (.iaload, 1) := by decide +kernel
theorem dX11_priceOf_148 : decode cX11_priceOf 148 = .ok (.i2l, 1) := by decide +kernel
theorem dX11_priceOf_149 : decode cX11_priceOf 149 = .ok (.aload_n 0, 1) := by decide +kernel
theorem dX11_priceOf_150 : decode cX11_priceOf 150 = .ok (.getfield 68, 3) := by decide +kernel
theorem dX11_priceOf_153 : decode cX11_priceOf 153 = .ok (.bipush 16, 2) := by decide +kernel
theorem dX11_priceOf_155 : decode cX11_priceOf 155 = .ok (.iload 5, 2) := by decide +kernel
theorem dX11_priceOf_157 : decode cX11_priceOf 157 = .ok (.imul, 1) := by decide +kernel
theorem dX11_priceOf_158 : decode cX11_priceOf 158 = .ok (.iload 6, 2) := by decide +kernel
theorem dX11_priceOf_160 : decode cX11_priceOf 160 = .ok (.iadd, 1) := by decide +kernel
theorem dX11_priceOf_161 : decode cX11_priceOf 161 = .ok (.iaload, 1) := by decide +kernel
theorem dX11_priceOf_162 : decode cX11_priceOf 162 = .ok (.i2l, 1) := by decide +kernel
theorem dX11_priceOf_163 : decode cX11_priceOf 163 = .ok (.lmul, 1) := by decide +kernel
theorem dX11_priceOf_164 : decode cX11_priceOf 164 = .ok (.ladd, 1) := by decide +kernel
theorem dX11_priceOf_165 : decode cX11_priceOf 165 = .ok (.ladd, 1) := by decide +kernel
theorem dX11_priceOf_166 : decode cX11_priceOf 166 = .ok (.lstore_n 3, 1) := by decide +kernel
theorem dX11_priceOf_167 : decode cX11_priceOf 167 = .ok (.iinc 6 1, 3) := by decide +kernel
theorem dX11_priceOf_170 : decode cX11_priceOf 170 = .ok (.goto (-90), 3) := by decide +kernel
theorem dX11_priceOf_173 : decode cX11_priceOf 173 = .ok (.iinc 5 1, 3) := by decide +kernel
theorem dX11_priceOf_176 : decode cX11_priceOf 176 = .ok (.goto (-105), 3) := by decide +kernel
theorem dX11_priceOf_179 : decode cX11_priceOf 179 = .ok (.iconst 1, 1) := by decide +kernel
theorem dX11_priceOf_180 : decode cX11_priceOf 180 = .ok (.istore 5, 2) := by decide +kernel
theorem dX11_priceOf_182 : decode cX11_priceOf 182 = .ok (.iload 5, 2) := by decide +kernel
theorem dX11_priceOf_184 : decode cX11_priceOf 184 = .ok (.sipush 1024, 3) := by decide +kernel
theorem dX11_priceOf_187 : decode cX11_priceOf 187 = .ok (.if_icmp .ge 124, 3) := by decide +kernel
theorem dX11_priceOf_190 : decode cX11_priceOf 190 = .ok (.aload_n 0, 1) := by decide +kernel
theorem dX11_priceOf_191 : decode cX11_priceOf 191 = .ok (.getfield 71, 3) := by decide +kernel
theorem dX11_priceOf_194 : decode cX11_priceOf 194 = .ok (.iload 5, 2) := by decide +kernel
theorem dX11_priceOf_196 : decode cX11_priceOf 196 = .ok (.iaload, 1) := by decide +kernel
theorem dX11_priceOf_197 : decode cX11_priceOf 197 = .ok (.ifCond .ne 6, 3) := by decide +kernel
theorem dX11_priceOf_200 : decode cX11_priceOf 200 = .ok (.goto 105, 3) := by decide +kernel
theorem dX11_priceOf_203 : decode cX11_priceOf 203 = .ok (.iconst 0, 1) := by decide +kernel
theorem dX11_priceOf_204 : decode cX11_priceOf 204 = .ok (.istore 6, 2) := by decide +kernel
theorem dX11_priceOf_206 : decode cX11_priceOf 206 = .ok (.iconst 0, 1) := by decide +kernel
theorem dX11_priceOf_207 : decode cX11_priceOf 207 = .ok (.istore 7, 2) := by decide +kernel
theorem dX11_priceOf_209 : decode cX11_priceOf 209 = .ok (.iload 7, 2) := by decide +kernel
theorem dX11_priceOf_211 : decode cX11_priceOf 211 = .ok (.iload_n 2, 1) := by decide +kernel
theorem dX11_priceOf_212 : decode cX11_priceOf 212 = .ok (.if_icmp .ge 31, 3) := by decide +kernel
theorem dX11_priceOf_215 : decode cX11_priceOf 215 = .ok (.iload 5, 2) := by decide +kernel
theorem dX11_priceOf_217 : decode cX11_priceOf 217 = .ok (.iload 7, 2) := by decide +kernel
theorem dX11_priceOf_219 : decode cX11_priceOf 219 = .ok (.ishr, 1) := by decide +kernel
theorem dX11_priceOf_220 : decode cX11_priceOf 220 = .ok (.iconst 1, 1) := by decide +kernel
theorem dX11_priceOf_221 : decode cX11_priceOf 221 = .ok (.iand, 1) := by decide +kernel
theorem dX11_priceOf_222 : decode cX11_priceOf 222 = .ok (.iconst 1, 1) := by decide +kernel
theorem dX11_priceOf_223 : decode cX11_priceOf 223 = .ok (.if_icmp .ne 14, 3) := by decide +kernel
theorem dX11_priceOf_226 : decode cX11_priceOf 226 = .ok (.iload 6, 2) := by decide +kernel
theorem dX11_priceOf_228 : decode cX11_priceOf 228 = .ok (.iconst 1, 1) := by decide +kernel
theorem dX11_priceOf_229 : decode cX11_priceOf 229 = .ok (.aload_n 1, 1) := by decide +kernel
theorem dX11_priceOf_230 : decode cX11_priceOf 230 = .ok (.iload 7, 2) := by decide +kernel
theorem dX11_priceOf_232 : decode cX11_priceOf 232 = .ok (.iaload, 1) := by decide +kernel
theorem dX11_priceOf_233 : decode cX11_priceOf 233 = .ok (.ishl, 1) := by decide +kernel
theorem dX11_priceOf_234 : decode cX11_priceOf 234 = .ok (.ior, 1) := by decide +kernel
theorem dX11_priceOf_235 : decode cX11_priceOf 235 = .ok (.istore 6, 2) := by decide +kernel
theorem dX11_priceOf_237 : decode cX11_priceOf 237 = .ok (.iinc 7 1, 3) := by decide +kernel
theorem dX11_priceOf_240 : decode cX11_priceOf 240 = .ok (.goto (-31), 3) := by decide +kernel
theorem dX11_priceOf_243 : decode cX11_priceOf 243 = .ok (.iconst 0, 1) := by decide +kernel
theorem dX11_priceOf_244 : decode cX11_priceOf 244 = .ok (.istore 7, 2) := by decide +kernel
theorem dX11_priceOf_246 : decode cX11_priceOf 246 = .ok (.iconst 0, 1) := by decide +kernel
theorem dX11_priceOf_247 : decode cX11_priceOf 247 = .ok (.istore 8, 2) := by decide +kernel
theorem dX11_priceOf_249 : decode cX11_priceOf 249 = .ok (.iload 8, 2) := by decide +kernel
theorem dX11_priceOf_251 : decode cX11_priceOf 251 = .ok (.bipush 6, 2) := by decide +kernel
theorem dX11_priceOf_253 : decode cX11_priceOf 253 = .ok (.if_icmp .ge 21, 3) := by decide +kernel
theorem dX11_priceOf_256 : decode cX11_priceOf 256 = .ok (.iload 7, 2) := by decide +kernel
theorem dX11_priceOf_258 : decode cX11_priceOf 258 = .ok (.iload 6, 2) := by decide +kernel
theorem dX11_priceOf_260 : decode cX11_priceOf 260 = .ok (.iload 8, 2) := by decide +kernel
theorem dX11_priceOf_262 : decode cX11_priceOf 262 = .ok (.ishr, 1) := by decide +kernel
theorem dX11_priceOf_263 : decode cX11_priceOf 263 = .ok (.iconst 1, 1) := by decide +kernel
theorem dX11_priceOf_264 : decode cX11_priceOf 264 = .ok (.iand, 1) := by decide +kernel
theorem dX11_priceOf_265 : decode cX11_priceOf 265 = .ok (.iadd, 1) := by decide +kernel
theorem dX11_priceOf_266 : decode cX11_priceOf 266 = .ok (.istore 7, 2) := by decide +kernel
theorem dX11_priceOf_268 : decode cX11_priceOf 268 = .ok (.iinc 8 1, 3) := by decide +kernel
theorem dX11_priceOf_271 : decode cX11_priceOf 271 = .ok (.goto (-22), 3) := by decide +kernel
theorem dX11_priceOf_274 : decode cX11_priceOf 274 = .ok (.iload 7, 2) := by decide +kernel
theorem dX11_priceOf_276 : decode cX11_priceOf 276 = .ok (.iconst 1, 1) := by decide +kernel
theorem dX11_priceOf_277 : decode cX11_priceOf 277 = .ok (.if_icmp .le 28, 3) := by decide +kernel
theorem dX11_priceOf_280 : decode cX11_priceOf 280 = .ok (.lload_n 3, 1) := by decide +kernel
theorem dX11_priceOf_281 : decode cX11_priceOf 281 = .ok (.aload_n 0, 1) := by decide +kernel
theorem dX11_priceOf_282 : decode cX11_priceOf 282 = .ok (.getfield 77, 3) := by decide +kernel
theorem dX11_priceOf_285 : decode cX11_priceOf 285 = .ok (.iconst 3, 1) := by decide +kernel
theorem dX11_priceOf_286 : decode cX11_priceOf 286 = .ok (.iaload, 1) := by decide +kernel
theorem dX11_priceOf_287 : decode cX11_priceOf 287 = .ok (.i2l, 1) := by decide +kernel
theorem dX11_priceOf_288 : decode cX11_priceOf 288 = .ok (.aload_n 0, 1) := by decide +kernel
theorem dX11_priceOf_289 : decode cX11_priceOf 289 = .ok (.getfield 71, 3) := by decide +kernel
theorem dX11_priceOf_292 : decode cX11_priceOf 292 = .ok (.iload 5, 2) := by decide +kernel
theorem dX11_priceOf_294 : decode cX11_priceOf 294 = .ok (.iaload, 1) := by decide +kernel
theorem dX11_priceOf_295 : decode cX11_priceOf 295 = .ok (.i2l, 1) := by decide +kernel
theorem dX11_priceOf_296 : decode cX11_priceOf 296 = .ok (.lmul, 1) := by decide +kernel
theorem dX11_priceOf_297 : decode cX11_priceOf 297 = .ok (.iload 7, 2) := by decide +kernel
theorem dX11_priceOf_299 : decode cX11_priceOf 299 = .ok (.iconst 1, 1) := by decide +kernel
theorem dX11_priceOf_300 : decode cX11_priceOf 300 = .ok (.isub, 1) := by decide +kernel
theorem dX11_priceOf_301 : decode cX11_priceOf 301 = .ok (.i2l, 1) := by decide +kernel
theorem dX11_priceOf_302 : decode cX11_priceOf 302 = .ok (.lmul, 1) := by decide +kernel
theorem dX11_priceOf_303 : decode cX11_priceOf 303 = .ok (.ladd, 1) := by decide +kernel
theorem dX11_priceOf_304 : decode cX11_priceOf 304 = .ok (.lstore_n 3, 1) := by decide +kernel
theorem dX11_priceOf_305 : decode cX11_priceOf 305 = .ok (.iinc 5 1, 3) := by decide +kernel
theorem dX11_priceOf_308 : decode cX11_priceOf 308 = .ok (.goto (-126), 3) := by decide +kernel
theorem dX11_priceOf_311 : decode cX11_priceOf 311 = .ok (.lload_n 3, 1) := by decide +kernel
theorem dX11_priceOf_312 : decode cX11_priceOf 312 = .ok (.lreturn, 1) := by decide +kernel
set_option maxRecDepth 20000 in
theorem ggX11_price_X11_priceOf : GoodIn wsX11_price wsX11_priceOf := goodIn_r _ [7, 8, 9, 10, 11, 12, 13, 14, 15, 16, 17, 18, 19, 20, 21, 22, 23, 24, 25, 26, 27, 28, 29, 30, 31, 32, 33, 34, 35, 36, 37, 38, 39, 40, 41, 42, 43, 44, 45, 46, 47, 48, 49, 50, 51, 52, 53, 54, 55, 56, 57, 58, 59, 60, 61, 62, 63, 64, 65, 66, 67, 68, 69, 70, 71, 72, 73, 74, 75, 76, 77] (by decide +kernel) (by decide +kernel)
set_option maxRecDepth 20000 in
theorem gX11_price_X11_priceOf : GoodIn wsX11_price (wsV RX11 213 RX11 yX11_priceOf wsX11_priceOf) := goodIn_app (goodIn_of _ (by decide +kernel)) ggX11_price_X11_priceOf
theorem dX11_price_0 : decode cX11_price 0 = .ok (.aload_n 0, 1) := by decide +kernel
theorem dX11_price_1 : decode cX11_price 1 = .ok (.aload_n 0, 1) := by decide +kernel
theorem dX11_price_2 : decode cX11_price 2 = .ok (.getfield 74, 3) := by decide +kernel
theorem dX11_price_5 : decode cX11_price 5 = .ok (.aload_n 0, 1) := by decide +kernel
theorem dX11_price_6 : decode cX11_price 6 = .ok (.getfield 148, 3) := by decide +kernel
theorem dX11_price_9 : decode cX11_price 9 = .ok (.invokevirtual 213, 3) := by decide +kernel
theorem dX11_price_12 : decode cX11_price 12 = .ok (.lreturn, 1) := by decide +kernel
theorem dX11_mayBe_0 : decode cX11_mayBe 0 = .ok (.iconst 0, 1) := by decide +kernel
theorem dX11_mayBe_1 : decode cX11_mayBe 1 = .ok (.istore_n 3, 1) := by decide +kernel
theorem dX11_mayBe_2 : decode cX11_mayBe 2 = .ok (.iload_n 3, 1) := by decide +kernel
theorem dX11_mayBe_3 : decode cX11_mayBe 3 = .ok (.bipush 6, 2) := by decide +kernel
theorem dX11_mayBe_5 : decode cX11_mayBe 5 = .ok (.if_icmp .ge 16, 3) := by decide +kernel
theorem dX11_mayBe_8 : decode cX11_mayBe 8 = .ok (.aload_n 0, 1) := by decide +kernel
theorem dX11_mayBe_9 : decode cX11_mayBe 9 = .ok (.getfield 89, 3) := by decide +kernel
theorem dX11_mayBe_12 : decode cX11_mayBe 12 = .ok (.iload_n 3, 1) := by decide +kernel
theorem dX11_mayBe_13 : decode cX11_mayBe 13 = .ok (.iconst 0, 1) := by decide +kernel
theorem dX11_mayBe_14 : decode cX11_mayBe 14 = .ok (.iastore, 1) := by decide +kernel
theorem dX11_mayBe_15 : decode cX11_mayBe 15 = .ok (.iinc 3 1, 3) := by decide +kernel
theorem dX11_mayBe_18 : decode cX11_mayBe 18 = .ok (.goto (-16), 3) := by decide +kernel
theorem dX11_mayBe_21 : decode cX11_mayBe 21 = .ok (.iconst 0, 1) := by decide +kernel
theorem dX11_mayBe_22 : decode cX11_mayBe 22 = .ok (.istore_n 3, 1) := by decide +kernel
theorem dX11_mayBe_23 : decode cX11_mayBe 23 = .ok (.iload_n 3, 1) := by decide +kernel
theorem dX11_mayBe_24 : decode cX11_mayBe 24 = .ok (.iload_n 1, 1) := by decide +kernel
theorem dX11_mayBe_25 : decode cX11_mayBe 25 = .ok (.if_icmp .gt 29, 3) := by decide +kernel
theorem dX11_mayBe_28 : decode cX11_mayBe 28 = .ok (.aload_n 0, 1) := by decide +kernel
theorem dX11_mayBe_29 : decode cX11_mayBe 29 = .ok (.getfield 89, 3) := by decide +kernel
theorem dX11_mayBe_32 : decode cX11_mayBe 32 = .ok (.aload_n 0, 1) := by decide +kernel
theorem dX11_mayBe_33 : decode cX11_mayBe 33 = .ok (.getfield 86, 3) := by decide +kernel
theorem dX11_mayBe_36 : decode cX11_mayBe 36 = .ok (.iload_n 3, 1) := by decide +kernel
theorem dX11_mayBe_37 : decode cX11_mayBe 37 = .ok (.iaload, 1) := by decide +kernel
theorem dX11_mayBe_38 : decode cX11_mayBe 38 = .ok (.dup2, 1) := by decide +kernel
theorem dX11_mayBe_39 : decode cX11_mayBe 39 = .ok (.iaload, 1) := by decide +kernel
theorem dX11_mayBe_40 : decode cX11_mayBe 40 = .ok (.aload_n 0, 1) := by decide +kernel
theorem dX11_mayBe_41 : decode cX11_mayBe 41 = .ok (.getfield 7, 3) := by decide +kernel
theorem dX11_mayBe_44 : decode cX11_mayBe 44 = .ok (.iload_n 3, 1) := by decide +kernel
theorem dX11_mayBe_45 : decode cX11_mayBe 45 = .ok (.iaload, 1) := by decide +kernel
theorem dX11_mayBe_46 : decode cX11_mayBe 46 = .ok (.iadd, 1) := by decide +kernel
theorem dX11_mayBe_47 : decode cX11_mayBe 47 = .ok (.iastore, 1) := by decide +kernel
theorem dX11_mayBe_48 : decode cX11_mayBe 48 = .ok (.iinc 3 1, 3) := by decide +kernel
theorem dX11_mayBe_51 : decode cX11_mayBe 51 = .ok (.goto (-28), 3) := by decide +kernel
theorem dX11_mayBe_54 : decode cX11_mayBe 54 = .ok (.aload_n 0, 1) := by decide +kernel
theorem dX11_mayBe_55 : decode cX11_mayBe 55 = .ok (.getfield 89, 3) := by decide +kernel
theorem dX11_mayBe_58 : decode cX11_mayBe 58 = .ok (.aload_n 0, 1) := by decide +kernel
theorem dX11_mayBe_59 : decode cX11_mayBe 59 = .ok (.getfield 86, 3) := by decide +kernel
theorem dX11_mayBe_62 : decode cX11_mayBe 62 = .ok (.iload_n 1, 1) := by decide +kernel
theorem dX11_mayBe_63 : decode cX11_mayBe 63 = .ok (.iaload, 1) := by decide +kernel
theorem dX11_mayBe_64 : decode cX11_mayBe 64 = .ok (.iaload, 1) := by decide +kernel
theorem dX11_mayBe_65 : decode cX11_mayBe 65 = .ok (.iload_n 2, 1) := by decide +kernel
theorem dX11_mayBe_66 : decode cX11_mayBe 66 = .ok (.if_icmp .le 5, 3) := by decide +kernel
theorem dX11_mayBe_69 : decode cX11_mayBe 69 = .ok (.iconst 0, 1) := by decide +kernel
theorem dX11_mayBe_70 : decode cX11_mayBe 70 = .ok (.ireturn, 1) := by decide +kernel
theorem dX11_mayBe_71 : decode cX11_mayBe 71 = .ok (.iconst 0, 1) := by decide +kernel
theorem dX11_mayBe_72 : decode cX11_mayBe 72 = .ok (.istore_n 3, 1) := by decide +kernel
theorem dX11_mayBe_73 : decode cX11_mayBe 73 = .ok (.iload_n 3, 1) := by decide +kernel
theorem dX11_mayBe_74 : decode cX11_mayBe 74 = .ok (.iload_n 1, 1) := by decide +kernel
theorem dX11_mayBe_75 : decode cX11_mayBe 75 = .ok (.if_icmp .ge 66, 3) := by decide +kernel
theorem dX11_mayBe_78 : decode cX11_mayBe 78 = .ok (.aload_n 0, 1) := by decide +kernel
theorem dX11_mayBe_79 : decode cX11_mayBe 79 = .ok (.getfield 80, 3) := by decide +kernel
theorem dX11_mayBe_82 : decode cX11_mayBe 82 = .ok (.bipush 10, 2) := by decide +kernel
theorem dX11_mayBe_84 : decode cX11_mayBe 84 = .ok (.iload_n 3, 1) := by decide +kernel
theorem dX11_mayBe_85 : decode cX11_mayBe 85 = .ok (.imul, 1) := by decide +kernel
theorem dX11_mayBe_86 : decode cX11_mayBe 86 = .ok (.iload_n 1, 1) := by decide +kernel
theorem dX11_mayBe_87 : decode cX11_mayBe 87 = .ok (.iadd, 1) := by decide +kernel
theorem dX11_mayBe_88 : decode cX11_mayBe 88 = .ok (.iaload, 1) := by decide +kernel
theorem dX11_mayBe_89 : decode cX11_mayBe 89 = .ok (.istore 4, 2) := by decide +kernel
theorem dX11_mayBe_91 : decode cX11_mayBe 91 = .ok (.iload 4, 2) := by decide +kernel
theorem dX11_mayBe_93 : decode cX11_mayBe 93 = .ok (.iconst 1, 1) := by decide +kernel
theorem dX11_mayBe_94 : decode cX11_mayBe 94 = .ok (.if_icmp .ne 18, 3) := by decide +kernel
theorem dX11_mayBe_97 : decode cX11_mayBe 97 = .ok (.aload_n 0, 1) := by decide +kernel
theorem dX11_mayBe_98 : decode cX11_mayBe 98 = .ok (.getfield 86, 3) := by decide +kernel
theorem dX11_mayBe_101 : decode cX11_mayBe 101 = .ok (.iload_n 3, 1) := by decide +kernel
theorem dX11_mayBe_102 : decode cX11_mayBe 102 = .ok (.iaload, 1) := by decide +kernel
theorem dX11_mayBe_103 : decode cX11_mayBe 103 = .ok (.aload_n 0, 1) := by decide +kernel
theorem dX11_mayBe_104 : decode cX11_mayBe 104 = .ok (.getfield 86, 3) := by decide +kernel
theorem dX11_mayBe_107 : decode cX11_mayBe 107 = .ok (.iload_n 1, 1) := by decide +kernel
theorem dX11_mayBe_108 : decode cX11_mayBe 108 = .ok (.iaload, 1) := by decide +kernel
theorem dX11_mayBe_109 : decode cX11_mayBe 109 = .ok (.if_icmp .ne 24, 3) := by decide +kernel
theorem dX11_mayBe_112 : decode cX11_mayBe 112 = .ok (.iload 4, 2) := by decide +kernel
theorem dX11_mayBe_114 : decode cX11_mayBe 114 = .ok (.iconst 2, 1) := by decide +kernel
theorem dX11_mayBe_115 : decode cX11_mayBe 115 = .ok (.if_icmp .ne 20, 3) := by decide +kernel
theorem dX11_mayBe_118 : decode cX11_mayBe 118 = .ok (.aload_n 0, 1) := by decide +kernel
theorem dX11_mayBe_119 : decode cX11_mayBe 119 = .ok (.getfield 86, 3) := by decide +kernel
theorem dX11_mayBe_122 : decode cX11_mayBe 122 = .ok (.iload_n 3, 1) := by decide +kernel
theorem dX11_mayBe_123 : decode cX11_mayBe 123 = .ok (.iaload, 1) := by decide +kernel
theorem dX11_mayBe_124 : decode cX11_mayBe 124 = .ok (.aload_n 0, 1) := by decide +kernel
theorem dX11_mayBe_125 : decode cX11_mayBe 125 = .ok (.getfield 86, 3) := by decide +kernel
theorem dX11_mayBe_128 : decode cX11_mayBe 128 = .ok (.iload_n 1, 1) := by decide +kernel
theorem dX11_mayBe_129 : decode cX11_mayBe 129 = .ok (.iaload, 1) := by decide +kernel
theorem dX11_mayBe_130 : decode cX11_mayBe 130 = .ok (.if_icmp .ne 5, 3) := by decide +kernel
theorem dX11_mayBe_133 : decode cX11_mayBe 133 = .ok (.iconst 0, 1) := by decide +kernel
theorem dX11_mayBe_134 : decode cX11_mayBe 134 = .ok (.ireturn, 1) := by decide +kernel
theorem dX11_mayBe_135 : decode cX11_mayBe 135 = .ok (.iinc 3 1, 3) := by decide +kernel
theorem dX11_mayBe_138 : decode cX11_mayBe 138 = .ok (.goto (-65), 3) := by decide +kernel
theorem dX11_mayBe_141 : decode cX11_mayBe 141 = .ok (.iconst 1, 1) := by decide +kernel
theorem dX11_mayBe_142 : decode cX11_mayBe 142 = .ok (.ireturn, 1) := by decide +kernel
set_option maxRecDepth 20000 in
theorem ggX11_cut_X11_in : GoodIn wsX11_cut wsX11_in := goodIn_r _ [12] (by decide +kernel) (by decide +kernel)
set_option maxRecDepth 20000 in
theorem gX11_cut_X11_in : GoodIn wsX11_cut (va_wsS RX11 151 yX11_in wsX11_in) := goodIn_app (goodIn_of _ (by decide +kernel)) ggX11_cut_X11_in
set_option maxRecDepth 20000 in
theorem ggX11_cut_X11_priceOf : GoodIn wsX11_cut wsX11_priceOf := goodIn_r _ [16, 17, 18, 19, 20, 21, 22, 23, 31, 32, 33, 34, 35, 36, 37, 38, 39, 40, 41, 42, 43, 44, 45, 46, 47, 48, 49, 50, 51, 52, 53, 54, 55, 56, 57, 58, 59, 60, 61, 62, 63, 64, 65, 66, 67, 68, 69, 70, 71, 72, 73, 74, 75, 76, 77, 78, 79, 80, 81, 82, 83, 84, 85, 86, 87, 88, 89, 90, 91, 92, 93] (by decide +kernel) (by decide +kernel)
set_option maxRecDepth 20000 in
theorem gX11_cut_X11_priceOf : GoodIn wsX11_cut (wsV RX11 213 RX11 yX11_priceOf wsX11_priceOf) := goodIn_app (goodIn_of _ (by decide +kernel)) ggX11_cut_X11_priceOf
set_option maxRecDepth 20000 in
theorem ggX11_cut_X11_mayBe : GoodIn wsX11_cut wsX11_mayBe := goodIn_r _ [27, 28, 4, 29, 30, 31, 32, 33, 34, 35, 36, 37, 38, 39, 40, 41, 42, 43, 44, 45, 46, 47, 48, 49, 50, 51, 52, 53, 54, 55, 56, 57, 58, 59, 60, 61, 62, 63, 64, 65, 66, 67, 68, 69, 70, 71, 72, 73, 74, 75, 76, 77, 78, 79, 80, 81, 82, 83, 84, 85, 86, 87, 88, 89, 90, 91, 92, 93] (by decide +kernel) (by decide +kernel)
set_option maxRecDepth 20000 in
theorem gX11_cut_X11_mayBe : GoodIn wsX11_cut (wsV RX11 221 RX11 yX11_mayBe wsX11_mayBe) := goodIn_app (goodIn_of _ (by decide +kernel)) ggX11_cut_X11_mayBe
theorem dX11_cut_0 : decode cX11_cut 0 = .ok (.iload_n 1, 1) := by decide +kernel
theorem dX11_cut_1 : decode cX11_cut 1 = .ok (.iconst 1, 1) := by decide +kernel
theorem dX11_cut_2 : decode cX11_cut 2 = .ok (.bipush 6, 2) := by decide +kernel
theorem dX11_cut_4 : decode cX11_cut 4 = .ok (.invokestatic 151, 3) := by decide +kernel
theorem dX11_cut_7 : decode cX11_cut 7 = .ok (.ifCond .eq 14, 3) := by decide +kernel
theorem dX11_cut_10 : decode cX11_cut 10 = .ok (.iload_n 2, 1) := by decide +kernel
theorem dX11_cut_11 : decode cX11_cut 11 = .ok (.iconst 1, 1) := by decide +kernel
theorem dX11_cut_12 : decode cX11_cut 12 = .ok (.sipush 9999, 3) := by decide +kernel
theorem dX11_cut_15 : decode cX11_cut 15 = .ok (.invokestatic 151, 3) := by decide +kernel
theorem dX11_cut_18 : decode cX11_cut 18 = .ok (.ifCond .ne 7, 3) := by decide +kernel
theorem dX11_cut_21 : decode cX11_cut 21 = .ok (.ldc2_w 217, 3) := by decide +kernel
theorem dX11_cut_24 : decode cX11_cut 24 = .ok (.lreturn, 1) := by decide +kernel
theorem dX11_cut_25 : decode cX11_cut 25 = .ok (.aload_n 0, 1) := by decide +kernel
theorem dX11_cut_26 : decode cX11_cut 26 = .ok (.getfield 148, 3) := by decide +kernel
theorem dX11_cut_29 : decode cX11_cut 29 = .ok (.bipush 9, 2) := by decide +kernel
theorem dX11_cut_31 : decode cX11_cut 31 = .ok (.if_icmp .le 7, 3) := by decide +kernel
theorem dX11_cut_34 : decode cX11_cut 34 = .ok (.ldc2_w 219, 3) := by decide +kernel
theorem dX11_cut_37 : decode cX11_cut 37 = .ok (.lreturn, 1) := by decide +kernel
theorem dX11_cut_38 : decode cX11_cut 38 = .ok (.ldc2_w 217, 3) := by decide +kernel
theorem dX11_cut_41 : decode cX11_cut 41 = .ok (.lstore_n 3, 1) := by decide +kernel
theorem dX11_cut_42 : decode cX11_cut 42 = .ok (.iconst 0, 1) := by decide +kernel
theorem dX11_cut_43 : decode cX11_cut 43 = .ok (.istore 5, 2) := by decide +kernel
theorem dX11_cut_45 : decode cX11_cut 45 = .ok (.aload_n 0, 1) := by decide +kernel
theorem dX11_cut_46 : decode cX11_cut 46 = .ok (.getfield 86, 3) := by decide +kernel
theorem dX11_cut_49 : decode cX11_cut 49 = .ok (.iconst 0, 1) := by decide +kernel
theorem dX11_cut_50 : decode cX11_cut 50 = .ok (.iconst (-1), 1) := by decide +kernel
theorem dX11_cut_51 : decode cX11_cut 51 = .ok (.iastore, 1) := by decide +kernel
theorem dX11_cut_52 : decode cX11_cut 52 = .ok (.iload 5, 2) := by decide +kernel
theorem dX11_cut_54 : decode cX11_cut 54 = .ok (.ifCond .lt 155, 3) := by decide +kernel
theorem dX11_cut_57 : decode cX11_cut 57 = .ok (.iload 5, 2) := by decide +kernel
theorem dX11_cut_59 : decode cX11_cut 59 = .ok (.aload_n 0, 1) := by decide +kernel
theorem dX11_cut_60 : decode cX11_cut 60 = .ok (.getfield 148, 3) := by decide +kernel
theorem dX11_cut_63 : decode cX11_cut 63 = .ok (.if_icmp .ne 59, 3) := by decide +kernel
theorem dX11_cut_66 : decode cX11_cut 66 = .ok (.aload_n 0, 1) := by decide +kernel
theorem dX11_cut_67 : decode cX11_cut 67 = .ok (.aload_n 0, 1) := by decide +kernel
theorem dX11_cut_68 : decode cX11_cut 68 = .ok (.getfield 86, 3) := by decide +kernel
theorem dX11_cut_71 : decode cX11_cut 71 = .ok (.aload_n 0, 1) := by decide +kernel
theorem dX11_cut_72 : decode cX11_cut 72 = .ok (.getfield 148, 3) := by decide +kernel
theorem dX11_cut_75 : decode cX11_cut 75 = .ok (.invokevirtual 213, 3) := by decide +kernel
theorem dX11_cut_78 : decode cX11_cut 78 = .ok (.lstore_n 3, 1) := by decide +kernel
theorem dX11_cut_79 : decode cX11_cut 79 = .ok (.iconst 0, 1) := by decide +kernel
theorem dX11_cut_80 : decode cX11_cut 80 = .ok (.istore 6, 2) := by decide +kernel
theorem dX11_cut_82 : decode cX11_cut 82 = .ok (.iload 6, 2) := by decide +kernel
theorem dX11_cut_84 : decode cX11_cut 84 = .ok (.aload_n 0, 1) := by decide +kernel
theorem dX11_cut_85 : decode cX11_cut 85 = .ok (.getfield 148, 3) := by decide +kernel
theorem dX11_cut_88 : decode cX11_cut 88 = .ok (.if_icmp .ge 23, 3) := by decide +kernel
theorem dX11_cut_91 : decode cX11_cut 91 = .ok (.aload_n 0, 1) := by decide +kernel
theorem dX11_cut_92 : decode cX11_cut 92 = .ok (.getfield 83, 3) := by decide +kernel
theorem dX11_cut_95 : decode cX11_cut 95 = .ok (.iload 6, 2) := by decide +kernel
theorem dX11_cut_97 : decode cX11_cut 97 = .ok (.aload_n 0, 1) := by decide +kernel
theorem dX11_cut_98 : decode cX11_cut 98 = .ok (.getfield 86, 3) := by decide +kernel
theorem dX11_cut_101 : decode cX11_cut 101 = .ok (.iload 6, 2) := by decide +kernel
theorem dX11_cut_103 : decode cX11_cut 103 = .ok (.iaload, 1) := by decide +kernel
theorem dX11_cut_104 : decode cX11_cut 104 = .ok (.iastore, 1) := by decide +kernel
theorem dX11_cut_105 : decode cX11_cut 105 = .ok (.iinc 6 1, 3) := by decide +kernel
theorem dX11_cut_108 : decode cX11_cut 108 = .ok (.goto (-26), 3) := by decide +kernel
theorem dX11_cut_111 : decode cX11_cut 111 = .ok (.iinc 5 (-1), 3) := by decide +kernel
theorem dX11_cut_114 : decode cX11_cut 114 = .ok (.iload 5, 2) := by decide +kernel
theorem dX11_cut_116 : decode cX11_cut 116 = .ok (.ifCond .ge 6, 3) := by decide +kernel
theorem dX11_cut_119 : decode cX11_cut 119 = .ok (.goto 90, 3) := by decide +kernel
theorem dX11_cut_122 : decode cX11_cut 122 = .ok (.aload_n 0, 1) := by decide +kernel
theorem dX11_cut_123 : decode cX11_cut 123 = .ok (.getfield 86, 3) := by decide +kernel
theorem dX11_cut_126 : decode cX11_cut 126 = .ok (.iload 5, 2) := by decide +kernel
theorem dX11_cut_128 : decode cX11_cut 128 = .ok (.dup2, 1) := by decide +kernel
theorem dX11_cut_129 : decode cX11_cut 129 = .ok (.iaload, 1) := by decide +kernel
theorem dX11_cut_130 : decode cX11_cut 130 = .ok (.iconst 1, 1) := by decide +kernel
theorem dX11_cut_131 : decode cX11_cut 131 = .ok (.iadd, 1) := by decide +kernel
theorem dX11_cut_132 : decode cX11_cut 132 = .ok (.iastore, 1) := by decide +kernel
theorem dX11_cut_133 : decode cX11_cut 133 = .ok (.aload_n 0, 1) := by decide +kernel
theorem dX11_cut_134 : decode cX11_cut 134 = .ok (.getfield 86, 3) := by decide +kernel
theorem dX11_cut_137 : decode cX11_cut 137 = .ok (.iload 5, 2) := by decide +kernel
theorem dX11_cut_139 : decode cX11_cut 139 = .ok (.iaload, 1) := by decide +kernel
theorem dX11_cut_140 : decode cX11_cut 140 = .ok (.iload_n 1, 1) := by decide +kernel
theorem dX11_cut_141 : decode cX11_cut 141 = .ok (.if_icmp .ne 9, 3) := by decide +kernel
theorem dX11_cut_144 : decode cX11_cut 144 = .ok (.iinc 5 (-1), 3) := by decide +kernel
theorem dX11_cut_147 : decode cX11_cut 147 = .ok (.goto (-95), 3) := by decide +kernel
theorem dX11_cut_150 : decode cX11_cut 150 = .ok (.aload_n 0, 1) := by decide +kernel
theorem dX11_cut_151 : decode cX11_cut 151 = .ok (.iload 5, 2) := by decide +kernel
theorem dX11_cut_153 : decode cX11_cut 153 = .ok (.iload_n 2, 1) := by decide +kernel
theorem dX11_cut_154 : decode cX11_cut 154 = .ok (.invokevirtual 221, 3) := by decide +kernel
theorem dX11_cut_157 : decode cX11_cut 157 = .ok (.ifCond .eq (-105), 3) := by decide +kernel
theorem dX11_cut_160 : decode cX11_cut 160 = .ok (.lload_n 3, 1) := by decide +kernel
theorem dX11_cut_161 : decode cX11_cut 161 = .ok (.lconst 0, 1) := by decide +kernel
theorem dX11_cut_162 : decode cX11_cut 162 = .ok (.lcmp, 1) := by decide +kernel
theorem dX11_cut_163 : decode cX11_cut 163 = .ok (.ifCond .lt 23, 3) := by decide +kernel
theorem dX11_cut_166 : decode cX11_cut 166 = .ok (.aload_n 0, 1) := by decide +kernel
theorem dX11_cut_167 : decode cX11_cut 167 = .ok (.aload_n 0, 1) := by decide +kernel
theorem dX11_cut_168 : decode cX11_cut 168 = .ok (.getfield 86, 3) := by decide +kernel
theorem dX11_cut_171 : decode cX11_cut 171 = .ok (.iload 5, 2) := by decide +kernel
theorem dX11_cut_173 : decode cX11_cut 173 = .ok (.iconst 1, 1) := by decide +kernel
theorem dX11_cut_174 : decode cX11_cut 174 = .ok (.iadd, 1) := by decide +kernel
theorem dX11_cut_175 : decode cX11_cut 175 = .ok (.invokevirtual 213, 3) := by decide +kernel
theorem dX11_cut_178 : decode cX11_cut 178 = .ok (.lload_n 3, 1) := by decide +kernel
theorem dX11_cut_179 : decode cX11_cut 179 = .ok (.lcmp, 1) := by decide +kernel
theorem dX11_cut_180 : decode cX11_cut 180 = .ok (.ifCond .lt 6, 3) := by decide +kernel
theorem dX11_cut_183 : decode cX11_cut 183 = .ok (.goto (-131), 3) := by decide +kernel
theorem dX11_cut_186 : decode cX11_cut 186 = .ok (.iinc 5 1, 3) := by decide +kernel
theorem dX11_cut_189 : decode cX11_cut 189 = .ok (.iload 5, 2) := by decide +kernel
theorem dX11_cut_191 : decode cX11_cut 191 = .ok (.aload_n 0, 1) := by decide +kernel
theorem dX11_cut_192 : decode cX11_cut 192 = .ok (.getfield 148, 3) := by decide +kernel
theorem dX11_cut_195 : decode cX11_cut 195 = .ok (.if_icmp .ge (-143), 3) := by decide +kernel
theorem dX11_cut_198 : decode cX11_cut 198 = .ok (.aload_n 0, 1) := by decide +kernel
theorem dX11_cut_199 : decode cX11_cut 199 = .ok (.getfield 86, 3) := by decide +kernel
theorem dX11_cut_202 : decode cX11_cut 202 = .ok (.iload 5, 2) := by decide +kernel
theorem dX11_cut_204 : decode cX11_cut 204 = .ok (.iconst (-1), 1) := by decide +kernel
theorem dX11_cut_205 : decode cX11_cut 205 = .ok (.iastore, 1) := by decide +kernel
theorem dX11_cut_206 : decode cX11_cut 206 = .ok (.goto (-154), 3) := by decide +kernel
theorem dX11_cut_209 : decode cX11_cut 209 = .ok (.lload_n 3, 1) := by decide +kernel
theorem dX11_cut_210 : decode cX11_cut 210 = .ok (.lconst 0, 1) := by decide +kernel
theorem dX11_cut_211 : decode cX11_cut 211 = .ok (.lcmp, 1) := by decide +kernel
theorem dX11_cut_212 : decode cX11_cut 212 = .ok (.ifCond .ge 7, 3) := by decide +kernel
theorem dX11_cut_215 : decode cX11_cut 215 = .ok (.ldc2_w 225, 3) := by decide +kernel
theorem dX11_cut_218 : decode cX11_cut 218 = .ok (.lreturn, 1) := by decide +kernel
theorem dX11_cut_219 : decode cX11_cut 219 = .ok (.aload_n 0, 1) := by decide +kernel
theorem dX11_cut_220 : decode cX11_cut 220 = .ok (.iconst 1, 1) := by decide +kernel
theorem dX11_cut_221 : decode cX11_cut 221 = .ok (.putfield 227, 3) := by decide +kernel
theorem dX11_cut_224 : decode cX11_cut 224 = .ok (.aload_n 0, 1) := by decide +kernel
theorem dX11_cut_225 : decode cX11_cut 225 = .ok (.aload_n 0, 1) := by decide +kernel
theorem dX11_cut_226 : decode cX11_cut 226 = .ok (.getfield 148, 3) := by decide +kernel
theorem dX11_cut_229 : decode cX11_cut 229 = .ok (.putfield 230, 3) := by decide +kernel
theorem dX11_cut_232 : decode cX11_cut 232 = .ok (.lload_n 3, 1) := by decide +kernel
theorem dX11_cut_233 : decode cX11_cut 233 = .ok (.lreturn, 1) := by decide +kernel
set_option maxRecDepth 20000 in
theorem ggX11_put_X11_in : GoodIn wsX11_put wsX11_in := goodIn_r _ [7] (by decide +kernel) (by decide +kernel)
set_option maxRecDepth 20000 in
theorem gX11_put_X11_in : GoodIn wsX11_put (va_wsS RX11 151 yX11_in wsX11_in) := goodIn_app (goodIn_of _ (by decide +kernel)) ggX11_put_X11_in
theorem dX11_put_0 : decode cX11_put 0 = .ok (.aload_n 0, 1) := by decide +kernel
theorem dX11_put_1 : decode cX11_put 1 = .ok (.getfield 227, 3) := by decide +kernel
theorem dX11_put_4 : decode cX11_put 4 = .ok (.ifCond .eq 26, 3) := by decide +kernel
theorem dX11_put_7 : decode cX11_put 7 = .ok (.iload_n 1, 1) := by decide +kernel
theorem dX11_put_8 : decode cX11_put 8 = .ok (.iconst 0, 1) := by decide +kernel
theorem dX11_put_9 : decode cX11_put 9 = .ok (.aload_n 0, 1) := by decide +kernel
theorem dX11_put_10 : decode cX11_put 10 = .ok (.getfield 230, 3) := by decide +kernel
theorem dX11_put_13 : decode cX11_put 13 = .ok (.iconst 1, 1) := by decide +kernel
theorem dX11_put_14 : decode cX11_put 14 = .ok (.isub, 1) := by decide +kernel
theorem dX11_put_15 : decode cX11_put 15 = .ok (.invokestatic 151, 3) := by decide +kernel
theorem dX11_put_18 : decode cX11_put 18 = .ok (.ifCond .eq 12, 3) := by decide +kernel
theorem dX11_put_21 : decode cX11_put 21 = .ok (.aload_n 0, 1) := by decide +kernel
theorem dX11_put_22 : decode cX11_put 22 = .ok (.getfield 83, 3) := by decide +kernel
theorem dX11_put_25 : decode cX11_put 25 = .ok (.iload_n 1, 1) := by decide +kernel
theorem dX11_put_26 : decode cX11_put 26 = .ok (.iaload, 1) := by decide +kernel
theorem dX11_put_27 : decode cX11_put 27 = .ok (.goto 4, 3) := by decide +kernel
theorem dX11_put_30 : decode cX11_put 30 = .ok (.iconst (-1), 1) := by decide +kernel
theorem dX11_put_31 : decode cX11_put 31 = .ok (.ireturn, 1) := by decide +kernel
set_option maxRecDepth 20000 in
theorem ggX11_findLeads_X11_isTied : GoodIn wsX11_findLeads wsX11_isTied := goodIn_r _ [8, 9, 10, 11, 12, 13, 14, 15, 16, 17, 18, 19, 20, 21, 22, 23, 24, 25, 26, 27, 28, 29, 30, 31, 32, 33, 34, 35, 36, 37, 38, 39, 40, 41, 42, 43, 44, 45, 46, 47, 48, 49, 50, 51, 52, 53, 54, 55, 56, 57, 58, 59, 60, 61, 62, 63, 64, 65, 66, 67, 68, 69, 70, 71, 72, 73, 74, 75, 76] (by decide +kernel) (by decide +kernel)
set_option maxRecDepth 20000 in
theorem gX11_findLeads_X11_isTied : GoodIn wsX11_findLeads (wsV RX11 203 RX11 yX11_isTied wsX11_isTied) := goodIn_app (goodIn_of _ (by decide +kernel)) ggX11_findLeads_X11_isTied
theorem dX11_findLeads_0 : decode cX11_findLeads 0 = .ok (.iconst 0, 1) := by decide +kernel
theorem dX11_findLeads_1 : decode cX11_findLeads 1 = .ok (.istore_n 1, 1) := by decide +kernel
theorem dX11_findLeads_2 : decode cX11_findLeads 2 = .ok (.iload_n 1, 1) := by decide +kernel
theorem dX11_findLeads_3 : decode cX11_findLeads 3 = .ok (.bipush 36, 2) := by decide +kernel
theorem dX11_findLeads_5 : decode cX11_findLeads 5 = .ok (.if_icmp .ge 16, 3) := by decide +kernel
theorem dX11_findLeads_8 : decode cX11_findLeads 8 = .ok (.aload_n 0, 1) := by decide +kernel
theorem dX11_findLeads_9 : decode cX11_findLeads 9 = .ok (.getfield 92, 3) := by decide +kernel
theorem dX11_findLeads_12 : decode cX11_findLeads 12 = .ok (.iload_n 1, 1) := by decide +kernel
theorem dX11_findLeads_13 : decode cX11_findLeads 13 = .ok (.iconst 0, 1) := by decide +kernel
theorem dX11_findLeads_14 : decode cX11_findLeads 14 = .ok (.bastore, 1) := by decide +kernel
theorem dX11_findLeads_15 : decode cX11_findLeads 15 = .ok (.iinc 1 1, 3) := by decide +kernel
theorem dX11_findLeads_18 : decode cX11_findLeads 18 = .ok (.goto (-16), 3) := by decide +kernel
theorem dX11_findLeads_21 : decode cX11_findLeads 21 = .ok (.iconst 0, 1) := by decide +kernel
theorem dX11_findLeads_22 : decode cX11_findLeads 22 = .ok (.istore_n 1, 1) := by decide +kernel
theorem dX11_findLeads_23 : decode cX11_findLeads 23 = .ok (.iload_n 1, 1) := by decide +kernel
theorem dX11_findLeads_24 : decode cX11_findLeads 24 = .ok (.aload_n 0, 1) := by decide +kernel
theorem dX11_findLeads_25 : decode cX11_findLeads 25 = .ok (.getfield 148, 3) := by decide +kernel
theorem dX11_findLeads_28 : decode cX11_findLeads 28 = .ok (.if_icmp .ge 72, 3) := by decide +kernel
theorem dX11_findLeads_31 : decode cX11_findLeads 31 = .ok (.iconst 0, 1) := by decide +kernel
theorem dX11_findLeads_32 : decode cX11_findLeads 32 = .ok (.istore_n 2, 1) := by decide +kernel
theorem dX11_findLeads_33 : decode cX11_findLeads 33 = .ok (.iload_n 2, 1) := by decide +kernel
theorem dX11_findLeads_34 : decode cX11_findLeads 34 = .ok (.aload_n 0, 1) := by decide +kernel
theorem dX11_findLeads_35 : decode cX11_findLeads 35 = .ok (.getfield 148, 3) := by decide +kernel
theorem dX11_findLeads_38 : decode cX11_findLeads 38 = .ok (.if_icmp .ge 56, 3) := by decide +kernel
theorem dX11_findLeads_41 : decode cX11_findLeads 41 = .ok (.aload_n 0, 1) := by decide +kernel
theorem dX11_findLeads_42 : decode cX11_findLeads 42 = .ok (.getfield 74, 3) := by decide +kernel
theorem dX11_findLeads_45 : decode cX11_findLeads 45 = .ok (.iload_n 1, 1) := by decide +kernel
theorem dX11_findLeads_46 : decode cX11_findLeads 46 = .ok (.iaload, 1) := by decide +kernel
theorem dX11_findLeads_47 : decode cX11_findLeads 47 = .ok (.aload_n 0, 1) := by decide +kernel
theorem dX11_findLeads_48 : decode cX11_findLeads 48 = .ok (.getfield 74, 3) := by decide +kernel
theorem dX11_findLeads_51 : decode cX11_findLeads 51 = .ok (.iload_n 2, 1) := by decide +kernel
theorem dX11_findLeads_52 : decode cX11_findLeads 52 = .ok (.iaload, 1) := by decide +kernel
theorem dX11_findLeads_53 : decode cX11_findLeads 53 = .ok (.if_icmp .eq 35, 3) := by decide +kernel
theorem dX11_findLeads_56 : decode cX11_findLeads 56 = .ok (.aload_n 0, 1) := by decide +kernel
theorem dX11_findLeads_57 : decode cX11_findLeads 57 = .ok (.iconst 0, 1) := by decide +kernel
theorem dX11_findLeads_58 : decode cX11_findLeads 58 = .ok (.iload_n 1, 1) := by decide +kernel
theorem dX11_findLeads_59 : decode cX11_findLeads 59 = .ok (.iload_n 2, 1) := by decide +kernel
theorem dX11_findLeads_60 : decode cX11_findLeads 60 = .ok (.invokevirtual 203, 3) := by decide +kernel
theorem dX11_findLeads_63 : decode cX11_findLeads 63 = .ok (.ifCond .eq 25, 3) := by decide +kernel
theorem dX11_findLeads_66 : decode cX11_findLeads 66 = .ok (.aload_n 0, 1) := by decide +kernel
theorem dX11_findLeads_67 : decode cX11_findLeads 67 = .ok (.getfield 92, 3) := by decide +kernel
theorem dX11_findLeads_70 : decode cX11_findLeads 70 = .ok (.bipush 6, 2) := by decide +kernel
theorem dX11_findLeads_72 : decode cX11_findLeads 72 = .ok (.aload_n 0, 1) := by decide +kernel
theorem dX11_findLeads_73 : decode cX11_findLeads 73 = .ok (.getfield 74, 3) := by decide +kernel
theorem dX11_findLeads_76 : decode cX11_findLeads 76 = .ok (.iload_n 1, 1) := by decide +kernel
theorem dX11_findLeads_77 : decode cX11_findLeads 77 = .ok (.iaload, 1) := by decide +kernel
theorem dX11_findLeads_78 : decode cX11_findLeads 78 = .ok (.imul, 1) := by decide +kernel
theorem dX11_findLeads_79 : decode cX11_findLeads 79 = .ok (.aload_n 0, 1) := by decide +kernel
theorem dX11_findLeads_80 : decode cX11_findLeads 80 = .ok (.getfield 74, 3) := by decide +kernel
theorem dX11_findLeads_83 : decode cX11_findLeads 83 = .ok (.iload_n 2, 1) := by decide +kernel
theorem dX11_findLeads_84 : decode cX11_findLeads 84 = .ok (.iaload, 1) := by decide +kernel
theorem dX11_findLeads_85 : decode cX11_findLeads 85 = .ok (.iadd, 1) := by decide +kernel
theorem dX11_findLeads_86 : decode cX11_findLeads 86 = .ok (.iconst 1, 1) := by decide +kernel
theorem dX11_findLeads_87 : decode cX11_findLeads 87 = .ok (.bastore, 1) := by decide +kernel
theorem dX11_findLeads_88 : decode cX11_findLeads 88 = .ok (.iinc 2 1, 3) := by decide +kernel
theorem dX11_findLeads_91 : decode cX11_findLeads 91 = .ok (.goto (-58), 3) := by decide +kernel
theorem dX11_findLeads_94 : decode cX11_findLeads 94 = .ok (.iinc 1 1, 3) := by decide +kernel
theorem dX11_findLeads_97 : decode cX11_findLeads 97 = .ok (.goto (-74), 3) := by decide +kernel
theorem dX11_findLeads_100 : decode cX11_findLeads 100 = .ok (.return_, 1) := by decide +kernel
theorem dX11_isNext_0 : decode cX11_isNext 0 = .ok (.iconst 0, 1) := by decide +kernel
theorem dX11_isNext_1 : decode cX11_isNext 1 = .ok (.istore_n 2, 1) := by decide +kernel
theorem dX11_isNext_2 : decode cX11_isNext 2 = .ok (.iload_n 2, 1) := by decide +kernel
theorem dX11_isNext_3 : decode cX11_isNext 3 = .ok (.iload_n 1, 1) := by decide +kernel
theorem dX11_isNext_4 : decode cX11_isNext 4 = .ok (.if_icmp .ge 26, 3) := by decide +kernel
theorem dX11_isNext_7 : decode cX11_isNext 7 = .ok (.aload_n 0, 1) := by decide +kernel
