theorem dX0_init_0 : decode cX0_init 0 = .ok (.aload_n 0, 1) := by decide +kernel
theorem dX0_init_1 : decode cX0_init 1 = .ok (.invokespecial 3, 3) := by decide +kernel
theorem dX0_init_4 : decode cX0_init 4 = .ok (.aload_n 0, 1) := by decide +kernel
theorem dX0_init_5 : decode cX0_init 5 = .ok (.sipush 128, 3) := by decide +kernel
theorem dX0_init_8 : decode cX0_init 8 = .ok (.newarray .int, 2) := by decide +kernel
theorem dX0_init_10 : decode cX0_init 10 = .ok (.putfield 9, 3) := by decide +kernel
theorem dX0_init_13 : decode cX0_init 13 = .ok (.aload_n 0, 1) := by decide +kernel
theorem dX0_init_14 : decode cX0_init 14 = .ok (.sipush 128, 3) := by decide +kernel
theorem dX0_init_17 : decode cX0_init 17 = .ok (.newarray .boolean, 2) := by decide +kernel
theorem dX0_init_19 : decode cX0_init 19 = .ok (.putfield 15, 3) := by decide +kernel
theorem dX0_init_22 : decode cX0_init 22 = .ok (.aload_n 0, 1) := by decide +kernel
theorem dX0_init_23 : decode cX0_init 23 = .ok (.sipush 128, 3) := by decide +kernel
theorem dX0_init_26 : decode cX0_init 26 = .ok (.newarray .int, 2) := by decide +kernel
theorem dX0_init_28 : decode cX0_init 28 = .ok (.putfield 19, 3) := by decide +kernel
theorem dX0_init_31 : decode cX0_init 31 = .ok (.aload_n 0, 1) := by decide +kernel
theorem dX0_init_32 : decode cX0_init 32 = .ok (.sipush 300, 3) := by decide +kernel
theorem dX0_init_35 : decode cX0_init 35 = .ok (.newarray .int, 2) := by decide +kernel
theorem dX0_init_37 : decode cX0_init 37 = .ok (.putfield 22, 3) := by decide +kernel
theorem dX0_init_40 : decode cX0_init 40 = .ok (.aload_n 0, 1) := by decide +kernel
theorem dX0_init_41 : decode cX0_init 41 = .ok (.bipush 8, 2) := by decide +kernel
theorem dX0_init_43 : decode cX0_init 43 = .ok (.newarray .int, 2) := by decide +kernel
theorem dX0_init_45 : decode cX0_init 45 = .ok (.putfield 25, 3) := by decide +kernel
theorem dX0_init_48 : decode cX0_init 48 = .ok (.aload_n 0, 1) := by decide +kernel
theorem dX0_init_49 : decode cX0_init 49 = .ok (.bipush 8, 2) := by decide +kernel
theorem dX0_init_51 : decode cX0_init 51 = .ok (.newarray .int, 2) := by decide +kernel
theorem dX0_init_53 : decode cX0_init 53 = .ok (.putfield 28, 3) := by decide +kernel
theorem dX0_init_56 : decode cX0_init 56 = .ok (.return_, 1) := by decide +kernel
set_option maxRecDepth 20000 in
theorem ggX0_perform_X0_begin : GoodIn wsX0_perform wsX0_begin := goodIn_r _ [6, 7, 8, 9, 10, 11, 12, 13, 14, 15, 1, 16, 55, 56, 57, 58, 59, 60, 61, 62, 63, 64] (by decide +kernel) (by decide +kernel)
set_option maxRecDepth 20000 in
theorem gX0_perform_X0_begin : GoodIn wsX0_perform (wsV RX0 31 RX0 yX0_begin wsX0_begin) := goodIn_app (goodIn_of _ (by decide +kernel)) ggX0_perform_X0_begin
set_option maxRecDepth 20000 in
theorem ggX0_perform_X0_enter : GoodIn wsX0_perform wsX0_enter := goodIn_r _ [20, 1, 21, 22, 55, 56, 57, 58, 59, 60, 61, 62, 63, 64] (by decide +kernel) (by decide +kernel)
set_option maxRecDepth 20000 in
theorem gX0_perform_X0_enter : GoodIn wsX0_perform (wsV RX0 35 RX0 yX0_enter wsX0_enter) := goodIn_app (goodIn_of _ (by decide +kernel)) ggX0_perform_X0_enter
set_option maxRecDepth 20000 in
theorem ggX0_perform_X0_leaveEnded : GoodIn wsX0_perform wsX0_leaveEnded := goodIn_r _ [26, 1, 22, 27, 21, 55, 56, 57, 58, 59, 60, 61, 62, 63, 64, 65, 66, 67, 68, 69, 70, 71, 72, 73, 74, 75] (by decide +kernel) (by decide +kernel)
set_option maxRecDepth 20000 in
theorem gX0_perform_X0_leaveEnded : GoodIn wsX0_perform (wsV RX0 39 RX0 yX0_leaveEnded wsX0_leaveEnded) := goodIn_app (goodIn_of _ (by decide +kernel)) ggX0_perform_X0_leaveEnded
set_option maxRecDepth 20000 in
theorem ggX0_perform_X0_doNextLine : GoodIn wsX0_perform wsX0_doNextLine := goodIn_r _ [31, 1, 21, 22, 32, 33, 34, 16, 7, 35, 36, 37, 38, 39, 40, 41, 42, 43, 44, 45, 46, 47, 48, 5, 49, 15, 50, 51, 52, 53, 54, 13, 14, 12, 17, 18, 19, 20, 55, 56, 57, 58, 59, 60, 61, 62, 63, 64, 65, 66, 67, 68, 69, 70, 71, 72, 73, 74, 75] (by decide +kernel) (by decide +kernel)
set_option maxRecDepth 20000 in
theorem gX0_perform_X0_doNextLine : GoodIn wsX0_perform (wsV RX0 47 RX0 yX0_doNextLine wsX0_doNextLine) := goodIn_app (goodIn_of _ (by decide +kernel)) ggX0_perform_X0_doNextLine
theorem dX0_perform_0 : decode cX0_perform 0 = .ok (.aload_n 0, 1) := by decide +kernel
theorem dX0_perform_1 : decode cX0_perform 1 = .ok (.aload 4, 2) := by decide +kernel
theorem dX0_perform_3 : decode cX0_perform 3 = .ok (.iload_n 3, 1) := by decide +kernel
theorem dX0_perform_4 : decode cX0_perform 4 = .ok (.invokevirtual 31, 3) := by decide +kernel
theorem dX0_perform_7 : decode cX0_perform 7 = .ok (.aload_n 0, 1) := by decide +kernel
theorem dX0_perform_8 : decode cX0_perform 8 = .ok (.iload_n 2, 1) := by decide +kernel
theorem dX0_perform_9 : decode cX0_perform 9 = .ok (.invokevirtual 35, 3) := by decide +kernel
theorem dX0_perform_12 : decode cX0_perform 12 = .ok (.pop, 1) := by decide +kernel
theorem dX0_perform_13 : decode cX0_perform 13 = .ok (.iconst 0, 1) := by decide +kernel
theorem dX0_perform_14 : decode cX0_perform 14 = .ok (.istore 5, 2) := by decide +kernel
theorem dX0_perform_16 : decode cX0_perform 16 = .ok (.iload 5, 2) := by decide +kernel
theorem dX0_perform_18 : decode cX0_perform 18 = .ok (.sipush 300, 3) := by decide +kernel
theorem dX0_perform_21 : decode cX0_perform 21 = .ok (.if_icmp .ge 33, 3) := by decide +kernel
theorem dX0_perform_24 : decode cX0_perform 24 = .ok (.aload_n 0, 1) := by decide +kernel
theorem dX0_perform_25 : decode cX0_perform 25 = .ok (.aload_n 1, 1) := by decide +kernel
theorem dX0_perform_26 : decode cX0_perform 26 = .ok (.invokevirtual 39, 3) := by decide +kernel
theorem dX0_perform_29 : decode cX0_perform 29 = .ok (.aload_n 0, 1) := by decide +kernel
theorem dX0_perform_30 : decode cX0_perform 30 = .ok (.getfield 43, 3) := by decide +kernel
theorem dX0_perform_33 : decode cX0_perform 33 = .ok (.ifCond .ne 5, 3) := by decide +kernel
theorem dX0_perform_36 : decode cX0_perform 36 = .ok (.iconst 1, 1) := by decide +kernel
theorem dX0_perform_37 : decode cX0_perform 37 = .ok (.ireturn, 1) := by decide +kernel
theorem dX0_perform_38 : decode cX0_perform 38 = .ok (.aload_n 0, 1) := by decide +kernel
theorem dX0_perform_39 : decode cX0_perform 39 = .ok (.aload_n 1, 1) := by decide +kernel
theorem dX0_perform_40 : decode cX0_perform 40 = .ok (.invokevirtual 47, 3) := by decide +kernel
theorem dX0_perform_43 : decode cX0_perform 43 = .ok (.ifCond .ne 5, 3) := by decide +kernel
theorem dX0_perform_46 : decode cX0_perform 46 = .ok (.iconst 0, 1) := by decide +kernel
theorem dX0_perform_47 : decode cX0_perform 47 = .ok (.ireturn, 1) := by decide +kernel
theorem dX0_perform_48 : decode cX0_perform 48 = .ok (.iinc 5 1, 3) := by decide +kernel
theorem dX0_perform_51 : decode cX0_perform 51 = .ok (.goto (-35), 3) := by decide +kernel
theorem dX0_perform_54 : decode cX0_perform 54 = .ok (.aload_n 0, 1) := by decide +kernel
theorem dX0_perform_55 : decode cX0_perform 55 = .ok (.aload_n 1, 1) := by decide +kernel
theorem dX0_perform_56 : decode cX0_perform 56 = .ok (.invokevirtual 39, 3) := by decide +kernel
theorem dX0_perform_59 : decode cX0_perform 59 = .ok (.aload_n 0, 1) := by decide +kernel
theorem dX0_perform_60 : decode cX0_perform 60 = .ok (.getfield 43, 3) := by decide +kernel
theorem dX0_perform_63 : decode cX0_perform 63 = .ok (.ifCond .ne 7, 3) := by decide +kernel
theorem dX0_perform_66 : decode cX0_perform 66 = .ok (.iconst 1, 1) := by decide +kernel
theorem dX0_perform_67 : decode cX0_perform 67 = .ok (.goto 4, 3) := by decide +kernel
theorem dX0_perform_70 : decode cX0_perform 70 = .ok (.iconst 0, 1) := by decide +kernel
theorem dX0_perform_71 : decode cX0_perform 71 = .ok (.ireturn, 1) := by decide +kernel
theorem dX0_begin_0 : decode cX0_begin 0 = .ok (.aload_n 1, 1) := by decide +kernel
theorem dX0_begin_1 : decode cX0_begin 1 = .ok (.iconst 0, 1) := by decide +kernel
theorem dX0_begin_2 : decode cX0_begin 2 = .ok (.aload_n 0, 1) := by decide +kernel
theorem dX0_begin_3 : decode cX0_begin 3 = .ok (.getfield 9, 3) := by decide +kernel
theorem dX0_begin_6 : decode cX0_begin 6 = .ok (.iconst 0, 1) := by decide +kernel
theorem dX0_begin_7 : decode cX0_begin 7 = .ok (.sipush 128, 3) := by decide +kernel
theorem dX0_begin_10 : decode cX0_begin 10 = .ok (.invokestatic 51, 3) := by decide +kernel
theorem dX0_begin_13 : decode cX0_begin 13 = .ok (.iconst 0, 1) := by decide +kernel
theorem dX0_begin_14 : decode cX0_begin 14 = .ok (.istore_n 3, 1) := by decide +kernel
theorem dX0_begin_15 : decode cX0_begin 15 = .ok (.iload_n 3, 1) := by decide +kernel
theorem dX0_begin_16 : decode cX0_begin 16 = .ok (.aload_n 0, 1) := by decide +kernel
theorem dX0_begin_17 : decode cX0_begin 17 = .ok (.getfield 57, 3) := by decide +kernel
theorem dX0_begin_20 : decode cX0_begin 20 = .ok (.if_icmp .ge 21, 3) := by decide +kernel
theorem dX0_begin_23 : decode cX0_begin 23 = .ok (.aload_n 0, 1) := by decide +kernel
theorem dX0_begin_24 : decode cX0_begin 24 = .ok (.getfield 15, 3) := by decide +kernel
theorem dX0_begin_27 : decode cX0_begin 27 = .ok (.aload_n 0, 1) := by decide +kernel
theorem dX0_begin_28 : decode cX0_begin 28 = .ok (.getfield 19, 3) := by decide +kernel
theorem dX0_begin_31 : decode cX0_begin 31 = .ok (.iload_n 3, 1) := by decide +kernel
theorem dX0_begin_32 : decode cX0_begin 32 = .ok (.iaload, 1) := by decide +kernel
theorem dX0_begin_33 : decode cX0_begin 33 = .ok (.iconst 0, 1) := by decide +kernel
theorem dX0_begin_34 : decode cX0_begin 34 = .ok (.bastore, 1) := by decide +kernel
theorem dX0_begin_35 : decode cX0_begin 35 = .ok (.iinc 3 1, 3) := by decide +kernel
theorem dX0_begin_38 : decode cX0_begin 38 = .ok (.goto (-23), 3) := by decide +kernel
theorem dX0_begin_41 : decode cX0_begin 41 = .ok (.aload_n 0, 1) := by decide +kernel
theorem dX0_begin_42 : decode cX0_begin 42 = .ok (.iconst 0, 1) := by decide +kernel
theorem dX0_begin_43 : decode cX0_begin 43 = .ok (.putfield 57, 3) := by decide +kernel
theorem dX0_begin_46 : decode cX0_begin 46 = .ok (.aload_n 0, 1) := by decide +kernel
theorem dX0_begin_47 : decode cX0_begin 47 = .ok (.iconst 0, 1) := by decide +kernel
theorem dX0_begin_48 : decode cX0_begin 48 = .ok (.putfield 60, 3) := by decide +kernel
theorem dX0_begin_51 : decode cX0_begin 51 = .ok (.aload_n 0, 1) := by decide +kernel
theorem dX0_begin_52 : decode cX0_begin 52 = .ok (.iconst 0, 1) := by decide +kernel
theorem dX0_begin_53 : decode cX0_begin 53 = .ok (.putfield 43, 3) := by decide +kernel
theorem dX0_begin_56 : decode cX0_begin 56 = .ok (.aload_n 0, 1) := by decide +kernel
theorem dX0_begin_57 : decode cX0_begin 57 = .ok (.iload_n 2, 1) := by decide +kernel
theorem dX0_begin_58 : decode cX0_begin 58 = .ok (.putfield 63, 3) := by decide +kernel
theorem dX0_begin_61 : decode cX0_begin 61 = .ok (.return_, 1) := by decide +kernel
theorem dX0_enter_0 : decode cX0_enter 0 = .ok (.aload_n 0, 1) := by decide +kernel
theorem dX0_enter_1 : decode cX0_enter 1 = .ok (.getfield 43, 3) := by decide +kernel
theorem dX0_enter_4 : decode cX0_enter 4 = .ok (.bipush 8, 2) := by decide +kernel
theorem dX0_enter_6 : decode cX0_enter 6 = .ok (.if_icmp .lt 5, 3) := by decide +kernel
theorem dX0_enter_9 : decode cX0_enter 9 = .ok (.iconst 0, 1) := by decide +kernel
theorem dX0_enter_10 : decode cX0_enter 10 = .ok (.ireturn, 1) := by decide +kernel
theorem dX0_enter_11 : decode cX0_enter 11 = .ok (.aload_n 0, 1) := by decide +kernel
theorem dX0_enter_12 : decode cX0_enter 12 = .ok (.getfield 25, 3) := by decide +kernel
theorem dX0_enter_15 : decode cX0_enter 15 = .ok (.aload_n 0, 1) := by decide +kernel
theorem dX0_enter_16 : decode cX0_enter 16 = .ok (.getfield 43, 3) := by decide +kernel
theorem dX0_enter_19 : decode cX0_enter 19 = .ok (.iload_n 1, 1) := by decide +kernel
theorem dX0_enter_20 : decode cX0_enter 20 = .ok (.iastore, 1) := by decide +kernel
theorem dX0_enter_21 : decode cX0_enter 21 = .ok (.aload_n 0, 1) := by decide +kernel
theorem dX0_enter_22 : decode cX0_enter 22 = .ok (.getfield 28, 3) := by decide +kernel
theorem dX0_enter_25 : decode cX0_enter 25 = .ok (.aload_n 0, 1) := by decide +kernel
theorem dX0_enter_26 : decode cX0_enter 26 = .ok (.getfield 43, 3) := by decide +kernel
theorem dX0_enter_29 : decode cX0_enter 29 = .ok (.iconst 0, 1) := by decide +kernel
theorem dX0_enter_30 : decode cX0_enter 30 = .ok (.iastore, 1) := by decide +kernel
theorem dX0_enter_31 : decode cX0_enter 31 = .ok (.aload_n 0, 1) := by decide +kernel
theorem dX0_enter_32 : decode cX0_enter 32 = .ok (.dup, 1) := by decide +kernel
theorem dX0_enter_33 : decode cX0_enter 33 = .ok (.getfield 43, 3) := by decide +kernel
theorem dX0_enter_36 : decode cX0_enter 36 = .ok (.iconst 1, 1) := by decide +kernel
theorem dX0_enter_37 : decode cX0_enter 37 = .ok (.iadd, 1) := by decide +kernel
theorem dX0_enter_38 : decode cX0_enter 38 = .ok (.putfield 43, 3) := by decide +kernel
theorem dX0_enter_41 : decode cX0_enter 41 = .ok (.iconst 1, 1) := by decide +kernel
theorem dX0_enter_42 : decode cX0_enter 42 = .ok (.ireturn, 1) := by decide +kernel
theorem dX0_leaveEnded_0 : decode cX0_leaveEnded 0 = .ok (.aload_n 0, 1) := by decide +kernel
theorem dX0_leaveEnded_1 : decode cX0_leaveEnded 1 = .ok (.getfield 43, 3) := by decide +kernel
theorem dX0_leaveEnded_4 : decode cX0_leaveEnded 4 = .ok (.ifCond .le 46, 3) := by decide +kernel
theorem dX0_leaveEnded_7 : decode cX0_leaveEnded 7 = .ok (.aload_n 0, 1) := by decide +kernel
theorem dX0_leaveEnded_8 : decode cX0_leaveEnded 8 = .ok (.getfield 28, 3) := by decide +kernel
theorem dX0_leaveEnded_11 : decode cX0_leaveEnded 11 = .ok (.aload_n 0, 1) := by decide +kernel
theorem dX0_leaveEnded_12 : decode cX0_leaveEnded 12 = .ok (.getfield 43, 3) := by decide +kernel
theorem dX0_leaveEnded_15 : decode cX0_leaveEnded 15 = .ok (.iconst 1, 1) := by decide +kernel
theorem dX0_leaveEnded_16 : decode cX0_leaveEnded 16 = .ok (.isub, 1) := by decide +kernel
theorem dX0_leaveEnded_17 : decode cX0_leaveEnded 17 = .ok (.iaload, 1) := by decide +kernel
theorem dX0_leaveEnded_18 : decode cX0_leaveEnded 18 = .ok (.aload_n 1, 1) := by decide +kernel
theorem dX0_leaveEnded_19 : decode cX0_leaveEnded 19 = .ok (.getfield 66, 3) := by decide +kernel
theorem dX0_leaveEnded_22 : decode cX0_leaveEnded 22 = .ok (.aload_n 0, 1) := by decide +kernel
theorem dX0_leaveEnded_23 : decode cX0_leaveEnded 23 = .ok (.getfield 25, 3) := by decide +kernel
theorem dX0_leaveEnded_26 : decode cX0_leaveEnded 26 = .ok (.aload_n 0, 1) := by decide +kernel
theorem dX0_leaveEnded_27 : decode cX0_leaveEnded 27 = .ok (.getfield 43, 3) := by decide +kernel
theorem dX0_leaveEnded_30 : decode cX0_leaveEnded 30 = .ok (.iconst 1, 1) := by decide +kernel
theorem dX0_leaveEnded_31 : decode cX0_leaveEnded 31 = .ok (.isub, 1) := by decide +kernel
theorem dX0_leaveEnded_32 : decode cX0_leaveEnded 32 = .ok (.iaload, 1) := by decide +kernel
theorem dX0_leaveEnded_33 : decode cX0_leaveEnded 33 = .ok (.iaload, 1) := by decide +kernel
theorem dX0_leaveEnded_34 : decode cX0_leaveEnded 34 = .ok (.if_icmp .lt 16, 3) := by decide +kernel
theorem dX0_leaveEnded_37 : decode cX0_leaveEnded 37 = .ok (.aload_n 0, 1) := by decide +kernel
theorem dX0_leaveEnded_38 : decode cX0_leaveEnded 38 = .ok (.dup, 1) := by decide +kernel
theorem dX0_leaveEnded_39 : decode cX0_leaveEnded 39 = .ok (.getfield 43, 3) := by decide +kernel
theorem dX0_leaveEnded_42 : decode cX0_leaveEnded 42 = .ok (.iconst 1, 1) := by decide +kernel
theorem dX0_leaveEnded_43 : decode cX0_leaveEnded 43 = .ok (.isub, 1) := by decide +kernel
theorem dX0_leaveEnded_44 : decode cX0_leaveEnded 44 = .ok (.putfield 43, 3) := by decide +kernel
theorem dX0_leaveEnded_47 : decode cX0_leaveEnded 47 = .ok (.goto (-47), 3) := by decide +kernel
theorem dX0_leaveEnded_50 : decode cX0_leaveEnded 50 = .ok (.return_, 1) := by decide +kernel
set_option maxRecDepth 20000 in
theorem ggX0_doNextLine_X9_tieOfLine : GoodIn wsX0_doNextLine wsX9_tieOfLine := goodIn_r _ [13, 14, 15, 16, 17, 18, 19, 48, 49, 50, 51, 52, 53, 54, 55, 56, 57, 58] (by decide +kernel) (by decide +kernel)
set_option maxRecDepth 20000 in
theorem gX0_doNextLine_X9_tieOfLine : GoodIn wsX0_doNextLine (wsV RX0 71 RX9 yX9_tieOfLine wsX9_tieOfLine) := goodIn_app (goodIn_of _ (by decide +kernel)) ggX0_doNextLine_X9_tieOfLine
set_option maxRecDepth 20000 in
theorem ggX0_doNextLine_X0_noteTie : GoodIn wsX0_doNextLine wsX0_noteTie := goodIn_r _ [24, 25, 26, 38, 39, 40, 41, 42, 43, 44, 45, 46, 47] (by decide +kernel) (by decide +kernel)
set_option maxRecDepth 20000 in
theorem gX0_doNextLine_X0_noteTie : GoodIn wsX0_doNextLine (wsV RX0 75 RX0 yX0_noteTie wsX0_noteTie) := goodIn_app (goodIn_of _ (by decide +kernel)) ggX0_doNextLine_X0_noteTie
set_option maxRecDepth 20000 in
theorem ggX0_doNextLine_X0_write : GoodIn wsX0_doNextLine wsX0_write := goodIn_r _ [30, 8, 7, 31, 32, 33, 38, 39, 40, 41, 42, 43, 44, 45, 46, 47] (by decide +kernel) (by decide +kernel)
set_option maxRecDepth 20000 in
theorem gX0_doNextLine_X0_write : GoodIn wsX0_doNextLine (wsV RX0 88 RX0 yX0_write wsX0_write) := goodIn_app (goodIn_of _ (by decide +kernel)) ggX0_doNextLine_X0_write
set_option maxRecDepth 20000 in
theorem ggX0_doNextLine_X0_enter : GoodIn wsX0_doNextLine wsX0_enter := goodIn_r _ [37, 1, 2, 3, 38, 39, 40, 41, 42, 43, 44, 45, 46, 47] (by decide +kernel) (by decide +kernel)
set_option maxRecDepth 20000 in
theorem gX0_doNextLine_X0_enter : GoodIn wsX0_doNextLine (wsV RX0 35 RX0 yX0_enter wsX0_enter) := goodIn_app (goodIn_of _ (by decide +kernel)) ggX0_doNextLine_X0_enter
theorem dX0_doNextLine_0 : decode cX0_doNextLine 0 = .ok (.aload_n 0, 1) := by decide +kernel
theorem dX0_doNextLine_1 : decode cX0_doNextLine 1 = .ok (.getfield 43, 3) := by decide +kernel
theorem dX0_doNextLine_4 : decode cX0_doNextLine 4 = .ok (.iconst 1, 1) := by decide +kernel
theorem dX0_doNextLine_5 : decode cX0_doNextLine 5 = .ok (.isub, 1) := by decide +kernel
theorem dX0_doNextLine_6 : decode cX0_doNextLine 6 = .ok (.istore_n 2, 1) := by decide +kernel
theorem dX0_doNextLine_7 : decode cX0_doNextLine 7 = .ok (.aload_n 0, 1) := by decide +kernel
theorem dX0_doNextLine_8 : decode cX0_doNextLine 8 = .ok (.getfield 25, 3) := by decide +kernel
theorem dX0_doNextLine_11 : decode cX0_doNextLine 11 = .ok (.iload_n 2, 1) := by decide +kernel
theorem dX0_doNextLine_12 : decode cX0_doNextLine 12 = .ok (.iaload, 1) := by decide +kernel
theorem dX0_doNextLine_13 : decode cX0_doNextLine 13 = .ok (.istore_n 3, 1) := by decide +kernel
theorem dX0_doNextLine_14 : decode cX0_doNextLine 14 = .ok (.iload_n 3, 1) := by decide +kernel
theorem dX0_doNextLine_15 : decode cX0_doNextLine 15 = .ok (.bipush 16, 2) := by decide +kernel
theorem dX0_doNextLine_17 : decode cX0_doNextLine 17 = .ok (.imul, 1) := by decide +kernel
theorem dX0_doNextLine_18 : decode cX0_doNextLine 18 = .ok (.aload_n 0, 1) := by decide +kernel
theorem dX0_doNextLine_19 : decode cX0_doNextLine 19 = .ok (.getfield 28, 3) := by decide +kernel
theorem dX0_doNextLine_22 : decode cX0_doNextLine 22 = .ok (.iload_n 2, 1) := by decide +kernel
theorem dX0_doNextLine_23 : decode cX0_doNextLine 23 = .ok (.iaload, 1) := by decide +kernel
theorem dX0_doNextLine_24 : decode cX0_doNextLine 24 = .ok (.iadd, 1) := by decide +kernel
theorem dX0_doNextLine_25 : decode cX0_doNextLine 25 = .ok (.istore 4, 2) := by decide +kernel
theorem dX0_doNextLine_27 : decode cX0_doNextLine 27 = .ok (.aload_n 0, 1) := by decide +kernel
theorem dX0_doNextLine_28 : decode cX0_doNextLine 28 = .ok (.getfield 28, 3) := by decide +kernel
theorem dX0_doNextLine_31 : decode cX0_doNextLine 31 = .ok (.iload_n 2, 1) := by decide +kernel
theorem dX0_doNextLine_32 : decode cX0_doNextLine 32 = .ok (.dup2, 1) := by decide +kernel
theorem dX0_doNextLine_33 : decode cX0_doNextLine 33 = .ok (.iaload, 1) := by decide +kernel
theorem dX0_doNextLine_34 : decode cX0_doNextLine 34 = .ok (.iconst 1, 1) := by decide +kernel
theorem dX0_doNextLine_35 : decode cX0_doNextLine 35 = .ok (.iadd, 1) := by decide +kernel
theorem dX0_doNextLine_36 : decode cX0_doNextLine 36 = .ok (.iastore, 1) := by decide +kernel
theorem dX0_doNextLine_37 : decode cX0_doNextLine 37 = .ok (.aload_n 0, 1) := by decide +kernel
theorem dX0_doNextLine_38 : decode cX0_doNextLine 38 = .ok (.aload_n 1, 1) := by decide +kernel
theorem dX0_doNextLine_39 : decode cX0_doNextLine 39 = .ok (.iload_n 3, 1) := by decide +kernel
theorem dX0_doNextLine_40 : decode cX0_doNextLine 40 = .ok (.iload 4, 2) := by decide +kernel
theorem dX0_doNextLine_42 : decode cX0_doNextLine 42 = .ok (.invokevirtual 71, 3) := by decide +kernel
theorem dX0_doNextLine_45 : decode cX0_doNextLine 45 = .ok (.invokevirtual 75, 3) := by decide +kernel
theorem dX0_doNextLine_48 : decode cX0_doNextLine 48 = .ok (.aload_n 1, 1) := by decide +kernel
theorem dX0_doNextLine_49 : decode cX0_doNextLine 49 = .ok (.getfield 79, 3) := by decide +kernel
theorem dX0_doNextLine_52 : decode cX0_doNextLine 52 = .ok (.iload 4, 2) := by decide +kernel
theorem dX0_doNextLine_54 : decode cX0_doNextLine 54 = .ok (.iaload, 1) := by decide +kernel
theorem dX0_doNextLine_55 : decode cX0_doNextLine 55 = .ok (.istore 5, 2) := by decide +kernel
theorem dX0_doNextLine_57 : decode cX0_doNextLine 57 = .ok (.iload 5, 2) := by decide +kernel
theorem dX0_doNextLine_59 : decode cX0_doNextLine 59 = .ok (.bipush 8, 2) := by decide +kernel
theorem dX0_doNextLine_61 : decode cX0_doNextLine 61 = .ok (.imul, 1) := by decide +kernel
theorem dX0_doNextLine_62 : decode cX0_doNextLine 62 = .ok (.aload_n 1, 1) := by decide +kernel
theorem dX0_doNextLine_63 : decode cX0_doNextLine 63 = .ok (.getfield 82, 3) := by decide +kernel
theorem dX0_doNextLine_66 : decode cX0_doNextLine 66 = .ok (.iload 4, 2) := by decide +kernel
theorem dX0_doNextLine_68 : decode cX0_doNextLine 68 = .ok (.iaload, 1) := by decide +kernel
theorem dX0_doNextLine_69 : decode cX0_doNextLine 69 = .ok (.iadd, 1) := by decide +kernel
theorem dX0_doNextLine_70 : decode cX0_doNextLine 70 = .ok (.istore 6, 2) := by decide +kernel
theorem dX0_doNextLine_72 : decode cX0_doNextLine 72 = .ok (.aload_n 1, 1) := by decide +kernel
theorem dX0_doNextLine_73 : decode cX0_doNextLine 73 = .ok (.getfield 85, 3) := by decide +kernel
theorem dX0_doNextLine_76 : decode cX0_doNextLine 76 = .ok (.iload 4, 2) := by decide +kernel
theorem dX0_doNextLine_78 : decode cX0_doNextLine 78 = .ok (.iaload, 1) := by decide +kernel
theorem dX0_doNextLine_79 : decode cX0_doNextLine 79 = .ok (.tableswitch 167 0 8 #[49, 57, 70, 83, 91, 98, 118, 131, 149], 49) := by decide +kernel
theorem dX0_doNextLine_128 : decode cX0_doNextLine 128 = .ok (.aload_n 0, 1) := by decide +kernel
theorem dX0_doNextLine_129 : decode cX0_doNextLine 129 = .ok (.iload 5, 2) := by decide +kernel
theorem dX0_doNextLine_131 : decode cX0_doNextLine 131 = .ok (.putfield 63, 3) := by decide +kernel
theorem dX0_doNextLine_134 : decode cX0_doNextLine 134 = .ok (.iconst 1, 1) := by decide +kernel
theorem dX0_doNextLine_135 : decode cX0_doNextLine 135 = .ok (.ireturn, 1) := by decide +kernel
theorem dX0_doNextLine_136 : decode cX0_doNextLine 136 = .ok (.aload_n 0, 1) := by decide +kernel
theorem dX0_doNextLine_137 : decode cX0_doNextLine 137 = .ok (.dup, 1) := by decide +kernel
theorem dX0_doNextLine_138 : decode cX0_doNextLine 138 = .ok (.getfield 63, 3) := by decide +kernel
theorem dX0_doNextLine_141 : decode cX0_doNextLine 141 = .ok (.iload 5, 2) := by decide +kernel
theorem dX0_doNextLine_143 : decode cX0_doNextLine 143 = .ok (.iadd, 1) := by decide +kernel
theorem dX0_doNextLine_144 : decode cX0_doNextLine 144 = .ok (.putfield 63, 3) := by decide +kernel
theorem dX0_doNextLine_147 : decode cX0_doNextLine 147 = .ok (.iconst 1, 1) := by decide +kernel
theorem dX0_doNextLine_148 : decode cX0_doNextLine 148 = .ok (.ireturn, 1) := by decide +kernel
theorem dX0_doNextLine_149 : decode cX0_doNextLine 149 = .ok (.aload_n 0, 1) := by decide +kernel
theorem dX0_doNextLine_150 : decode cX0_doNextLine 150 = .ok (.aload_n 0, 1) := by decide +kernel
theorem dX0_doNextLine_151 : decode cX0_doNextLine 151 = .ok (.getfield 9, 3) := by decide +kernel
theorem dX0_doNextLine_154 : decode cX0_doNextLine 154 = .ok (.iload 6, 2) := by decide +kernel
theorem dX0_doNextLine_156 : decode cX0_doNextLine 156 = .ok (.iaload, 1) := by decide +kernel
theorem dX0_doNextLine_157 : decode cX0_doNextLine 157 = .ok (.putfield 63, 3) := by decide +kernel
theorem dX0_doNextLine_160 : decode cX0_doNextLine 160 = .ok (.iconst 1, 1) := by decide +kernel
theorem dX0_doNextLine_161 : decode cX0_doNextLine 161 = .ok (.ireturn, 1) := by decide +kernel
theorem dX0_doNextLine_162 : decode cX0_doNextLine 162 = .ok (.aload_n 0, 1) := by decide +kernel
theorem dX0_doNextLine_163 : decode cX0_doNextLine 163 = .ok (.iload 6, 2) := by decide +kernel
theorem dX0_doNextLine_165 : decode cX0_doNextLine 165 = .ok (.invokevirtual 88, 3) := by decide +kernel
theorem dX0_doNextLine_168 : decode cX0_doNextLine 168 = .ok (.iconst 1, 1) := by decide +kernel
theorem dX0_doNextLine_169 : decode cX0_doNextLine 169 = .ok (.ireturn, 1) := by decide +kernel
theorem dX0_doNextLine_170 : decode cX0_doNextLine 170 = .ok (.aload_n 0, 1) := by decide +kernel
theorem dX0_doNextLine_171 : decode cX0_doNextLine 171 = .ok (.iload 5, 2) := by decide +kernel
theorem dX0_doNextLine_173 : decode cX0_doNextLine 173 = .ok (.invokevirtual 35, 3) := by decide +kernel
theorem dX0_doNextLine_176 : decode cX0_doNextLine 176 = .ok (.ireturn, 1) := by decide +kernel
theorem dX0_doNextLine_177 : decode cX0_doNextLine 177 = .ok (.aload_n 0, 1) := by decide +kernel
theorem dX0_doNextLine_178 : decode cX0_doNextLine 178 = .ok (.getfield 63, 3) := by decide +kernel
theorem dX0_doNextLine_181 : decode cX0_doNextLine 181 = .ok (.ifCond .ne 14, 3) := by decide +kernel
theorem dX0_doNextLine_184 : decode cX0_doNextLine 184 = .ok (.aload_n 0, 1) := by decide +kernel
theorem dX0_doNextLine_185 : decode cX0_doNextLine 185 = .ok (.getfield 28, 3) := by decide +kernel
theorem dX0_doNextLine_188 : decode cX0_doNextLine 188 = .ok (.iload_n 2, 1) := by decide +kernel
theorem dX0_doNextLine_189 : decode cX0_doNextLine 189 = .ok (.dup2, 1) := by decide +kernel
theorem dX0_doNextLine_190 : decode cX0_doNextLine 190 = .ok (.iaload, 1) := by decide +kernel
theorem dX0_doNextLine_191 : decode cX0_doNextLine 191 = .ok (.iload 5, 2) := by decide +kernel
theorem dX0_doNextLine_193 : decode cX0_doNextLine 193 = .ok (.iadd, 1) := by decide +kernel
theorem dX0_doNextLine_194 : decode cX0_doNextLine 194 = .ok (.iastore, 1) := by decide +kernel
theorem dX0_doNextLine_195 : decode cX0_doNextLine 195 = .ok (.iconst 1, 1) := by decide +kernel
theorem dX0_doNextLine_196 : decode cX0_doNextLine 196 = .ok (.ireturn, 1) := by decide +kernel
theorem dX0_doNextLine_197 : decode cX0_doNextLine 197 = .ok (.aload_n 0, 1) := by decide +kernel
theorem dX0_doNextLine_198 : decode cX0_doNextLine 198 = .ok (.getfield 63, 3) := by decide +kernel
theorem dX0_doNextLine_201 : decode cX0_doNextLine 201 = .ok (.ifCond .lt 7, 3) := by decide +kernel
theorem dX0_doNextLine_204 : decode cX0_doNextLine 204 = .ok (.iconst 1, 1) := by decide +kernel
theorem dX0_doNextLine_205 : decode cX0_doNextLine 205 = .ok (.goto 4, 3) := by decide +kernel
theorem dX0_doNextLine_208 : decode cX0_doNextLine 208 = .ok (.iconst 0, 1) := by decide +kernel
theorem dX0_doNextLine_209 : decode cX0_doNextLine 209 = .ok (.ireturn, 1) := by decide +kernel
theorem dX0_doNextLine_210 : decode cX0_doNextLine 210 = .ok (.aload_n 0, 1) := by decide +kernel
theorem dX0_doNextLine_211 : decode cX0_doNextLine 211 = .ok (.dup, 1) := by decide +kernel
theorem dX0_doNextLine_212 : decode cX0_doNextLine 212 = .ok (.getfield 63, 3) := by decide +kernel
theorem dX0_doNextLine_215 : decode cX0_doNextLine 215 = .ok (.aload_n 0, 1) := by decide +kernel
theorem dX0_doNextLine_216 : decode cX0_doNextLine 216 = .ok (.getfield 9, 3) := by decide +kernel
theorem dX0_doNextLine_219 : decode cX0_doNextLine 219 = .ok (.iload 6, 2) := by decide +kernel
theorem dX0_doNextLine_221 : decode cX0_doNextLine 221 = .ok (.iaload, 1) := by decide +kernel
theorem dX0_doNextLine_222 : decode cX0_doNextLine 222 = .ok (.iadd, 1) := by decide +kernel
theorem dX0_doNextLine_223 : decode cX0_doNextLine 223 = .ok (.putfield 63, 3) := by decide +kernel
theorem dX0_doNextLine_226 : decode cX0_doNextLine 226 = .ok (.iconst 1, 1) := by decide +kernel
theorem dX0_doNextLine_227 : decode cX0_doNextLine 227 = .ok (.ireturn, 1) := by decide +kernel
theorem dX0_doNextLine_228 : decode cX0_doNextLine 228 = .ok (.aload_n 0, 1) := by decide +kernel
theorem dX0_doNextLine_229 : decode cX0_doNextLine 229 = .ok (.dup, 1) := by decide +kernel
theorem dX0_doNextLine_230 : decode cX0_doNextLine 230 = .ok (.getfield 63, 3) := by decide +kernel
theorem dX0_doNextLine_233 : decode cX0_doNextLine 233 = .ok (.aload_n 0, 1) := by decide +kernel
theorem dX0_doNextLine_234 : decode cX0_doNextLine 234 = .ok (.getfield 9, 3) := by decide +kernel
theorem dX0_doNextLine_237 : decode cX0_doNextLine 237 = .ok (.iload 6, 2) := by decide +kernel
theorem dX0_doNextLine_239 : decode cX0_doNextLine 239 = .ok (.iaload, 1) := by decide +kernel
theorem dX0_doNextLine_240 : decode cX0_doNextLine 240 = .ok (.isub, 1) := by decide +kernel
theorem dX0_doNextLine_241 : decode cX0_doNextLine 241 = .ok (.putfield 63, 3) := by decide +kernel
theorem dX0_doNextLine_244 : decode cX0_doNextLine 244 = .ok (.iconst 1, 1) := by decide +kernel
theorem dX0_doNextLine_245 : decode cX0_doNextLine 245 = .ok (.ireturn, 1) := by decide +kernel
theorem dX0_doNextLine_246 : decode cX0_doNextLine 246 = .ok (.iconst 1, 1) := by decide +kernel
theorem dX0_doNextLine_247 : decode cX0_doNextLine 247 = .ok (.ireturn, 1) := by decide +kernel
theorem dX0_noteTie_0 : decode cX0_noteTie 0 = .ok (.iload_n 1, 1) := by decide +kernel
theorem dX0_noteTie_1 : decode cX0_noteTie 1 = .ok (.iconst (-1), 1) := by decide +kernel
theorem dX0_noteTie_2 : decode cX0_noteTie 2 = .ok (.if_icmp .eq 33, 3) := by decide +kernel
theorem dX0_noteTie_5 : decode cX0_noteTie 5 = .ok (.aload_n 0, 1) := by decide +kernel
theorem dX0_noteTie_6 : decode cX0_noteTie 6 = .ok (.getfield 60, 3) := by decide +kernel
theorem dX0_noteTie_9 : decode cX0_noteTie 9 = .ok (.sipush 300, 3) := by decide +kernel
theorem dX0_noteTie_12 : decode cX0_noteTie 12 = .ok (.if_icmp .ge 23, 3) := by decide +kernel
theorem dX0_noteTie_15 : decode cX0_noteTie 15 = .ok (.aload_n 0, 1) := by decide +kernel
theorem dX0_noteTie_16 : decode cX0_noteTie 16 = .ok (.getfield 22, 3) := by decide +kernel
theorem dX0_noteTie_19 : decode cX0_noteTie 19 = .ok (.aload_n 0, 1) := by decide +kernel
theorem dX0_noteTie_20 : decode cX0_noteTie 20 = .ok (.getfield 60, 3) := by decide +kernel
theorem dX0_noteTie_23 : decode cX0_noteTie 23 = .ok (.iload_n 1, 1) := by decide +kernel
theorem dX0_noteTie_24 : decode cX0_noteTie 24 = .ok (.iastore, 1) := by decide +kernel
theorem dX0_noteTie_25 : decode cX0_noteTie 25 = .ok (.aload_n 0, 1) := by decide +kernel
theorem dX0_noteTie_26 : decode cX0_noteTie 26 = .ok (.dup, 1) := by decide +kernel
theorem dX0_noteTie_27 : decode cX0_noteTie 27 = .ok (.getfield 60, 3) := by decide +kernel
theorem dX0_noteTie_30 : decode cX0_noteTie 30 = .ok (.iconst 1, 1) := by decide +kernel
theorem dX0_noteTie_31 : decode cX0_noteTie 31 = .ok (.iadd, 1) := by decide +kernel
theorem dX0_noteTie_32 : decode cX0_noteTie 32 = .ok (.putfield 60, 3) := by decide +kernel
theorem dX0_noteTie_35 : decode cX0_noteTie 35 = .ok (.return_, 1) := by decide +kernel
theorem dX0_write_0 : decode cX0_write 0 = .ok (.aload_n 0, 1) := by decide +kernel
theorem dX0_write_1 : decode cX0_write 1 = .ok (.getfield 9, 3) := by decide +kernel
theorem dX0_write_4 : decode cX0_write 4 = .ok (.iload_n 1, 1) := by decide +kernel
theorem dX0_write_5 : decode cX0_write 5 = .ok (.aload_n 0, 1) := by decide +kernel
theorem dX0_write_6 : decode cX0_write 6 = .ok (.getfield 63, 3) := by decide +kernel
theorem dX0_write_9 : decode cX0_write 9 = .ok (.iastore, 1) := by decide +kernel
theorem dX0_write_10 : decode cX0_write 10 = .ok (.aload_n 0, 1) := by decide +kernel
theorem dX0_write_11 : decode cX0_write 11 = .ok (.getfield 15, 3) := by decide +kernel
theorem dX0_write_14 : decode cX0_write 14 = .ok (.iload_n 1, 1) := by decide +kernel
theorem dX0_write_15 : decode cX0_write 15 = .ok (.baload, 1) := by decide +kernel
theorem dX0_write_16 : decode cX0_write 16 = .ok (.ifCond .ne 30, 3) := by decide +kernel
theorem dX0_write_19 : decode cX0_write 19 = .ok (.aload_n 0, 1) := by decide +kernel
theorem dX0_write_20 : decode cX0_write 20 = .ok (.getfield 15, 3) := by decide +kernel
theorem dX0_write_23 : decode cX0_write 23 = .ok (.iload_n 1, 1) := by decide +kernel
theorem dX0_write_24 : decode cX0_write 24 = .ok (.iconst 1, 1) := by decide +kernel
theorem dX0_write_25 : decode cX0_write 25 = .ok (.bastore, 1) := by decide +kernel
theorem dX0_write_26 : decode cX0_write 26 = .ok (.aload_n 0, 1) := by decide +kernel
theorem dX0_write_27 : decode cX0_write 27 = .ok (.getfield 19, 3) := by decide +kernel
theorem dX0_write_30 : decode cX0_write 30 = .ok (.aload_n 0, 1) := by decide +kernel
theorem dX0_write_31 : decode cX0_write 31 = .ok (.getfield 57, 3) := by decide +kernel
theorem dX0_write_34 : decode cX0_write 34 = .ok (.iload_n 1, 1) := by decide +kernel
theorem dX0_write_35 : decode cX0_write 35 = .ok (.iastore, 1) := by decide +kernel
theorem dX0_write_36 : decode cX0_write 36 = .ok (.aload_n 0, 1) := by decide +kernel
theorem dX0_write_37 : decode cX0_write 37 = .ok (.dup, 1) := by decide +kernel
theorem dX0_write_38 : decode cX0_write 38 = .ok (.getfield 57, 3) := by decide +kernel
theorem dX0_write_41 : decode cX0_write 41 = .ok (.iconst 1, 1) := by decide +kernel
theorem dX0_write_42 : decode cX0_write 42 = .ok (.iadd, 1) := by decide +kernel
theorem dX0_write_43 : decode cX0_write 43 = .ok (.putfield 57, 3) := by decide +kernel
theorem dX0_write_46 : decode cX0_write 46 = .ok (.return_, 1) := by decide +kernel
theorem dX1_init_0 : decode cX1_init 0 = .ok (.aload_n 0, 1) := by decide +kernel
theorem dX1_init_1 : decode cX1_init 1 = .ok (.invokespecial 3, 3) := by decide +kernel
theorem dX1_init_4 : decode cX1_init 4 = .ok (.aload_n 0, 1) := by decide +kernel
theorem dX1_init_5 : decode cX1_init 5 = .ok (.bipush 64, 2) := by decide +kernel
theorem dX1_init_7 : decode cX1_init 7 = .ok (.newarray .int, 2) := by decide +kernel
theorem dX1_init_9 : decode cX1_init 9 = .ok (.putfield 9, 3) := by decide +kernel
theorem dX1_init_12 : decode cX1_init 12 = .ok (.aload_n 0, 1) := by decide +kernel
theorem dX1_init_13 : decode cX1_init 13 = .ok (.bipush 64, 2) := by decide +kernel
theorem dX1_init_15 : decode cX1_init 15 = .ok (.newarray .int, 2) := by decide +kernel
theorem dX1_init_17 : decode cX1_init 17 = .ok (.putfield 15, 3) := by decide +kernel
theorem dX1_init_20 : decode cX1_init 20 = .ok (.aload_n 0, 1) := by decide +kernel
theorem dX1_init_21 : decode cX1_init 21 = .ok (.bipush 64, 2) := by decide +kernel
theorem dX1_init_23 : decode cX1_init 23 = .ok (.newarray .boolean, 2) := by decide +kernel
theorem dX1_init_25 : decode cX1_init 25 = .ok (.putfield 18, 3) := by decide +kernel
theorem dX1_init_28 : decode cX1_init 28 = .ok (.aload_n 0, 1) := by decide +kernel
theorem dX1_init_29 : decode cX1_init 29 = .ok (.bipush 6, 2) := by decide +kernel
theorem dX1_init_31 : decode cX1_init 31 = .ok (.newarray .int, 2) := by decide +kernel
theorem dX1_init_33 : decode cX1_init 33 = .ok (.putfield 22, 3) := by decide +kernel
theorem dX1_init_36 : decode cX1_init 36 = .ok (.aload_n 0, 1) := by decide +kernel
theorem dX1_init_37 : decode cX1_init 37 = .ok (.bipush 6, 2) := by decide +kernel
theorem dX1_init_39 : decode cX1_init 39 = .ok (.newarray .int, 2) := by decide +kernel
theorem dX1_init_41 : decode cX1_init 41 = .ok (.putfield 25, 3) := by decide +kernel
theorem dX1_init_44 : decode cX1_init 44 = .ok (.aload_n 0, 1) := by decide +kernel
theorem dX1_init_45 : decode cX1_init 45 = .ok (.bipush 6, 2) := by decide +kernel
theorem dX1_init_47 : decode cX1_init 47 = .ok (.newarray .int, 2) := by decide +kernel
theorem dX1_init_49 : decode cX1_init 49 = .ok (.putfield 28, 3) := by decide +kernel
theorem dX1_init_52 : decode cX1_init 52 = .ok (.aload_n 0, 1) := by decide +kernel
theorem dX1_init_53 : decode cX1_init 53 = .ok (.bipush 6, 2) := by decide +kernel
theorem dX1_init_55 : decode cX1_init 55 = .ok (.newarray .int, 2) := by decide +kernel
theorem dX1_init_57 : decode cX1_init 57 = .ok (.putfield 31, 3) := by decide +kernel
theorem dX1_init_60 : decode cX1_init 60 = .ok (.return_, 1) := by decide +kernel
set_option maxRecDepth 20000 in
theorem ggX1_gather_X6_cellOf : GoodIn wsX1_gather wsX6_cellOf := goodIn_r _ [19, 20, 30, 31, 32, 33, 34] (by decide +kernel) (by decide +kernel)
set_option maxRecDepth 20000 in
theorem gX1_gather_X6_cellOf : GoodIn wsX1_gather (wsV RX1 52 RX6 yX6_cellOf wsX6_cellOf) := goodIn_app (goodIn_of _ (by decide +kernel)) ggX1_gather_X6_cellOf
set_option maxRecDepth 20000 in
theorem ggX1_gather_X1_countInto : GoodIn wsX1_gather wsX1_countInto := goodIn_r _ [25, 6, 13, 26, 27, 28, 24, 29, 12, 35, 36, 37, 38, 39, 40, 41, 42] (by decide +kernel) (by decide +kernel)
set_option maxRecDepth 20000 in
theorem gX1_gather_X1_countInto : GoodIn wsX1_gather (wsV RX1 57 RX1 yX1_countInto wsX1_countInto) := goodIn_app (goodIn_of _ (by decide +kernel)) ggX1_gather_X1_countInto
theorem dX1_gather_0 : decode cX1_gather 0 = .ok (.aload_n 0, 1) := by decide +kernel
theorem dX1_gather_1 : decode cX1_gather 1 = .ok (.aload_n 1, 1) := by decide +kernel
theorem dX1_gather_2 : decode cX1_gather 2 = .ok (.getfield 34, 3) := by decide +kernel
theorem dX1_gather_5 : decode cX1_gather 5 = .ok (.bipush 6, 2) := by decide +kernel
theorem dX1_gather_7 : decode cX1_gather 7 = .ok (.invokestatic 40, 3) := by decide +kernel
theorem dX1_gather_10 : decode cX1_gather 10 = .ok (.putfield 46, 3) := by decide +kernel
theorem dX1_gather_13 : decode cX1_gather 13 = .ok (.iconst 0, 1) := by decide +kernel
theorem dX1_gather_14 : decode cX1_gather 14 = .ok (.istore_n 2, 1) := by decide +kernel
theorem dX1_gather_15 : decode cX1_gather 15 = .ok (.iload_n 2, 1) := by decide +kernel
theorem dX1_gather_16 : decode cX1_gather 16 = .ok (.aload_n 0, 1) := by decide +kernel
theorem dX1_gather_17 : decode cX1_gather 17 = .ok (.getfield 46, 3) := by decide +kernel
theorem dX1_gather_20 : decode cX1_gather 20 = .ok (.if_icmp .ge 101, 3) := by decide +kernel
theorem dX1_gather_23 : decode cX1_gather 23 = .ok (.aload_n 1, 1) := by decide +kernel
theorem dX1_gather_24 : decode cX1_gather 24 = .ok (.getfield 49, 3) := by decide +kernel
theorem dX1_gather_27 : decode cX1_gather 27 = .ok (.iload_n 2, 1) := by decide +kernel
theorem dX1_gather_28 : decode cX1_gather 28 = .ok (.iaload, 1) := by decide +kernel
theorem dX1_gather_29 : decode cX1_gather 29 = .ok (.istore_n 3, 1) := by decide +kernel
theorem dX1_gather_30 : decode cX1_gather 30 = .ok (.aload_n 0, 1) := by decide +kernel
theorem dX1_gather_31 : decode cX1_gather 31 = .ok (.getfield 22, 3) := by decide +kernel
theorem dX1_gather_34 : decode cX1_gather 34 = .ok (.iload_n 2, 1) := by decide +kernel
theorem dX1_gather_35 : decode cX1_gather 35 = .ok (.iload_n 3, 1) := by decide +kernel
theorem dX1_gather_36 : decode cX1_gather 36 = .ok (.iastore, 1) := by decide +kernel
theorem dX1_gather_37 : decode cX1_gather 37 = .ok (.aload_n 0, 1) := by decide +kernel
theorem dX1_gather_38 : decode cX1_gather 38 = .ok (.getfield 25, 3) := by decide +kernel
theorem dX1_gather_41 : decode cX1_gather 41 = .ok (.iload_n 2, 1) := by decide +kernel
theorem dX1_gather_42 : decode cX1_gather 42 = .ok (.aload_n 1, 1) := by decide +kernel
theorem dX1_gather_43 : decode cX1_gather 43 = .ok (.iload_n 3, 1) := by decide +kernel
theorem dX1_gather_44 : decode cX1_gather 44 = .ok (.invokevirtual 52, 3) := by decide +kernel
theorem dX1_gather_47 : decode cX1_gather 47 = .ok (.iastore, 1) := by decide +kernel
theorem dX1_gather_48 : decode cX1_gather 48 = .ok (.aload_n 0, 1) := by decide +kernel
theorem dX1_gather_49 : decode cX1_gather 49 = .ok (.getfield 28, 3) := by decide +kernel
theorem dX1_gather_52 : decode cX1_gather 52 = .ok (.iload_n 2, 1) := by decide +kernel
theorem dX1_gather_53 : decode cX1_gather 53 = .ok (.aload_n 1, 1) := by decide +kernel
theorem dX1_gather_54 : decode cX1_gather 54 = .ok (.getfield 56, 3) := by decide +kernel
theorem dX1_gather_57 : decode cX1_gather 57 = .ok (.iload_n 3, 1) := by decide +kernel
theorem dX1_gather_58 : decode cX1_gather 58 = .ok (.iaload, 1) := by decide +kernel
theorem dX1_gather_59 : decode cX1_gather 59 = .ok (.iastore, 1) := by decide +kernel
theorem dX1_gather_60 : decode cX1_gather 60 = .ok (.aload_n 0, 1) := by decide +kernel
theorem dX1_gather_61 : decode cX1_gather 61 = .ok (.getfield 31, 3) := by decide +kernel
theorem dX1_gather_64 : decode cX1_gather 64 = .ok (.iload_n 2, 1) := by decide +kernel
theorem dX1_gather_65 : decode cX1_gather 65 = .ok (.iconst 0, 1) := by decide +kernel
theorem dX1_gather_66 : decode cX1_gather 66 = .ok (.iastore, 1) := by decide +kernel
theorem dX1_gather_67 : decode cX1_gather 67 = .ok (.iconst 0, 1) := by decide +kernel
theorem dX1_gather_68 : decode cX1_gather 68 = .ok (.istore 4, 2) := by decide +kernel
theorem dX1_gather_70 : decode cX1_gather 70 = .ok (.iload 4, 2) := by decide +kernel
theorem dX1_gather_72 : decode cX1_gather 72 = .ok (.iload_n 2, 1) := by decide +kernel
theorem dX1_gather_73 : decode cX1_gather 73 = .ok (.if_icmp .ge 42, 3) := by decide +kernel
theorem dX1_gather_76 : decode cX1_gather 76 = .ok (.aload_n 0, 1) := by decide +kernel
theorem dX1_gather_77 : decode cX1_gather 77 = .ok (.getfield 31, 3) := by decide +kernel
theorem dX1_gather_80 : decode cX1_gather 80 = .ok (.iload_n 2, 1) := by decide +kernel
theorem dX1_gather_81 : decode cX1_gather 81 = .ok (.dup2, 1) := by decide +kernel
theorem dX1_gather_82 : decode cX1_gather 82 = .ok (.iaload, 1) := by decide +kernel
theorem dX1_gather_83 : decode cX1_gather 83 = .ok (.aload_n 0, 1) := by decide +kernel
theorem dX1_gather_84 : decode cX1_gather 84 = .ok (.getfield 25, 3) := by decide +kernel
theorem dX1_gather_87 : decode cX1_gather 87 = .ok (.iload 4, 2) := by decide +kernel
theorem dX1_gather_89 : decode cX1_gather 89 = .ok (.iaload, 1) := by decide +kernel
theorem dX1_gather_90 : decode cX1_gather 90 = .ok (.aload_n 0, 1) := by decide +kernel
theorem dX1_gather_91 : decode cX1_gather 91 = .ok (.getfield 25, 3) := by decide +kernel
theorem dX1_gather_94 : decode cX1_gather 94 = .ok (.iload_n 2, 1) := by decide +kernel
theorem dX1_gather_95 : decode cX1_gather 95 = .ok (.iaload, 1) := by decide +kernel
theorem dX1_gather_96 : decode cX1_gather 96 = .ok (.if_icmp .ne 10, 3) := by decide +kernel
theorem dX1_gather_99 : decode cX1_gather 99 = .ok (.iconst 1, 1) := by decide +kernel
theorem dX1_gather_100 : decode cX1_gather 100 = .ok (.iload 4, 2) := by decide +kernel
theorem dX1_gather_102 : decode cX1_gather 102 = .ok (.ishl, 1) := by decide +kernel
theorem dX1_gather_103 : decode cX1_gather 103 = .ok (.goto 4, 3) := by decide +kernel
theorem dX1_gather_106 : decode cX1_gather 106 = .ok (.iconst 0, 1) := by decide +kernel
theorem dX1_gather_107 : decode cX1_gather 107 = .ok (.ior, 1) := by decide +kernel
theorem dX1_gather_108 : decode cX1_gather 108 = .ok (.iastore, 1) := by decide +kernel
theorem dX1_gather_109 : decode cX1_gather 109 = .ok (.iinc 4 1, 3) := by decide +kernel
theorem dX1_gather_112 : decode cX1_gather 112 = .ok (.goto (-42), 3) := by decide +kernel
theorem dX1_gather_115 : decode cX1_gather 115 = .ok (.iinc 2 1, 3) := by decide +kernel
theorem dX1_gather_118 : decode cX1_gather 118 = .ok (.goto (-103), 3) := by decide +kernel
theorem dX1_gather_121 : decode cX1_gather 121 = .ok (.iconst 0, 1) := by decide +kernel
theorem dX1_gather_122 : decode cX1_gather 122 = .ok (.istore_n 2, 1) := by decide +kernel
theorem dX1_gather_123 : decode cX1_gather 123 = .ok (.iload_n 2, 1) := by decide +kernel
theorem dX1_gather_124 : decode cX1_gather 124 = .ok (.iconst 1, 1) := by decide +kernel
theorem dX1_gather_125 : decode cX1_gather 125 = .ok (.aload_n 0, 1) := by decide +kernel
theorem dX1_gather_126 : decode cX1_gather 126 = .ok (.getfield 46, 3) := by decide +kernel
theorem dX1_gather_129 : decode cX1_gather 129 = .ok (.ishl, 1) := by decide +kernel
theorem dX1_gather_130 : decode cX1_gather 130 = .ok (.if_icmp .ge 16, 3) := by decide +kernel
theorem dX1_gather_133 : decode cX1_gather 133 = .ok (.aload_n 0, 1) := by decide +kernel
theorem dX1_gather_134 : decode cX1_gather 134 = .ok (.getfield 18, 3) := by decide +kernel
theorem dX1_gather_137 : decode cX1_gather 137 = .ok (.iload_n 2, 1) := by decide +kernel
theorem dX1_gather_138 : decode cX1_gather 138 = .ok (.iconst 1, 1) := by decide +kernel
theorem dX1_gather_139 : decode cX1_gather 139 = .ok (.bastore, 1) := by decide +kernel
theorem dX1_gather_140 : decode cX1_gather 140 = .ok (.iinc 2 1, 3) := by decide +kernel
theorem dX1_gather_143 : decode cX1_gather 143 = .ok (.goto (-20), 3) := by decide +kernel
theorem dX1_gather_146 : decode cX1_gather 146 = .ok (.aload_n 0, 1) := by decide +kernel
theorem dX1_gather_147 : decode cX1_gather 147 = .ok (.aload_n 0, 1) := by decide +kernel
theorem dX1_gather_148 : decode cX1_gather 148 = .ok (.getfield 9, 3) := by decide +kernel
theorem dX1_gather_151 : decode cX1_gather 151 = .ok (.invokevirtual 57, 3) := by decide +kernel
theorem dX1_gather_154 : decode cX1_gather 154 = .ok (.return_, 1) := by decide +kernel
set_option maxRecDepth 20000 in
theorem ggX1_watch_X5_standsAfter : GoodIn wsX1_watch wsX5_standsAfter := goodIn_r _ [8, 9, 10, 11, 12, 13, 14, 15, 16, 17, 1, 18, 19, 37, 38, 39, 40, 41, 29, 30, 31, 32, 33, 34, 35, 36] (by decide +kernel) (by decide +kernel)
set_option maxRecDepth 20000 in
theorem gX1_watch_X5_standsAfter : GoodIn wsX1_watch (wsV RX1 61 RX5 yX5_standsAfter wsX5_standsAfter) := goodIn_app (goodIn_of _ (by decide +kernel)) ggX1_watch_X5_standsAfter
set_option maxRecDepth 20000 in
theorem ggX1_watch_X1_countInto : GoodIn wsX1_watch wsX1_countInto := goodIn_r _ [23, 1, 2, 24, 25, 26, 16, 27, 28, 29, 30, 31, 32, 33, 34, 35, 36] (by decide +kernel) (by decide +kernel)
set_option maxRecDepth 20000 in
theorem gX1_watch_X1_countInto : GoodIn wsX1_watch (wsV RX1 57 RX1 yX1_countInto wsX1_countInto) := goodIn_app (goodIn_of _ (by decide +kernel)) ggX1_watch_X1_countInto
theorem dX1_watch_0 : decode cX1_watch 0 = .ok (.iconst 0, 1) := by decide +kernel
theorem dX1_watch_1 : decode cX1_watch 1 = .ok (.istore 4, 2) := by decide +kernel
theorem dX1_watch_3 : decode cX1_watch 3 = .ok (.iload 4, 2) := by decide +kernel
theorem dX1_watch_5 : decode cX1_watch 5 = .ok (.iconst 1, 1) := by decide +kernel
theorem dX1_watch_6 : decode cX1_watch 6 = .ok (.aload_n 0, 1) := by decide +kernel
theorem dX1_watch_7 : decode cX1_watch 7 = .ok (.getfield 46, 3) := by decide +kernel
theorem dX1_watch_10 : decode cX1_watch 10 = .ok (.ishl, 1) := by decide +kernel
theorem dX1_watch_11 : decode cX1_watch 11 = .ok (.if_icmp .ge 25, 3) := by decide +kernel
theorem dX1_watch_14 : decode cX1_watch 14 = .ok (.aload_n 0, 1) := by decide +kernel
theorem dX1_watch_15 : decode cX1_watch 15 = .ok (.getfield 18, 3) := by decide +kernel
theorem dX1_watch_18 : decode cX1_watch 18 = .ok (.iload 4, 2) := by decide +kernel
theorem dX1_watch_20 : decode cX1_watch 20 = .ok (.aload_n 1, 1) := by decide +kernel
theorem dX1_watch_21 : decode cX1_watch 21 = .ok (.iload_n 2, 1) := by decide +kernel
theorem dX1_watch_22 : decode cX1_watch 22 = .ok (.aload_n 3, 1) := by decide +kernel
theorem dX1_watch_23 : decode cX1_watch 23 = .ok (.aload_n 0, 1) := by decide +kernel
theorem dX1_watch_24 : decode cX1_watch 24 = .ok (.iload 4, 2) := by decide +kernel
theorem dX1_watch_26 : decode cX1_watch 26 = .ok (.invokevirtual 61, 3) := by decide +kernel
theorem dX1_watch_29 : decode cX1_watch 29 = .ok (.bastore, 1) := by decide +kernel
theorem dX1_watch_30 : decode cX1_watch 30 = .ok (.iinc 4 1, 3) := by decide +kernel
theorem dX1_watch_33 : decode cX1_watch 33 = .ok (.goto (-30), 3) := by decide +kernel
theorem dX1_watch_36 : decode cX1_watch 36 = .ok (.aload_n 0, 1) := by decide +kernel
theorem dX1_watch_37 : decode cX1_watch 37 = .ok (.aload_n 0, 1) := by decide +kernel
theorem dX1_watch_38 : decode cX1_watch 38 = .ok (.getfield 15, 3) := by decide +kernel
theorem dX1_watch_41 : decode cX1_watch 41 = .ok (.invokevirtual 57, 3) := by decide +kernel
theorem dX1_watch_44 : decode cX1_watch 44 = .ok (.return_, 1) := by decide +kernel
set_option maxRecDepth 20000 in
theorem ggX1_countInto_X1_canCome : GoodIn wsX1_countInto wsX1_canCome := goodIn_r _ [7, 8, 9, 10, 11, 12, 13, 14, 15, 16] (by decide +kernel) (by decide +kernel)
set_option maxRecDepth 20000 in
theorem gX1_countInto_X1_canCome : GoodIn wsX1_countInto (wsV RX1 67 RX1 yX1_canCome wsX1_canCome) := goodIn_app (goodIn_of _ (by decide +kernel)) ggX1_countInto_X1_canCome
theorem dX1_countInto_0 : decode cX1_countInto 0 = .ok (.iconst 1, 1) := by decide +kernel
theorem dX1_countInto_1 : decode cX1_countInto 1 = .ok (.aload_n 0, 1) := by decide +kernel
theorem dX1_countInto_2 : decode cX1_countInto 2 = .ok (.getfield 46, 3) := by decide +kernel
theorem dX1_countInto_5 : decode cX1_countInto 5 = .ok (.ishl, 1) := by decide +kernel
theorem dX1_countInto_6 : decode cX1_countInto 6 = .ok (.iconst 1, 1) := by decide +kernel
theorem dX1_countInto_7 : decode cX1_countInto 7 = .ok (.isub, 1) := by decide +kernel
theorem dX1_countInto_8 : decode cX1_countInto 8 = .ok (.istore_n 2, 1) := by decide +kernel
theorem dX1_countInto_9 : decode cX1_countInto 9 = .ok (.iload_n 2, 1) := by decide +kernel
theorem dX1_countInto_10 : decode cX1_countInto 10 = .ok (.istore_n 3, 1) := by decide +kernel
theorem dX1_countInto_11 : decode cX1_countInto 11 = .ok (.iload_n 3, 1) := by decide +kernel
theorem dX1_countInto_12 : decode cX1_countInto 12 = .ok (.ifCond .lt 80, 3) := by decide +kernel
theorem dX1_countInto_15 : decode cX1_countInto 15 = .ok (.iload_n 3, 1) := by decide +kernel
theorem dX1_countInto_16 : decode cX1_countInto 16 = .ok (.iload_n 2, 1) := by decide +kernel
theorem dX1_countInto_17 : decode cX1_countInto 17 = .ok (.if_icmp .ne 7, 3) := by decide +kernel
theorem dX1_countInto_20 : decode cX1_countInto 20 = .ok (.iconst 1, 1) := by decide +kernel
theorem dX1_countInto_21 : decode cX1_countInto 21 = .ok (.goto 4, 3) := by decide +kernel
theorem dX1_countInto_24 : decode cX1_countInto 24 = .ok (.iconst 0, 1) := by decide +kernel
theorem dX1_countInto_25 : decode cX1_countInto 25 = .ok (.istore 4, 2) := by decide +kernel
theorem dX1_countInto_27 : decode cX1_countInto 27 = .ok (.iconst 0, 1) := by decide +kernel
theorem dX1_countInto_28 : decode cX1_countInto 28 = .ok (.istore 5, 2) := by decide +kernel
theorem dX1_countInto_30 : decode cX1_countInto 30 = .ok (.iload 5, 2) := by decide +kernel
theorem dX1_countInto_32 : decode cX1_countInto 32 = .ok (.aload_n 0, 1) := by decide +kernel
theorem dX1_countInto_33 : decode cX1_countInto 33 = .ok (.getfield 46, 3) := by decide +kernel
theorem dX1_countInto_36 : decode cX1_countInto 36 = .ok (.if_icmp .ge 32, 3) := by decide +kernel
theorem dX1_countInto_39 : decode cX1_countInto 39 = .ok (.aload_n 0, 1) := by decide +kernel
theorem dX1_countInto_40 : decode cX1_countInto 40 = .ok (.iload 5, 2) := by decide +kernel
theorem dX1_countInto_42 : decode cX1_countInto 42 = .ok (.iload_n 3, 1) := by decide +kernel
theorem dX1_countInto_43 : decode cX1_countInto 43 = .ok (.invokevirtual 67, 3) := by decide +kernel
theorem dX1_countInto_46 : decode cX1_countInto 46 = .ok (.ifCond .eq 16, 3) := by decide +kernel
theorem dX1_countInto_49 : decode cX1_countInto 49 = .ok (.iload 4, 2) := by decide +kernel
theorem dX1_countInto_51 : decode cX1_countInto 51 = .ok (.aload_n 1, 1) := by decide +kernel
theorem dX1_countInto_52 : decode cX1_countInto 52 = .ok (.iload_n 3, 1) := by decide +kernel
theorem dX1_countInto_53 : decode cX1_countInto 53 = .ok (.iconst 1, 1) := by decide +kernel
theorem dX1_countInto_54 : decode cX1_countInto 54 = .ok (.iload 5, 2) := by decide +kernel
theorem dX1_countInto_56 : decode cX1_countInto 56 = .ok (.ishl, 1) := by decide +kernel
theorem dX1_countInto_57 : decode cX1_countInto 57 = .ok (.ior, 1) := by decide +kernel
theorem dX1_countInto_58 : decode cX1_countInto 58 = .ok (.iaload, 1) := by decide +kernel
theorem dX1_countInto_59 : decode cX1_countInto 59 = .ok (.iadd, 1) := by decide +kernel
theorem dX1_countInto_60 : decode cX1_countInto 60 = .ok (.istore 4, 2) := by decide +kernel
theorem dX1_countInto_62 : decode cX1_countInto 62 = .ok (.iinc 5 1, 3) := by decide +kernel
theorem dX1_countInto_65 : decode cX1_countInto 65 = .ok (.goto (-35), 3) := by decide +kernel
theorem dX1_countInto_68 : decode cX1_countInto 68 = .ok (.aload_n 1, 1) := by decide +kernel
theorem dX1_countInto_69 : decode cX1_countInto 69 = .ok (.iload_n 3, 1) := by decide +kernel
theorem dX1_countInto_70 : decode cX1_countInto 70 = .ok (.aload_n 0, 1) := by decide +kernel
theorem dX1_countInto_71 : decode cX1_countInto 71 = .ok (.getfield 18, 3) := by decide +kernel
theorem dX1_countInto_74 : decode cX1_countInto 74 = .ok (.iload_n 3, 1) := by decide +kernel
theorem dX1_countInto_75 : decode cX1_countInto 75 = .ok (.baload, 1) := by decide +kernel
theorem dX1_countInto_76 : decode cX1_countInto 76 = .ok (.ifCond .eq 8, 3) := by decide +kernel
theorem dX1_countInto_79 : decode cX1_countInto 79 = .ok (.iload 4, 2) := by decide +kernel
theorem dX1_countInto_81 : decode cX1_countInto 81 = .ok (.goto 4, 3) := by decide +kernel
theorem dX1_countInto_84 : decode cX1_countInto 84 = .ok (.iconst 0, 1) := by decide +kernel
theorem dX1_countInto_85 : decode cX1_countInto 85 = .ok (.iastore, 1) := by decide +kernel
theorem dX1_countInto_86 : decode cX1_countInto 86 = .ok (.iinc 3 (-1), 3) := by decide +kernel
theorem dX1_countInto_89 : decode cX1_countInto 89 = .ok (.goto (-78), 3) := by decide +kernel
theorem dX1_countInto_92 : decode cX1_countInto 92 = .ok (.return_, 1) := by decide +kernel
theorem dX1_canCome_0 : decode cX1_canCome 0 = .ok (.iload_n 2, 1) := by decide +kernel
theorem dX1_canCome_1 : decode cX1_canCome 1 = .ok (.iload_n 1, 1) := by decide +kernel
theorem dX1_canCome_2 : decode cX1_canCome 2 = .ok (.ishr, 1) := by decide +kernel
theorem dX1_canCome_3 : decode cX1_canCome 3 = .ok (.iconst 1, 1) := by decide +kernel
theorem dX1_canCome_4 : decode cX1_canCome 4 = .ok (.iand, 1) := by decide +kernel
theorem dX1_canCome_5 : decode cX1_canCome 5 = .ok (.ifCond .ne 20, 3) := by decide +kernel
theorem dX1_canCome_8 : decode cX1_canCome 8 = .ok (.aload_n 0, 1) := by decide +kernel
theorem dX1_canCome_9 : decode cX1_canCome 9 = .ok (.getfield 31, 3) := by decide +kernel
theorem dX1_canCome_12 : decode cX1_canCome 12 = .ok (.iload_n 1, 1) := by decide +kernel
theorem dX1_canCome_13 : decode cX1_canCome 13 = .ok (.iaload, 1) := by decide +kernel
theorem dX1_canCome_14 : decode cX1_canCome 14 = .ok (.iload_n 2, 1) := by decide +kernel
theorem dX1_canCome_15 : decode cX1_canCome 15 = .ok (.iconst (-1), 1) := by decide +kernel
theorem dX1_canCome_16 : decode cX1_canCome 16 = .ok (.ixor, 1) := by decide +kernel
theorem dX1_canCome_17 : decode cX1_canCome 17 = .ok (.iand, 1) := by decide +kernel
theorem dX1_canCome_18 : decode cX1_canCome 18 = .ok (.ifCond .ne 7, 3) := by decide +kernel
theorem dX1_canCome_21 : decode cX1_canCome 21 = .ok (.iconst 1, 1) := by decide +kernel
theorem dX1_canCome_22 : decode cX1_canCome 22 = .ok (.goto 4, 3) := by decide +kernel
theorem dX1_canCome_25 : decode cX1_canCome 25 = .ok (.iconst 0, 1) := by decide +kernel
theorem dX1_canCome_26 : decode cX1_canCome 26 = .ok (.ireturn, 1) := by decide +kernel
theorem dX1_valueAfter_0 : decode cX1_valueAfter 0 = .ok (.aload_n 0, 1) := by decide +kernel
theorem dX1_valueAfter_1 : decode cX1_valueAfter 1 = .ok (.getfield 46, 3) := by decide +kernel
theorem dX1_valueAfter_4 : decode cX1_valueAfter 4 = .ok (.iconst 1, 1) := by decide +kernel
theorem dX1_valueAfter_5 : decode cX1_valueAfter 5 = .ok (.isub, 1) := by decide +kernel
theorem dX1_valueAfter_6 : decode cX1_valueAfter 6 = .ok (.istore 4, 2) := by decide +kernel
theorem dX1_valueAfter_8 : decode cX1_valueAfter 8 = .ok (.iload 4, 2) := by decide +kernel
theorem dX1_valueAfter_10 : decode cX1_valueAfter 10 = .ok (.ifCond .lt 37, 3) := by decide +kernel
theorem dX1_valueAfter_13 : decode cX1_valueAfter 13 = .ok (.aload_n 0, 1) := by decide +kernel
theorem dX1_valueAfter_14 : decode cX1_valueAfter 14 = .ok (.getfield 25, 3) := by decide +kernel
theorem dX1_valueAfter_17 : decode cX1_valueAfter 17 = .ok (.iload 4, 2) := by decide +kernel
theorem dX1_valueAfter_19 : decode cX1_valueAfter 19 = .ok (.iaload, 1) := by decide +kernel
theorem dX1_valueAfter_20 : decode cX1_valueAfter 20 = .ok (.iload_n 1, 1) := by decide +kernel
theorem dX1_valueAfter_21 : decode cX1_valueAfter 21 = .ok (.if_icmp .ne 20, 3) := by decide +kernel
theorem dX1_valueAfter_24 : decode cX1_valueAfter 24 = .ok (.iload_n 3, 1) := by decide +kernel
theorem dX1_valueAfter_25 : decode cX1_valueAfter 25 = .ok (.iload 4, 2) := by decide +kernel
theorem dX1_valueAfter_27 : decode cX1_valueAfter 27 = .ok (.ishr, 1) := by decide +kernel
theorem dX1_valueAfter_28 : decode cX1_valueAfter 28 = .ok (.iconst 1, 1) := by decide +kernel
theorem dX1_valueAfter_29 : decode cX1_valueAfter 29 = .ok (.iand, 1) := by decide +kernel
theorem dX1_valueAfter_30 : decode cX1_valueAfter 30 = .ok (.ifCond .eq 11, 3) := by decide +kernel
theorem dX1_valueAfter_33 : decode cX1_valueAfter 33 = .ok (.aload_n 0, 1) := by decide +kernel
theorem dX1_valueAfter_34 : decode cX1_valueAfter 34 = .ok (.getfield 28, 3) := by decide +kernel
theorem dX1_valueAfter_37 : decode cX1_valueAfter 37 = .ok (.iload 4, 2) := by decide +kernel
theorem dX1_valueAfter_39 : decode cX1_valueAfter 39 = .ok (.iaload, 1) := by decide +kernel
theorem dX1_valueAfter_40 : decode cX1_valueAfter 40 = .ok (.ireturn, 1) := by decide +kernel
theorem dX1_valueAfter_41 : decode cX1_valueAfter 41 = .ok (.iinc 4 (-1), 3) := by decide +kernel
theorem dX1_valueAfter_44 : decode cX1_valueAfter 44 = .ok (.goto (-36), 3) := by decide +kernel
theorem dX1_valueAfter_47 : decode cX1_valueAfter 47 = .ok (.aload_n 2, 1) := by decide +kernel
theorem dX1_valueAfter_48 : decode cX1_valueAfter 48 = .ok (.iload_n 1, 1) := by decide +kernel
theorem dX1_valueAfter_49 : decode cX1_valueAfter 49 = .ok (.iaload, 1) := by decide +kernel
theorem dX1_valueAfter_50 : decode cX1_valueAfter 50 = .ok (.ireturn, 1) := by decide +kernel
set_option maxRecDepth 20000 in
theorem ggX1_ofFirstBroken_X1_firstToBreak : GoodIn wsX1_ofFirstBroken wsX1_firstToBreak := goodIn_r _ [10, 1, 3, 2, 11, 12, 13, 9, 14, 15, 16, 17, 18, 19, 20, 21, 22, 23] (by decide +kernel) (by decide +kernel)
set_option maxRecDepth 20000 in
theorem gX1_ofFirstBroken_X1_firstToBreak : GoodIn wsX1_ofFirstBroken (wsV RX1 71 RX1 yX1_firstToBreak wsX1_firstToBreak) := goodIn_app (goodIn_of _ (by decide +kernel)) ggX1_ofFirstBroken_X1_firstToBreak
theorem dX1_ofFirstBroken_0 : decode cX1_ofFirstBroken 0 = .ok (.iload_n 1, 1) := by decide +kernel
theorem dX1_ofFirstBroken_1 : decode cX1_ofFirstBroken 1 = .ok (.ifCond .lt 26, 3) := by decide +kernel
theorem dX1_ofFirstBroken_4 : decode cX1_ofFirstBroken 4 = .ok (.iload_n 1, 1) := by decide +kernel
theorem dX1_ofFirstBroken_5 : decode cX1_ofFirstBroken 5 = .ok (.aload_n 0, 1) := by decide +kernel
theorem dX1_ofFirstBroken_6 : decode cX1_ofFirstBroken 6 = .ok (.getfield 46, 3) := by decide +kernel
theorem dX1_ofFirstBroken_9 : decode cX1_ofFirstBroken 9 = .ok (.if_icmp .ge 18, 3) := by decide +kernel
theorem dX1_ofFirstBroken_12 : decode cX1_ofFirstBroken 12 = .ok (.aload_n 0, 1) := by decide +kernel
theorem dX1_ofFirstBroken_13 : decode cX1_ofFirstBroken 13 = .ok (.getfield 9, 3) := by decide +kernel
theorem dX1_ofFirstBroken_16 : decode cX1_ofFirstBroken 16 = .ok (.iconst 0, 1) := by decide +kernel
theorem dX1_ofFirstBroken_17 : decode cX1_ofFirstBroken 17 = .ok (.iaload, 1) := by decide +kernel
theorem dX1_ofFirstBroken_18 : decode cX1_ofFirstBroken 18 = .ok (.aload_n 0, 1) := by decide +kernel
theorem dX1_ofFirstBroken_19 : decode cX1_ofFirstBroken 19 = .ok (.getfield 15, 3) := by decide +kernel
theorem dX1_ofFirstBroken_22 : decode cX1_ofFirstBroken 22 = .ok (.iconst 0, 1) := by decide +kernel
theorem dX1_ofFirstBroken_23 : decode cX1_ofFirstBroken 23 = .ok (.iaload, 1) := by decide +kernel
theorem dX1_ofFirstBroken_24 : decode cX1_ofFirstBroken 24 = .ok (.if_icmp .ne 5, 3) := by decide +kernel
theorem dX1_ofFirstBroken_27 : decode cX1_ofFirstBroken 27 = .ok (.iconst (-1), 1) := by decide +kernel
theorem dX1_ofFirstBroken_28 : decode cX1_ofFirstBroken 28 = .ok (.ireturn, 1) := by decide +kernel
theorem dX1_ofFirstBroken_29 : decode cX1_ofFirstBroken 29 = .ok (.iconst 0, 1) := by decide +kernel
theorem dX1_ofFirstBroken_30 : decode cX1_ofFirstBroken 30 = .ok (.istore_n 2, 1) := by decide +kernel
theorem dX1_ofFirstBroken_31 : decode cX1_ofFirstBroken 31 = .ok (.iconst 0, 1) := by decide +kernel
theorem dX1_ofFirstBroken_32 : decode cX1_ofFirstBroken 32 = .ok (.istore_n 3, 1) := by decide +kernel
theorem dX1_ofFirstBroken_33 : decode cX1_ofFirstBroken 33 = .ok (.iconst 0, 1) := by decide +kernel
theorem dX1_ofFirstBroken_34 : decode cX1_ofFirstBroken 34 = .ok (.istore 4, 2) := by decide +kernel
theorem dX1_ofFirstBroken_36 : decode cX1_ofFirstBroken 36 = .ok (.iconst 0, 1) := by decide +kernel
theorem dX1_ofFirstBroken_37 : decode cX1_ofFirstBroken 37 = .ok (.istore 5, 2) := by decide +kernel
theorem dX1_ofFirstBroken_39 : decode cX1_ofFirstBroken 39 = .ok (.iload 5, 2) := by decide +kernel
theorem dX1_ofFirstBroken_41 : decode cX1_ofFirstBroken 41 = .ok (.iload_n 1, 1) := by decide +kernel
theorem dX1_ofFirstBroken_42 : decode cX1_ofFirstBroken 42 = .ok (.if_icmp .gt 44, 3) := by decide +kernel
theorem dX1_ofFirstBroken_45 : decode cX1_ofFirstBroken 45 = .ok (.iload 4, 2) := by decide +kernel
theorem dX1_ofFirstBroken_47 : decode cX1_ofFirstBroken 47 = .ok (.ifCond .ne 12, 3) := by decide +kernel
theorem dX1_ofFirstBroken_50 : decode cX1_ofFirstBroken 50 = .ok (.aload_n 0, 1) := by decide +kernel
theorem dX1_ofFirstBroken_51 : decode cX1_ofFirstBroken 51 = .ok (.getfield 18, 3) := by decide +kernel
theorem dX1_ofFirstBroken_54 : decode cX1_ofFirstBroken 54 = .ok (.iload_n 2, 1) := by decide +kernel
theorem dX1_ofFirstBroken_55 : decode cX1_ofFirstBroken 55 = .ok (.baload, 1) := by decide +kernel
theorem dX1_ofFirstBroken_56 : decode cX1_ofFirstBroken 56 = .ok (.ifCond .ne 7, 3) := by decide +kernel
theorem dX1_ofFirstBroken_59 : decode cX1_ofFirstBroken 59 = .ok (.iconst 1, 1) := by decide +kernel
theorem dX1_ofFirstBroken_60 : decode cX1_ofFirstBroken 60 = .ok (.goto 4, 3) := by decide +kernel
theorem dX1_ofFirstBroken_63 : decode cX1_ofFirstBroken 63 = .ok (.iconst 0, 1) := by decide +kernel
theorem dX1_ofFirstBroken_64 : decode cX1_ofFirstBroken 64 = .ok (.istore 4, 2) := by decide +kernel
theorem dX1_ofFirstBroken_66 : decode cX1_ofFirstBroken 66 = .ok (.aload_n 0, 1) := by decide +kernel
theorem dX1_ofFirstBroken_67 : decode cX1_ofFirstBroken 67 = .ok (.iload_n 2, 1) := by decide +kernel
theorem dX1_ofFirstBroken_68 : decode cX1_ofFirstBroken 68 = .ok (.iload 4, 2) := by decide +kernel
theorem dX1_ofFirstBroken_70 : decode cX1_ofFirstBroken 70 = .ok (.invokevirtual 71, 3) := by decide +kernel
theorem dX1_ofFirstBroken_73 : decode cX1_ofFirstBroken 73 = .ok (.istore_n 3, 1) := by decide +kernel
theorem dX1_ofFirstBroken_74 : decode cX1_ofFirstBroken 74 = .ok (.iload_n 2, 1) := by decide +kernel
theorem dX1_ofFirstBroken_75 : decode cX1_ofFirstBroken 75 = .ok (.iconst 1, 1) := by decide +kernel
theorem dX1_ofFirstBroken_76 : decode cX1_ofFirstBroken 76 = .ok (.iload_n 3, 1) := by decide +kernel
theorem dX1_ofFirstBroken_77 : decode cX1_ofFirstBroken 77 = .ok (.ishl, 1) := by decide +kernel
theorem dX1_ofFirstBroken_78 : decode cX1_ofFirstBroken 78 = .ok (.ior, 1) := by decide +kernel
theorem dX1_ofFirstBroken_79 : decode cX1_ofFirstBroken 79 = .ok (.istore_n 2, 1) := by decide +kernel
theorem dX1_ofFirstBroken_80 : decode cX1_ofFirstBroken 80 = .ok (.iinc 5 1, 3) := by decide +kernel
theorem dX1_ofFirstBroken_83 : decode cX1_ofFirstBroken 83 = .ok (.goto (-44), 3) := by decide +kernel
theorem dX1_ofFirstBroken_86 : decode cX1_ofFirstBroken 86 = .ok (.aload_n 0, 1) := by decide +kernel
theorem dX1_ofFirstBroken_87 : decode cX1_ofFirstBroken 87 = .ok (.getfield 22, 3) := by decide +kernel
theorem dX1_ofFirstBroken_90 : decode cX1_ofFirstBroken 90 = .ok (.iload_n 3, 1) := by decide +kernel
theorem dX1_ofFirstBroken_91 : decode cX1_ofFirstBroken 91 = .ok (.iaload, 1) := by decide +kernel
theorem dX1_ofFirstBroken_92 : decode cX1_ofFirstBroken 92 = .ok (.ireturn, 1) := by decide +kernel
set_option maxRecDepth 20000 in
theorem ggX1_firstToBreak_X1_canCome : GoodIn wsX1_firstToBreak wsX1_canCome := goodIn_r _ [8, 9, 10, 11, 12, 13, 14, 15, 16, 17] (by decide +kernel) (by decide +kernel)
set_option maxRecDepth 20000 in
theorem gX1_firstToBreak_X1_canCome : GoodIn wsX1_firstToBreak (wsV RX1 67 RX1 yX1_canCome wsX1_canCome) := goodIn_app (goodIn_of _ (by decide +kernel)) ggX1_firstToBreak_X1_canCome
theorem dX1_firstToBreak_0 : decode cX1_firstToBreak 0 = .ok (.iconst 0, 1) := by decide +kernel
theorem dX1_firstToBreak_1 : decode cX1_firstToBreak 1 = .ok (.istore_n 3, 1) := by decide +kernel
theorem dX1_firstToBreak_2 : decode cX1_firstToBreak 2 = .ok (.iload_n 3, 1) := by decide +kernel
theorem dX1_firstToBreak_3 : decode cX1_firstToBreak 3 = .ok (.aload_n 0, 1) := by decide +kernel
theorem dX1_firstToBreak_4 : decode cX1_firstToBreak 4 = .ok (.getfield 46, 3) := by decide +kernel
theorem dX1_firstToBreak_7 : decode cX1_firstToBreak 7 = .ok (.if_icmp .ge 48, 3) := by decide +kernel
theorem dX1_firstToBreak_10 : decode cX1_firstToBreak 10 = .ok (.iload_n 1, 1) := by decide +kernel
theorem dX1_firstToBreak_11 : decode cX1_firstToBreak 11 = .ok (.iconst 1, 1) := by decide +kernel
theorem dX1_firstToBreak_12 : decode cX1_firstToBreak 12 = .ok (.iload_n 3, 1) := by decide +kernel
theorem dX1_firstToBreak_13 : decode cX1_firstToBreak 13 = .ok (.ishl, 1) := by decide +kernel
theorem dX1_firstToBreak_14 : decode cX1_firstToBreak 14 = .ok (.ior, 1) := by decide +kernel
theorem dX1_firstToBreak_15 : decode cX1_firstToBreak 15 = .ok (.istore 4, 2) := by decide +kernel
theorem dX1_firstToBreak_17 : decode cX1_firstToBreak 17 = .ok (.aload_n 0, 1) := by decide +kernel
theorem dX1_firstToBreak_18 : decode cX1_firstToBreak 18 = .ok (.iload_n 3, 1) := by decide +kernel
theorem dX1_firstToBreak_19 : decode cX1_firstToBreak 19 = .ok (.iload_n 1, 1) := by decide +kernel
theorem dX1_firstToBreak_20 : decode cX1_firstToBreak 20 = .ok (.invokevirtual 67, 3) := by decide +kernel
theorem dX1_firstToBreak_23 : decode cX1_firstToBreak 23 = .ok (.ifCond .eq 26, 3) := by decide +kernel
theorem dX1_firstToBreak_26 : decode cX1_firstToBreak 26 = .ok (.iload_n 2, 1) := by decide +kernel
theorem dX1_firstToBreak_27 : decode cX1_firstToBreak 27 = .ok (.ifCond .ne 20, 3) := by decide +kernel
theorem dX1_firstToBreak_30 : decode cX1_firstToBreak 30 = .ok (.aload_n 0, 1) := by decide +kernel
theorem dX1_firstToBreak_31 : decode cX1_firstToBreak 31 = .ok (.getfield 15, 3) := by decide +kernel
theorem dX1_firstToBreak_34 : decode cX1_firstToBreak 34 = .ok (.iload 4, 2) := by decide +kernel
theorem dX1_firstToBreak_36 : decode cX1_firstToBreak 36 = .ok (.iaload, 1) := by decide +kernel
theorem dX1_firstToBreak_37 : decode cX1_firstToBreak 37 = .ok (.aload_n 0, 1) := by decide +kernel
theorem dX1_firstToBreak_38 : decode cX1_firstToBreak 38 = .ok (.getfield 9, 3) := by decide +kernel
theorem dX1_firstToBreak_41 : decode cX1_firstToBreak 41 = .ok (.iload 4, 2) := by decide +kernel
theorem dX1_firstToBreak_43 : decode cX1_firstToBreak 43 = .ok (.iaload, 1) := by decide +kernel
theorem dX1_firstToBreak_44 : decode cX1_firstToBreak 44 = .ok (.if_icmp .ge 5, 3) := by decide +kernel
theorem dX1_firstToBreak_47 : decode cX1_firstToBreak 47 = .ok (.iload_n 3, 1) := by decide +kernel
theorem dX1_firstToBreak_48 : decode cX1_firstToBreak 48 = .ok (.ireturn, 1) := by decide +kernel
theorem dX1_firstToBreak_49 : decode cX1_firstToBreak 49 = .ok (.iinc 3 1, 3) := by decide +kernel
theorem dX1_firstToBreak_52 : decode cX1_firstToBreak 52 = .ok (.goto (-50), 3) := by decide +kernel
theorem dX1_firstToBreak_55 : decode cX1_firstToBreak 55 = .ok (.iconst 0, 1) := by decide +kernel
theorem dX1_firstToBreak_56 : decode cX1_firstToBreak 56 = .ok (.ireturn, 1) := by decide +kernel
theorem dX2_init_0 : decode cX2_init 0 = .ok (.aload_n 0, 1) := by decide +kernel
theorem dX2_init_1 : decode cX2_init 1 = .ok (.invokespecial 3, 3) := by decide +kernel
theorem dX2_init_4 : decode cX2_init 4 = .ok (.aload_n 0, 1) := by decide +kernel
theorem dX2_init_5 : decode cX2_init 5 = .ok (.bipush 6, 2) := by decide +kernel
theorem dX2_init_7 : decode cX2_init 7 = .ok (.newarray .int, 2) := by decide +kernel
theorem dX2_init_9 : decode cX2_init 9 = .ok (.putfield 9, 3) := by decide +kernel
theorem dX2_init_12 : decode cX2_init 12 = .ok (.aload_n 0, 1) := by decide +kernel
theorem dX2_init_13 : decode cX2_init 13 = .ok (.bipush 6, 2) := by decide +kernel
theorem dX2_init_15 : decode cX2_init 15 = .ok (.newarray .int, 2) := by decide +kernel
theorem dX2_init_17 : decode cX2_init 17 = .ok (.putfield 15, 3) := by decide +kernel
theorem dX2_init_20 : decode cX2_init 20 = .ok (.aload_n 0, 1) := by decide +kernel
theorem dX2_init_21 : decode cX2_init 21 = .ok (.bipush 9, 2) := by decide +kernel
theorem dX2_init_23 : decode cX2_init 23 = .ok (.newarray .int, 2) := by decide +kernel
theorem dX2_init_25 : decode cX2_init 25 = .ok (.putfield 18, 3) := by decide +kernel
theorem dX2_init_28 : decode cX2_init 28 = .ok (.aload_n 0, 1) := by decide +kernel
theorem dX2_init_29 : decode cX2_init 29 = .ok (.bipush 9, 2) := by decide +kernel
theorem dX2_init_31 : decode cX2_init 31 = .ok (.newarray .int, 2) := by decide +kernel
theorem dX2_init_33 : decode cX2_init 33 = .ok (.putfield 21, 3) := by decide +kernel
theorem dX2_init_36 : decode cX2_init 36 = .ok (.aload_n 0, 1) := by decide +kernel
theorem dX2_init_37 : decode cX2_init 37 = .ok (.bipush 9, 2) := by decide +kernel
theorem dX2_init_39 : decode cX2_init 39 = .ok (.newarray .int, 2) := by decide +kernel
theorem dX2_init_41 : decode cX2_init 41 = .ok (.putfield 24, 3) := by decide +kernel
theorem dX2_init_44 : decode cX2_init 44 = .ok (.aload_n 0, 1) := by decide +kernel
theorem dX2_init_45 : decode cX2_init 45 = .ok (.bipush 9, 2) := by decide +kernel
theorem dX2_init_47 : decode cX2_init 47 = .ok (.newarray .int, 2) := by decide +kernel
theorem dX2_init_49 : decode cX2_init 49 = .ok (.putfield 27, 3) := by decide +kernel
theorem dX2_init_52 : decode cX2_init 52 = .ok (.aload_n 0, 1) := by decide +kernel
theorem dX2_init_53 : decode cX2_init 53 = .ok (.bipush 9, 2) := by decide +kernel
theorem dX2_init_55 : decode cX2_init 55 = .ok (.newarray .int, 2) := by decide +kernel
theorem dX2_init_57 : decode cX2_init 57 = .ok (.putfield 30, 3) := by decide +kernel
theorem dX2_init_60 : decode cX2_init 60 = .ok (.aload_n 0, 1) := by decide +kernel
theorem dX2_init_61 : decode cX2_init 61 = .ok (.aload_n 1, 1) := by decide +kernel
theorem dX2_init_62 : decode cX2_init 62 = .ok (.putfield 33, 3) := by decide +kernel
theorem dX2_init_65 : decode cX2_init 65 = .ok (.aload_n 0, 1) := by decide +kernel
theorem dX2_init_66 : decode cX2_init 66 = .ok (.aload_n 2, 1) := by decide +kernel
theorem dX2_init_67 : decode cX2_init 67 = .ok (.putfield 37, 3) := by decide +kernel
theorem dX2_init_70 : decode cX2_init 70 = .ok (.return_, 1) := by decide +kernel
set_option maxRecDepth 20000 in
theorem ggX2_search_J7_fill_53178 : GoodIn wsX2_search wsJ7_fill_53178 := goodIn_r _ [22] (by decide +kernel) (by decide +kernel)
set_option maxRecDepth 20000 in
theorem gX2_search_J7_fill_53178 : GoodIn wsX2_search (va_wsS RX2 58 yJ7_fill_53178 wsJ7_fill_53178) := goodIn_app (goodIn_of _ (by decide +kernel)) ggX2_search_J7_fill_53178
set_option maxRecDepth 20000 in
theorem ggX2_search_X2_readTold : GoodIn wsX2_search wsX2_readTold := goodIn_r _ [27, 16, 17, 28, 29, 53, 54, 55, 56, 57, 58, 59, 60, 61, 62, 63, 64, 65, 66, 67, 68, 69, 70, 71, 72, 73, 74, 75, 76, 77] (by decide +kernel) (by decide +kernel)
set_option maxRecDepth 20000 in
theorem gX2_search_X2_readTold : GoodIn wsX2_search (wsV RX2 64 RX2 yX2_readTold wsX2_readTold) := goodIn_app (goodIn_of _ (by decide +kernel)) ggX2_search_X2_readTold
set_option maxRecDepth 20000 in
theorem ggX2_search_X2_place : GoodIn wsX2_search wsX2_place := goodIn_r _ [33, 7, 34, 16, 17, 35, 10, 12, 13, 14, 15, 36, 5, 9, 6, 8, 37, 38, 39, 40, 26, 41, 29, 28, 42, 43, 44, 45, 46, 47, 48, 49, 50, 51, 52, 30, 31, 32, 53, 54, 55, 56, 57, 58, 59, 60, 61, 62, 63, 64, 65, 66, 67, 68, 69, 70, 71, 72, 73, 74, 75, 76, 77, 78, 79, 80, 81, 82, 83, 84, 85] (by decide +kernel) (by decide +kernel)
set_option maxRecDepth 20000 in
theorem gX2_search_X2_place : GoodIn wsX2_search (wsV RX2 68 RX2 yX2_place wsX2_place) := goodIn_app (goodIn_of _ (by decide +kernel)) ggX2_search_X2_place
theorem dX2_search_0 : decode cX2_search 0 = .ok (.aload_n 0, 1) := by decide +kernel
theorem dX2_search_1 : decode cX2_search 1 = .ok (.iload_n 2, 1) := by decide +kernel
theorem dX2_search_2 : decode cX2_search 2 = .ok (.bipush 6, 2) := by decide +kernel
theorem dX2_search_4 : decode cX2_search 4 = .ok (.invokestatic 41, 3) := by decide +kernel
theorem dX2_search_7 : decode cX2_search 7 = .ok (.putfield 47, 3) := by decide +kernel
theorem dX2_search_10 : decode cX2_search 10 = .ok (.aload_n 0, 1) := by decide +kernel
theorem dX2_search_11 : decode cX2_search 11 = .ok (.iload_n 3, 1) := by decide +kernel
theorem dX2_search_12 : decode cX2_search 12 = .ok (.putfield 51, 3) := by decide +kernel
theorem dX2_search_15 : decode cX2_search 15 = .ok (.aload_n 0, 1) := by decide +kernel
theorem dX2_search_16 : decode cX2_search 16 = .ok (.iconst 0, 1) := by decide +kernel
theorem dX2_search_17 : decode cX2_search 17 = .ok (.putfield 54, 3) := by decide +kernel
theorem dX2_search_20 : decode cX2_search 20 = .ok (.aload_n 0, 1) := by decide +kernel
theorem dX2_search_21 : decode cX2_search 21 = .ok (.getfield 9, 3) := by decide +kernel
theorem dX2_search_24 : decode cX2_search 24 = .ok (.iconst 0, 1) := by decide +kernel
theorem dX2_search_25 : decode cX2_search 25 = .ok (.invokestatic 58, 3) := by decide +kernel
theorem dX2_search_28 : decode cX2_search 28 = .ok (.aload_n 0, 1) := by decide +kernel
theorem dX2_search_29 : decode cX2_search 29 = .ok (.getfield 15, 3) := by decide +kernel
theorem dX2_search_32 : decode cX2_search 32 = .ok (.iconst 0, 1) := by decide +kernel
theorem dX2_search_33 : decode cX2_search 33 = .ok (.invokestatic 58, 3) := by decide +kernel
theorem dX2_search_36 : decode cX2_search 36 = .ok (.aload_n 0, 1) := by decide +kernel
theorem dX2_search_37 : decode cX2_search 37 = .ok (.aload_n 1, 1) := by decide +kernel
theorem dX2_search_38 : decode cX2_search 38 = .ok (.invokevirtual 64, 3) := by decide +kernel
theorem dX2_search_41 : decode cX2_search 41 = .ok (.aload_n 0, 1) := by decide +kernel
theorem dX2_search_42 : decode cX2_search 42 = .ok (.iconst 0, 1) := by decide +kernel
theorem dX2_search_43 : decode cX2_search 43 = .ok (.iconst 0, 1) := by decide +kernel
theorem dX2_search_44 : decode cX2_search 44 = .ok (.lconst 0, 1) := by decide +kernel
theorem dX2_search_45 : decode cX2_search 45 = .ok (.invokevirtual 68, 3) := by decide +kernel
theorem dX2_search_48 : decode cX2_search 48 = .ok (.aload_n 0, 1) := by decide +kernel
theorem dX2_search_49 : decode cX2_search 49 = .ok (.getfield 54, 3) := by decide +kernel
theorem dX2_search_52 : decode cX2_search 52 = .ok (.ifCond .eq 29, 3) := by decide +kernel
theorem dX2_search_55 : decode cX2_search 55 = .ok (.aload_n 0, 1) := by decide +kernel
theorem dX2_search_56 : decode cX2_search 56 = .ok (.getfield 21, 3) := by decide +kernel
theorem dX2_search_59 : decode cX2_search 59 = .ok (.iconst 0, 1) := by decide +kernel
theorem dX2_search_60 : decode cX2_search 60 = .ok (.aload_n 0, 1) := by decide +kernel
theorem dX2_search_61 : decode cX2_search 61 = .ok (.getfield 30, 3) := by decide +kernel
theorem dX2_search_64 : decode cX2_search 64 = .ok (.iconst 0, 1) := by decide +kernel
theorem dX2_search_65 : decode cX2_search 65 = .ok (.bipush 9, 2) := by decide +kernel
theorem dX2_search_67 : decode cX2_search 67 = .ok (.invokestatic 72, 3) := by decide +kernel
theorem dX2_search_70 : decode cX2_search 70 = .ok (.aload_n 0, 1) := by decide +kernel
theorem dX2_search_71 : decode cX2_search 71 = .ok (.aload_n 0, 1) := by decide +kernel
theorem dX2_search_72 : decode cX2_search 72 = .ok (.getfield 33, 3) := by decide +kernel
theorem dX2_search_75 : decode cX2_search 75 = .ok (.getfield 78, 3) := by decide +kernel
theorem dX2_search_78 : decode cX2_search 78 = .ok (.putfield 83, 3) := by decide +kernel
theorem dX2_search_81 : decode cX2_search 81 = .ok (.aload_n 0, 1) := by decide +kernel
theorem dX2_search_82 : decode cX2_search 82 = .ok (.getfield 54, 3) := by decide +kernel
theorem dX2_search_85 : decode cX2_search 85 = .ok (.ireturn, 1) := by decide +kernel
theorem dX2_readTold_0 : decode cX2_readTold 0 = .ok (.iconst 0, 1) := by decide +kernel
theorem dX2_readTold_1 : decode cX2_readTold 1 = .ok (.istore_n 2, 1) := by decide +kernel
theorem dX2_readTold_2 : decode cX2_readTold 2 = .ok (.iload_n 2, 1) := by decide +kernel
theorem dX2_readTold_3 : decode cX2_readTold 3 = .ok (.aload_n 0, 1) := by decide +kernel
theorem dX2_readTold_4 : decode cX2_readTold 4 = .ok (.getfield 33, 3) := by decide +kernel
theorem dX2_readTold_7 : decode cX2_readTold 7 = .ok (.getfield 78, 3) := by decide +kernel
theorem dX2_readTold_10 : decode cX2_readTold 10 = .ok (.if_icmp .ge 96, 3) := by decide +kernel
theorem dX2_readTold_13 : decode cX2_readTold 13 = .ok (.iload_n 2, 1) := by decide +kernel
theorem dX2_readTold_14 : decode cX2_readTold 14 = .ok (.bipush 9, 2) := by decide +kernel
theorem dX2_readTold_16 : decode cX2_readTold 16 = .ok (.if_icmp .ge 90, 3) := by decide +kernel
theorem dX2_readTold_19 : decode cX2_readTold 19 = .ok (.aload_n 0, 1) := by decide +kernel
theorem dX2_readTold_20 : decode cX2_readTold 20 = .ok (.getfield 24, 3) := by decide +kernel
theorem dX2_readTold_23 : decode cX2_readTold 23 = .ok (.iload_n 2, 1) := by decide +kernel
theorem dX2_readTold_24 : decode cX2_readTold 24 = .ok (.iconst 0, 1) := by decide +kernel
theorem dX2_readTold_25 : decode cX2_readTold 25 = .ok (.iastore, 1) := by decide +kernel
theorem dX2_readTold_26 : decode cX2_readTold 26 = .ok (.aload_n 0, 1) := by decide +kernel
theorem dX2_readTold_27 : decode cX2_readTold 27 = .ok (.getfield 27, 3) := by decide +kernel
theorem dX2_readTold_30 : decode cX2_readTold 30 = .ok (.iload_n 2, 1) := by decide +kernel
theorem dX2_readTold_31 : decode cX2_readTold 31 = .ok (.iconst 0, 1) := by decide +kernel
theorem dX2_readTold_32 : decode cX2_readTold 32 = .ok (.iastore, 1) := by decide +kernel
theorem dX2_readTold_33 : decode cX2_readTold 33 = .ok (.iconst 0, 1) := by decide +kernel
theorem dX2_readTold_34 : decode cX2_readTold 34 = .ok (.istore_n 3, 1) := by decide +kernel
theorem dX2_readTold_35 : decode cX2_readTold 35 = .ok (.iload_n 3, 1) := by decide +kernel
theorem dX2_readTold_36 : decode cX2_readTold 36 = .ok (.iload_n 2, 1) := by decide +kernel
theorem dX2_readTold_37 : decode cX2_readTold 37 = .ok (.if_icmp .ge 63, 3) := by decide +kernel
theorem dX2_readTold_40 : decode cX2_readTold 40 = .ok (.aload_n 1, 1) := by decide +kernel
theorem dX2_readTold_41 : decode cX2_readTold 41 = .ok (.iload_n 2, 1) := by decide +kernel
theorem dX2_readTold_42 : decode cX2_readTold 42 = .ok (.bipush 10, 2) := by decide +kernel
theorem dX2_readTold_44 : decode cX2_readTold 44 = .ok (.imul, 1) := by decide +kernel
theorem dX2_readTold_45 : decode cX2_readTold 45 = .ok (.iload_n 3, 1) := by decide +kernel
theorem dX2_readTold_46 : decode cX2_readTold 46 = .ok (.iadd, 1) := by decide +kernel
theorem dX2_readTold_47 : decode cX2_readTold 47 = .ok (.iaload, 1) := by decide +kernel
theorem dX2_readTold_48 : decode cX2_readTold 48 = .ok (.istore 4, 2) := by decide +kernel
theorem dX2_readTold_50 : decode cX2_readTold 50 = .ok (.aload_n 0, 1) := by decide +kernel
theorem dX2_readTold_51 : decode cX2_readTold 51 = .ok (.getfield 24, 3) := by decide +kernel
theorem dX2_readTold_54 : decode cX2_readTold 54 = .ok (.iload_n 2, 1) := by decide +kernel
theorem dX2_readTold_55 : decode cX2_readTold 55 = .ok (.dup2, 1) := by decide +kernel
theorem dX2_readTold_56 : decode cX2_readTold 56 = .ok (.iaload, 1) := by decide +kernel
theorem dX2_readTold_57 : decode cX2_readTold 57 = .ok (.iload 4, 2) := by decide +kernel
theorem dX2_readTold_59 : decode cX2_readTold 59 = .ok (.iconst 1, 1) := by decide +kernel
theorem dX2_readTold_60 : decode cX2_readTold 60 = .ok (.if_icmp .ne 9, 3) := by decide +kernel
theorem dX2_readTold_63 : decode cX2_readTold 63 = .ok (.iconst 1, 1) := by decide +kernel
theorem dX2_readTold_64 : decode cX2_readTold 64 = .ok (.iload_n 3, 1) := by decide +kernel
theorem dX2_readTold_65 : decode cX2_readTold 65 = .ok (.ishl, 1) := by decide +kernel
theorem dX2_readTold_66 : decode cX2_readTold 66 = .ok (.goto 4, 3) := by decide +kernel
theorem dX2_readTold_69 : decode cX2_readTold 69 = .ok (.iconst 0, 1) := by decide +kernel
theorem dX2_readTold_70 : decode cX2_readTold 70 = .ok (.ior, 1) := by decide +kernel
theorem dX2_readTold_71 : decode cX2_readTold 71 = .ok (.iastore, 1) := by decide +kernel
theorem dX2_readTold_72 : decode cX2_readTold 72 = .ok (.aload_n 0, 1) := by decide +kernel
theorem dX2_readTold_73 : decode cX2_readTold 73 = .ok (.getfield 27, 3) := by decide +kernel
theorem dX2_readTold_76 : decode cX2_readTold 76 = .ok (.iload_n 2, 1) := by decide +kernel
theorem dX2_readTold_77 : decode cX2_readTold 77 = .ok (.dup2, 1) := by decide +kernel
theorem dX2_readTold_78 : decode cX2_readTold 78 = .ok (.iaload, 1) := by decide +kernel
theorem dX2_readTold_79 : decode cX2_readTold 79 = .ok (.iload 4, 2) := by decide +kernel
theorem dX2_readTold_81 : decode cX2_readTold 81 = .ok (.iconst 2, 1) := by decide +kernel
theorem dX2_readTold_82 : decode cX2_readTold 82 = .ok (.if_icmp .ne 9, 3) := by decide +kernel
theorem dX2_readTold_85 : decode cX2_readTold 85 = .ok (.iconst 1, 1) := by decide +kernel
theorem dX2_readTold_86 : decode cX2_readTold 86 = .ok (.iload_n 3, 1) := by decide +kernel
theorem dX2_readTold_87 : decode cX2_readTold 87 = .ok (.ishl, 1) := by decide +kernel
theorem dX2_readTold_88 : decode cX2_readTold 88 = .ok (.goto 4, 3) := by decide +kernel
theorem dX2_readTold_91 : decode cX2_readTold 91 = .ok (.iconst 0, 1) := by decide +kernel
theorem dX2_readTold_92 : decode cX2_readTold 92 = .ok (.ior, 1) := by decide +kernel
theorem dX2_readTold_93 : decode cX2_readTold 93 = .ok (.iastore, 1) := by decide +kernel
theorem dX2_readTold_94 : decode cX2_readTold 94 = .ok (.iinc 3 1, 3) := by decide +kernel
theorem dX2_readTold_97 : decode cX2_readTold 97 = .ok (.goto (-62), 3) := by decide +kernel
theorem dX2_readTold_100 : decode cX2_readTold 100 = .ok (.iinc 2 1, 3) := by decide +kernel
theorem dX2_readTold_103 : decode cX2_readTold 103 = .ok (.goto (-101), 3) := by decide +kernel
theorem dX2_readTold_106 : decode cX2_readTold 106 = .ok (.return_, 1) := by decide +kernel
set_option maxRecDepth 20000 in
theorem ggX2_place_X2_isAllowed : GoodIn wsX2_place wsX2_isAllowed := goodIn_r _ [21, 22, 23, 38, 39, 40, 41, 42, 43, 44, 45, 46, 47, 48, 49, 50, 51] (by decide +kernel) (by decide +kernel)
set_option maxRecDepth 20000 in
theorem gX2_place_X2_isAllowed : GoodIn wsX2_place (wsV RX2 93 RX2 yX2_isAllowed wsX2_isAllowed) := goodIn_app (goodIn_of _ (by decide +kernel)) ggX2_place_X2_isAllowed
set_option maxRecDepth 20000 in
theorem ggX2_place_X7_added : GoodIn wsX2_place wsX7_added := goodIn_r _ [28, 29, 30, 31, 32, 33, 34, 63, 64, 65, 66, 67, 68, 69, 70] (by decide +kernel) (by decide +kernel)
set_option maxRecDepth 20000 in
theorem gX2_place_X7_added : GoodIn wsX2_place (wsV RX2 97 RX7 yX7_added wsX7_added) := goodIn_app (goodIn_of _ (by decide +kernel)) ggX2_place_X7_added
set_option maxRecDepth 20000 in
theorem ggX2_place_X2_place : GoodIn wsX2_place wsX2_place := goodIn_r _ [0, 1, 2, 3, 4, 5, 6, 7, 8, 9, 10, 11, 12, 13, 14, 15, 16, 17, 18, 19, 20, 21, 22, 23, 24, 25, 26, 27, 28, 29, 30, 31, 32, 33, 34, 35, 36, 37, 38, 39, 40, 41, 42, 43, 44, 45, 46, 47, 48, 49, 50, 51, 52, 53, 54, 55, 56, 57, 58, 59, 60, 61, 62, 63, 64, 65, 66, 67, 68, 69, 70] (by decide +kernel) (by decide +kernel)
set_option maxRecDepth 20000 in
theorem gX2_place_X2_place : GoodIn wsX2_place (wsV RX2 68 RX2 yX2_place wsX2_place) := goodIn_app (goodIn_of _ (by decide +kernel)) ggX2_place_X2_place
theorem dX2_place_0 : decode cX2_place 0 = .ok (.aload_n 0, 1) := by decide +kernel
theorem dX2_place_1 : decode cX2_place 1 = .ok (.getfield 54, 3) := by decide +kernel
theorem dX2_place_4 : decode cX2_place 4 = .ok (.ifCond .eq 13, 3) := by decide +kernel
theorem dX2_place_7 : decode cX2_place 7 = .ok (.lload_n 3, 1) := by decide +kernel
theorem dX2_place_8 : decode cX2_place 8 = .ok (.aload_n 0, 1) := by decide +kernel
theorem dX2_place_9 : decode cX2_place 9 = .ok (.getfield 86, 3) := by decide +kernel
theorem dX2_place_12 : decode cX2_place 12 = .ok (.lcmp, 1) := by decide +kernel
theorem dX2_place_13 : decode cX2_place 13 = .ok (.ifCond .lt 4, 3) := by decide +kernel
theorem dX2_place_16 : decode cX2_place 16 = .ok (.return_, 1) := by decide +kernel
theorem dX2_place_17 : decode cX2_place 17 = .ok (.iload_n 1, 1) := by decide +kernel
theorem dX2_place_18 : decode cX2_place 18 = .ok (.aload_n 0, 1) := by decide +kernel
theorem dX2_place_19 : decode cX2_place 19 = .ok (.getfield 33, 3) := by decide +kernel
theorem dX2_place_22 : decode cX2_place 22 = .ok (.getfield 78, 3) := by decide +kernel
theorem dX2_place_25 : decode cX2_place 25 = .ok (.if_icmp .ge 9, 3) := by decide +kernel
theorem dX2_place_28 : decode cX2_place 28 = .ok (.iload_n 1, 1) := by decide +kernel
theorem dX2_place_29 : decode cX2_place 29 = .ok (.bipush 9, 2) := by decide +kernel
theorem dX2_place_31 : decode cX2_place 31 = .ok (.if_icmp .lt 29, 3) := by decide +kernel
theorem dX2_place_34 : decode cX2_place 34 = .ok (.aload_n 0, 1) := by decide +kernel
theorem dX2_place_35 : decode cX2_place 35 = .ok (.iconst 1, 1) := by decide +kernel
theorem dX2_place_36 : decode cX2_place 36 = .ok (.putfield 54, 3) := by decide +kernel
theorem dX2_place_39 : decode cX2_place 39 = .ok (.aload_n 0, 1) := by decide +kernel
theorem dX2_place_40 : decode cX2_place 40 = .ok (.lload_n 3, 1) := by decide +kernel
theorem dX2_place_41 : decode cX2_place 41 = .ok (.putfield 86, 3) := by decide +kernel
theorem dX2_place_44 : decode cX2_place 44 = .ok (.aload_n 0, 1) := by decide +kernel
theorem dX2_place_45 : decode cX2_place 45 = .ok (.getfield 18, 3) := by decide +kernel
theorem dX2_place_48 : decode cX2_place 48 = .ok (.iconst 0, 1) := by decide +kernel
theorem dX2_place_49 : decode cX2_place 49 = .ok (.aload_n 0, 1) := by decide +kernel
theorem dX2_place_50 : decode cX2_place 50 = .ok (.getfield 21, 3) := by decide +kernel
theorem dX2_place_53 : decode cX2_place 53 = .ok (.iconst 0, 1) := by decide +kernel
theorem dX2_place_54 : decode cX2_place 54 = .ok (.bipush 9, 2) := by decide +kernel
theorem dX2_place_56 : decode cX2_place 56 = .ok (.invokestatic 72, 3) := by decide +kernel
theorem dX2_place_59 : decode cX2_place 59 = .ok (.return_, 1) := by decide +kernel
theorem dX2_place_60 : decode cX2_place 60 = .ok (.aload_n 0, 1) := by decide +kernel
theorem dX2_place_61 : decode cX2_place 61 = .ok (.getfield 33, 3) := by decide +kernel
theorem dX2_place_64 : decode cX2_place 64 = .ok (.getfield 90, 3) := by decide +kernel
theorem dX2_place_67 : decode cX2_place 67 = .ok (.iload_n 1, 1) := by decide +kernel
theorem dX2_place_68 : decode cX2_place 68 = .ok (.iaload, 1) := by decide +kernel
theorem dX2_place_69 : decode cX2_place 69 = .ok (.istore 5, 2) := by decide +kernel
theorem dX2_place_71 : decode cX2_place 71 = .ok (.iconst 0, 1) := by decide +kernel
theorem dX2_place_72 : decode cX2_place 72 = .ok (.istore 6, 2) := by decide +kernel
theorem dX2_place_74 : decode cX2_place 74 = .ok (.iload 6, 2) := by decide +kernel
theorem dX2_place_76 : decode cX2_place 76 = .ok (.iload_n 2, 1) := by decide +kernel
theorem dX2_place_77 : decode cX2_place 77 = .ok (.if_icmp .gt 151, 3) := by decide +kernel
theorem dX2_place_80 : decode cX2_place 80 = .ok (.iload 6, 2) := by decide +kernel
theorem dX2_place_82 : decode cX2_place 82 = .ok (.aload_n 0, 1) := by decide +kernel
theorem dX2_place_83 : decode cX2_place 83 = .ok (.getfield 47, 3) := by decide +kernel
theorem dX2_place_86 : decode cX2_place 86 = .ok (.if_icmp .ge 142, 3) := by decide +kernel
theorem dX2_place_89 : decode cX2_place 89 = .ok (.aload_n 0, 1) := by decide +kernel
theorem dX2_place_90 : decode cX2_place 90 = .ok (.getfield 15, 3) := by decide +kernel
theorem dX2_place_93 : decode cX2_place 93 = .ok (.iload 6, 2) := by decide +kernel
theorem dX2_place_95 : decode cX2_place 95 = .ok (.iaload, 1) := by decide +kernel
theorem dX2_place_96 : decode cX2_place 96 = .ok (.iload 5, 2) := by decide +kernel
theorem dX2_place_98 : decode cX2_place 98 = .ok (.iadd, 1) := by decide +kernel
theorem dX2_place_99 : decode cX2_place 99 = .ok (.aload_n 0, 1) := by decide +kernel
theorem dX2_place_100 : decode cX2_place 100 = .ok (.getfield 51, 3) := by decide +kernel
theorem dX2_place_103 : decode cX2_place 103 = .ok (.if_icmp .gt 119, 3) := by decide +kernel
theorem dX2_place_106 : decode cX2_place 106 = .ok (.aload_n 0, 1) := by decide +kernel
theorem dX2_place_107 : decode cX2_place 107 = .ok (.iload_n 1, 1) := by decide +kernel
theorem dX2_place_108 : decode cX2_place 108 = .ok (.aload_n 0, 1) := by decide +kernel
theorem dX2_place_109 : decode cX2_place 109 = .ok (.getfield 9, 3) := by decide +kernel
theorem dX2_place_112 : decode cX2_place 112 = .ok (.iload 6, 2) := by decide +kernel
theorem dX2_place_114 : decode cX2_place 114 = .ok (.iaload, 1) := by decide +kernel
theorem dX2_place_115 : decode cX2_place 115 = .ok (.invokevirtual 93, 3) := by decide +kernel
theorem dX2_place_118 : decode cX2_place 118 = .ok (.ifCond .eq 104, 3) := by decide +kernel
theorem dX2_place_121 : decode cX2_place 121 = .ok (.aload_n 0, 1) := by decide +kernel
theorem dX2_place_122 : decode cX2_place 122 = .ok (.getfield 37, 3) := by decide +kernel
theorem dX2_place_125 : decode cX2_place 125 = .ok (.iload_n 1, 1) := by decide +kernel
theorem dX2_place_126 : decode cX2_place 126 = .ok (.aload_n 0, 1) := by decide +kernel
theorem dX2_place_127 : decode cX2_place 127 = .ok (.getfield 9, 3) := by decide +kernel
theorem dX2_place_130 : decode cX2_place 130 = .ok (.iload 6, 2) := by decide +kernel
theorem dX2_place_132 : decode cX2_place 132 = .ok (.iaload, 1) := by decide +kernel
theorem dX2_place_133 : decode cX2_place 133 = .ok (.invokevirtual 97, 3) := by decide +kernel
theorem dX2_place_136 : decode cX2_place 136 = .ok (.lstore 7, 2) := by decide +kernel
theorem dX2_place_138 : decode cX2_place 138 = .ok (.aload_n 0, 1) := by decide +kernel
theorem dX2_place_139 : decode cX2_place 139 = .ok (.getfield 18, 3) := by decide +kernel
theorem dX2_place_142 : decode cX2_place 142 = .ok (.iload_n 1, 1) := by decide +kernel
theorem dX2_place_143 : decode cX2_place 143 = .ok (.iload 6, 2) := by decide +kernel
theorem dX2_place_145 : decode cX2_place 145 = .ok (.iastore, 1) := by decide +kernel
theorem dX2_place_146 : decode cX2_place 146 = .ok (.aload_n 0, 1) := by decide +kernel
theorem dX2_place_147 : decode cX2_place 147 = .ok (.getfield 9, 3) := by decide +kernel
theorem dX2_place_150 : decode cX2_place 150 = .ok (.iload 6, 2) := by decide +kernel
theorem dX2_place_152 : decode cX2_place 152 = .ok (.dup2, 1) := by decide +kernel
theorem dX2_place_153 : decode cX2_place 153 = .ok (.iaload, 1) := by decide +kernel
theorem dX2_place_154 : decode cX2_place 154 = .ok (.iconst 1, 1) := by decide +kernel
theorem dX2_place_155 : decode cX2_place 155 = .ok (.iload_n 1, 1) := by decide +kernel
theorem dX2_place_156 : decode cX2_place 156 = .ok (.ishl, 1) := by decide +kernel
theorem dX2_place_157 : decode cX2_place 157 = .ok (.ior, 1) := by decide +kernel
theorem dX2_place_158 : decode cX2_place 158 = .ok (.iastore, 1) := by decide +kernel
theorem dX2_place_159 : decode cX2_place 159 = .ok (.aload_n 0, 1) := by decide +kernel
theorem dX2_place_160 : decode cX2_place 160 = .ok (.getfield 15, 3) := by decide +kernel
theorem dX2_place_163 : decode cX2_place 163 = .ok (.iload 6, 2) := by decide +kernel
theorem dX2_place_165 : decode cX2_place 165 = .ok (.dup2, 1) := by decide +kernel
theorem dX2_place_166 : decode cX2_place 166 = .ok (.iaload, 1) := by decide +kernel
theorem dX2_place_167 : decode cX2_place 167 = .ok (.iload 5, 2) := by decide +kernel
theorem dX2_place_169 : decode cX2_place 169 = .ok (.iadd, 1) := by decide +kernel
theorem dX2_place_170 : decode cX2_place 170 = .ok (.iastore, 1) := by decide +kernel
theorem dX2_place_171 : decode cX2_place 171 = .ok (.aload_n 0, 1) := by decide +kernel
theorem dX2_place_172 : decode cX2_place 172 = .ok (.iload_n 1, 1) := by decide +kernel
theorem dX2_place_173 : decode cX2_place 173 = .ok (.iconst 1, 1) := by decide +kernel
theorem dX2_place_174 : decode cX2_place 174 = .ok (.iadd, 1) := by decide +kernel
theorem dX2_place_175 : decode cX2_place 175 = .ok (.iload 6, 2) := by decide +kernel
theorem dX2_place_177 : decode cX2_place 177 = .ok (.iload_n 2, 1) := by decide +kernel
theorem dX2_place_178 : decode cX2_place 178 = .ok (.if_icmp .ne 9, 3) := by decide +kernel
theorem dX2_place_181 : decode cX2_place 181 = .ok (.iload_n 2, 1) := by decide +kernel
theorem dX2_place_182 : decode cX2_place 182 = .ok (.iconst 1, 1) := by decide +kernel
theorem dX2_place_183 : decode cX2_place 183 = .ok (.iadd, 1) := by decide +kernel
theorem dX2_place_184 : decode cX2_place 184 = .ok (.goto 4, 3) := by decide +kernel
theorem dX2_place_187 : decode cX2_place 187 = .ok (.iload_n 2, 1) := by decide +kernel
theorem dX2_place_188 : decode cX2_place 188 = .ok (.lload_n 3, 1) := by decide +kernel
theorem dX2_place_189 : decode cX2_place 189 = .ok (.lload 7, 2) := by decide +kernel
theorem dX2_place_191 : decode cX2_place 191 = .ok (.ladd, 1) := by decide +kernel
theorem dX2_place_192 : decode cX2_place 192 = .ok (.invokevirtual 68, 3) := by decide +kernel
theorem dX2_place_195 : decode cX2_place 195 = .ok (.aload_n 0, 1) := by decide +kernel
theorem dX2_place_196 : decode cX2_place 196 = .ok (.getfield 9, 3) := by decide +kernel
theorem dX2_place_199 : decode cX2_place 199 = .ok (.iload 6, 2) := by decide +kernel
theorem dX2_place_201 : decode cX2_place 201 = .ok (.dup2, 1) := by decide +kernel
theorem dX2_place_202 : decode cX2_place 202 = .ok (.iaload, 1) := by decide +kernel
theorem dX2_place_203 : decode cX2_place 203 = .ok (.iconst 1, 1) := by decide +kernel
theorem dX2_place_204 : decode cX2_place 204 = .ok (.iload_n 1, 1) := by decide +kernel
theorem dX2_place_205 : decode cX2_place 205 = .ok (.ishl, 1) := by decide +kernel
theorem dX2_place_206 : decode cX2_place 206 = .ok (.iconst (-1), 1) := by decide +kernel
theorem dX2_place_207 : decode cX2_place 207 = .ok (.ixor, 1) := by decide +kernel
theorem dX2_place_208 : decode cX2_place 208 = .ok (.iand, 1) := by decide +kernel
theorem dX2_place_209 : decode cX2_place 209 = .ok (.iastore, 1) := by decide +kernel
theorem dX2_place_210 : decode cX2_place 210 = .ok (.aload_n 0, 1) := by decide +kernel
theorem dX2_place_211 : decode cX2_place 211 = .ok (.getfield 15, 3) := by decide +kernel
theorem dX2_place_214 : decode cX2_place 214 = .ok (.iload 6, 2) := by decide +kernel
theorem dX2_place_216 : decode cX2_place 216 = .ok (.dup2, 1) := by decide +kernel
theorem dX2_place_217 : decode cX2_place 217 = .ok (.iaload, 1) := by decide +kernel
theorem dX2_place_218 : decode cX2_place 218 = .ok (.iload 5, 2) := by decide +kernel
theorem dX2_place_220 : decode cX2_place 220 = .ok (.isub, 1) := by decide +kernel
theorem dX2_place_221 : decode cX2_place 221 = .ok (.iastore, 1) := by decide +kernel
theorem dX2_place_222 : decode cX2_place 222 = .ok (.iinc 6 1, 3) := by decide +kernel
theorem dX2_place_225 : decode cX2_place 225 = .ok (.goto (-151), 3) := by decide +kernel
theorem dX2_place_228 : decode cX2_place 228 = .ok (.return_, 1) := by decide +kernel
theorem dX2_isAllowed_0 : decode cX2_isAllowed 0 = .ok (.aload_n 0, 1) := by decide +kernel
theorem dX2_isAllowed_1 : decode cX2_isAllowed 1 = .ok (.getfield 27, 3) := by decide +kernel
theorem dX2_isAllowed_4 : decode cX2_isAllowed 4 = .ok (.iload_n 1, 1) := by decide +kernel
theorem dX2_isAllowed_5 : decode cX2_isAllowed 5 = .ok (.iaload, 1) := by decide +kernel
theorem dX2_isAllowed_6 : decode cX2_isAllowed 6 = .ok (.iload_n 2, 1) := by decide +kernel
theorem dX2_isAllowed_7 : decode cX2_isAllowed 7 = .ok (.iand, 1) := by decide +kernel
theorem dX2_isAllowed_8 : decode cX2_isAllowed 8 = .ok (.ifCond .ne 20, 3) := by decide +kernel
theorem dX2_isAllowed_11 : decode cX2_isAllowed 11 = .ok (.aload_n 0, 1) := by decide +kernel
theorem dX2_isAllowed_12 : decode cX2_isAllowed 12 = .ok (.getfield 24, 3) := by decide +kernel
theorem dX2_isAllowed_15 : decode cX2_isAllowed 15 = .ok (.iload_n 1, 1) := by decide +kernel
theorem dX2_isAllowed_16 : decode cX2_isAllowed 16 = .ok (.iaload, 1) := by decide +kernel
theorem dX2_isAllowed_17 : decode cX2_isAllowed 17 = .ok (.iload_n 2, 1) := by decide +kernel
theorem dX2_isAllowed_18 : decode cX2_isAllowed 18 = .ok (.iconst (-1), 1) := by decide +kernel
theorem dX2_isAllowed_19 : decode cX2_isAllowed 19 = .ok (.ixor, 1) := by decide +kernel
theorem dX2_isAllowed_20 : decode cX2_isAllowed 20 = .ok (.iand, 1) := by decide +kernel
theorem dX2_isAllowed_21 : decode cX2_isAllowed 21 = .ok (.ifCond .ne 7, 3) := by decide +kernel
theorem dX2_isAllowed_24 : decode cX2_isAllowed 24 = .ok (.iconst 1, 1) := by decide +kernel
theorem dX2_isAllowed_25 : decode cX2_isAllowed 25 = .ok (.goto 4, 3) := by decide +kernel
theorem dX2_isAllowed_28 : decode cX2_isAllowed 28 = .ok (.iconst 0, 1) := by decide +kernel
theorem dX2_isAllowed_29 : decode cX2_isAllowed 29 = .ok (.ireturn, 1) := by decide +kernel
theorem dX3_init_0 : decode cX3_init 0 = .ok (.aload_n 0, 1) := by decide +kernel
theorem dX3_init_1 : decode cX3_init 1 = .ok (.invokespecial 1, 3) := by decide +kernel
theorem dX3_init_4 : decode cX3_init 4 = .ok (.aload_n 0, 1) := by decide +kernel
theorem dX3_init_5 : decode cX3_init 5 = .ok (.bipush 16, 2) := by decide +kernel
theorem dX3_init_7 : decode cX3_init 7 = .ok (.newarray .int, 2) := by decide +kernel
theorem dX3_init_9 : decode cX3_init 9 = .ok (.putfield 9, 3) := by decide +kernel
theorem dX3_init_12 : decode cX3_init 12 = .ok (.aload_n 0, 1) := by decide +kernel
theorem dX3_init_13 : decode cX3_init 13 = .ok (.bipush 16, 2) := by decide +kernel
theorem dX3_init_15 : decode cX3_init 15 = .ok (.newarray .int, 2) := by decide +kernel
theorem dX3_init_17 : decode cX3_init 17 = .ok (.putfield 13, 3) := by decide +kernel
theorem dX3_init_20 : decode cX3_init 20 = .ok (.return_, 1) := by decide +kernel
set_option maxRecDepth 20000 in
theorem ggX3_add_J7_copyOf_59c91 : GoodIn wsX3_add wsJ7_copyOf_59c91 := goodIn_r _ [7, 8, 9, 10, 11, 12, 13, 14, 15, 16, 17, 18, 19, 20, 21, 22] (by decide +kernel) (by decide +kernel)
set_option maxRecDepth 20000 in
theorem gX3_add_J7_copyOf_59c91 : GoodIn wsX3_add (va_wsS RX3 20 yJ7_copyOf_59c91 wsJ7_copyOf_59c91) := goodIn_app (goodIn_of _ (by decide +kernel)) ggX3_add_J7_copyOf_59c91
theorem dX3_add_0 : decode cX3_add 0 = .ok (.iconst 0, 1) := by decide +kernel
theorem dX3_add_1 : decode cX3_add 1 = .ok (.istore_n 2, 1) := by decide +kernel
theorem dX3_add_2 : decode cX3_add 2 = .ok (.iload_n 2, 1) := by decide +kernel
theorem dX3_add_3 : decode cX3_add 3 = .ok (.aload_n 0, 1) := by decide +kernel
theorem dX3_add_4 : decode cX3_add 4 = .ok (.getfield 16, 3) := by decide +kernel
theorem dX3_add_7 : decode cX3_add 7 = .ok (.if_icmp .ge 30, 3) := by decide +kernel
theorem dX3_add_10 : decode cX3_add 10 = .ok (.aload_n 0, 1) := by decide +kernel
theorem dX3_add_11 : decode cX3_add 11 = .ok (.getfield 9, 3) := by decide +kernel
theorem dX3_add_14 : decode cX3_add 14 = .ok (.iload_n 2, 1) := by decide +kernel
theorem dX3_add_15 : decode cX3_add 15 = .ok (.iaload, 1) := by decide +kernel
theorem dX3_add_16 : decode cX3_add 16 = .ok (.iload_n 1, 1) := by decide +kernel
theorem dX3_add_17 : decode cX3_add 17 = .ok (.if_icmp .ne 14, 3) := by decide +kernel
theorem dX3_add_20 : decode cX3_add 20 = .ok (.aload_n 0, 1) := by decide +kernel
theorem dX3_add_21 : decode cX3_add 21 = .ok (.getfield 13, 3) := by decide +kernel
theorem dX3_add_24 : decode cX3_add 24 = .ok (.iload_n 2, 1) := by decide +kernel
theorem dX3_add_25 : decode cX3_add 25 = .ok (.dup2, 1) := by decide +kernel
theorem dX3_add_26 : decode cX3_add 26 = .ok (.iaload, 1) := by decide +kernel
theorem dX3_add_27 : decode cX3_add 27 = .ok (.iconst 1, 1) := by decide +kernel
theorem dX3_add_28 : decode cX3_add 28 = .ok (.iadd, 1) := by decide +kernel
theorem dX3_add_29 : decode cX3_add 29 = .ok (.iastore, 1) := by decide +kernel
theorem dX3_add_30 : decode cX3_add 30 = .ok (.return_, 1) := by decide +kernel
theorem dX3_add_31 : decode cX3_add 31 = .ok (.iinc 2 1, 3) := by decide +kernel
theorem dX3_add_34 : decode cX3_add 34 = .ok (.goto (-32), 3) := by decide +kernel
theorem dX3_add_37 : decode cX3_add 37 = .ok (.aload_n 0, 1) := by decide +kernel
theorem dX3_add_38 : decode cX3_add 38 = .ok (.getfield 16, 3) := by decide +kernel
theorem dX3_add_41 : decode cX3_add 41 = .ok (.aload_n 0, 1) := by decide +kernel
theorem dX3_add_42 : decode cX3_add 42 = .ok (.getfield 9, 3) := by decide +kernel
theorem dX3_add_45 : decode cX3_add 45 = .ok (.arraylength, 1) := by decide +kernel
theorem dX3_add_46 : decode cX3_add 46 = .ok (.if_icmp .lt 37, 3) := by decide +kernel
theorem dX3_add_49 : decode cX3_add 49 = .ok (.aload_n 0, 1) := by decide +kernel
theorem dX3_add_50 : decode cX3_add 50 = .ok (.aload_n 0, 1) := by decide +kernel
theorem dX3_add_51 : decode cX3_add 51 = .ok (.getfield 9, 3) := by decide +kernel
theorem dX3_add_54 : decode cX3_add 54 = .ok (.aload_n 0, 1) := by decide +kernel
theorem dX3_add_55 : decode cX3_add 55 = .ok (.getfield 16, 3) := by decide +kernel
theorem dX3_add_58 : decode cX3_add 58 = .ok (.iconst 2, 1) := by decide +kernel
theorem dX3_add_59 : decode cX3_add 59 = .ok (.imul, 1) := by decide +kernel
theorem dX3_add_60 : decode cX3_add 60 = .ok (.invokestatic 20, 3) := by decide +kernel
theorem dX3_add_63 : decode cX3_add 63 = .ok (.putfield 9, 3) := by decide +kernel
theorem dX3_add_66 : decode cX3_add 66 = .ok (.aload_n 0, 1) := by decide +kernel
theorem dX3_add_67 : decode cX3_add 67 = .ok (.aload_n 0, 1) := by decide +kernel
theorem dX3_add_68 : decode cX3_add 68 = .ok (.getfield 13, 3) := by decide +kernel
theorem dX3_add_71 : decode cX3_add 71 = .ok (.aload_n 0, 1) := by decide +kernel
theorem dX3_add_72 : decode cX3_add 72 = .ok (.getfield 16, 3) := by decide +kernel
theorem dX3_add_75 : decode cX3_add 75 = .ok (.iconst 2, 1) := by decide +kernel
theorem dX3_add_76 : decode cX3_add 76 = .ok (.imul, 1) := by decide +kernel
theorem dX3_add_77 : decode cX3_add 77 = .ok (.invokestatic 20, 3) := by decide +kernel
theorem dX3_add_80 : decode cX3_add 80 = .ok (.putfield 13, 3) := by decide +kernel
theorem dX3_add_83 : decode cX3_add 83 = .ok (.aload_n 0, 1) := by decide +kernel
theorem dX3_add_84 : decode cX3_add 84 = .ok (.getfield 9, 3) := by decide +kernel
theorem dX3_add_87 : decode cX3_add 87 = .ok (.aload_n 0, 1) := by decide +kernel
theorem dX3_add_88 : decode cX3_add 88 = .ok (.getfield 16, 3) := by decide +kernel
theorem dX3_add_91 : decode cX3_add 91 = .ok (.iload_n 1, 1) := by decide +kernel
theorem dX3_add_92 : decode cX3_add 92 = .ok (.iastore, 1) := by decide +kernel
theorem dX3_add_93 : decode cX3_add 93 = .ok (.aload_n 0, 1) := by decide +kernel
theorem dX3_add_94 : decode cX3_add 94 = .ok (.getfield 13, 3) := by decide +kernel
theorem dX3_add_97 : decode cX3_add 97 = .ok (.aload_n 0, 1) := by decide +kernel
theorem dX3_add_98 : decode cX3_add 98 = .ok (.getfield 16, 3) := by decide +kernel
theorem dX3_add_101 : decode cX3_add 101 = .ok (.iconst 1, 1) := by decide +kernel
theorem dX3_add_102 : decode cX3_add 102 = .ok (.iastore, 1) := by decide +kernel
theorem dX3_add_103 : decode cX3_add 103 = .ok (.aload_n 0, 1) := by decide +kernel
theorem dX3_add_104 : decode cX3_add 104 = .ok (.dup, 1) := by decide +kernel
theorem dX3_add_105 : decode cX3_add 105 = .ok (.getfield 16, 3) := by decide +kernel
theorem dX3_add_108 : decode cX3_add 108 = .ok (.iconst 1, 1) := by decide +kernel
theorem dX3_add_109 : decode cX3_add 109 = .ok (.iadd, 1) := by decide +kernel
theorem dX3_add_110 : decode cX3_add 110 = .ok (.putfield 16, 3) := by decide +kernel
theorem dX3_add_113 : decode cX3_add 113 = .ok (.return_, 1) := by decide +kernel
theorem dX3_become_0 : decode cX3_become 0 = .ok (.aload_n 0, 1) := by decide +kernel
theorem dX3_become_1 : decode cX3_become 1 = .ok (.getfield 9, 3) := by decide +kernel
theorem dX3_become_4 : decode cX3_become 4 = .ok (.arraylength, 1) := by decide +kernel
theorem dX3_become_5 : decode cX3_become 5 = .ok (.aload_n 1, 1) := by decide +kernel
theorem dX3_become_6 : decode cX3_become 6 = .ok (.getfield 16, 3) := by decide +kernel
theorem dX3_become_9 : decode cX3_become 9 = .ok (.if_icmp .ge 25, 3) := by decide +kernel
theorem dX3_become_12 : decode cX3_become 12 = .ok (.aload_n 0, 1) := by decide +kernel
theorem dX3_become_13 : decode cX3_become 13 = .ok (.aload_n 1, 1) := by decide +kernel
theorem dX3_become_14 : decode cX3_become 14 = .ok (.getfield 9, 3) := by decide +kernel
theorem dX3_become_17 : decode cX3_become 17 = .ok (.arraylength, 1) := by decide +kernel
theorem dX3_become_18 : decode cX3_become 18 = .ok (.newarray .int, 2) := by decide +kernel
theorem dX3_become_20 : decode cX3_become 20 = .ok (.putfield 9, 3) := by decide +kernel
theorem dX3_become_23 : decode cX3_become 23 = .ok (.aload_n 0, 1) := by decide +kernel
theorem dX3_become_24 : decode cX3_become 24 = .ok (.aload_n 1, 1) := by decide +kernel
theorem dX3_become_25 : decode cX3_become 25 = .ok (.getfield 9, 3) := by decide +kernel
theorem dX3_become_28 : decode cX3_become 28 = .ok (.arraylength, 1) := by decide +kernel
theorem dX3_become_29 : decode cX3_become 29 = .ok (.newarray .int, 2) := by decide +kernel
theorem dX3_become_31 : decode cX3_become 31 = .ok (.putfield 13, 3) := by decide +kernel
theorem dX3_become_34 : decode cX3_become 34 = .ok (.aload_n 1, 1) := by decide +kernel
theorem dX3_become_35 : decode cX3_become 35 = .ok (.getfield 9, 3) := by decide +kernel
theorem dX3_become_38 : decode cX3_become 38 = .ok (.iconst 0, 1) := by decide +kernel
theorem dX3_become_39 : decode cX3_become 39 = .ok (.aload_n 0, 1) := by decide +kernel
theorem dX3_become_40 : decode cX3_become 40 = .ok (.getfield 9, 3) := by decide +kernel
theorem dX3_become_43 : decode cX3_become 43 = .ok (.iconst 0, 1) := by decide +kernel
theorem dX3_become_44 : decode cX3_become 44 = .ok (.aload_n 1, 1) := by decide +kernel
theorem dX3_become_45 : decode cX3_become 45 = .ok (.getfield 16, 3) := by decide +kernel
theorem dX3_become_48 : decode cX3_become 48 = .ok (.invokestatic 26, 3) := by decide +kernel
theorem dX3_become_51 : decode cX3_become 51 = .ok (.aload_n 1, 1) := by decide +kernel
theorem dX3_become_52 : decode cX3_become 52 = .ok (.getfield 13, 3) := by decide +kernel
theorem dX3_become_55 : decode cX3_become 55 = .ok (.iconst 0, 1) := by decide +kernel
theorem dX3_become_56 : decode cX3_become 56 = .ok (.aload_n 0, 1) := by decide +kernel
theorem dX3_become_57 : decode cX3_become 57 = .ok (.getfield 13, 3) := by decide +kernel
theorem dX3_become_60 : decode cX3_become 60 = .ok (.iconst 0, 1) := by decide +kernel
theorem dX3_become_61 : decode cX3_become 61 = .ok (.aload_n 1, 1) := by decide +kernel
theorem dX3_become_62 : decode cX3_become 62 = .ok (.getfield 16, 3) := by decide +kernel
theorem dX3_become_65 : decode cX3_become 65 = .ok (.invokestatic 26, 3) := by decide +kernel
theorem dX3_become_68 : decode cX3_become 68 = .ok (.aload_n 0, 1) := by decide +kernel
theorem dX3_become_69 : decode cX3_become 69 = .ok (.aload_n 1, 1) := by decide +kernel
theorem dX3_become_70 : decode cX3_become 70 = .ok (.getfield 16, 3) := by decide +kernel
theorem dX3_become_73 : decode cX3_become 73 = .ok (.putfield 16, 3) := by decide +kernel
theorem dX3_become_76 : decode cX3_become 76 = .ok (.return_, 1) := by decide +kernel
set_option maxRecDepth 20000 in
theorem ggX4_init_X3_init : GoodIn wsX4_init wsX3_init := goodIn_r _ [19, 20, 2, 3, 4, 21, 22, 40, 41, 42] (by decide +kernel) (by decide +kernel)
set_option maxRecDepth 20000 in
theorem gX4_init_X3_init_n26 : GoodIn wsX4_init (wsX3_init) := ggX4_init_X3_init
set_option maxRecDepth 20000 in
theorem ggX4_init_X6_init : GoodIn wsX4_init wsX6_init := goodIn_r _ [24, 25, 2, 3, 4, 26, 27, 28, 43, 44, 45, 46, 47] (by decide +kernel) (by decide +kernel)
set_option maxRecDepth 20000 in
theorem gX4_init_X6_init_n33 : GoodIn wsX4_init (wsX6_init) := ggX4_init_X6_init
theorem dX4_init_0 : decode cX4_init 0 = .ok (.aload_n 0, 1) := by decide +kernel
theorem dX4_init_1 : decode cX4_init 1 = .ok (.invokespecial 3, 3) := by decide +kernel
theorem dX4_init_4 : decode cX4_init 4 = .ok (.aload_n 0, 1) := by decide +kernel
theorem dX4_init_5 : decode cX4_init 5 = .ok (.sipush 128, 3) := by decide +kernel
theorem dX4_init_8 : decode cX4_init 8 = .ok (.newarray .int, 2) := by decide +kernel
theorem dX4_init_10 : decode cX4_init 10 = .ok (.putfield 9, 3) := by decide +kernel
theorem dX4_init_13 : decode cX4_init 13 = .ok (.aload_n 0, 1) := by decide +kernel
theorem dX4_init_14 : decode cX4_init 14 = .ok (.sipush 128, 3) := by decide +kernel
theorem dX4_init_17 : decode cX4_init 17 = .ok (.newarray .int, 2) := by decide +kernel
theorem dX4_init_19 : decode cX4_init 19 = .ok (.putfield 15, 3) := by decide +kernel
theorem dX4_init_22 : decode cX4_init 22 = .ok (.aload_n 0, 1) := by decide +kernel
theorem dX4_init_23 : decode cX4_init 23 = .ok (.bipush 10, 2) := by decide +kernel
theorem dX4_init_25 : decode cX4_init 25 = .ok (.newarray .int, 2) := by decide +kernel
theorem dX4_init_27 : decode cX4_init 27 = .ok (.putfield 18, 3) := by decide +kernel
theorem dX4_init_30 : decode cX4_init 30 = .ok (.aload_n 0, 1) := by decide +kernel
theorem dX4_init_31 : decode cX4_init 31 = .ok (.sipush 420, 3) := by decide +kernel
theorem dX4_init_34 : decode cX4_init 34 = .ok (.newarray .int, 2) := by decide +kernel
theorem dX4_init_36 : decode cX4_init 36 = .ok (.putfield 21, 3) := by decide +kernel
theorem dX4_init_39 : decode cX4_init 39 = .ok (.aload_n 0, 1) := by decide +kernel
theorem dX4_init_40 : decode cX4_init 40 = .ok (.new 24, 3) := by decide +kernel
theorem dX4_init_43 : decode cX4_init 43 = .ok (.dup, 1) := by decide +kernel
theorem dX4_init_44 : decode cX4_init 44 = .ok (.invokespecial 26, 3) := by decide +kernel
theorem dX4_init_47 : decode cX4_init 47 = .ok (.putfield 27, 3) := by decide +kernel
theorem dX4_init_50 : decode cX4_init 50 = .ok (.aload_n 0, 1) := by decide +kernel
theorem dX4_init_51 : decode cX4_init 51 = .ok (.new 31, 3) := by decide +kernel
theorem dX4_init_54 : decode cX4_init 54 = .ok (.dup, 1) := by decide +kernel
theorem dX4_init_55 : decode cX4_init 55 = .ok (.invokespecial 33, 3) := by decide +kernel
theorem dX4_init_58 : decode cX4_init 58 = .ok (.putfield 34, 3) := by decide +kernel
theorem dX4_init_61 : decode cX4_init 61 = .ok (.aload_n 0, 1) := by decide +kernel
theorem dX4_init_62 : decode cX4_init 62 = .ok (.iconst 5, 1) := by decide +kernel
theorem dX4_init_63 : decode cX4_init 63 = .ok (.newarray .int, 2) := by decide +kernel
theorem dX4_init_65 : decode cX4_init 65 = .ok (.putfield 38, 3) := by decide +kernel
theorem dX4_init_68 : decode cX4_init 68 = .ok (.return_, 1) := by decide +kernel
theorem dX4_cellsOf_0 : decode cX4_cellsOf 0 = .ok (.iload_n 1, 1) := by decide +kernel
theorem dX4_cellsOf_1 : decode cX4_cellsOf 1 = .ok (.ifCond .ne 10, 3) := by decide +kernel
theorem dX4_cellsOf_4 : decode cX4_cellsOf 4 = .ok (.aload_n 0, 1) := by decide +kernel
theorem dX4_cellsOf_5 : decode cX4_cellsOf 5 = .ok (.getfield 9, 3) := by decide +kernel
theorem dX4_cellsOf_8 : decode cX4_cellsOf 8 = .ok (.goto 7, 3) := by decide +kernel
theorem dX4_cellsOf_11 : decode cX4_cellsOf 11 = .ok (.aload_n 0, 1) := by decide +kernel
theorem dX4_cellsOf_12 : decode cX4_cellsOf 12 = .ok (.getfield 15, 3) := by decide +kernel
theorem dX4_cellsOf_15 : decode cX4_cellsOf 15 = .ok (.areturn, 1) := by decide +kernel
set_option maxRecDepth 20000 in
theorem ggX4_keepOld_X3_add : GoodIn wsX4_keepOld wsX3_add := goodIn_r _ [15, 16, 17, 18, 19, 20, 21, 22, 23, 24, 25, 26, 27, 28, 29, 30, 31, 32, 33, 34, 35, 36, 37, 70, 71, 72] (by decide +kernel) (by decide +kernel)
set_option maxRecDepth 20000 in
theorem gX4_keepOld_X3_add : GoodIn wsX4_keepOld (wsV RX4 64 RX3 yX3_add wsX3_add) := goodIn_app (goodIn_of _ (by decide +kernel)) ggX4_keepOld_X3_add
theorem dX4_keepOld_0 : decode cX4_keepOld 0 = .ok (.iconst 0, 1) := by decide +kernel
theorem dX4_keepOld_1 : decode cX4_keepOld 1 = .ok (.istore_n 3, 1) := by decide +kernel
theorem dX4_keepOld_2 : decode cX4_keepOld 2 = .ok (.iconst 0, 1) := by decide +kernel
theorem dX4_keepOld_3 : decode cX4_keepOld 3 = .ok (.istore 4, 2) := by decide +kernel
theorem dX4_keepOld_5 : decode cX4_keepOld 5 = .ok (.iload 4, 2) := by decide +kernel
theorem dX4_keepOld_7 : decode cX4_keepOld 7 = .ok (.aload_n 1, 1) := by decide +kernel
theorem dX4_keepOld_8 : decode cX4_keepOld 8 = .ok (.getfield 41, 3) := by decide +kernel
theorem dX4_keepOld_11 : decode cX4_keepOld 11 = .ok (.if_icmp .ge 47, 3) := by decide +kernel
theorem dX4_keepOld_14 : decode cX4_keepOld 14 = .ok (.aload_n 1, 1) := by decide +kernel
theorem dX4_keepOld_15 : decode cX4_keepOld 15 = .ok (.getfield 47, 3) := by decide +kernel
theorem dX4_keepOld_18 : decode cX4_keepOld 18 = .ok (.iload 4, 2) := by decide +kernel
theorem dX4_keepOld_20 : decode cX4_keepOld 20 = .ok (.iaload, 1) := by decide +kernel
theorem dX4_keepOld_21 : decode cX4_keepOld 21 = .ok (.istore 5, 2) := by decide +kernel
theorem dX4_keepOld_23 : decode cX4_keepOld 23 = .ok (.aload_n 0, 1) := by decide +kernel
theorem dX4_keepOld_24 : decode cX4_keepOld 24 = .ok (.getfield 9, 3) := by decide +kernel
theorem dX4_keepOld_27 : decode cX4_keepOld 27 = .ok (.iload 5, 2) := by decide +kernel
theorem dX4_keepOld_29 : decode cX4_keepOld 29 = .ok (.aload_n 1, 1) := by decide +kernel
theorem dX4_keepOld_30 : decode cX4_keepOld 30 = .ok (.getfield 50, 3) := by decide +kernel
theorem dX4_keepOld_33 : decode cX4_keepOld 33 = .ok (.iload 5, 2) := by decide +kernel
theorem dX4_keepOld_35 : decode cX4_keepOld 35 = .ok (.iaload, 1) := by decide +kernel
theorem dX4_keepOld_36 : decode cX4_keepOld 36 = .ok (.iastore, 1) := by decide +kernel
theorem dX4_keepOld_37 : decode cX4_keepOld 37 = .ok (.iload_n 3, 1) := by decide +kernel
theorem dX4_keepOld_38 : decode cX4_keepOld 38 = .ok (.iconst 1, 1) := by decide +kernel
theorem dX4_keepOld_39 : decode cX4_keepOld 39 = .ok (.aload_n 2, 1) := by decide +kernel
theorem dX4_keepOld_40 : decode cX4_keepOld 40 = .ok (.getfield 53, 3) := by decide +kernel
theorem dX4_keepOld_43 : decode cX4_keepOld 43 = .ok (.iload 5, 2) := by decide +kernel
theorem dX4_keepOld_45 : decode cX4_keepOld 45 = .ok (.bipush 8, 2) := by decide +kernel
theorem dX4_keepOld_47 : decode cX4_keepOld 47 = .ok (.idiv, 1) := by decide +kernel
theorem dX4_keepOld_48 : decode cX4_keepOld 48 = .ok (.iaload, 1) := by decide +kernel
theorem dX4_keepOld_49 : decode cX4_keepOld 49 = .ok (.ishl, 1) := by decide +kernel
theorem dX4_keepOld_50 : decode cX4_keepOld 50 = .ok (.ior, 1) := by decide +kernel
theorem dX4_keepOld_51 : decode cX4_keepOld 51 = .ok (.istore_n 3, 1) := by decide +kernel
theorem dX4_keepOld_52 : decode cX4_keepOld 52 = .ok (.iinc 4 1, 3) := by decide +kernel
theorem dX4_keepOld_55 : decode cX4_keepOld 55 = .ok (.goto (-50), 3) := by decide +kernel
theorem dX4_keepOld_58 : decode cX4_keepOld 58 = .ok (.iconst 0, 1) := by decide +kernel
theorem dX4_keepOld_59 : decode cX4_keepOld 59 = .ok (.istore 4, 2) := by decide +kernel
theorem dX4_keepOld_61 : decode cX4_keepOld 61 = .ok (.iload 4, 2) := by decide +kernel
theorem dX4_keepOld_63 : decode cX4_keepOld 63 = .ok (.aload_n 1, 1) := by decide +kernel
theorem dX4_keepOld_64 : decode cX4_keepOld 64 = .ok (.getfield 58, 3) := by decide +kernel
theorem dX4_keepOld_67 : decode cX4_keepOld 67 = .ok (.if_icmp .ge 25, 3) := by decide +kernel
theorem dX4_keepOld_70 : decode cX4_keepOld 70 = .ok (.aload_n 0, 1) := by decide +kernel
theorem dX4_keepOld_71 : decode cX4_keepOld 71 = .ok (.getfield 21, 3) := by decide +kernel
theorem dX4_keepOld_74 : decode cX4_keepOld 74 = .ok (.aload_n 1, 1) := by decide +kernel
theorem dX4_keepOld_75 : decode cX4_keepOld 75 = .ok (.getfield 61, 3) := by decide +kernel
theorem dX4_keepOld_78 : decode cX4_keepOld 78 = .ok (.iload 4, 2) := by decide +kernel
theorem dX4_keepOld_80 : decode cX4_keepOld 80 = .ok (.iaload, 1) := by decide +kernel
theorem dX4_keepOld_81 : decode cX4_keepOld 81 = .ok (.dup2, 1) := by decide +kernel
theorem dX4_keepOld_82 : decode cX4_keepOld 82 = .ok (.iaload, 1) := by decide +kernel
theorem dX4_keepOld_83 : decode cX4_keepOld 83 = .ok (.iconst 1, 1) := by decide +kernel
theorem dX4_keepOld_84 : decode cX4_keepOld 84 = .ok (.iadd, 1) := by decide +kernel
theorem dX4_keepOld_85 : decode cX4_keepOld 85 = .ok (.iastore, 1) := by decide +kernel
theorem dX4_keepOld_86 : decode cX4_keepOld 86 = .ok (.iinc 4 1, 3) := by decide +kernel
theorem dX4_keepOld_89 : decode cX4_keepOld 89 = .ok (.goto (-28), 3) := by decide +kernel
theorem dX4_keepOld_92 : decode cX4_keepOld 92 = .ok (.aload_n 0, 1) := by decide +kernel
theorem dX4_keepOld_93 : decode cX4_keepOld 93 = .ok (.getfield 27, 3) := by decide +kernel
theorem dX4_keepOld_96 : decode cX4_keepOld 96 = .ok (.iload_n 3, 1) := by decide +kernel
theorem dX4_keepOld_97 : decode cX4_keepOld 97 = .ok (.invokevirtual 64, 3) := by decide +kernel
theorem dX4_keepOld_100 : decode cX4_keepOld 100 = .ok (.aload_n 0, 1) := by decide +kernel
theorem dX4_keepOld_101 : decode cX4_keepOld 101 = .ok (.dup, 1) := by decide +kernel
theorem dX4_keepOld_102 : decode cX4_keepOld 102 = .ok (.getfield 68, 3) := by decide +kernel
theorem dX4_keepOld_105 : decode cX4_keepOld 105 = .ok (.iconst 1, 1) := by decide +kernel
theorem dX4_keepOld_106 : decode cX4_keepOld 106 = .ok (.iadd, 1) := by decide +kernel
theorem dX4_keepOld_107 : decode cX4_keepOld 107 = .ok (.putfield 68, 3) := by decide +kernel
theorem dX4_keepOld_110 : decode cX4_keepOld 110 = .ok (.return_, 1) := by decide +kernel
set_option maxRecDepth 20000 in
theorem ggX4_keepNew_X4_roomOf : GoodIn wsX4_keepNew wsX4_roomOf := goodIn_r _ [12, 1, 13, 47, 48, 49, 50, 51, 52, 53, 54, 55, 56, 57, 68, 69, 70, 71, 72, 73, 74, 75, 76, 77, 78] (by decide +kernel) (by decide +kernel)
set_option maxRecDepth 20000 in
theorem gX4_keepNew_X4_roomOf : GoodIn wsX4_keepNew (wsV RX4 71 RX4 yX4_roomOf wsX4_roomOf) := goodIn_app (goodIn_of _ (by decide +kernel)) ggX4_keepNew_X4_roomOf
set_option maxRecDepth 20000 in
theorem ggX4_keepNew_X6_canTake : GoodIn wsX4_keepNew wsX6_canTake := goodIn_r _ [18, 19, 20, 79, 80, 81, 82, 83] (by decide +kernel) (by decide +kernel)
set_option maxRecDepth 20000 in
theorem gX4_keepNew_X6_canTake : GoodIn wsX4_keepNew (wsV RX4 75 RX6 yX6_canTake wsX6_canTake) := goodIn_app (goodIn_of _ (by decide +kernel)) ggX4_keepNew_X6_canTake
set_option maxRecDepth 20000 in
theorem ggX4_keepNew_X6_send : GoodIn wsX4_keepNew wsX6_send := goodIn_r _ [24, 20, 25, 26, 27, 19, 28, 29, 30, 31, 32, 33, 34, 35, 36, 37, 38, 39, 40, 41, 42, 43, 44, 45, 46, 79, 80, 81, 82, 83] (by decide +kernel) (by decide +kernel)
set_option maxRecDepth 20000 in
theorem gX4_keepNew_X6_send : GoodIn wsX4_keepNew (wsV RX4 79 RX6 yX6_send wsX6_send) := goodIn_app (goodIn_of _ (by decide +kernel)) ggX4_keepNew_X6_send
theorem dX4_keepNew_0 : decode cX4_keepNew 0 = .ok (.aload_n 0, 1) := by decide +kernel
theorem dX4_keepNew_1 : decode cX4_keepNew 1 = .ok (.getfield 18, 3) := by decide +kernel
theorem dX4_keepNew_4 : decode cX4_keepNew 4 = .ok (.iload_n 3, 1) := by decide +kernel
theorem dX4_keepNew_5 : decode cX4_keepNew 5 = .ok (.iaload, 1) := by decide +kernel
theorem dX4_keepNew_6 : decode cX4_keepNew 6 = .ok (.istore 4, 2) := by decide +kernel
theorem dX4_keepNew_8 : decode cX4_keepNew 8 = .ok (.iconst 0, 1) := by decide +kernel
theorem dX4_keepNew_9 : decode cX4_keepNew 9 = .ok (.istore 5, 2) := by decide +kernel
theorem dX4_keepNew_11 : decode cX4_keepNew 11 = .ok (.iconst 0, 1) := by decide +kernel
theorem dX4_keepNew_12 : decode cX4_keepNew 12 = .ok (.istore 6, 2) := by decide +kernel
theorem dX4_keepNew_14 : decode cX4_keepNew 14 = .ok (.iload 6, 2) := by decide +kernel
theorem dX4_keepNew_16 : decode cX4_keepNew 16 = .ok (.aload_n 1, 1) := by decide +kernel
theorem dX4_keepNew_17 : decode cX4_keepNew 17 = .ok (.getfield 41, 3) := by decide +kernel
theorem dX4_keepNew_20 : decode cX4_keepNew 20 = .ok (.if_icmp .ge 29, 3) := by decide +kernel
theorem dX4_keepNew_23 : decode cX4_keepNew 23 = .ok (.aload_n 0, 1) := by decide +kernel
theorem dX4_keepNew_24 : decode cX4_keepNew 24 = .ok (.aload_n 1, 1) := by decide +kernel
theorem dX4_keepNew_25 : decode cX4_keepNew 25 = .ok (.getfield 47, 3) := by decide +kernel
theorem dX4_keepNew_28 : decode cX4_keepNew 28 = .ok (.iload 6, 2) := by decide +kernel
theorem dX4_keepNew_30 : decode cX4_keepNew 30 = .ok (.iaload, 1) := by decide +kernel
theorem dX4_keepNew_31 : decode cX4_keepNew 31 = .ok (.aload_n 2, 1) := by decide +kernel
theorem dX4_keepNew_32 : decode cX4_keepNew 32 = .ok (.invokevirtual 71, 3) := by decide +kernel
theorem dX4_keepNew_35 : decode cX4_keepNew 35 = .ok (.iload 4, 2) := by decide +kernel
theorem dX4_keepNew_37 : decode cX4_keepNew 37 = .ok (.if_icmp .eq 6, 3) := by decide +kernel
theorem dX4_keepNew_40 : decode cX4_keepNew 40 = .ok (.iinc 5 1, 3) := by decide +kernel
theorem dX4_keepNew_43 : decode cX4_keepNew 43 = .ok (.iinc 6 1, 3) := by decide +kernel
theorem dX4_keepNew_46 : decode cX4_keepNew 46 = .ok (.goto (-32), 3) := by decide +kernel
theorem dX4_keepNew_49 : decode cX4_keepNew 49 = .ok (.aload_n 0, 1) := by decide +kernel
theorem dX4_keepNew_50 : decode cX4_keepNew 50 = .ok (.getfield 34, 3) := by decide +kernel
theorem dX4_keepNew_53 : decode cX4_keepNew 53 = .ok (.iload 5, 2) := by decide +kernel
theorem dX4_keepNew_55 : decode cX4_keepNew 55 = .ok (.invokevirtual 75, 3) := by decide +kernel
theorem dX4_keepNew_58 : decode cX4_keepNew 58 = .ok (.ifCond .ne 5, 3) := by decide +kernel
theorem dX4_keepNew_61 : decode cX4_keepNew 61 = .ok (.iconst 0, 1) := by decide +kernel
theorem dX4_keepNew_62 : decode cX4_keepNew 62 = .ok (.ireturn, 1) := by decide +kernel
theorem dX4_keepNew_63 : decode cX4_keepNew 63 = .ok (.iconst 0, 1) := by decide +kernel
theorem dX4_keepNew_64 : decode cX4_keepNew 64 = .ok (.istore 6, 2) := by decide +kernel
theorem dX4_keepNew_66 : decode cX4_keepNew 66 = .ok (.iload 6, 2) := by decide +kernel
theorem dX4_keepNew_68 : decode cX4_keepNew 68 = .ok (.aload_n 1, 1) := by decide +kernel
theorem dX4_keepNew_69 : decode cX4_keepNew 69 = .ok (.getfield 41, 3) := by decide +kernel
theorem dX4_keepNew_72 : decode cX4_keepNew 72 = .ok (.if_icmp .ge 71, 3) := by decide +kernel
theorem dX4_keepNew_75 : decode cX4_keepNew 75 = .ok (.aload_n 1, 1) := by decide +kernel
theorem dX4_keepNew_76 : decode cX4_keepNew 76 = .ok (.getfield 47, 3) := by decide +kernel
theorem dX4_keepNew_79 : decode cX4_keepNew 79 = .ok (.iload 6, 2) := by decide +kernel
theorem dX4_keepNew_81 : decode cX4_keepNew 81 = .ok (.iaload, 1) := by decide +kernel
theorem dX4_keepNew_82 : decode cX4_keepNew 82 = .ok (.istore 7, 2) := by decide +kernel
theorem dX4_keepNew_84 : decode cX4_keepNew 84 = .ok (.aload_n 0, 1) := by decide +kernel
theorem dX4_keepNew_85 : decode cX4_keepNew 85 = .ok (.iload 7, 2) := by decide +kernel
theorem dX4_keepNew_87 : decode cX4_keepNew 87 = .ok (.aload_n 2, 1) := by decide +kernel
theorem dX4_keepNew_88 : decode cX4_keepNew 88 = .ok (.invokevirtual 71, 3) := by decide +kernel
theorem dX4_keepNew_91 : decode cX4_keepNew 91 = .ok (.istore 8, 2) := by decide +kernel
theorem dX4_keepNew_93 : decode cX4_keepNew 93 = .ok (.iload 8, 2) := by decide +kernel
theorem dX4_keepNew_95 : decode cX4_keepNew 95 = .ok (.iload 4, 2) := by decide +kernel
theorem dX4_keepNew_97 : decode cX4_keepNew 97 = .ok (.if_icmp .ne 20, 3) := by decide +kernel
theorem dX4_keepNew_100 : decode cX4_keepNew 100 = .ok (.aload_n 0, 1) := by decide +kernel
theorem dX4_keepNew_101 : decode cX4_keepNew 101 = .ok (.getfield 15, 3) := by decide +kernel
theorem dX4_keepNew_104 : decode cX4_keepNew 104 = .ok (.iload 7, 2) := by decide +kernel
theorem dX4_keepNew_106 : decode cX4_keepNew 106 = .ok (.aload_n 1, 1) := by decide +kernel
theorem dX4_keepNew_107 : decode cX4_keepNew 107 = .ok (.getfield 50, 3) := by decide +kernel
theorem dX4_keepNew_110 : decode cX4_keepNew 110 = .ok (.iload 7, 2) := by decide +kernel
theorem dX4_keepNew_112 : decode cX4_keepNew 112 = .ok (.iaload, 1) := by decide +kernel
theorem dX4_keepNew_113 : decode cX4_keepNew 113 = .ok (.iastore, 1) := by decide +kernel
theorem dX4_keepNew_114 : decode cX4_keepNew 114 = .ok (.goto 23, 3) := by decide +kernel
theorem dX4_keepNew_117 : decode cX4_keepNew 117 = .ok (.aload_n 0, 1) := by decide +kernel
theorem dX4_keepNew_118 : decode cX4_keepNew 118 = .ok (.getfield 34, 3) := by decide +kernel
theorem dX4_keepNew_121 : decode cX4_keepNew 121 = .ok (.iload 7, 2) := by decide +kernel
theorem dX4_keepNew_123 : decode cX4_keepNew 123 = .ok (.aload_n 1, 1) := by decide +kernel
theorem dX4_keepNew_124 : decode cX4_keepNew 124 = .ok (.getfield 50, 3) := by decide +kernel
theorem dX4_keepNew_127 : decode cX4_keepNew 127 = .ok (.iload 7, 2) := by decide +kernel
theorem dX4_keepNew_129 : decode cX4_keepNew 129 = .ok (.iaload, 1) := by decide +kernel
theorem dX4_keepNew_130 : decode cX4_keepNew 130 = .ok (.iload 4, 2) := by decide +kernel
theorem dX4_keepNew_132 : decode cX4_keepNew 132 = .ok (.iload 8, 2) := by decide +kernel
theorem dX4_keepNew_134 : decode cX4_keepNew 134 = .ok (.invokevirtual 79, 3) := by decide +kernel
theorem dX4_keepNew_137 : decode cX4_keepNew 137 = .ok (.iinc 6 1, 3) := by decide +kernel
theorem dX4_keepNew_140 : decode cX4_keepNew 140 = .ok (.goto (-74), 3) := by decide +kernel
theorem dX4_keepNew_143 : decode cX4_keepNew 143 = .ok (.aload_n 0, 1) := by decide +kernel
theorem dX4_keepNew_144 : decode cX4_keepNew 144 = .ok (.dup, 1) := by decide +kernel
theorem dX4_keepNew_145 : decode cX4_keepNew 145 = .ok (.getfield 83, 3) := by decide +kernel
theorem dX4_keepNew_148 : decode cX4_keepNew 148 = .ok (.iconst 1, 1) := by decide +kernel
theorem dX4_keepNew_149 : decode cX4_keepNew 149 = .ok (.iadd, 1) := by decide +kernel
theorem dX4_keepNew_150 : decode cX4_keepNew 150 = .ok (.putfield 83, 3) := by decide +kernel
theorem dX4_keepNew_153 : decode cX4_keepNew 153 = .ok (.iconst 1, 1) := by decide +kernel
theorem dX4_keepNew_154 : decode cX4_keepNew 154 = .ok (.ireturn, 1) := by decide +kernel
theorem dX4_roomOf_0 : decode cX4_roomOf 0 = .ok (.aload_n 0, 1) := by decide +kernel
theorem dX4_roomOf_1 : decode cX4_roomOf 1 = .ok (.getfield 18, 3) := by decide +kernel
theorem dX4_roomOf_4 : decode cX4_roomOf 4 = .ok (.aload_n 2, 1) := by decide +kernel
theorem dX4_roomOf_5 : decode cX4_roomOf 5 = .ok (.getfield 53, 3) := by decide +kernel
theorem dX4_roomOf_8 : decode cX4_roomOf 8 = .ok (.iload_n 1, 1) := by decide +kernel
theorem dX4_roomOf_9 : decode cX4_roomOf 9 = .ok (.bipush 8, 2) := by decide +kernel
theorem dX4_roomOf_11 : decode cX4_roomOf 11 = .ok (.idiv, 1) := by decide +kernel
theorem dX4_roomOf_12 : decode cX4_roomOf 12 = .ok (.iaload, 1) := by decide +kernel
theorem dX4_roomOf_13 : decode cX4_roomOf 13 = .ok (.iaload, 1) := by decide +kernel
theorem dX4_roomOf_14 : decode cX4_roomOf 14 = .ok (.ireturn, 1) := by decide +kernel
theorem dX4_noteUnlike_0 : decode cX4_noteUnlike 0 = .ok (.aload_n 0, 1) := by decide +kernel
theorem dX4_noteUnlike_1 : decode cX4_noteUnlike 1 = .ok (.getfield 86, 3) := by decide +kernel
theorem dX4_noteUnlike_4 : decode cX4_noteUnlike 4 = .ok (.ifCond .eq 4, 3) := by decide +kernel
theorem dX4_noteUnlike_7 : decode cX4_noteUnlike 7 = .ok (.return_, 1) := by decide +kernel
theorem dX4_noteUnlike_8 : decode cX4_noteUnlike 8 = .ok (.aload_n 0, 1) := by decide +kernel
theorem dX4_noteUnlike_9 : decode cX4_noteUnlike 9 = .ok (.iconst 1, 1) := by decide +kernel
theorem dX4_noteUnlike_10 : decode cX4_noteUnlike 10 = .ok (.putfield 86, 3) := by decide +kernel
theorem dX4_noteUnlike_13 : decode cX4_noteUnlike 13 = .ok (.aload_n 0, 1) := by decide +kernel
theorem dX4_noteUnlike_14 : decode cX4_noteUnlike 14 = .ok (.getfield 38, 3) := by decide +kernel
theorem dX4_noteUnlike_17 : decode cX4_noteUnlike 17 = .ok (.iconst 0, 1) := by decide +kernel
theorem dX4_noteUnlike_18 : decode cX4_noteUnlike 18 = .ok (.aload_n 0, 1) := by decide +kernel
theorem dX4_noteUnlike_19 : decode cX4_noteUnlike 19 = .ok (.getfield 90, 3) := by decide +kernel
theorem dX4_noteUnlike_22 : decode cX4_noteUnlike 22 = .ok (.iastore, 1) := by decide +kernel
theorem dX4_noteUnlike_23 : decode cX4_noteUnlike 23 = .ok (.aload_n 0, 1) := by decide +kernel
theorem dX4_noteUnlike_24 : decode cX4_noteUnlike 24 = .ok (.getfield 38, 3) := by decide +kernel
theorem dX4_noteUnlike_27 : decode cX4_noteUnlike 27 = .ok (.iconst 1, 1) := by decide +kernel
theorem dX4_noteUnlike_28 : decode cX4_noteUnlike 28 = .ok (.iload_n 1, 1) := by decide +kernel
theorem dX4_noteUnlike_29 : decode cX4_noteUnlike 29 = .ok (.iastore, 1) := by decide +kernel
theorem dX4_noteUnlike_30 : decode cX4_noteUnlike 30 = .ok (.aload_n 0, 1) := by decide +kernel
theorem dX4_noteUnlike_31 : decode cX4_noteUnlike 31 = .ok (.getfield 38, 3) := by decide +kernel
theorem dX4_noteUnlike_34 : decode cX4_noteUnlike 34 = .ok (.iconst 2, 1) := by decide +kernel
theorem dX4_noteUnlike_35 : decode cX4_noteUnlike 35 = .ok (.iload_n 2, 1) := by decide +kernel
theorem dX4_noteUnlike_36 : decode cX4_noteUnlike 36 = .ok (.iastore, 1) := by decide +kernel
theorem dX4_noteUnlike_37 : decode cX4_noteUnlike 37 = .ok (.aload_n 0, 1) := by decide +kernel
theorem dX4_noteUnlike_38 : decode cX4_noteUnlike 38 = .ok (.getfield 38, 3) := by decide +kernel
theorem dX4_noteUnlike_41 : decode cX4_noteUnlike 41 = .ok (.iconst 3, 1) := by decide +kernel
theorem dX4_noteUnlike_42 : decode cX4_noteUnlike 42 = .ok (.iload_n 3, 1) := by decide +kernel
theorem dX4_noteUnlike_43 : decode cX4_noteUnlike 43 = .ok (.iastore, 1) := by decide +kernel
theorem dX4_noteUnlike_44 : decode cX4_noteUnlike 44 = .ok (.aload_n 0, 1) := by decide +kernel
theorem dX4_noteUnlike_45 : decode cX4_noteUnlike 45 = .ok (.getfield 38, 3) := by decide +kernel
theorem dX4_noteUnlike_48 : decode cX4_noteUnlike 48 = .ok (.iconst 4, 1) := by decide +kernel
theorem dX4_noteUnlike_49 : decode cX4_noteUnlike 49 = .ok (.iload 4, 2) := by decide +kernel
theorem dX4_noteUnlike_51 : decode cX4_noteUnlike 51 = .ok (.iastore, 1) := by decide +kernel
theorem dX4_noteUnlike_52 : decode cX4_noteUnlike 52 = .ok (.return_, 1) := by decide +kernel
theorem dX4_unlikeCells_0 : decode cX4_unlikeCells 0 = .ok (.iconst 0, 1) := by decide +kernel
theorem dX4_unlikeCells_1 : decode cX4_unlikeCells 1 = .ok (.istore_n 1, 1) := by decide +kernel
theorem dX4_unlikeCells_2 : decode cX4_unlikeCells 2 = .ok (.iconst 0, 1) := by decide +kernel
theorem dX4_unlikeCells_3 : decode cX4_unlikeCells 3 = .ok (.istore_n 2, 1) := by decide +kernel
theorem dX4_unlikeCells_4 : decode cX4_unlikeCells 4 = .ok (.iload_n 2, 1) := by decide +kernel
theorem dX4_unlikeCells_5 : decode cX4_unlikeCells 5 = .ok (.sipush 128, 3) := by decide +kernel
theorem dX4_unlikeCells_8 : decode cX4_unlikeCells 8 = .ok (.if_icmp .ge 27, 3) := by decide +kernel
theorem dX4_unlikeCells_11 : decode cX4_unlikeCells 11 = .ok (.aload_n 0, 1) := by decide +kernel
theorem dX4_unlikeCells_12 : decode cX4_unlikeCells 12 = .ok (.getfield 9, 3) := by decide +kernel
theorem dX4_unlikeCells_15 : decode cX4_unlikeCells 15 = .ok (.iload_n 2, 1) := by decide +kernel
theorem dX4_unlikeCells_16 : decode cX4_unlikeCells 16 = .ok (.iaload, 1) := by decide +kernel
theorem dX4_unlikeCells_17 : decode cX4_unlikeCells 17 = .ok (.aload_n 0, 1) := by decide +kernel
theorem dX4_unlikeCells_18 : decode cX4_unlikeCells 18 = .ok (.getfield 15, 3) := by decide +kernel
theorem dX4_unlikeCells_21 : decode cX4_unlikeCells 21 = .ok (.iload_n 2, 1) := by decide +kernel
theorem dX4_unlikeCells_22 : decode cX4_unlikeCells 22 = .ok (.iaload, 1) := by decide +kernel
theorem dX4_unlikeCells_23 : decode cX4_unlikeCells 23 = .ok (.if_icmp .eq 6, 3) := by decide +kernel
theorem dX4_unlikeCells_26 : decode cX4_unlikeCells 26 = .ok (.iinc 1 1, 3) := by decide +kernel
theorem dX4_unlikeCells_29 : decode cX4_unlikeCells 29 = .ok (.iinc 2 1, 3) := by decide +kernel
theorem dX4_unlikeCells_32 : decode cX4_unlikeCells 32 = .ok (.goto (-28), 3) := by decide +kernel
theorem dX4_unlikeCells_35 : decode cX4_unlikeCells 35 = .ok (.iload_n 1, 1) := by decide +kernel
theorem dX4_unlikeCells_36 : decode cX4_unlikeCells 36 = .ok (.ireturn, 1) := by decide +kernel
theorem dX4_renew_0 : decode cX4_renew 0 = .ok (.aload_n 0, 1) := by decide +kernel
theorem dX4_renew_1 : decode cX4_renew 1 = .ok (.getfield 9, 3) := by decide +kernel
theorem dX4_renew_4 : decode cX4_renew 4 = .ok (.iconst 0, 1) := by decide +kernel
theorem dX4_renew_5 : decode cX4_renew 5 = .ok (.aload_n 0, 1) := by decide +kernel
theorem dX4_renew_6 : decode cX4_renew 6 = .ok (.getfield 15, 3) := by decide +kernel
theorem dX4_renew_9 : decode cX4_renew 9 = .ok (.iconst 0, 1) := by decide +kernel
theorem dX4_renew_10 : decode cX4_renew 10 = .ok (.sipush 128, 3) := by decide +kernel
theorem dX4_renew_13 : decode cX4_renew 13 = .ok (.invokestatic 93, 3) := by decide +kernel
theorem dX4_renew_16 : decode cX4_renew 16 = .ok (.aload_n 0, 1) := by decide +kernel
theorem dX4_renew_17 : decode cX4_renew 17 = .ok (.getfield 34, 3) := by decide +kernel
theorem dX4_renew_20 : decode cX4_renew 20 = .ok (.iconst 0, 1) := by decide +kernel
theorem dX4_renew_21 : decode cX4_renew 21 = .ok (.putfield 99, 3) := by decide +kernel
theorem dX4_renew_24 : decode cX4_renew 24 = .ok (.aload_n 0, 1) := by decide +kernel
theorem dX4_renew_25 : decode cX4_renew 25 = .ok (.iconst 0, 1) := by decide +kernel
theorem dX4_renew_26 : decode cX4_renew 26 = .ok (.putfield 86, 3) := by decide +kernel
theorem dX4_renew_29 : decode cX4_renew 29 = .ok (.aload_n 0, 1) := by decide +kernel
theorem dX4_renew_30 : decode cX4_renew 30 = .ok (.iconst 0, 1) := by decide +kernel
theorem dX4_renew_31 : decode cX4_renew 31 = .ok (.putfield 90, 3) := by decide +kernel
theorem dX4_renew_34 : decode cX4_renew 34 = .ok (.return_, 1) := by decide +kernel
set_option maxRecDepth 20000 in
theorem ggX4_become_X3_become : GoodIn wsX4_become wsX3_become := goodIn_r _ [20, 21, 22, 23, 24, 25, 3, 4, 5, 48, 49, 50] (by decide +kernel) (by decide +kernel)
set_option maxRecDepth 20000 in
theorem gX4_become_X3_become : GoodIn wsX4_become (wsV RX4 102 RX3 yX3_become wsX3_become) := goodIn_app (goodIn_of _ (by decide +kernel)) ggX4_become_X3_become
set_option maxRecDepth 20000 in
theorem ggX4_become_X6_become : GoodIn wsX4_become wsX6_become := goodIn_r _ [30, 31, 32, 23, 33, 34, 3, 4, 5, 35, 36, 51, 52, 53, 54, 55] (by decide +kernel) (by decide +kernel)
set_option maxRecDepth 20000 in
theorem gX4_become_X6_become : GoodIn wsX4_become (wsV RX4 106 RX6 yX6_become wsX6_become) := goodIn_app (goodIn_of _ (by decide +kernel)) ggX4_become_X6_become
theorem dX4_become_0 : decode cX4_become 0 = .ok (.aload_n 1, 1) := by decide +kernel
theorem dX4_become_1 : decode cX4_become 1 = .ok (.getfield 9, 3) := by decide +kernel
theorem dX4_become_4 : decode cX4_become 4 = .ok (.iconst 0, 1) := by decide +kernel
theorem dX4_become_5 : decode cX4_become 5 = .ok (.aload_n 0, 1) := by decide +kernel
theorem dX4_become_6 : decode cX4_become 6 = .ok (.getfield 9, 3) := by decide +kernel
theorem dX4_become_9 : decode cX4_become 9 = .ok (.iconst 0, 1) := by decide +kernel
theorem dX4_become_10 : decode cX4_become 10 = .ok (.sipush 128, 3) := by decide +kernel
theorem dX4_become_13 : decode cX4_become 13 = .ok (.invokestatic 93, 3) := by decide +kernel
theorem dX4_become_16 : decode cX4_become 16 = .ok (.aload_n 1, 1) := by decide +kernel
theorem dX4_become_17 : decode cX4_become 17 = .ok (.getfield 15, 3) := by decide +kernel
theorem dX4_become_20 : decode cX4_become 20 = .ok (.iconst 0, 1) := by decide +kernel
theorem dX4_become_21 : decode cX4_become 21 = .ok (.aload_n 0, 1) := by decide +kernel
theorem dX4_become_22 : decode cX4_become 22 = .ok (.getfield 15, 3) := by decide +kernel
