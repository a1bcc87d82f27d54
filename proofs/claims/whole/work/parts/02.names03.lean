theorem dX10_module_0 : decode cX10_module 0 = .ok (.iload_n 1, 1) := by decide +kernel
theorem dX10_module_1 : decode cX10_module 1 = .ok (.iconst 1, 1) := by decide +kernel
theorem dX10_module_2 : decode cX10_module 2 = .ok (.if_icmp .lt 9, 3) := by decide +kernel
theorem dX10_module_5 : decode cX10_module 5 = .ok (.iload_n 1, 1) := by decide +kernel
theorem dX10_module_6 : decode cX10_module 6 = .ok (.bipush 99, 2) := by decide +kernel
theorem dX10_module_8 : decode cX10_module 8 = .ok (.if_icmp .le 5, 3) := by decide +kernel
theorem dX10_module_11 : decode cX10_module 11 = .ok (.iconst (-1), 1) := by decide +kernel
theorem dX10_module_12 : decode cX10_module 12 = .ok (.ireturn, 1) := by decide +kernel
theorem dX10_module_13 : decode cX10_module 13 = .ok (.aload_n 0, 1) := by decide +kernel
theorem dX10_module_14 : decode cX10_module 14 = .ok (.getfield 12, 3) := by decide +kernel
theorem dX10_module_17 : decode cX10_module 17 = .ok (.getfield 92, 3) := by decide +kernel
theorem dX10_module_20 : decode cX10_module 20 = .ok (.bipush 10, 2) := by decide +kernel
theorem dX10_module_22 : decode cX10_module 22 = .ok (.if_icmp .lt 8, 3) := by decide +kernel
theorem dX10_module_25 : decode cX10_module 25 = .ok (.bipush (-3), 2) := by decide +kernel
theorem dX10_module_27 : decode cX10_module 27 = .ok (.goto 11, 3) := by decide +kernel
theorem dX10_module_30 : decode cX10_module 30 = .ok (.aload_n 0, 1) := by decide +kernel
theorem dX10_module_31 : decode cX10_module 31 = .ok (.getfield 12, 3) := by decide +kernel
theorem dX10_module_34 : decode cX10_module 34 = .ok (.iload_n 1, 1) := by decide +kernel
theorem dX10_module_35 : decode cX10_module 35 = .ok (.invokevirtual 96, 3) := by decide +kernel
theorem dX10_module_38 : decode cX10_module 38 = .ok (.ireturn, 1) := by decide +kernel
set_option maxRecDepth 20000 in
theorem ggX10_table_X9_hasModule : GoodIn wsX10_table wsX9_hasModule := goodIn_r _ [7, 8, 28, 29, 30, 31, 32, 33, 34, 35, 36, 37, 38] (by decide +kernel) (by decide +kernel)
set_option maxRecDepth 20000 in
theorem gX10_table_X9_hasModule : GoodIn wsX10_table (wsV RX10 100 RX9 yX9_hasModule wsX9_hasModule) := goodIn_app (goodIn_of _ (by decide +kernel)) ggX10_table_X9_hasModule
set_option maxRecDepth 20000 in
theorem ggX10_table_X9_addTable : GoodIn wsX10_table wsX9_addTable := goodIn_r _ [12, 13, 14, 28, 29, 30, 31, 32, 33, 34, 35, 36, 37, 38] (by decide +kernel) (by decide +kernel)
set_option maxRecDepth 20000 in
theorem gX10_table_X9_addTable : GoodIn wsX10_table (wsV RX10 107 RX9 yX9_addTable wsX9_addTable) := goodIn_app (goodIn_of _ (by decide +kernel)) ggX10_table_X9_addTable
theorem dX10_table_0 : decode cX10_table 0 = .ok (.aload_n 0, 1) := by decide +kernel
theorem dX10_table_1 : decode cX10_table 1 = .ok (.getfield 12, 3) := by decide +kernel
theorem dX10_table_4 : decode cX10_table 4 = .ok (.iload_n 1, 1) := by decide +kernel
theorem dX10_table_5 : decode cX10_table 5 = .ok (.invokevirtual 100, 3) := by decide +kernel
theorem dX10_table_8 : decode cX10_table 8 = .ok (.ifCond .ne 5, 3) := by decide +kernel
theorem dX10_table_11 : decode cX10_table 11 = .ok (.iconst (-1), 1) := by decide +kernel
theorem dX10_table_12 : decode cX10_table 12 = .ok (.ireturn, 1) := by decide +kernel
theorem dX10_table_13 : decode cX10_table 13 = .ok (.aload_n 0, 1) := by decide +kernel
theorem dX10_table_14 : decode cX10_table 14 = .ok (.getfield 12, 3) := by decide +kernel
theorem dX10_table_17 : decode cX10_table 17 = .ok (.getfield 104, 3) := by decide +kernel
theorem dX10_table_20 : decode cX10_table 20 = .ok (.bipush 16, 2) := by decide +kernel
theorem dX10_table_22 : decode cX10_table 22 = .ok (.if_icmp .lt 8, 3) := by decide +kernel
theorem dX10_table_25 : decode cX10_table 25 = .ok (.bipush (-3), 2) := by decide +kernel
theorem dX10_table_27 : decode cX10_table 27 = .ok (.goto 11, 3) := by decide +kernel
theorem dX10_table_30 : decode cX10_table 30 = .ok (.aload_n 0, 1) := by decide +kernel
theorem dX10_table_31 : decode cX10_table 31 = .ok (.getfield 12, 3) := by decide +kernel
theorem dX10_table_34 : decode cX10_table 34 = .ok (.iload_n 1, 1) := by decide +kernel
theorem dX10_table_35 : decode cX10_table 35 = .ok (.invokevirtual 107, 3) := by decide +kernel
theorem dX10_table_38 : decode cX10_table 38 = .ok (.ireturn, 1) := by decide +kernel
set_option maxRecDepth 20000 in
theorem ggX10_routine_X9_hasModule : GoodIn wsX10_routine wsX9_hasModule := goodIn_r _ [7, 8, 28, 29, 30, 31, 32, 33, 34, 35, 36, 37, 38] (by decide +kernel) (by decide +kernel)
set_option maxRecDepth 20000 in
theorem gX10_routine_X9_hasModule : GoodIn wsX10_routine (wsV RX10 100 RX9 yX9_hasModule wsX9_hasModule) := goodIn_app (goodIn_of _ (by decide +kernel)) ggX10_routine_X9_hasModule
set_option maxRecDepth 20000 in
theorem ggX10_routine_X9_addRoutine : GoodIn wsX10_routine wsX9_addRoutine := goodIn_r _ [12, 13, 14, 28, 29, 30, 31, 32, 33, 34, 35, 36, 37, 38] (by decide +kernel) (by decide +kernel)
set_option maxRecDepth 20000 in
theorem gX10_routine_X9_addRoutine : GoodIn wsX10_routine (wsV RX10 113 RX9 yX9_addRoutine wsX9_addRoutine) := goodIn_app (goodIn_of _ (by decide +kernel)) ggX10_routine_X9_addRoutine
theorem dX10_routine_0 : decode cX10_routine 0 = .ok (.aload_n 0, 1) := by decide +kernel
theorem dX10_routine_1 : decode cX10_routine 1 = .ok (.getfield 12, 3) := by decide +kernel
theorem dX10_routine_4 : decode cX10_routine 4 = .ok (.iload_n 1, 1) := by decide +kernel
theorem dX10_routine_5 : decode cX10_routine 5 = .ok (.invokevirtual 100, 3) := by decide +kernel
theorem dX10_routine_8 : decode cX10_routine 8 = .ok (.ifCond .ne 5, 3) := by decide +kernel
theorem dX10_routine_11 : decode cX10_routine 11 = .ok (.iconst (-1), 1) := by decide +kernel
theorem dX10_routine_12 : decode cX10_routine 12 = .ok (.ireturn, 1) := by decide +kernel
theorem dX10_routine_13 : decode cX10_routine 13 = .ok (.aload_n 0, 1) := by decide +kernel
theorem dX10_routine_14 : decode cX10_routine 14 = .ok (.getfield 12, 3) := by decide +kernel
theorem dX10_routine_17 : decode cX10_routine 17 = .ok (.getfield 110, 3) := by decide +kernel
theorem dX10_routine_20 : decode cX10_routine 20 = .ok (.bipush 40, 2) := by decide +kernel
theorem dX10_routine_22 : decode cX10_routine 22 = .ok (.if_icmp .lt 8, 3) := by decide +kernel
theorem dX10_routine_25 : decode cX10_routine 25 = .ok (.bipush (-3), 2) := by decide +kernel
theorem dX10_routine_27 : decode cX10_routine 27 = .ok (.goto 11, 3) := by decide +kernel
theorem dX10_routine_30 : decode cX10_routine 30 = .ok (.aload_n 0, 1) := by decide +kernel
theorem dX10_routine_31 : decode cX10_routine 31 = .ok (.getfield 12, 3) := by decide +kernel
theorem dX10_routine_34 : decode cX10_routine 34 = .ok (.iload_n 1, 1) := by decide +kernel
theorem dX10_routine_35 : decode cX10_routine 35 = .ok (.invokevirtual 113, 3) := by decide +kernel
theorem dX10_routine_38 : decode cX10_routine 38 = .ok (.ireturn, 1) := by decide +kernel
set_option maxRecDepth 20000 in
theorem ggX10_line_X9_hasRoutine : GoodIn wsX10_line wsX9_hasRoutine := goodIn_r _ [7, 8, 57, 58, 59, 60, 61, 62, 63, 64, 65, 66, 67] (by decide +kernel) (by decide +kernel)
set_option maxRecDepth 20000 in
theorem gX10_line_X9_hasRoutine : GoodIn wsX10_line (wsV RX10 116 RX9 yX9_hasRoutine wsX9_hasRoutine) := goodIn_app (goodIn_of _ (by decide +kernel)) ggX10_line_X9_hasRoutine
set_option maxRecDepth 20000 in
theorem ggX10_line_X9_isLine : GoodIn wsX10_line wsX9_isLine := goodIn_r _ [12, 13, 14, 15, 6, 16, 17, 18, 19, 20, 21, 22, 4, 5, 7, 8, 57, 58, 59, 60, 61, 62, 63, 64, 65, 66, 67] (by decide +kernel) (by decide +kernel)
set_option maxRecDepth 20000 in
theorem gX10_line_X9_isLine : GoodIn wsX10_line (wsV RX10 119 RX9 yX9_isLine wsX9_isLine) := goodIn_app (goodIn_of _ (by decide +kernel)) ggX10_line_X9_isLine
set_option maxRecDepth 20000 in
theorem ggX10_line_X9_addLine : GoodIn wsX10_line wsX9_addLine := goodIn_r _ [26, 27, 28, 29, 30, 31, 32, 33, 6, 34, 35, 36, 37, 38, 39, 40, 41, 42, 43, 57, 58, 59, 60, 61, 62, 63, 64, 65, 66, 67] (by decide +kernel) (by decide +kernel)
set_option maxRecDepth 20000 in
theorem gX10_line_X9_addLine : GoodIn wsX10_line (wsV RX10 126 RX9 yX9_addLine wsX9_addLine) := goodIn_app (goodIn_of _ (by decide +kernel)) ggX10_line_X9_addLine
theorem dX10_line_0 : decode cX10_line 0 = .ok (.aload_n 0, 1) := by decide +kernel
theorem dX10_line_1 : decode cX10_line 1 = .ok (.getfield 12, 3) := by decide +kernel
theorem dX10_line_4 : decode cX10_line 4 = .ok (.iload_n 1, 1) := by decide +kernel
theorem dX10_line_5 : decode cX10_line 5 = .ok (.invokevirtual 116, 3) := by decide +kernel
theorem dX10_line_8 : decode cX10_line 8 = .ok (.ifCond .eq 17, 3) := by decide +kernel
theorem dX10_line_11 : decode cX10_line 11 = .ok (.aload_n 0, 1) := by decide +kernel
theorem dX10_line_12 : decode cX10_line 12 = .ok (.getfield 12, 3) := by decide +kernel
theorem dX10_line_15 : decode cX10_line 15 = .ok (.iload_n 2, 1) := by decide +kernel
theorem dX10_line_16 : decode cX10_line 16 = .ok (.iload_n 3, 1) := by decide +kernel
theorem dX10_line_17 : decode cX10_line 17 = .ok (.iload 4, 2) := by decide +kernel
theorem dX10_line_19 : decode cX10_line 19 = .ok (.invokevirtual 119, 3) := by decide +kernel
theorem dX10_line_22 : decode cX10_line 22 = .ok (.ifCond .ne 5, 3) := by decide +kernel
theorem dX10_line_25 : decode cX10_line 25 = .ok (.iconst (-1), 1) := by decide +kernel
theorem dX10_line_26 : decode cX10_line 26 = .ok (.ireturn, 1) := by decide +kernel
theorem dX10_line_27 : decode cX10_line 27 = .ok (.aload_n 0, 1) := by decide +kernel
theorem dX10_line_28 : decode cX10_line 28 = .ok (.getfield 12, 3) := by decide +kernel
theorem dX10_line_31 : decode cX10_line 31 = .ok (.getfield 123, 3) := by decide +kernel
theorem dX10_line_34 : decode cX10_line 34 = .ok (.iload_n 1, 1) := by decide +kernel
theorem dX10_line_35 : decode cX10_line 35 = .ok (.iaload, 1) := by decide +kernel
theorem dX10_line_36 : decode cX10_line 36 = .ok (.bipush 16, 2) := by decide +kernel
theorem dX10_line_38 : decode cX10_line 38 = .ok (.if_icmp .lt 8, 3) := by decide +kernel
theorem dX10_line_41 : decode cX10_line 41 = .ok (.bipush (-3), 2) := by decide +kernel
theorem dX10_line_43 : decode cX10_line 43 = .ok (.goto 15, 3) := by decide +kernel
theorem dX10_line_46 : decode cX10_line 46 = .ok (.aload_n 0, 1) := by decide +kernel
theorem dX10_line_47 : decode cX10_line 47 = .ok (.getfield 12, 3) := by decide +kernel
theorem dX10_line_50 : decode cX10_line 50 = .ok (.iload_n 1, 1) := by decide +kernel
theorem dX10_line_51 : decode cX10_line 51 = .ok (.iload_n 2, 1) := by decide +kernel
theorem dX10_line_52 : decode cX10_line 52 = .ok (.iload_n 3, 1) := by decide +kernel
theorem dX10_line_53 : decode cX10_line 53 = .ok (.iload 4, 2) := by decide +kernel
theorem dX10_line_55 : decode cX10_line 55 = .ok (.invokevirtual 126, 3) := by decide +kernel
theorem dX10_line_58 : decode cX10_line 58 = .ok (.ireturn, 1) := by decide +kernel
set_option maxRecDepth 20000 in
theorem ggX10_clear_X9_hasRoutine : GoodIn wsX10_clear wsX9_hasRoutine := goodIn_r _ [6, 7, 41, 42, 43, 44, 45, 46, 47, 48, 49, 50, 51] (by decide +kernel) (by decide +kernel)
set_option maxRecDepth 20000 in
theorem gX10_clear_X9_hasRoutine : GoodIn wsX10_clear (wsV RX10 116 RX9 yX9_hasRoutine wsX9_hasRoutine) := goodIn_app (goodIn_of _ (by decide +kernel)) ggX10_clear_X9_hasRoutine
set_option maxRecDepth 20000 in
theorem ggX10_clear_X9_dropLines : GoodIn wsX10_clear wsX9_dropLines := goodIn_r _ [11, 12, 13, 14, 15, 5, 16, 17, 18, 19, 20, 21, 22, 23, 24, 25, 26, 27, 41, 42, 43, 44, 45, 46, 47, 48, 49, 50, 51] (by decide +kernel) (by decide +kernel)
set_option maxRecDepth 20000 in
theorem gX10_clear_X9_dropLines : GoodIn wsX10_clear (wsV RX10 130 RX9 yX9_dropLines wsX9_dropLines) := goodIn_app (goodIn_of _ (by decide +kernel)) ggX10_clear_X9_dropLines
theorem dX10_clear_0 : decode cX10_clear 0 = .ok (.aload_n 0, 1) := by decide +kernel
theorem dX10_clear_1 : decode cX10_clear 1 = .ok (.getfield 12, 3) := by decide +kernel
theorem dX10_clear_4 : decode cX10_clear 4 = .ok (.iload_n 1, 1) := by decide +kernel
theorem dX10_clear_5 : decode cX10_clear 5 = .ok (.invokevirtual 116, 3) := by decide +kernel
theorem dX10_clear_8 : decode cX10_clear 8 = .ok (.ifCond .eq 14, 3) := by decide +kernel
theorem dX10_clear_11 : decode cX10_clear 11 = .ok (.aload_n 0, 1) := by decide +kernel
theorem dX10_clear_12 : decode cX10_clear 12 = .ok (.getfield 12, 3) := by decide +kernel
theorem dX10_clear_15 : decode cX10_clear 15 = .ok (.iload_n 1, 1) := by decide +kernel
theorem dX10_clear_16 : decode cX10_clear 16 = .ok (.invokevirtual 130, 3) := by decide +kernel
theorem dX10_clear_19 : decode cX10_clear 19 = .ok (.goto 4, 3) := by decide +kernel
theorem dX10_clear_22 : decode cX10_clear 22 = .ok (.iconst (-1), 1) := by decide +kernel
theorem dX10_clear_23 : decode cX10_clear 23 = .ok (.ireturn, 1) := by decide +kernel
set_option maxRecDepth 20000 in
theorem ggX10_run_X9_hasRoutine : GoodIn wsX10_run wsX9_hasRoutine := goodIn_r _ [9, 10, 136, 137, 138, 139, 140, 141, 142, 143, 144, 145, 146] (by decide +kernel) (by decide +kernel)
set_option maxRecDepth 20000 in
theorem gX10_run_X9_hasRoutine : GoodIn wsX10_run (wsV RX10 116 RX9 yX9_hasRoutine wsX9_hasRoutine) := goodIn_app (goodIn_of _ (by decide +kernel)) ggX10_run_X9_hasRoutine
set_option maxRecDepth 20000 in
theorem ggX10_run_X10_standsInOld : GoodIn wsX10_run wsX10_standsInOld := goodIn_r _ [15, 2, 1, 16, 17, 18, 19, 20, 21, 22, 23, 24, 25, 26, 27, 28, 29, 30, 31, 32, 33, 34, 35, 36, 37, 38, 39, 40, 41, 42, 43, 44, 45, 46, 47, 48, 49, 50, 51, 52, 53, 54, 55, 56, 57, 58, 8, 59, 60, 61, 62, 63, 14, 64, 65, 66, 67, 68, 69, 70, 71, 72, 73, 74, 75, 76, 77, 78, 79, 80, 81, 82, 83, 84, 85, 86, 87, 88, 89, 90, 91, 92, 93, 94, 95, 96, 97, 98, 99, 100, 101, 102, 103, 104, 105, 106, 107, 108, 109, 110, 111, 112, 113, 114, 115, 116, 117, 118, 119, 120, 121, 122, 123, 124, 125, 147, 148, 149, 150, 151, 152, 153, 154, 155, 156, 157, 126, 127, 128, 129, 130, 131, 132, 133, 134, 135, 136, 137, 138, 139, 140, 141, 142, 143, 144, 145, 146, 158, 159, 160] (by decide +kernel) (by decide +kernel)
set_option maxRecDepth 20000 in
theorem gX10_run_X10_standsInOld : GoodIn wsX10_run (wsV RX10 133 RX10 yX10_standsInOld wsX10_standsInOld) := goodIn_app (goodIn_of _ (by decide +kernel)) ggX10_run_X10_standsInOld
theorem dX10_run_0 : decode cX10_run 0 = .ok (.aload_n 0, 1) := by decide +kernel
theorem dX10_run_1 : decode cX10_run 1 = .ok (.getfield 12, 3) := by decide +kernel
theorem dX10_run_4 : decode cX10_run 4 = .ok (.iload_n 1, 1) := by decide +kernel
theorem dX10_run_5 : decode cX10_run 5 = .ok (.invokevirtual 116, 3) := by decide +kernel
theorem dX10_run_8 : decode cX10_run 8 = .ok (.ifCond .ne 5, 3) := by decide +kernel
theorem dX10_run_11 : decode cX10_run 11 = .ok (.iconst (-1), 1) := by decide +kernel
theorem dX10_run_12 : decode cX10_run 12 = .ok (.ireturn, 1) := by decide +kernel
theorem dX10_run_13 : decode cX10_run 13 = .ok (.aload_n 0, 1) := by decide +kernel
theorem dX10_run_14 : decode cX10_run 14 = .ok (.iload_n 1, 1) := by decide +kernel
theorem dX10_run_15 : decode cX10_run 15 = .ok (.iload_n 2, 1) := by decide +kernel
theorem dX10_run_16 : decode cX10_run 16 = .ok (.invokevirtual 133, 3) := by decide +kernel
theorem dX10_run_19 : decode cX10_run 19 = .ok (.ifCond .eq 13, 3) := by decide +kernel
theorem dX10_run_22 : decode cX10_run 22 = .ok (.aload_n 0, 1) := by decide +kernel
theorem dX10_run_23 : decode cX10_run 23 = .ok (.getfield 19, 3) := by decide +kernel
theorem dX10_run_26 : decode cX10_run 26 = .ok (.getfield 137, 3) := by decide +kernel
theorem dX10_run_29 : decode cX10_run 29 = .ok (.goto 5, 3) := by decide +kernel
theorem dX10_run_32 : decode cX10_run 32 = .ok (.ldc 140, 2) := by decide +kernel
theorem dX10_run_34 : decode cX10_run 34 = .ok (.ireturn, 1) := by decide +kernel
set_option maxRecDepth 20000 in
theorem ggX10_cell_X10_isHouse : GoodIn wsX10_cell wsX10_isHouse := goodIn_r _ [7] (by decide +kernel) (by decide +kernel)
set_option maxRecDepth 20000 in
theorem gX10_cell_X10_isHouse : GoodIn wsX10_cell (va_wsS RX10 141 yX10_isHouse wsX10_isHouse) := goodIn_app (goodIn_of _ (by decide +kernel)) ggX10_cell_X10_isHouse
set_option maxRecDepth 20000 in
theorem ggX10_cell_X9_hasCell : GoodIn wsX10_cell wsX9_hasCell := goodIn_r _ [12, 13, 14, 15, 11, 16, 17, 38, 39, 40, 41, 42, 43, 44, 45, 46, 47, 48] (by decide +kernel) (by decide +kernel)
set_option maxRecDepth 20000 in
theorem gX10_cell_X9_hasCell : GoodIn wsX10_cell (wsV RX10 144 RX9 yX9_hasCell wsX9_hasCell) := goodIn_app (goodIn_of _ (by decide +kernel)) ggX10_cell_X9_hasCell
set_option maxRecDepth 20000 in
theorem ggX10_cell_X4_cellsOf : GoodIn wsX10_cell wsX4_cellsOf := goodIn_r _ [22, 23, 24, 49, 50, 51, 52, 53, 54, 55, 56, 57, 58, 59] (by decide +kernel) (by decide +kernel)
set_option maxRecDepth 20000 in
theorem gX10_cell_X4_cellsOf : GoodIn wsX10_cell (wsV RX10 147 RX4 yX4_cellsOf wsX4_cellsOf) := goodIn_app (goodIn_of _ (by decide +kernel)) ggX10_cell_X4_cellsOf
theorem dX10_cell_0 : decode cX10_cell 0 = .ok (.iload_n 1, 1) := by decide +kernel
theorem dX10_cell_1 : decode cX10_cell 1 = .ok (.invokestatic 141, 3) := by decide +kernel
theorem dX10_cell_4 : decode cX10_cell 4 = .ok (.ifCond .eq 15, 3) := by decide +kernel
theorem dX10_cell_7 : decode cX10_cell 7 = .ok (.aload_n 0, 1) := by decide +kernel
theorem dX10_cell_8 : decode cX10_cell 8 = .ok (.getfield 12, 3) := by decide +kernel
theorem dX10_cell_11 : decode cX10_cell 11 = .ok (.iload_n 2, 1) := by decide +kernel
theorem dX10_cell_12 : decode cX10_cell 12 = .ok (.iload_n 3, 1) := by decide +kernel
theorem dX10_cell_13 : decode cX10_cell 13 = .ok (.invokevirtual 144, 3) := by decide +kernel
theorem dX10_cell_16 : decode cX10_cell 16 = .ok (.ifCond .ne 6, 3) := by decide +kernel
theorem dX10_cell_19 : decode cX10_cell 19 = .ok (.ldc 140, 2) := by decide +kernel
theorem dX10_cell_21 : decode cX10_cell 21 = .ok (.ireturn, 1) := by decide +kernel
theorem dX10_cell_22 : decode cX10_cell 22 = .ok (.aload_n 0, 1) := by decide +kernel
theorem dX10_cell_23 : decode cX10_cell 23 = .ok (.getfield 26, 3) := by decide +kernel
theorem dX10_cell_26 : decode cX10_cell 26 = .ok (.iload_n 1, 1) := by decide +kernel
theorem dX10_cell_27 : decode cX10_cell 27 = .ok (.invokevirtual 147, 3) := by decide +kernel
theorem dX10_cell_30 : decode cX10_cell 30 = .ok (.iload_n 2, 1) := by decide +kernel
theorem dX10_cell_31 : decode cX10_cell 31 = .ok (.bipush 8, 2) := by decide +kernel
theorem dX10_cell_33 : decode cX10_cell 33 = .ok (.imul, 1) := by decide +kernel
theorem dX10_cell_34 : decode cX10_cell 34 = .ok (.iload_n 3, 1) := by decide +kernel
theorem dX10_cell_35 : decode cX10_cell 35 = .ok (.iadd, 1) := by decide +kernel
theorem dX10_cell_36 : decode cX10_cell 36 = .ok (.iaload, 1) := by decide +kernel
theorem dX10_cell_37 : decode cX10_cell 37 = .ok (.ireturn, 1) := by decide +kernel
set_option maxRecDepth 20000 in
theorem ggX10_counted_X9_hasTiePlace : GoodIn wsX10_counted wsX9_hasTiePlace := goodIn_r _ [8, 9, 10, 11, 7, 12, 13, 14, 15, 16, 17, 18, 47, 48, 49, 50, 51, 52, 53, 54, 55, 56, 57] (by decide +kernel) (by decide +kernel)
set_option maxRecDepth 20000 in
theorem gX10_counted_X9_hasTiePlace : GoodIn wsX10_counted (wsV RX10 151 RX9 yX9_hasTiePlace wsX9_hasTiePlace) := goodIn_app (goodIn_of _ (by decide +kernel)) ggX10_counted_X9_hasTiePlace
set_option maxRecDepth 20000 in
theorem ggX10_counted_X10_tiePlace : GoodIn wsX10_counted wsX10_tiePlace := goodIn_r _ [22] (by decide +kernel) (by decide +kernel)
set_option maxRecDepth 20000 in
theorem gX10_counted_X10_tiePlace : GoodIn wsX10_counted (va_wsS RX10 157 yX10_tiePlace wsX10_tiePlace) := goodIn_app (goodIn_of _ (by decide +kernel)) ggX10_counted_X10_tiePlace
theorem dX10_counted_0 : decode cX10_counted 0 = .ok (.aload_n 0, 1) := by decide +kernel
theorem dX10_counted_1 : decode cX10_counted 1 = .ok (.getfield 12, 3) := by decide +kernel
theorem dX10_counted_4 : decode cX10_counted 4 = .ok (.iload_n 1, 1) := by decide +kernel
theorem dX10_counted_5 : decode cX10_counted 5 = .ok (.iload_n 2, 1) := by decide +kernel
theorem dX10_counted_6 : decode cX10_counted 6 = .ok (.iload_n 3, 1) := by decide +kernel
theorem dX10_counted_7 : decode cX10_counted 7 = .ok (.invokevirtual 151, 3) := by decide +kernel
theorem dX10_counted_10 : decode cX10_counted 10 = .ok (.ifCond .eq 20, 3) := by decide +kernel
theorem dX10_counted_13 : decode cX10_counted 13 = .ok (.aload_n 0, 1) := by decide +kernel
theorem dX10_counted_14 : decode cX10_counted 14 = .ok (.getfield 26, 3) := by decide +kernel
theorem dX10_counted_17 : decode cX10_counted 17 = .ok (.getfield 154, 3) := by decide +kernel
theorem dX10_counted_20 : decode cX10_counted 20 = .ok (.iload_n 1, 1) := by decide +kernel
theorem dX10_counted_21 : decode cX10_counted 21 = .ok (.iload_n 2, 1) := by decide +kernel
theorem dX10_counted_22 : decode cX10_counted 22 = .ok (.iload_n 3, 1) := by decide +kernel
theorem dX10_counted_23 : decode cX10_counted 23 = .ok (.invokestatic 157, 3) := by decide +kernel
theorem dX10_counted_26 : decode cX10_counted 26 = .ok (.iaload, 1) := by decide +kernel
theorem dX10_counted_27 : decode cX10_counted 27 = .ok (.goto 4, 3) := by decide +kernel
theorem dX10_counted_30 : decode cX10_counted 30 = .ok (.iconst (-1), 1) := by decide +kernel
theorem dX10_counted_31 : decode cX10_counted 31 = .ok (.ireturn, 1) := by decide +kernel
set_option maxRecDepth 20000 in
theorem ggX10_tied_X9_hasTiePlace : GoodIn wsX10_tied wsX9_hasTiePlace := goodIn_r _ [7, 8, 9, 10, 6, 11, 12, 13, 14, 15, 16, 17, 35, 36, 37, 38, 39, 40, 41, 42, 43, 44, 45] (by decide +kernel) (by decide +kernel)
set_option maxRecDepth 20000 in
theorem gX10_tied_X9_hasTiePlace : GoodIn wsX10_tied (wsV RX10 151 RX9 yX9_hasTiePlace wsX9_hasTiePlace) := goodIn_app (goodIn_of _ (by decide +kernel)) ggX10_tied_X9_hasTiePlace
set_option maxRecDepth 20000 in
theorem ggX10_tied_X10_tiePlace : GoodIn wsX10_tied wsX10_tiePlace := goodIn_r _ [21] (by decide +kernel) (by decide +kernel)
set_option maxRecDepth 20000 in
theorem gX10_tied_X10_tiePlace : GoodIn wsX10_tied (va_wsS RX10 157 yX10_tiePlace wsX10_tiePlace) := goodIn_app (goodIn_of _ (by decide +kernel)) ggX10_tied_X10_tiePlace
theorem dX10_tied_0 : decode cX10_tied 0 = .ok (.aload_n 0, 1) := by decide +kernel
theorem dX10_tied_1 : decode cX10_tied 1 = .ok (.getfield 12, 3) := by decide +kernel
theorem dX10_tied_4 : decode cX10_tied 4 = .ok (.iload_n 1, 1) := by decide +kernel
theorem dX10_tied_5 : decode cX10_tied 5 = .ok (.iload_n 2, 1) := by decide +kernel
theorem dX10_tied_6 : decode cX10_tied 6 = .ok (.iload_n 3, 1) := by decide +kernel
theorem dX10_tied_7 : decode cX10_tied 7 = .ok (.invokevirtual 151, 3) := by decide +kernel
theorem dX10_tied_10 : decode cX10_tied 10 = .ok (.ifCond .ne 5, 3) := by decide +kernel
theorem dX10_tied_13 : decode cX10_tied 13 = .ok (.iconst (-1), 1) := by decide +kernel
theorem dX10_tied_14 : decode cX10_tied 14 = .ok (.ireturn, 1) := by decide +kernel
theorem dX10_tied_15 : decode cX10_tied 15 = .ok (.aload_n 0, 1) := by decide +kernel
theorem dX10_tied_16 : decode cX10_tied 16 = .ok (.getfield 12, 3) := by decide +kernel
theorem dX10_tied_19 : decode cX10_tied 19 = .ok (.getfield 161, 3) := by decide +kernel
theorem dX10_tied_22 : decode cX10_tied 22 = .ok (.iload_n 1, 1) := by decide +kernel
theorem dX10_tied_23 : decode cX10_tied 23 = .ok (.iload_n 2, 1) := by decide +kernel
theorem dX10_tied_24 : decode cX10_tied 24 = .ok (.iload_n 3, 1) := by decide +kernel
theorem dX10_tied_25 : decode cX10_tied 25 = .ok (.invokestatic 157, 3) := by decide +kernel
theorem dX10_tied_28 : decode cX10_tied 28 = .ok (.iaload, 1) := by decide +kernel
theorem dX10_tied_29 : decode cX10_tied 29 = .ok (.ifCond .le 7, 3) := by decide +kernel
theorem dX10_tied_32 : decode cX10_tied 32 = .ok (.iconst 1, 1) := by decide +kernel
theorem dX10_tied_33 : decode cX10_tied 33 = .ok (.goto 4, 3) := by decide +kernel
theorem dX10_tied_36 : decode cX10_tied 36 = .ok (.iconst 0, 1) := by decide +kernel
theorem dX10_tied_37 : decode cX10_tied 37 = .ok (.ireturn, 1) := by decide +kernel
set_option maxRecDepth 20000 in
theorem ggX10_room_X9_hasModule : GoodIn wsX10_room wsX9_hasModule := goodIn_r _ [10, 11, 41, 42, 43, 44, 45, 46, 47, 48, 49, 50, 51] (by decide +kernel) (by decide +kernel)
set_option maxRecDepth 20000 in
theorem gX10_room_X9_hasModule : GoodIn wsX10_room (wsV RX10 100 RX9 yX9_hasModule wsX9_hasModule) := goodIn_app (goodIn_of _ (by decide +kernel)) ggX10_room_X9_hasModule
theorem dX10_room_0 : decode cX10_room 0 = .ok (.aload_n 0, 1) := by decide +kernel
theorem dX10_room_1 : decode cX10_room 1 = .ok (.getfield 12, 3) := by decide +kernel
theorem dX10_room_4 : decode cX10_room 4 = .ok (.iload_n 1, 1) := by decide +kernel
theorem dX10_room_5 : decode cX10_room 5 = .ok (.invokevirtual 100, 3) := by decide +kernel
theorem dX10_room_8 : decode cX10_room 8 = .ok (.ifCond .eq 13, 3) := by decide +kernel
theorem dX10_room_11 : decode cX10_room 11 = .ok (.iload_n 2, 1) := by decide +kernel
theorem dX10_room_12 : decode cX10_room 12 = .ok (.ifCond .lt 9, 3) := by decide +kernel
theorem dX10_room_15 : decode cX10_room 15 = .ok (.iload_n 2, 1) := by decide +kernel
theorem dX10_room_16 : decode cX10_room 16 = .ok (.bipush 6, 2) := by decide +kernel
theorem dX10_room_18 : decode cX10_room 18 = .ok (.if_icmp .lt 5, 3) := by decide +kernel
theorem dX10_room_21 : decode cX10_room 21 = .ok (.iconst (-1), 1) := by decide +kernel
theorem dX10_room_22 : decode cX10_room 22 = .ok (.ireturn, 1) := by decide +kernel
theorem dX10_room_23 : decode cX10_room 23 = .ok (.aload_n 0, 1) := by decide +kernel
theorem dX10_room_24 : decode cX10_room 24 = .ok (.getfield 26, 3) := by decide +kernel
theorem dX10_room_27 : decode cX10_room 27 = .ok (.getfield 164, 3) := by decide +kernel
theorem dX10_room_30 : decode cX10_room 30 = .ok (.getfield 168, 3) := by decide +kernel
theorem dX10_room_33 : decode cX10_room 33 = .ok (.ifCond .le 6, 3) := by decide +kernel
theorem dX10_room_36 : decode cX10_room 36 = .ok (.bipush (-2), 2) := by decide +kernel
theorem dX10_room_38 : decode cX10_room 38 = .ok (.ireturn, 1) := by decide +kernel
theorem dX10_room_39 : decode cX10_room 39 = .ok (.aload_n 0, 1) := by decide +kernel
theorem dX10_room_40 : decode cX10_room 40 = .ok (.getfield 26, 3) := by decide +kernel
theorem dX10_room_43 : decode cX10_room 43 = .ok (.getfield 173, 3) := by decide +kernel
theorem dX10_room_46 : decode cX10_room 46 = .ok (.iload_n 1, 1) := by decide +kernel
theorem dX10_room_47 : decode cX10_room 47 = .ok (.iaload, 1) := by decide +kernel
theorem dX10_room_48 : decode cX10_room 48 = .ok (.istore_n 3, 1) := by decide +kernel
theorem dX10_room_49 : decode cX10_room 49 = .ok (.aload_n 0, 1) := by decide +kernel
theorem dX10_room_50 : decode cX10_room 50 = .ok (.getfield 26, 3) := by decide +kernel
theorem dX10_room_53 : decode cX10_room 53 = .ok (.getfield 173, 3) := by decide +kernel
theorem dX10_room_56 : decode cX10_room 56 = .ok (.iload_n 1, 1) := by decide +kernel
theorem dX10_room_57 : decode cX10_room 57 = .ok (.iload_n 2, 1) := by decide +kernel
theorem dX10_room_58 : decode cX10_room 58 = .ok (.iastore, 1) := by decide +kernel
theorem dX10_room_59 : decode cX10_room 59 = .ok (.iload_n 3, 1) := by decide +kernel
theorem dX10_room_60 : decode cX10_room 60 = .ok (.ireturn, 1) := by decide +kernel
theorem dX10_weight_0 : decode cX10_weight 0 = .ok (.iload_n 1, 1) := by decide +kernel
theorem dX10_weight_1 : decode cX10_weight 1 = .ok (.ifCond .lt 18, 3) := by decide +kernel
theorem dX10_weight_4 : decode cX10_weight 4 = .ok (.iload_n 1, 1) := by decide +kernel
theorem dX10_weight_5 : decode cX10_weight 5 = .ok (.iconst 4, 1) := by decide +kernel
theorem dX10_weight_6 : decode cX10_weight 6 = .ok (.if_icmp .ge 13, 3) := by decide +kernel
theorem dX10_weight_9 : decode cX10_weight 9 = .ok (.iload_n 2, 1) := by decide +kernel
theorem dX10_weight_10 : decode cX10_weight 10 = .ok (.ifCond .lt 9, 3) := by decide +kernel
theorem dX10_weight_13 : decode cX10_weight 13 = .ok (.iload_n 2, 1) := by decide +kernel
theorem dX10_weight_14 : decode cX10_weight 14 = .ok (.bipush 99, 2) := by decide +kernel
theorem dX10_weight_16 : decode cX10_weight 16 = .ok (.if_icmp .le 5, 3) := by decide +kernel
theorem dX10_weight_19 : decode cX10_weight 19 = .ok (.iconst (-1), 1) := by decide +kernel
theorem dX10_weight_20 : decode cX10_weight 20 = .ok (.ireturn, 1) := by decide +kernel
theorem dX10_weight_21 : decode cX10_weight 21 = .ok (.aload_n 0, 1) := by decide +kernel
theorem dX10_weight_22 : decode cX10_weight 22 = .ok (.getfield 41, 3) := by decide +kernel
theorem dX10_weight_25 : decode cX10_weight 25 = .ok (.iload_n 1, 1) := by decide +kernel
theorem dX10_weight_26 : decode cX10_weight 26 = .ok (.iaload, 1) := by decide +kernel
theorem dX10_weight_27 : decode cX10_weight 27 = .ok (.istore_n 3, 1) := by decide +kernel
theorem dX10_weight_28 : decode cX10_weight 28 = .ok (.aload_n 0, 1) := by decide +kernel
theorem dX10_weight_29 : decode cX10_weight 29 = .ok (.getfield 41, 3) := by decide +kernel
theorem dX10_weight_32 : decode cX10_weight 32 = .ok (.iload_n 1, 1) := by decide +kernel
theorem dX10_weight_33 : decode cX10_weight 33 = .ok (.iload_n 2, 1) := by decide +kernel
theorem dX10_weight_34 : decode cX10_weight 34 = .ok (.iastore, 1) := by decide +kernel
theorem dX10_weight_35 : decode cX10_weight 35 = .ok (.iload_n 3, 1) := by decide +kernel
theorem dX10_weight_36 : decode cX10_weight 36 = .ok (.ireturn, 1) := by decide +kernel
set_option maxRecDepth 20000 in
theorem ggX10_tell_X9_hasModule : GoodIn wsX10_tell wsX9_hasModule := goodIn_r _ [7, 8, 22, 23, 24, 25, 26, 27, 28, 29, 30, 31, 32] (by decide +kernel) (by decide +kernel)
set_option maxRecDepth 20000 in
theorem gX10_tell_X9_hasModule : GoodIn wsX10_tell (wsV RX10 100 RX9 yX9_hasModule wsX9_hasModule) := goodIn_app (goodIn_of _ (by decide +kernel)) ggX10_tell_X9_hasModule
theorem dX10_tell_0 : decode cX10_tell 0 = .ok (.aload_n 0, 1) := by decide +kernel
theorem dX10_tell_1 : decode cX10_tell 1 = .ok (.getfield 12, 3) := by decide +kernel
theorem dX10_tell_4 : decode cX10_tell 4 = .ok (.iload_n 1, 1) := by decide +kernel
theorem dX10_tell_5 : decode cX10_tell 5 = .ok (.invokevirtual 100, 3) := by decide +kernel
theorem dX10_tell_8 : decode cX10_tell 8 = .ok (.ifCond .eq 28, 3) := by decide +kernel
theorem dX10_tell_11 : decode cX10_tell 11 = .ok (.aload_n 0, 1) := by decide +kernel
theorem dX10_tell_12 : decode cX10_tell 12 = .ok (.getfield 12, 3) := by decide +kernel
theorem dX10_tell_15 : decode cX10_tell 15 = .ok (.iload_n 2, 1) := by decide +kernel
theorem dX10_tell_16 : decode cX10_tell 16 = .ok (.invokevirtual 100, 3) := by decide +kernel
theorem dX10_tell_19 : decode cX10_tell 19 = .ok (.ifCond .eq 17, 3) := by decide +kernel
theorem dX10_tell_22 : decode cX10_tell 22 = .ok (.iload_n 1, 1) := by decide +kernel
theorem dX10_tell_23 : decode cX10_tell 23 = .ok (.iload_n 2, 1) := by decide +kernel
theorem dX10_tell_24 : decode cX10_tell 24 = .ok (.if_icmp .eq 12, 3) := by decide +kernel
theorem dX10_tell_27 : decode cX10_tell 27 = .ok (.iload_n 3, 1) := by decide +kernel
theorem dX10_tell_28 : decode cX10_tell 28 = .ok (.ifCond .lt 8, 3) := by decide +kernel
theorem dX10_tell_31 : decode cX10_tell 31 = .ok (.iload_n 3, 1) := by decide +kernel
theorem dX10_tell_32 : decode cX10_tell 32 = .ok (.iconst 2, 1) := by decide +kernel
theorem dX10_tell_33 : decode cX10_tell 33 = .ok (.if_icmp .le 5, 3) := by decide +kernel
theorem dX10_tell_36 : decode cX10_tell 36 = .ok (.iconst (-1), 1) := by decide +kernel
theorem dX10_tell_37 : decode cX10_tell 37 = .ok (.ireturn, 1) := by decide +kernel
theorem dX10_tell_38 : decode cX10_tell 38 = .ok (.aload_n 0, 1) := by decide +kernel
theorem dX10_tell_39 : decode cX10_tell 39 = .ok (.getfield 50, 3) := by decide +kernel
theorem dX10_tell_42 : decode cX10_tell 42 = .ok (.iload_n 1, 1) := by decide +kernel
theorem dX10_tell_43 : decode cX10_tell 43 = .ok (.bipush 10, 2) := by decide +kernel
theorem dX10_tell_45 : decode cX10_tell 45 = .ok (.imul, 1) := by decide +kernel
theorem dX10_tell_46 : decode cX10_tell 46 = .ok (.iload_n 2, 1) := by decide +kernel
theorem dX10_tell_47 : decode cX10_tell 47 = .ok (.iadd, 1) := by decide +kernel
theorem dX10_tell_48 : decode cX10_tell 48 = .ok (.iaload, 1) := by decide +kernel
theorem dX10_tell_49 : decode cX10_tell 49 = .ok (.istore 4, 2) := by decide +kernel
theorem dX10_tell_51 : decode cX10_tell 51 = .ok (.aload_n 0, 1) := by decide +kernel
theorem dX10_tell_52 : decode cX10_tell 52 = .ok (.getfield 50, 3) := by decide +kernel
theorem dX10_tell_55 : decode cX10_tell 55 = .ok (.iload_n 1, 1) := by decide +kernel
theorem dX10_tell_56 : decode cX10_tell 56 = .ok (.bipush 10, 2) := by decide +kernel
theorem dX10_tell_58 : decode cX10_tell 58 = .ok (.imul, 1) := by decide +kernel
theorem dX10_tell_59 : decode cX10_tell 59 = .ok (.iload_n 2, 1) := by decide +kernel
theorem dX10_tell_60 : decode cX10_tell 60 = .ok (.iadd, 1) := by decide +kernel
theorem dX10_tell_61 : decode cX10_tell 61 = .ok (.iload_n 3, 1) := by decide +kernel
theorem dX10_tell_62 : decode cX10_tell 62 = .ok (.iastore, 1) := by decide +kernel
theorem dX10_tell_63 : decode cX10_tell 63 = .ok (.aload_n 0, 1) := by decide +kernel
theorem dX10_tell_64 : decode cX10_tell 64 = .ok (.getfield 50, 3) := by decide +kernel
theorem dX10_tell_67 : decode cX10_tell 67 = .ok (.iload_n 2, 1) := by decide +kernel
theorem dX10_tell_68 : decode cX10_tell 68 = .ok (.bipush 10, 2) := by decide +kernel
theorem dX10_tell_70 : decode cX10_tell 70 = .ok (.imul, 1) := by decide +kernel
theorem dX10_tell_71 : decode cX10_tell 71 = .ok (.iload_n 1, 1) := by decide +kernel
theorem dX10_tell_72 : decode cX10_tell 72 = .ok (.iadd, 1) := by decide +kernel
theorem dX10_tell_73 : decode cX10_tell 73 = .ok (.iload_n 3, 1) := by decide +kernel
theorem dX10_tell_74 : decode cX10_tell 74 = .ok (.iastore, 1) := by decide +kernel
theorem dX10_tell_75 : decode cX10_tell 75 = .ok (.iload 4, 2) := by decide +kernel
theorem dX10_tell_77 : decode cX10_tell 77 = .ok (.ireturn, 1) := by decide +kernel
set_option maxRecDepth 20000 in
theorem ggX10_price_X7_prepare : GoodIn wsX10_price wsX7_prepare := goodIn_r _ [9, 10, 11, 12, 13, 14, 15, 16, 17, 18, 19, 20, 21, 22, 23, 24, 25, 26, 8, 27, 75, 76, 77, 78, 79, 80, 81, 82, 83, 84, 85, 86, 87, 88, 89, 90] (by decide +kernel) (by decide +kernel)
set_option maxRecDepth 20000 in
theorem gX10_price_X7_prepare : GoodIn wsX10_price (wsV RX10 176 RX7 yX7_prepare wsX7_prepare) := goodIn_app (goodIn_of _ (by decide +kernel)) ggX10_price_X7_prepare
set_option maxRecDepth 20000 in
theorem ggX10_price_X7_of : GoodIn wsX10_price wsX7_of := goodIn_r _ [31, 12, 13, 11, 32, 33, 34, 35, 36, 37, 38, 39, 10, 40, 41, 42, 8, 43, 44, 45, 46, 47, 48, 49, 50, 75, 76, 77, 78, 79, 80, 81, 82, 83, 84, 85, 86, 87, 88, 89, 90, 91, 92, 93] (by decide +kernel) (by decide +kernel)
set_option maxRecDepth 20000 in
theorem gX10_price_X7_of : GoodIn wsX10_price (wsV RX10 180 RX7 yX7_of wsX7_of) := goodIn_app (goodIn_of _ (by decide +kernel)) ggX10_price_X7_of
theorem dX10_price_0 : decode cX10_price 0 = .ok (.aload_n 0, 1) := by decide +kernel
theorem dX10_price_1 : decode cX10_price 1 = .ok (.getfield 58, 3) := by decide +kernel
theorem dX10_price_4 : decode cX10_price 4 = .ok (.aload_n 0, 1) := by decide +kernel
theorem dX10_price_5 : decode cX10_price 5 = .ok (.getfield 41, 3) := by decide +kernel
theorem dX10_price_8 : decode cX10_price 8 = .ok (.invokevirtual 176, 3) := by decide +kernel
theorem dX10_price_11 : decode cX10_price 11 = .ok (.aload_n 0, 1) := by decide +kernel
theorem dX10_price_12 : decode cX10_price 12 = .ok (.getfield 58, 3) := by decide +kernel
theorem dX10_price_15 : decode cX10_price 15 = .ok (.aload_n 0, 1) := by decide +kernel
theorem dX10_price_16 : decode cX10_price 16 = .ok (.getfield 26, 3) := by decide +kernel
theorem dX10_price_19 : decode cX10_price 19 = .ok (.getfield 173, 3) := by decide +kernel
theorem dX10_price_22 : decode cX10_price 22 = .ok (.invokevirtual 180, 3) := by decide +kernel
theorem dX10_price_25 : decode cX10_price 25 = .ok (.lreturn, 1) := by decide +kernel
set_option maxRecDepth 20000 in
theorem ggX10_cut_X7_prepare : GoodIn wsX10_cut wsX7_prepare := goodIn_r _ [15, 16, 17, 18, 19, 20, 21, 22, 23, 24, 25, 26, 27, 28, 29, 30, 31, 32, 14, 33, 124, 125, 126, 127, 128, 99, 100, 101, 102, 103, 104, 105, 106, 107, 108, 109] (by decide +kernel) (by decide +kernel)
set_option maxRecDepth 20000 in
theorem gX10_cut_X7_prepare : GoodIn wsX10_cut (wsV RX10 176 RX7 yX7_prepare wsX7_prepare) := goodIn_app (goodIn_of _ (by decide +kernel)) ggX10_cut_X7_prepare
set_option maxRecDepth 20000 in
theorem ggX10_cut_X2_search : GoodIn wsX10_cut wsX2_search := goodIn_r _ [38, 39, 40, 41, 42, 43, 44, 45, 46, 47, 48, 49, 50, 51, 52, 53, 54, 55, 56, 57, 58, 25, 59, 60, 61, 62, 37, 63, 64, 65, 66, 67, 68, 69, 70, 71, 72, 73, 74, 75, 76, 77, 78, 79, 80, 14, 81, 17, 82, 83, 84, 85, 16, 110, 111, 112, 113, 114, 115, 116, 117, 118, 119, 120, 121, 122, 123, 99, 100, 101, 102, 103, 104, 105, 106, 107, 108, 109, 124, 125, 126, 127, 128, 129, 130, 131] (by decide +kernel) (by decide +kernel)
set_option maxRecDepth 20000 in
theorem gX10_cut_X2_search : GoodIn wsX10_cut (wsV RX10 188 RX2 yX2_search wsX2_search) := goodIn_app (goodIn_of _ (by decide +kernel)) ggX10_cut_X2_search
theorem dX10_cut_0 : decode cX10_cut 0 = .ok (.iload_n 1, 1) := by decide +kernel
theorem dX10_cut_1 : decode cX10_cut 1 = .ok (.iconst 1, 1) := by decide +kernel
theorem dX10_cut_2 : decode cX10_cut 2 = .ok (.if_icmp .lt 21, 3) := by decide +kernel
theorem dX10_cut_5 : decode cX10_cut 5 = .ok (.iload_n 1, 1) := by decide +kernel
theorem dX10_cut_6 : decode cX10_cut 6 = .ok (.bipush 6, 2) := by decide +kernel
theorem dX10_cut_8 : decode cX10_cut 8 = .ok (.if_icmp .gt 15, 3) := by decide +kernel
theorem dX10_cut_11 : decode cX10_cut 11 = .ok (.iload_n 2, 1) := by decide +kernel
theorem dX10_cut_12 : decode cX10_cut 12 = .ok (.iconst 1, 1) := by decide +kernel
theorem dX10_cut_13 : decode cX10_cut 13 = .ok (.if_icmp .lt 10, 3) := by decide +kernel
theorem dX10_cut_16 : decode cX10_cut 16 = .ok (.iload_n 2, 1) := by decide +kernel
theorem dX10_cut_17 : decode cX10_cut 17 = .ok (.sipush 9999, 3) := by decide +kernel
theorem dX10_cut_20 : decode cX10_cut 20 = .ok (.if_icmp .le 7, 3) := by decide +kernel
theorem dX10_cut_23 : decode cX10_cut 23 = .ok (.ldc2_w 184, 3) := by decide +kernel
theorem dX10_cut_26 : decode cX10_cut 26 = .ok (.lreturn, 1) := by decide +kernel
theorem dX10_cut_27 : decode cX10_cut 27 = .ok (.aload_n 0, 1) := by decide +kernel
theorem dX10_cut_28 : decode cX10_cut 28 = .ok (.getfield 12, 3) := by decide +kernel
theorem dX10_cut_31 : decode cX10_cut 31 = .ok (.getfield 92, 3) := by decide +kernel
theorem dX10_cut_34 : decode cX10_cut 34 = .ok (.bipush 9, 2) := by decide +kernel
theorem dX10_cut_36 : decode cX10_cut 36 = .ok (.if_icmp .le 7, 3) := by decide +kernel
theorem dX10_cut_39 : decode cX10_cut 39 = .ok (.ldc2_w 186, 3) := by decide +kernel
theorem dX10_cut_42 : decode cX10_cut 42 = .ok (.lreturn, 1) := by decide +kernel
theorem dX10_cut_43 : decode cX10_cut 43 = .ok (.aload_n 0, 1) := by decide +kernel
theorem dX10_cut_44 : decode cX10_cut 44 = .ok (.getfield 58, 3) := by decide +kernel
theorem dX10_cut_47 : decode cX10_cut 47 = .ok (.aload_n 0, 1) := by decide +kernel
theorem dX10_cut_48 : decode cX10_cut 48 = .ok (.getfield 41, 3) := by decide +kernel
theorem dX10_cut_51 : decode cX10_cut 51 = .ok (.invokevirtual 176, 3) := by decide +kernel
theorem dX10_cut_54 : decode cX10_cut 54 = .ok (.aload_n 0, 1) := by decide +kernel
theorem dX10_cut_55 : decode cX10_cut 55 = .ok (.getfield 67, 3) := by decide +kernel
theorem dX10_cut_58 : decode cX10_cut 58 = .ok (.aload_n 0, 1) := by decide +kernel
theorem dX10_cut_59 : decode cX10_cut 59 = .ok (.getfield 50, 3) := by decide +kernel
theorem dX10_cut_62 : decode cX10_cut 62 = .ok (.iload_n 1, 1) := by decide +kernel
theorem dX10_cut_63 : decode cX10_cut 63 = .ok (.iload_n 2, 1) := by decide +kernel
theorem dX10_cut_64 : decode cX10_cut 64 = .ok (.invokevirtual 188, 3) := by decide +kernel
theorem dX10_cut_67 : decode cX10_cut 67 = .ok (.ifCond .eq 13, 3) := by decide +kernel
theorem dX10_cut_70 : decode cX10_cut 70 = .ok (.aload_n 0, 1) := by decide +kernel
theorem dX10_cut_71 : decode cX10_cut 71 = .ok (.getfield 67, 3) := by decide +kernel
theorem dX10_cut_74 : decode cX10_cut 74 = .ok (.getfield 192, 3) := by decide +kernel
theorem dX10_cut_77 : decode cX10_cut 77 = .ok (.goto 6, 3) := by decide +kernel
theorem dX10_cut_80 : decode cX10_cut 80 = .ok (.ldc2_w 196, 3) := by decide +kernel
theorem dX10_cut_83 : decode cX10_cut 83 = .ok (.lreturn, 1) := by decide +kernel
theorem dX10_put_0 : decode cX10_put 0 = .ok (.iload_n 1, 1) := by decide +kernel
theorem dX10_put_1 : decode cX10_put 1 = .ok (.ifCond .lt 26, 3) := by decide +kernel
theorem dX10_put_4 : decode cX10_put 4 = .ok (.iload_n 1, 1) := by decide +kernel
theorem dX10_put_5 : decode cX10_put 5 = .ok (.aload_n 0, 1) := by decide +kernel
theorem dX10_put_6 : decode cX10_put 6 = .ok (.getfield 67, 3) := by decide +kernel
theorem dX10_put_9 : decode cX10_put 9 = .ok (.getfield 198, 3) := by decide +kernel
theorem dX10_put_12 : decode cX10_put 12 = .ok (.if_icmp .ge 15, 3) := by decide +kernel
theorem dX10_put_15 : decode cX10_put 15 = .ok (.aload_n 0, 1) := by decide +kernel
theorem dX10_put_16 : decode cX10_put 16 = .ok (.getfield 67, 3) := by decide +kernel
theorem dX10_put_19 : decode cX10_put 19 = .ok (.getfield 200, 3) := by decide +kernel
theorem dX10_put_22 : decode cX10_put 22 = .ok (.iload_n 1, 1) := by decide +kernel
theorem dX10_put_23 : decode cX10_put 23 = .ok (.iaload, 1) := by decide +kernel
theorem dX10_put_24 : decode cX10_put 24 = .ok (.goto 4, 3) := by decide +kernel
theorem dX10_put_27 : decode cX10_put 27 = .ok (.iconst (-1), 1) := by decide +kernel
theorem dX10_put_28 : decode cX10_put 28 = .ok (.ireturn, 1) := by decide +kernel
set_option maxRecDepth 20000 in
theorem ggX10_ring_X8_shortest : GoodIn wsX10_ring wsX8_shortest := goodIn_r _ [10, 11, 12, 13, 14, 9, 15, 16, 17, 18, 19, 20, 21, 22, 23, 24, 25, 26, 27, 28, 29, 54, 55, 56, 57, 58, 59, 60, 61, 62, 63, 64, 65, 66] (by decide +kernel) (by decide +kernel)
set_option maxRecDepth 20000 in
theorem gX10_ring_X8_shortest : GoodIn wsX10_ring (wsV RX10 203 RX8 yX8_shortest wsX8_shortest) := goodIn_app (goodIn_of _ (by decide +kernel)) ggX10_ring_X8_shortest
theorem dX10_ring_0 : decode cX10_ring 0 = .ok (.aload_n 0, 1) := by decide +kernel
theorem dX10_ring_1 : decode cX10_ring 1 = .ok (.getfield 74, 3) := by decide +kernel
theorem dX10_ring_4 : decode cX10_ring 4 = .ok (.aload_n 0, 1) := by decide +kernel
theorem dX10_ring_5 : decode cX10_ring 5 = .ok (.getfield 12, 3) := by decide +kernel
theorem dX10_ring_8 : decode cX10_ring 8 = .ok (.aload_n 0, 1) := by decide +kernel
theorem dX10_ring_9 : decode cX10_ring 9 = .ok (.getfield 26, 3) := by decide +kernel
theorem dX10_ring_12 : decode cX10_ring 12 = .ok (.getfield 173, 3) := by decide +kernel
theorem dX10_ring_15 : decode cX10_ring 15 = .ok (.invokevirtual 203, 3) := by decide +kernel
theorem dX10_ring_18 : decode cX10_ring 18 = .ok (.istore_n 2, 1) := by decide +kernel
theorem dX10_ring_19 : decode cX10_ring 19 = .ok (.iload_n 1, 1) := by decide +kernel
theorem dX10_ring_20 : decode cX10_ring 20 = .ok (.ifCond .lt 20, 3) := by decide +kernel
theorem dX10_ring_23 : decode cX10_ring 23 = .ok (.iload_n 1, 1) := by decide +kernel
theorem dX10_ring_24 : decode cX10_ring 24 = .ok (.iload_n 2, 1) := by decide +kernel
theorem dX10_ring_25 : decode cX10_ring 25 = .ok (.if_icmp .ge 15, 3) := by decide +kernel
theorem dX10_ring_28 : decode cX10_ring 28 = .ok (.aload_n 0, 1) := by decide +kernel
theorem dX10_ring_29 : decode cX10_ring 29 = .ok (.getfield 74, 3) := by decide +kernel
theorem dX10_ring_32 : decode cX10_ring 32 = .ok (.getfield 207, 3) := by decide +kernel
theorem dX10_ring_35 : decode cX10_ring 35 = .ok (.iload_n 1, 1) := by decide +kernel
theorem dX10_ring_36 : decode cX10_ring 36 = .ok (.iaload, 1) := by decide +kernel
theorem dX10_ring_37 : decode cX10_ring 37 = .ok (.goto 4, 3) := by decide +kernel
theorem dX10_ring_40 : decode cX10_ring 40 = .ok (.iconst (-1), 1) := by decide +kernel
theorem dX10_ring_41 : decode cX10_ring 41 = .ok (.ireturn, 1) := by decide +kernel
set_option maxRecDepth 20000 in
theorem ggX10_act_X9_hasRoutine : GoodIn wsX10_act wsX9_hasRoutine := goodIn_r _ [9, 10, 145, 146, 147, 148, 149, 150, 151, 152, 153, 154, 155] (by decide +kernel) (by decide +kernel)
set_option maxRecDepth 20000 in
theorem gX10_act_X9_hasRoutine : GoodIn wsX10_act (wsV RX10 116 RX9 yX9_hasRoutine wsX9_hasRoutine) := goodIn_app (goodIn_of _ (by decide +kernel)) ggX10_act_X9_hasRoutine
set_option maxRecDepth 20000 in
theorem ggX10_act_X10_standsInNew : GoodIn wsX10_act wsX10_standsInNew := goodIn_r _ [15, 2, 1, 16, 17, 18, 19, 20, 21, 22, 23, 24, 25, 26, 27, 28, 29, 30, 31, 32, 33, 34, 35, 36, 37, 38, 39, 40, 41, 42, 43, 44, 45, 46, 47, 48, 49, 50, 51, 52, 53, 54, 55, 56, 57, 58, 59, 8, 60, 61, 62, 63, 64, 14, 65, 66, 67, 68, 69, 70, 71, 72, 73, 74, 75, 76, 77, 78, 79, 80, 81, 82, 83, 84, 85, 86, 87, 88, 89, 90, 91, 92, 93, 94, 95, 96, 97, 98, 99, 100, 101, 102, 103, 104, 105, 106, 107, 108, 109, 110, 111, 112, 113, 114, 115, 116, 117, 118, 119, 120, 121, 122, 123, 124, 125, 126, 127, 128, 129, 130, 131, 132, 133, 134, 156, 157, 158, 159, 160, 161, 162, 163, 164, 165, 166, 145, 146, 147, 148, 149, 150, 151, 152, 153, 154, 155, 135, 136, 137, 138, 139, 140, 141, 142, 143, 144, 167, 168, 169, 170, 171] (by decide +kernel) (by decide +kernel)
set_option maxRecDepth 20000 in
theorem gX10_act_X10_standsInNew : GoodIn wsX10_act (wsV RX10 210 RX10 yX10_standsInNew wsX10_standsInNew) := goodIn_app (goodIn_of _ (by decide +kernel)) ggX10_act_X10_standsInNew
theorem dX10_act_0 : decode cX10_act 0 = .ok (.aload_n 0, 1) := by decide +kernel
theorem dX10_act_1 : decode cX10_act 1 = .ok (.getfield 12, 3) := by decide +kernel
theorem dX10_act_4 : decode cX10_act 4 = .ok (.iload_n 1, 1) := by decide +kernel
theorem dX10_act_5 : decode cX10_act 5 = .ok (.invokevirtual 116, 3) := by decide +kernel
theorem dX10_act_8 : decode cX10_act 8 = .ok (.ifCond .ne 5, 3) := by decide +kernel
theorem dX10_act_11 : decode cX10_act 11 = .ok (.iconst (-1), 1) := by decide +kernel
theorem dX10_act_12 : decode cX10_act 12 = .ok (.ireturn, 1) := by decide +kernel
theorem dX10_act_13 : decode cX10_act 13 = .ok (.aload_n 0, 1) := by decide +kernel
theorem dX10_act_14 : decode cX10_act 14 = .ok (.iload_n 1, 1) := by decide +kernel
theorem dX10_act_15 : decode cX10_act 15 = .ok (.iload_n 2, 1) := by decide +kernel
theorem dX10_act_16 : decode cX10_act 16 = .ok (.invokevirtual 210, 3) := by decide +kernel
theorem dX10_act_19 : decode cX10_act 19 = .ok (.ifCond .eq 13, 3) := by decide +kernel
theorem dX10_act_22 : decode cX10_act 22 = .ok (.aload_n 0, 1) := by decide +kernel
theorem dX10_act_23 : decode cX10_act 23 = .ok (.getfield 19, 3) := by decide +kernel
theorem dX10_act_26 : decode cX10_act 26 = .ok (.getfield 137, 3) := by decide +kernel
theorem dX10_act_29 : decode cX10_act 29 = .ok (.goto 5, 3) := by decide +kernel
theorem dX10_act_32 : decode cX10_act 32 = .ok (.ldc 140, 2) := by decide +kernel
theorem dX10_act_34 : decode cX10_act 34 = .ok (.ireturn, 1) := by decide +kernel
set_option maxRecDepth 20000 in
theorem ggX10_deliver_X6_knows : GoodIn wsX10_deliver wsX6_knows := goodIn_r _ [8, 9, 50, 51, 52, 53, 54] (by decide +kernel) (by decide +kernel)
set_option maxRecDepth 20000 in
theorem gX10_deliver_X6_knows : GoodIn wsX10_deliver (wsV RX10 213 RX6 yX6_knows wsX6_knows) := goodIn_app (goodIn_of _ (by decide +kernel)) ggX10_deliver_X6_knows
set_option maxRecDepth 20000 in
theorem ggX10_deliver_X6_arrive : GoodIn wsX10_deliver wsX6_arrive := goodIn_r _ [13, 14, 15, 16, 17, 18, 19, 7, 20, 21, 22, 23, 24, 25, 50, 51, 52, 53, 54] (by decide +kernel) (by decide +kernel)
set_option maxRecDepth 20000 in
theorem gX10_deliver_X6_arrive : GoodIn wsX10_deliver (wsV RX10 219 RX6 yX6_arrive wsX6_arrive) := goodIn_app (goodIn_of _ (by decide +kernel)) ggX10_deliver_X6_arrive
theorem dX10_deliver_0 : decode cX10_deliver 0 = .ok (.aload_n 0, 1) := by decide +kernel
theorem dX10_deliver_1 : decode cX10_deliver 1 = .ok (.getfield 26, 3) := by decide +kernel
theorem dX10_deliver_4 : decode cX10_deliver 4 = .ok (.getfield 164, 3) := by decide +kernel
theorem dX10_deliver_7 : decode cX10_deliver 7 = .ok (.iload_n 1, 1) := by decide +kernel
theorem dX10_deliver_8 : decode cX10_deliver 8 = .ok (.invokevirtual 213, 3) := by decide +kernel
theorem dX10_deliver_11 : decode cX10_deliver 11 = .ok (.ifCond .ne 5, 3) := by decide +kernel
theorem dX10_deliver_14 : decode cX10_deliver 14 = .ok (.iconst (-1), 1) := by decide +kernel
theorem dX10_deliver_15 : decode cX10_deliver 15 = .ok (.ireturn, 1) := by decide +kernel
theorem dX10_deliver_16 : decode cX10_deliver 16 = .ok (.aload_n 0, 1) := by decide +kernel
theorem dX10_deliver_17 : decode cX10_deliver 17 = .ok (.getfield 26, 3) := by decide +kernel
theorem dX10_deliver_20 : decode cX10_deliver 20 = .ok (.getfield 164, 3) := by decide +kernel
theorem dX10_deliver_23 : decode cX10_deliver 23 = .ok (.iload_n 1, 1) := by decide +kernel
theorem dX10_deliver_24 : decode cX10_deliver 24 = .ok (.aload_n 0, 1) := by decide +kernel
theorem dX10_deliver_25 : decode cX10_deliver 25 = .ok (.getfield 26, 3) := by decide +kernel
theorem dX10_deliver_28 : decode cX10_deliver 28 = .ok (.getfield 216, 3) := by decide +kernel
theorem dX10_deliver_31 : decode cX10_deliver 31 = .ok (.invokevirtual 219, 3) := by decide +kernel
theorem dX10_deliver_34 : decode cX10_deliver 34 = .ok (.ifCond .eq 7, 3) := by decide +kernel
theorem dX10_deliver_37 : decode cX10_deliver 37 = .ok (.iconst 1, 1) := by decide +kernel
theorem dX10_deliver_38 : decode cX10_deliver 38 = .ok (.goto 4, 3) := by decide +kernel
theorem dX10_deliver_41 : decode cX10_deliver 41 = .ok (.iconst 0, 1) := by decide +kernel
theorem dX10_deliver_42 : decode cX10_deliver 42 = .ok (.ireturn, 1) := by decide +kernel
set_option maxRecDepth 20000 in
theorem ggX10_settle_X6_arriveAll : GoodIn wsX10_settle wsX6_arriveAll := goodIn_r _ [8, 9, 10, 11, 12, 13, 14, 7, 15, 16, 41, 42, 43, 44, 45] (by decide +kernel) (by decide +kernel)
set_option maxRecDepth 20000 in
theorem gX10_settle_X6_arriveAll : GoodIn wsX10_settle (wsV RX10 223 RX6 yX6_arriveAll wsX6_arriveAll) := goodIn_app (goodIn_of _ (by decide +kernel)) ggX10_settle_X6_arriveAll
theorem dX10_settle_0 : decode cX10_settle 0 = .ok (.aload_n 0, 1) := by decide +kernel
theorem dX10_settle_1 : decode cX10_settle 1 = .ok (.getfield 26, 3) := by decide +kernel
theorem dX10_settle_4 : decode cX10_settle 4 = .ok (.getfield 164, 3) := by decide +kernel
theorem dX10_settle_7 : decode cX10_settle 7 = .ok (.aload_n 0, 1) := by decide +kernel
theorem dX10_settle_8 : decode cX10_settle 8 = .ok (.getfield 26, 3) := by decide +kernel
theorem dX10_settle_11 : decode cX10_settle 11 = .ok (.getfield 216, 3) := by decide +kernel
theorem dX10_settle_14 : decode cX10_settle 14 = .ok (.invokevirtual 223, 3) := by decide +kernel
theorem dX10_settle_17 : decode cX10_settle 17 = .ok (.ireturn, 1) := by decide +kernel
set_option maxRecDepth 20000 in
theorem ggX10_letter_X6_knows : GoodIn wsX10_letter wsX6_knows := goodIn_r _ [8, 9, 51, 52, 53, 54, 55] (by decide +kernel) (by decide +kernel)
set_option maxRecDepth 20000 in
theorem gX10_letter_X6_knows : GoodIn wsX10_letter (wsV RX10 213 RX6 yX6_knows wsX6_knows) := goodIn_app (goodIn_of _ (by decide +kernel)) ggX10_letter_X6_knows
set_option maxRecDepth 20000 in
theorem ggX10_letter_X6_fact : GoodIn wsX10_letter wsX6_fact := goodIn_r _ [13, 14, 15, 16, 17, 18, 19, 20, 7, 21, 22, 23, 24, 25, 26, 51, 52, 53, 54, 55] (by decide +kernel) (by decide +kernel)
set_option maxRecDepth 20000 in
theorem gX10_letter_X6_fact : GoodIn wsX10_letter (wsV RX10 227 RX6 yX6_fact wsX6_fact) := goodIn_app (goodIn_of _ (by decide +kernel)) ggX10_letter_X6_fact
theorem dX10_letter_0 : decode cX10_letter 0 = .ok (.aload_n 0, 1) := by decide +kernel
theorem dX10_letter_1 : decode cX10_letter 1 = .ok (.getfield 26, 3) := by decide +kernel
theorem dX10_letter_4 : decode cX10_letter 4 = .ok (.getfield 164, 3) := by decide +kernel
theorem dX10_letter_7 : decode cX10_letter 7 = .ok (.iload_n 1, 1) := by decide +kernel
theorem dX10_letter_8 : decode cX10_letter 8 = .ok (.invokevirtual 213, 3) := by decide +kernel
theorem dX10_letter_11 : decode cX10_letter 11 = .ok (.ifCond .eq 18, 3) := by decide +kernel
theorem dX10_letter_14 : decode cX10_letter 14 = .ok (.aload_n 0, 1) := by decide +kernel
theorem dX10_letter_15 : decode cX10_letter 15 = .ok (.getfield 26, 3) := by decide +kernel
theorem dX10_letter_18 : decode cX10_letter 18 = .ok (.getfield 164, 3) := by decide +kernel
theorem dX10_letter_21 : decode cX10_letter 21 = .ok (.iload_n 1, 1) := by decide +kernel
theorem dX10_letter_22 : decode cX10_letter 22 = .ok (.iload_n 2, 1) := by decide +kernel
theorem dX10_letter_23 : decode cX10_letter 23 = .ok (.invokevirtual 227, 3) := by decide +kernel
theorem dX10_letter_26 : decode cX10_letter 26 = .ok (.goto 5, 3) := by decide +kernel
theorem dX10_letter_29 : decode cX10_letter 29 = .ok (.ldc 140, 2) := by decide +kernel
theorem dX10_letter_31 : decode cX10_letter 31 = .ok (.ireturn, 1) := by decide +kernel
set_option maxRecDepth 20000 in
theorem ggX10_law_X5_addLaw : GoodIn wsX10_law wsX5_addLaw := goodIn_r _ [7, 8, 9, 23, 24, 25, 26, 27] (by decide +kernel) (by decide +kernel)
set_option maxRecDepth 20000 in
theorem gX10_law_X5_addLaw : GoodIn wsX10_law (wsV RX10 234 RX5 yX5_addLaw wsX5_addLaw) := goodIn_app (goodIn_of _ (by decide +kernel)) ggX10_law_X5_addLaw
theorem dX10_law_0 : decode cX10_law 0 = .ok (.aload_n 0, 1) := by decide +kernel
theorem dX10_law_1 : decode cX10_law 1 = .ok (.getfield 81, 3) := by decide +kernel
theorem dX10_law_4 : decode cX10_law 4 = .ok (.getfield 231, 3) := by decide +kernel
theorem dX10_law_7 : decode cX10_law 7 = .ok (.bipush 10, 2) := by decide +kernel
theorem dX10_law_9 : decode cX10_law 9 = .ok (.if_icmp .lt 8, 3) := by decide +kernel
theorem dX10_law_12 : decode cX10_law 12 = .ok (.bipush (-3), 2) := by decide +kernel
theorem dX10_law_14 : decode cX10_law 14 = .ok (.goto 11, 3) := by decide +kernel
theorem dX10_law_17 : decode cX10_law 17 = .ok (.aload_n 0, 1) := by decide +kernel
theorem dX10_law_18 : decode cX10_law 18 = .ok (.getfield 81, 3) := by decide +kernel
theorem dX10_law_21 : decode cX10_law 21 = .ok (.iload_n 1, 1) := by decide +kernel
theorem dX10_law_22 : decode cX10_law 22 = .ok (.invokevirtual 234, 3) := by decide +kernel
theorem dX10_law_25 : decode cX10_law 25 = .ok (.ireturn, 1) := by decide +kernel
set_option maxRecDepth 20000 in
theorem ggX10_term_X5_has : GoodIn wsX10_term wsX5_has := goodIn_r _ [8, 9, 40, 41, 42, 43, 44] (by decide +kernel) (by decide +kernel)
set_option maxRecDepth 20000 in
theorem gX10_term_X5_has : GoodIn wsX10_term (wsV RX10 237 RX5 yX5_has wsX5_has) := goodIn_app (goodIn_of _ (by decide +kernel)) ggX10_term_X5_has
set_option maxRecDepth 20000 in
theorem ggX10_term_X9_hasCell : GoodIn wsX10_term wsX9_hasCell := goodIn_r _ [14, 15, 16, 17, 13, 18, 19, 45, 46, 47, 48, 49, 50, 51, 52, 53, 54, 55] (by decide +kernel) (by decide +kernel)
set_option maxRecDepth 20000 in
theorem gX10_term_X9_hasCell : GoodIn wsX10_term (wsV RX10 144 RX9 yX9_hasCell wsX9_hasCell) := goodIn_app (goodIn_of _ (by decide +kernel)) ggX10_term_X9_hasCell
set_option maxRecDepth 20000 in
theorem ggX10_term_X5_addTerm : GoodIn wsX10_term wsX5_addTerm := goodIn_r _ [23, 24, 25, 26, 40, 41, 42, 43, 44] (by decide +kernel) (by decide +kernel)
set_option maxRecDepth 20000 in
theorem gX10_term_X5_addTerm : GoodIn wsX10_term (wsV RX10 241 RX5 yX5_addTerm wsX5_addTerm) := goodIn_app (goodIn_of _ (by decide +kernel)) ggX10_term_X5_addTerm
theorem dX10_term_0 : decode cX10_term 0 = .ok (.aload_n 0, 1) := by decide +kernel
theorem dX10_term_1 : decode cX10_term 1 = .ok (.getfield 81, 3) := by decide +kernel
theorem dX10_term_4 : decode cX10_term 4 = .ok (.iload_n 1, 1) := by decide +kernel
theorem dX10_term_5 : decode cX10_term 5 = .ok (.invokevirtual 237, 3) := by decide +kernel
theorem dX10_term_8 : decode cX10_term 8 = .ok (.ifCond .eq 29, 3) := by decide +kernel
theorem dX10_term_11 : decode cX10_term 11 = .ok (.aload_n 0, 1) := by decide +kernel
theorem dX10_term_12 : decode cX10_term 12 = .ok (.getfield 12, 3) := by decide +kernel
theorem dX10_term_15 : decode cX10_term 15 = .ok (.iload_n 2, 1) := by decide +kernel
theorem dX10_term_16 : decode cX10_term 16 = .ok (.iload_n 3, 1) := by decide +kernel
theorem dX10_term_17 : decode cX10_term 17 = .ok (.invokevirtual 144, 3) := by decide +kernel
theorem dX10_term_20 : decode cX10_term 20 = .ok (.ifCond .eq 17, 3) := by decide +kernel
theorem dX10_term_23 : decode cX10_term 23 = .ok (.iload 4, 2) := by decide +kernel
theorem dX10_term_25 : decode cX10_term 25 = .ok (.bipush (-9), 2) := by decide +kernel
theorem dX10_term_27 : decode cX10_term 27 = .ok (.if_icmp .lt 10, 3) := by decide +kernel
theorem dX10_term_30 : decode cX10_term 30 = .ok (.iload 4, 2) := by decide +kernel
theorem dX10_term_32 : decode cX10_term 32 = .ok (.bipush 9, 2) := by decide +kernel
theorem dX10_term_34 : decode cX10_term 34 = .ok (.if_icmp .le 5, 3) := by decide +kernel
theorem dX10_term_37 : decode cX10_term 37 = .ok (.iconst (-1), 1) := by decide +kernel
theorem dX10_term_38 : decode cX10_term 38 = .ok (.ireturn, 1) := by decide +kernel
theorem dX10_term_39 : decode cX10_term 39 = .ok (.aload_n 0, 1) := by decide +kernel
theorem dX10_term_40 : decode cX10_term 40 = .ok (.getfield 81, 3) := by decide +kernel
theorem dX10_term_43 : decode cX10_term 43 = .ok (.getfield 240, 3) := by decide +kernel
theorem dX10_term_46 : decode cX10_term 46 = .ok (.iload_n 1, 1) := by decide +kernel
theorem dX10_term_47 : decode cX10_term 47 = .ok (.iaload, 1) := by decide +kernel
theorem dX10_term_48 : decode cX10_term 48 = .ok (.bipush 6, 2) := by decide +kernel
theorem dX10_term_50 : decode cX10_term 50 = .ok (.if_icmp .lt 8, 3) := by decide +kernel
theorem dX10_term_53 : decode cX10_term 53 = .ok (.bipush (-3), 2) := by decide +kernel
theorem dX10_term_55 : decode cX10_term 55 = .ok (.goto 19, 3) := by decide +kernel
theorem dX10_term_58 : decode cX10_term 58 = .ok (.aload_n 0, 1) := by decide +kernel
theorem dX10_term_59 : decode cX10_term 59 = .ok (.getfield 81, 3) := by decide +kernel
theorem dX10_term_62 : decode cX10_term 62 = .ok (.iload_n 1, 1) := by decide +kernel
theorem dX10_term_63 : decode cX10_term 63 = .ok (.iload_n 2, 1) := by decide +kernel
theorem dX10_term_64 : decode cX10_term 64 = .ok (.bipush 8, 2) := by decide +kernel
theorem dX10_term_66 : decode cX10_term 66 = .ok (.imul, 1) := by decide +kernel
theorem dX10_term_67 : decode cX10_term 67 = .ok (.iload_n 3, 1) := by decide +kernel
theorem dX10_term_68 : decode cX10_term 68 = .ok (.iadd, 1) := by decide +kernel
theorem dX10_term_69 : decode cX10_term 69 = .ok (.iload 4, 2) := by decide +kernel
theorem dX10_term_71 : decode cX10_term 71 = .ok (.invokevirtual 241, 3) := by decide +kernel
theorem dX10_term_74 : decode cX10_term 74 = .ok (.ireturn, 1) := by decide +kernel
set_option maxRecDepth 20000 in
theorem ggX10_holds_X5_has : GoodIn wsX10_holds wsX5_has := goodIn_r _ [8, 9, 50, 51, 52, 53, 54] (by decide +kernel) (by decide +kernel)
set_option maxRecDepth 20000 in
theorem gX10_holds_X5_has : GoodIn wsX10_holds (wsV RX10 237 RX5 yX5_has wsX5_has) := goodIn_app (goodIn_of _ (by decide +kernel)) ggX10_holds_X5_has
set_option maxRecDepth 20000 in
theorem ggX10_holds_X10_isHouse : GoodIn wsX10_holds wsX10_isHouse := goodIn_r _ [13] (by decide +kernel) (by decide +kernel)
set_option maxRecDepth 20000 in
theorem gX10_holds_X10_isHouse : GoodIn wsX10_holds (va_wsS RX10 141 yX10_isHouse wsX10_isHouse) := goodIn_app (goodIn_of _ (by decide +kernel)) ggX10_holds_X10_isHouse
set_option maxRecDepth 20000 in
theorem ggX10_holds_X4_cellsOf : GoodIn wsX10_holds wsX4_cellsOf := goodIn_r _ [18, 19, 20, 55, 56, 57, 58, 59, 60, 61, 62, 63, 64, 65] (by decide +kernel) (by decide +kernel)
set_option maxRecDepth 20000 in
theorem gX10_holds_X4_cellsOf : GoodIn wsX10_holds (wsV RX10 147 RX4 yX4_cellsOf wsX4_cellsOf) := goodIn_app (goodIn_of _ (by decide +kernel)) ggX10_holds_X4_cellsOf
set_option maxRecDepth 20000 in
theorem ggX10_holds_X5_standsAfter : GoodIn wsX10_holds wsX5_standsAfter := goodIn_r _ [24, 25, 26, 27, 28, 29, 30, 31, 32, 33, 34, 35, 36, 50, 51, 52, 53, 54, 66, 67, 68, 69, 70, 71, 72, 73] (by decide +kernel) (by decide +kernel)
set_option maxRecDepth 20000 in
theorem gX10_holds_X5_standsAfter : GoodIn wsX10_holds (wsV RX10 244 RX5 yX5_standsAfter wsX5_standsAfter) := goodIn_app (goodIn_of _ (by decide +kernel)) ggX10_holds_X5_standsAfter
theorem dX10_holds_0 : decode cX10_holds 0 = .ok (.aload_n 0, 1) := by decide +kernel
theorem dX10_holds_1 : decode cX10_holds 1 = .ok (.getfield 81, 3) := by decide +kernel
theorem dX10_holds_4 : decode cX10_holds 4 = .ok (.iload_n 1, 1) := by decide +kernel
theorem dX10_holds_5 : decode cX10_holds 5 = .ok (.invokevirtual 237, 3) := by decide +kernel
theorem dX10_holds_8 : decode cX10_holds 8 = .ok (.ifCond .eq 10, 3) := by decide +kernel
theorem dX10_holds_11 : decode cX10_holds 11 = .ok (.iload_n 2, 1) := by decide +kernel
theorem dX10_holds_12 : decode cX10_holds 12 = .ok (.invokestatic 141, 3) := by decide +kernel
theorem dX10_holds_15 : decode cX10_holds 15 = .ok (.ifCond .ne 5, 3) := by decide +kernel
theorem dX10_holds_18 : decode cX10_holds 18 = .ok (.iconst (-1), 1) := by decide +kernel
theorem dX10_holds_19 : decode cX10_holds 19 = .ok (.ireturn, 1) := by decide +kernel
theorem dX10_holds_20 : decode cX10_holds 20 = .ok (.aload_n 0, 1) := by decide +kernel
theorem dX10_holds_21 : decode cX10_holds 21 = .ok (.getfield 81, 3) := by decide +kernel
theorem dX10_holds_24 : decode cX10_holds 24 = .ok (.iload_n 1, 1) := by decide +kernel
theorem dX10_holds_25 : decode cX10_holds 25 = .ok (.aload_n 0, 1) := by decide +kernel
theorem dX10_holds_26 : decode cX10_holds 26 = .ok (.getfield 26, 3) := by decide +kernel
theorem dX10_holds_29 : decode cX10_holds 29 = .ok (.iload_n 2, 1) := by decide +kernel
theorem dX10_holds_30 : decode cX10_holds 30 = .ok (.invokevirtual 147, 3) := by decide +kernel
theorem dX10_holds_33 : decode cX10_holds 33 = .ok (.aload_n 0, 1) := by decide +kernel
theorem dX10_holds_34 : decode cX10_holds 34 = .ok (.getfield 88, 3) := by decide +kernel
theorem dX10_holds_37 : decode cX10_holds 37 = .ok (.iconst 0, 1) := by decide +kernel
theorem dX10_holds_38 : decode cX10_holds 38 = .ok (.invokevirtual 244, 3) := by decide +kernel
theorem dX10_holds_41 : decode cX10_holds 41 = .ok (.ifCond .eq 7, 3) := by decide +kernel
theorem dX10_holds_44 : decode cX10_holds 44 = .ok (.iconst 1, 1) := by decide +kernel
theorem dX10_holds_45 : decode cX10_holds 45 = .ok (.goto 4, 3) := by decide +kernel
theorem dX10_holds_48 : decode cX10_holds 48 = .ok (.iconst 0, 1) := by decide +kernel
theorem dX10_holds_49 : decode cX10_holds 49 = .ok (.ireturn, 1) := by decide +kernel
set_option maxRecDepth 20000 in
theorem ggX10_broken_X5_has : GoodIn wsX10_broken wsX5_has := goodIn_r _ [13, 14, 102, 103, 104, 105, 106] (by decide +kernel) (by decide +kernel)
set_option maxRecDepth 20000 in
theorem gX10_broken_X5_has : GoodIn wsX10_broken (wsV RX10 237 RX5 yX5_has wsX5_has) := goodIn_app (goodIn_of _ (by decide +kernel)) ggX10_broken_X5_has
set_option maxRecDepth 20000 in
theorem ggX10_broken_X1_gather : GoodIn wsX10_broken wsX1_gather := goodIn_r _ [19, 20, 21, 22, 23, 24, 25, 26, 27, 28, 29, 30, 31, 32, 33, 34, 35, 36, 37, 38, 39, 40, 41, 42, 18, 43, 44, 45, 46, 47, 89, 90, 91, 92, 93, 94, 95, 96, 97, 98, 99, 100, 101] (by decide +kernel) (by decide +kernel)
set_option maxRecDepth 20000 in
theorem gX10_broken_X1_gather : GoodIn wsX10_broken (wsV RX10 248 RX1 yX1_gather wsX1_gather) := goodIn_app (goodIn_of _ (by decide +kernel)) ggX10_broken_X1_gather
set_option maxRecDepth 20000 in
theorem ggX10_broken_X1_watch : GoodIn wsX10_broken wsX1_watch := goodIn_r _ [51, 25, 32, 52, 53, 54, 55, 12, 56, 57, 58, 59, 60, 61, 62, 63, 18, 64, 28, 29, 40, 41, 42, 43, 44, 45, 46, 47, 31, 94, 95, 96, 97, 98, 99, 100, 101, 102, 103, 104, 105, 106] (by decide +kernel) (by decide +kernel)
set_option maxRecDepth 20000 in
theorem gX10_broken_X1_watch : GoodIn wsX10_broken (wsV RX10 252 RX1 yX1_watch wsX1_watch) := goodIn_app (goodIn_of _ (by decide +kernel)) ggX10_broken_X1_watch
theorem dX10_broken_0 : decode cX10_broken 0 = .ok (.aload_n 0, 1) := by decide +kernel
theorem dX10_broken_1 : decode cX10_broken 1 = .ok (.getfield 81, 3) := by decide +kernel
theorem dX10_broken_4 : decode cX10_broken 4 = .ok (.iload_n 1, 1) := by decide +kernel
theorem dX10_broken_5 : decode cX10_broken 5 = .ok (.invokevirtual 237, 3) := by decide +kernel
theorem dX10_broken_8 : decode cX10_broken 8 = .ok (.ifCond .ne 5, 3) := by decide +kernel
theorem dX10_broken_11 : decode cX10_broken 11 = .ok (.iconst (-1), 1) := by decide +kernel
theorem dX10_broken_12 : decode cX10_broken 12 = .ok (.ireturn, 1) := by decide +kernel
theorem dX10_broken_13 : decode cX10_broken 13 = .ok (.aload_n 0, 1) := by decide +kernel
theorem dX10_broken_14 : decode cX10_broken 14 = .ok (.getfield 26, 3) := by decide +kernel
theorem dX10_broken_17 : decode cX10_broken 17 = .ok (.getfield 164, 3) := by decide +kernel
theorem dX10_broken_20 : decode cX10_broken 20 = .ok (.getfield 168, 3) := by decide +kernel
theorem dX10_broken_23 : decode cX10_broken 23 = .ok (.bipush 6, 2) := by decide +kernel
theorem dX10_broken_25 : decode cX10_broken 25 = .ok (.if_icmp .le 6, 3) := by decide +kernel
theorem dX10_broken_28 : decode cX10_broken 28 = .ok (.bipush (-4), 2) := by decide +kernel
theorem dX10_broken_30 : decode cX10_broken 30 = .ok (.ireturn, 1) := by decide +kernel
theorem dX10_broken_31 : decode cX10_broken 31 = .ok (.aload_n 0, 1) := by decide +kernel
theorem dX10_broken_32 : decode cX10_broken 32 = .ok (.getfield 88, 3) := by decide +kernel
theorem dX10_broken_35 : decode cX10_broken 35 = .ok (.aload_n 0, 1) := by decide +kernel
theorem dX10_broken_36 : decode cX10_broken 36 = .ok (.getfield 26, 3) := by decide +kernel
theorem dX10_broken_39 : decode cX10_broken 39 = .ok (.getfield 164, 3) := by decide +kernel
theorem dX10_broken_42 : decode cX10_broken 42 = .ok (.invokevirtual 248, 3) := by decide +kernel
theorem dX10_broken_45 : decode cX10_broken 45 = .ok (.aload_n 0, 1) := by decide +kernel
theorem dX10_broken_46 : decode cX10_broken 46 = .ok (.getfield 88, 3) := by decide +kernel
theorem dX10_broken_49 : decode cX10_broken 49 = .ok (.aload_n 0, 1) := by decide +kernel
theorem dX10_broken_50 : decode cX10_broken 50 = .ok (.getfield 81, 3) := by decide +kernel
theorem dX10_broken_53 : decode cX10_broken 53 = .ok (.iload_n 1, 1) := by decide +kernel
theorem dX10_broken_54 : decode cX10_broken 54 = .ok (.aload_n 0, 1) := by decide +kernel
theorem dX10_broken_55 : decode cX10_broken 55 = .ok (.getfield 26, 3) := by decide +kernel
theorem dX10_broken_58 : decode cX10_broken 58 = .ok (.getfield 216, 3) := by decide +kernel
theorem dX10_broken_61 : decode cX10_broken 61 = .ok (.invokevirtual 252, 3) := by decide +kernel
theorem dX10_broken_64 : decode cX10_broken 64 = .ok (.aload_n 0, 1) := by decide +kernel
theorem dX10_broken_65 : decode cX10_broken 65 = .ok (.getfield 88, 3) := by decide +kernel
theorem dX10_broken_68 : decode cX10_broken 68 = .ok (.getfield 256, 3) := by decide +kernel
theorem dX10_broken_71 : decode cX10_broken 71 = .ok (.iconst 0, 1) := by decide +kernel
theorem dX10_broken_72 : decode cX10_broken 72 = .ok (.iaload, 1) := by decide +kernel
theorem dX10_broken_73 : decode cX10_broken 73 = .ok (.aload_n 0, 1) := by decide +kernel
theorem dX10_broken_74 : decode cX10_broken 74 = .ok (.getfield 88, 3) := by decide +kernel
theorem dX10_broken_77 : decode cX10_broken 77 = .ok (.getfield 259, 3) := by decide +kernel
theorem dX10_broken_80 : decode cX10_broken 80 = .ok (.iconst 0, 1) := by decide +kernel
theorem dX10_broken_81 : decode cX10_broken 81 = .ok (.iaload, 1) := by decide +kernel
theorem dX10_broken_82 : decode cX10_broken 82 = .ok (.isub, 1) := by decide +kernel
theorem dX10_broken_83 : decode cX10_broken 83 = .ok (.ireturn, 1) := by decide +kernel
set_option maxRecDepth 20000 in
theorem ggX10_worst_X5_has : GoodIn wsX10_worst wsX5_has := goodIn_r _ [11, 12, 100, 101, 102, 103, 104] (by decide +kernel) (by decide +kernel)
set_option maxRecDepth 20000 in
theorem gX10_worst_X5_has : GoodIn wsX10_worst (wsV RX10 237 RX5 yX5_has wsX5_has) := goodIn_app (goodIn_of _ (by decide +kernel)) ggX10_worst_X5_has
set_option maxRecDepth 20000 in
theorem ggX10_worst_X1_gather : GoodIn wsX10_worst wsX1_gather := goodIn_r _ [17, 18, 19, 20, 21, 22, 23, 24, 25, 26, 27, 28, 29, 30, 31, 32, 33, 34, 35, 36, 37, 38, 39, 40, 16, 41, 42, 43, 44, 45, 95, 96, 97, 98, 99, 105, 106, 107, 108, 109, 110, 111, 112] (by decide +kernel) (by decide +kernel)
set_option maxRecDepth 20000 in
theorem gX10_worst_X1_gather : GoodIn wsX10_worst (wsV RX10 248 RX1 yX1_gather wsX1_gather) := goodIn_app (goodIn_of _ (by decide +kernel)) ggX10_worst_X1_gather
set_option maxRecDepth 20000 in
theorem ggX10_worst_X1_watch : GoodIn wsX10_worst wsX1_watch := goodIn_r _ [49, 23, 30, 50, 51, 52, 53, 10, 54, 55, 56, 57, 58, 59, 60, 61, 16, 62, 26, 27, 38, 39, 40, 41, 42, 43, 44, 45, 29, 105, 106, 107, 108, 109, 110, 111, 112, 100, 101, 102, 103, 104] (by decide +kernel) (by decide +kernel)
set_option maxRecDepth 20000 in
theorem gX10_worst_X1_watch : GoodIn wsX10_worst (wsV RX10 252 RX1 yX1_watch wsX1_watch) := goodIn_app (goodIn_of _ (by decide +kernel)) ggX10_worst_X1_watch
set_option maxRecDepth 20000 in
theorem ggX10_worst_X1_ofFirstBroken : GoodIn wsX10_worst wsX1_ofFirstBroken := goodIn_r _ [66, 23, 31, 50, 30, 25, 67, 68, 69, 16, 70, 42, 43, 44, 45, 29, 105, 106, 107, 108, 109, 110, 111, 112] (by decide +kernel) (by decide +kernel)
set_option maxRecDepth 20000 in
theorem gX10_worst_X1_ofFirstBroken : GoodIn wsX10_worst (wsV RX10 262 RX1 yX1_ofFirstBroken wsX1_ofFirstBroken) := goodIn_app (goodIn_of _ (by decide +kernel)) ggX10_worst_X1_ofFirstBroken
theorem dX10_worst_0 : decode cX10_worst 0 = .ok (.aload_n 0, 1) := by decide +kernel
theorem dX10_worst_1 : decode cX10_worst 1 = .ok (.getfield 81, 3) := by decide +kernel
theorem dX10_worst_4 : decode cX10_worst 4 = .ok (.iload_n 1, 1) := by decide +kernel
theorem dX10_worst_5 : decode cX10_worst 5 = .ok (.invokevirtual 237, 3) := by decide +kernel
theorem dX10_worst_8 : decode cX10_worst 8 = .ok (.ifCond .ne 5, 3) := by decide +kernel
theorem dX10_worst_11 : decode cX10_worst 11 = .ok (.iconst (-1), 1) := by decide +kernel
theorem dX10_worst_12 : decode cX10_worst 12 = .ok (.ireturn, 1) := by decide +kernel
theorem dX10_worst_13 : decode cX10_worst 13 = .ok (.aload_n 0, 1) := by decide +kernel
theorem dX10_worst_14 : decode cX10_worst 14 = .ok (.getfield 26, 3) := by decide +kernel
theorem dX10_worst_17 : decode cX10_worst 17 = .ok (.getfield 164, 3) := by decide +kernel
theorem dX10_worst_20 : decode cX10_worst 20 = .ok (.getfield 168, 3) := by decide +kernel
theorem dX10_worst_23 : decode cX10_worst 23 = .ok (.bipush 6, 2) := by decide +kernel
theorem dX10_worst_25 : decode cX10_worst 25 = .ok (.if_icmp .le 6, 3) := by decide +kernel
theorem dX10_worst_28 : decode cX10_worst 28 = .ok (.bipush (-4), 2) := by decide +kernel
theorem dX10_worst_30 : decode cX10_worst 30 = .ok (.ireturn, 1) := by decide +kernel
theorem dX10_worst_31 : decode cX10_worst 31 = .ok (.aload_n 0, 1) := by decide +kernel
theorem dX10_worst_32 : decode cX10_worst 32 = .ok (.getfield 88, 3) := by decide +kernel
theorem dX10_worst_35 : decode cX10_worst 35 = .ok (.aload_n 0, 1) := by decide +kernel
theorem dX10_worst_36 : decode cX10_worst 36 = .ok (.getfield 26, 3) := by decide +kernel
theorem dX10_worst_39 : decode cX10_worst 39 = .ok (.getfield 164, 3) := by decide +kernel
theorem dX10_worst_42 : decode cX10_worst 42 = .ok (.invokevirtual 248, 3) := by decide +kernel
theorem dX10_worst_45 : decode cX10_worst 45 = .ok (.aload_n 0, 1) := by decide +kernel
theorem dX10_worst_46 : decode cX10_worst 46 = .ok (.getfield 88, 3) := by decide +kernel
theorem dX10_worst_49 : decode cX10_worst 49 = .ok (.aload_n 0, 1) := by decide +kernel
theorem dX10_worst_50 : decode cX10_worst 50 = .ok (.getfield 81, 3) := by decide +kernel
theorem dX10_worst_53 : decode cX10_worst 53 = .ok (.iload_n 1, 1) := by decide +kernel
theorem dX10_worst_54 : decode cX10_worst 54 = .ok (.aload_n 0, 1) := by decide +kernel
theorem dX10_worst_55 : decode cX10_worst 55 = .ok (.getfield 26, 3) := by decide +kernel
theorem dX10_worst_58 : decode cX10_worst 58 = .ok (.getfield 216, 3) := by decide +kernel
theorem dX10_worst_61 : decode cX10_worst 61 = .ok (.invokevirtual 252, 3) := by decide +kernel
theorem dX10_worst_64 : decode cX10_worst 64 = .ok (.aload_n 0, 1) := by decide +kernel
theorem dX10_worst_65 : decode cX10_worst 65 = .ok (.getfield 88, 3) := by decide +kernel
theorem dX10_worst_68 : decode cX10_worst 68 = .ok (.iload_n 2, 1) := by decide +kernel
theorem dX10_worst_69 : decode cX10_worst 69 = .ok (.invokevirtual 262, 3) := by decide +kernel
theorem dX10_worst_72 : decode cX10_worst 72 = .ok (.ireturn, 1) := by decide +kernel
set_option maxRecDepth 20000 in
theorem ggX10_orders_X1_gather : GoodIn wsX10_orders wsX1_gather := goodIn_r _ [10, 11, 12, 13, 14, 15, 16, 17, 18, 19, 20, 21, 22, 23, 24, 25, 26, 27, 28, 29, 30, 31, 32, 33, 9, 34, 35, 36, 37, 38, 63, 64, 65, 66, 67, 68, 69, 70, 71, 72, 73, 74, 75] (by decide +kernel) (by decide +kernel)
set_option maxRecDepth 20000 in
theorem gX10_orders_X1_gather : GoodIn wsX10_orders (wsV RX10 248 RX1 yX1_gather wsX1_gather) := goodIn_app (goodIn_of _ (by decide +kernel)) ggX10_orders_X1_gather
theorem dX10_orders_0 : decode cX10_orders 0 = .ok (.aload_n 0, 1) := by decide +kernel
theorem dX10_orders_1 : decode cX10_orders 1 = .ok (.getfield 26, 3) := by decide +kernel
theorem dX10_orders_4 : decode cX10_orders 4 = .ok (.getfield 164, 3) := by decide +kernel
theorem dX10_orders_7 : decode cX10_orders 7 = .ok (.getfield 168, 3) := by decide +kernel
theorem dX10_orders_10 : decode cX10_orders 10 = .ok (.bipush 6, 2) := by decide +kernel
theorem dX10_orders_12 : decode cX10_orders 12 = .ok (.if_icmp .le 6, 3) := by decide +kernel
theorem dX10_orders_15 : decode cX10_orders 15 = .ok (.bipush (-4), 2) := by decide +kernel
theorem dX10_orders_17 : decode cX10_orders 17 = .ok (.ireturn, 1) := by decide +kernel
theorem dX10_orders_18 : decode cX10_orders 18 = .ok (.aload_n 0, 1) := by decide +kernel
theorem dX10_orders_19 : decode cX10_orders 19 = .ok (.getfield 88, 3) := by decide +kernel
theorem dX10_orders_22 : decode cX10_orders 22 = .ok (.aload_n 0, 1) := by decide +kernel
theorem dX10_orders_23 : decode cX10_orders 23 = .ok (.getfield 26, 3) := by decide +kernel
theorem dX10_orders_26 : decode cX10_orders 26 = .ok (.getfield 164, 3) := by decide +kernel
theorem dX10_orders_29 : decode cX10_orders 29 = .ok (.invokevirtual 248, 3) := by decide +kernel
theorem dX10_orders_32 : decode cX10_orders 32 = .ok (.aload_n 0, 1) := by decide +kernel
theorem dX10_orders_33 : decode cX10_orders 33 = .ok (.getfield 88, 3) := by decide +kernel
theorem dX10_orders_36 : decode cX10_orders 36 = .ok (.getfield 256, 3) := by decide +kernel
theorem dX10_orders_39 : decode cX10_orders 39 = .ok (.iconst 0, 1) := by decide +kernel
theorem dX10_orders_40 : decode cX10_orders 40 = .ok (.iaload, 1) := by decide +kernel
theorem dX10_orders_41 : decode cX10_orders 41 = .ok (.ireturn, 1) := by decide +kernel
set_option maxRecDepth 20000 in
theorem ggX10_beside_X9_hasRoutine : GoodIn wsX10_beside wsX9_hasRoutine := goodIn_r _ [11, 12, 188, 189, 190, 191, 192, 193, 194, 195, 196, 197, 198] (by decide +kernel) (by decide +kernel)
set_option maxRecDepth 20000 in
theorem gX10_beside_X9_hasRoutine : GoodIn wsX10_beside (wsV RX10 116 RX9 yX9_hasRoutine wsX9_hasRoutine) := goodIn_app (goodIn_of _ (by decide +kernel)) ggX10_beside_X9_hasRoutine
set_option maxRecDepth 20000 in
theorem ggX10_beside_X10_standsInOld : GoodIn wsX10_beside wsX10_standsInOld := goodIn_r _ [17, 2, 1, 5, 18, 19, 20, 21, 22, 23, 24, 25, 26, 27, 28, 29, 30, 31, 32, 33, 34, 35, 36, 37, 38, 39, 40, 41, 42, 43, 44, 45, 46, 47, 48, 49, 50, 51, 52, 53, 54, 55, 56, 57, 58, 59, 10, 60, 61, 62, 63, 64, 16, 65, 66, 67, 68, 69, 70, 71, 72, 73, 74, 75, 76, 77, 78, 79, 80, 81, 82, 83, 84, 85, 86, 87, 88, 89, 90, 91, 92, 93, 94, 95, 96, 97, 98, 99, 100, 101, 102, 103, 104, 105, 106, 107, 108, 109, 110, 111, 112, 113, 154, 155, 156, 157, 158, 159, 160, 161, 162, 163, 164, 165, 166, 177, 178, 179, 180, 181, 182, 183, 184, 185, 186, 187, 167, 168, 169, 170, 171, 172, 173, 174, 175, 176, 188, 189, 190, 191, 192, 193, 194, 195, 196, 197, 198, 199, 200, 201] (by decide +kernel) (by decide +kernel)
set_option maxRecDepth 20000 in
theorem gX10_beside_X10_standsInOld : GoodIn wsX10_beside (wsV RX10 133 RX10 yX10_standsInOld wsX10_standsInOld) := goodIn_app (goodIn_of _ (by decide +kernel)) ggX10_beside_X10_standsInOld
set_option maxRecDepth 20000 in
theorem ggX10_beside_X10_standsInNew : GoodIn wsX10_beside wsX10_standsInNew := goodIn_r _ [117, 2, 1, 5, 118, 119, 19, 20, 21, 22, 23, 24, 25, 26, 27, 28, 29, 30, 31, 32, 33, 34, 35, 36, 37, 38, 39, 40, 41, 42, 43, 44, 45, 46, 47, 48, 49, 50, 51, 52, 53, 54, 55, 56, 57, 58, 59, 10, 60, 61, 62, 63, 64, 16, 65, 66, 67, 68, 69, 70, 71, 72, 73, 74, 120, 121, 122, 78, 123, 124, 80, 81, 125, 126, 83, 127, 128, 129, 130, 131, 84, 132, 133, 134, 135, 136, 137, 138, 139, 140, 141, 142, 143, 144, 145, 146, 99, 100, 101, 102, 103, 104, 105, 106, 107, 108, 109, 110, 111, 112, 113, 154, 155, 156, 157, 158, 159, 160, 161, 162, 163, 164, 165, 166, 177, 178, 179, 180, 181, 182, 183, 184, 185, 186, 187, 188, 189, 190, 191, 192, 193, 194, 195, 196, 197, 198, 167, 168, 169, 170, 171, 172, 173, 174, 175, 176, 202, 203, 204, 205, 206] (by decide +kernel) (by decide +kernel)
set_option maxRecDepth 20000 in
theorem gX10_beside_X10_standsInNew : GoodIn wsX10_beside (wsV RX10 210 RX10 yX10_standsInNew wsX10_standsInNew) := goodIn_app (goodIn_of _ (by decide +kernel)) ggX10_beside_X10_standsInNew
set_option maxRecDepth 20000 in
theorem ggX10_beside_X4_noteUnlike : GoodIn wsX10_beside wsX4_noteUnlike := goodIn_r _ [150, 151, 152, 153, 177, 178, 179, 180, 181, 182, 183, 184, 185, 186, 187] (by decide +kernel) (by decide +kernel)
set_option maxRecDepth 20000 in
theorem gX10_beside_X4_noteUnlike : GoodIn wsX10_beside (wsV RX10 265 RX4 yX4_noteUnlike wsX4_noteUnlike) := goodIn_app (goodIn_of _ (by decide +kernel)) ggX10_beside_X4_noteUnlike
theorem dX10_beside_0 : decode cX10_beside 0 = .ok (.aload_n 0, 1) := by decide +kernel
theorem dX10_beside_1 : decode cX10_beside 1 = .ok (.getfield 12, 3) := by decide +kernel
theorem dX10_beside_4 : decode cX10_beside 4 = .ok (.iload_n 1, 1) := by decide +kernel
theorem dX10_beside_5 : decode cX10_beside 5 = .ok (.invokevirtual 116, 3) := by decide +kernel
theorem dX10_beside_8 : decode cX10_beside 8 = .ok (.ifCond .ne 5, 3) := by decide +kernel
theorem dX10_beside_11 : decode cX10_beside 11 = .ok (.iconst (-1), 1) := by decide +kernel
theorem dX10_beside_12 : decode cX10_beside 12 = .ok (.ireturn, 1) := by decide +kernel
theorem dX10_beside_13 : decode cX10_beside 13 = .ok (.aload_n 0, 1) := by decide +kernel
theorem dX10_beside_14 : decode cX10_beside 14 = .ok (.iload_n 1, 1) := by decide +kernel
theorem dX10_beside_15 : decode cX10_beside 15 = .ok (.iload_n 2, 1) := by decide +kernel
theorem dX10_beside_16 : decode cX10_beside 16 = .ok (.invokevirtual 133, 3) := by decide +kernel
theorem dX10_beside_19 : decode cX10_beside 19 = .ok (.istore_n 3, 1) := by decide +kernel
theorem dX10_beside_20 : decode cX10_beside 20 = .ok (.iload_n 3, 1) := by decide +kernel
theorem dX10_beside_21 : decode cX10_beside 21 = .ok (.ifCond .eq 13, 3) := by decide +kernel
theorem dX10_beside_24 : decode cX10_beside 24 = .ok (.aload_n 0, 1) := by decide +kernel
theorem dX10_beside_25 : decode cX10_beside 25 = .ok (.getfield 19, 3) := by decide +kernel
theorem dX10_beside_28 : decode cX10_beside 28 = .ok (.getfield 137, 3) := by decide +kernel
theorem dX10_beside_31 : decode cX10_beside 31 = .ok (.goto 5, 3) := by decide +kernel
theorem dX10_beside_34 : decode cX10_beside 34 = .ok (.ldc 140, 2) := by decide +kernel
theorem dX10_beside_36 : decode cX10_beside 36 = .ok (.istore 4, 2) := by decide +kernel
theorem dX10_beside_38 : decode cX10_beside 38 = .ok (.aload_n 0, 1) := by decide +kernel
theorem dX10_beside_39 : decode cX10_beside 39 = .ok (.iload_n 1, 1) := by decide +kernel
theorem dX10_beside_40 : decode cX10_beside 40 = .ok (.iload_n 2, 1) := by decide +kernel
theorem dX10_beside_41 : decode cX10_beside 41 = .ok (.invokevirtual 210, 3) := by decide +kernel
theorem dX10_beside_44 : decode cX10_beside 44 = .ok (.istore 5, 2) := by decide +kernel
theorem dX10_beside_46 : decode cX10_beside 46 = .ok (.iload 5, 2) := by decide +kernel
theorem dX10_beside_48 : decode cX10_beside 48 = .ok (.ifCond .eq 13, 3) := by decide +kernel
theorem dX10_beside_51 : decode cX10_beside 51 = .ok (.aload_n 0, 1) := by decide +kernel
theorem dX10_beside_52 : decode cX10_beside 52 = .ok (.getfield 19, 3) := by decide +kernel
theorem dX10_beside_55 : decode cX10_beside 55 = .ok (.getfield 137, 3) := by decide +kernel
theorem dX10_beside_58 : decode cX10_beside 58 = .ok (.goto 5, 3) := by decide +kernel
theorem dX10_beside_61 : decode cX10_beside 61 = .ok (.ldc 140, 2) := by decide +kernel
theorem dX10_beside_63 : decode cX10_beside 63 = .ok (.istore 6, 2) := by decide +kernel
theorem dX10_beside_65 : decode cX10_beside 65 = .ok (.iload_n 3, 1) := by decide +kernel
theorem dX10_beside_66 : decode cX10_beside 66 = .ok (.iload 5, 2) := by decide +kernel
theorem dX10_beside_68 : decode cX10_beside 68 = .ok (.if_icmp .ne 14, 3) := by decide +kernel
theorem dX10_beside_71 : decode cX10_beside 71 = .ok (.iload 4, 2) := by decide +kernel
theorem dX10_beside_73 : decode cX10_beside 73 = .ok (.iload 6, 2) := by decide +kernel
theorem dX10_beside_75 : decode cX10_beside 75 = .ok (.if_icmp .ne 7, 3) := by decide +kernel
theorem dX10_beside_78 : decode cX10_beside 78 = .ok (.iconst 1, 1) := by decide +kernel
theorem dX10_beside_79 : decode cX10_beside 79 = .ok (.goto 4, 3) := by decide +kernel
theorem dX10_beside_82 : decode cX10_beside 82 = .ok (.iconst 0, 1) := by decide +kernel
theorem dX10_beside_83 : decode cX10_beside 83 = .ok (.istore 7, 2) := by decide +kernel
theorem dX10_beside_85 : decode cX10_beside 85 = .ok (.iload 7, 2) := by decide +kernel
theorem dX10_beside_87 : decode cX10_beside 87 = .ok (.ifCond .ne 16, 3) := by decide +kernel
theorem dX10_beside_90 : decode cX10_beside 90 = .ok (.aload_n 0, 1) := by decide +kernel
theorem dX10_beside_91 : decode cX10_beside 91 = .ok (.getfield 26, 3) := by decide +kernel
theorem dX10_beside_94 : decode cX10_beside 94 = .ok (.iload_n 1, 1) := by decide +kernel
theorem dX10_beside_95 : decode cX10_beside 95 = .ok (.iload_n 2, 1) := by decide +kernel
theorem dX10_beside_96 : decode cX10_beside 96 = .ok (.iload 4, 2) := by decide +kernel
theorem dX10_beside_98 : decode cX10_beside 98 = .ok (.iload 6, 2) := by decide +kernel
theorem dX10_beside_100 : decode cX10_beside 100 = .ok (.invokevirtual 265, 3) := by decide +kernel
theorem dX10_beside_103 : decode cX10_beside 103 = .ok (.aload_n 0, 1) := by decide +kernel
theorem dX10_beside_104 : decode cX10_beside 104 = .ok (.getfield 26, 3) := by decide +kernel
theorem dX10_beside_107 : decode cX10_beside 107 = .ok (.dup, 1) := by decide +kernel
theorem dX10_beside_108 : decode cX10_beside 108 = .ok (.getfield 269, 3) := by decide +kernel
theorem dX10_beside_111 : decode cX10_beside 111 = .ok (.iconst 1, 1) := by decide +kernel
theorem dX10_beside_112 : decode cX10_beside 112 = .ok (.iadd, 1) := by decide +kernel
theorem dX10_beside_113 : decode cX10_beside 113 = .ok (.putfield 269, 3) := by decide +kernel
theorem dX10_beside_116 : decode cX10_beside 116 = .ok (.iload 7, 2) := by decide +kernel
theorem dX10_beside_118 : decode cX10_beside 118 = .ok (.ifCond .eq 7, 3) := by decide +kernel
theorem dX10_beside_121 : decode cX10_beside 121 = .ok (.iconst 1, 1) := by decide +kernel
theorem dX10_beside_122 : decode cX10_beside 122 = .ok (.goto 4, 3) := by decide +kernel
theorem dX10_beside_125 : decode cX10_beside 125 = .ok (.iconst 0, 1) := by decide +kernel
theorem dX10_beside_126 : decode cX10_beside 126 = .ok (.ireturn, 1) := by decide +kernel
theorem dX10_unlike_0 : decode cX10_unlike 0 = .ok (.iload_n 1, 1) := by decide +kernel
theorem dX10_unlike_1 : decode cX10_unlike 1 = .ok (.ifCond .lt 8, 3) := by decide +kernel
theorem dX10_unlike_4 : decode cX10_unlike 4 = .ok (.iload_n 1, 1) := by decide +kernel
theorem dX10_unlike_5 : decode cX10_unlike 5 = .ok (.iconst 5, 1) := by decide +kernel
theorem dX10_unlike_6 : decode cX10_unlike 6 = .ok (.if_icmp .lt 5, 3) := by decide +kernel
theorem dX10_unlike_9 : decode cX10_unlike 9 = .ok (.iconst (-1), 1) := by decide +kernel
theorem dX10_unlike_10 : decode cX10_unlike 10 = .ok (.ireturn, 1) := by decide +kernel
theorem dX10_unlike_11 : decode cX10_unlike 11 = .ok (.aload_n 0, 1) := by decide +kernel
theorem dX10_unlike_12 : decode cX10_unlike 12 = .ok (.getfield 26, 3) := by decide +kernel
theorem dX10_unlike_15 : decode cX10_unlike 15 = .ok (.getfield 272, 3) := by decide +kernel
theorem dX10_unlike_18 : decode cX10_unlike 18 = .ok (.ifCond .eq 15, 3) := by decide +kernel
theorem dX10_unlike_21 : decode cX10_unlike 21 = .ok (.aload_n 0, 1) := by decide +kernel
theorem dX10_unlike_22 : decode cX10_unlike 22 = .ok (.getfield 26, 3) := by decide +kernel
theorem dX10_unlike_25 : decode cX10_unlike 25 = .ok (.getfield 276, 3) := by decide +kernel
theorem dX10_unlike_28 : decode cX10_unlike 28 = .ok (.iload_n 1, 1) := by decide +kernel
theorem dX10_unlike_29 : decode cX10_unlike 29 = .ok (.iaload, 1) := by decide +kernel
theorem dX10_unlike_30 : decode cX10_unlike 30 = .ok (.goto 5, 3) := by decide +kernel
theorem dX10_unlike_33 : decode cX10_unlike 33 = .ok (.bipush (-2), 2) := by decide +kernel
theorem dX10_unlike_35 : decode cX10_unlike 35 = .ok (.ireturn, 1) := by decide +kernel
set_option maxRecDepth 20000 in
theorem ggX10_differ_X4_unlikeCells : GoodIn wsX10_differ wsX4_unlikeCells := goodIn_r _ [6, 7, 8, 22, 23, 24, 25, 26, 27, 28, 29, 30, 31, 32] (by decide +kernel) (by decide +kernel)
set_option maxRecDepth 20000 in
theorem gX10_differ_X4_unlikeCells : GoodIn wsX10_differ (wsV RX10 279 RX4 yX4_unlikeCells wsX4_unlikeCells) := goodIn_app (goodIn_of _ (by decide +kernel)) ggX10_differ_X4_unlikeCells
theorem dX10_differ_0 : decode cX10_differ 0 = .ok (.aload_n 0, 1) := by decide +kernel
theorem dX10_differ_1 : decode cX10_differ 1 = .ok (.getfield 26, 3) := by decide +kernel
theorem dX10_differ_4 : decode cX10_differ 4 = .ok (.invokevirtual 279, 3) := by decide +kernel
theorem dX10_differ_7 : decode cX10_differ 7 = .ok (.ireturn, 1) := by decide +kernel
set_option maxRecDepth 20000 in
theorem ggX10_sync_X4_unlikeCells : GoodIn wsX10_sync wsX4_unlikeCells := goodIn_r _ [6, 7, 8, 34, 35, 36, 37, 38, 39, 40, 41, 42, 43, 44] (by decide +kernel) (by decide +kernel)
set_option maxRecDepth 20000 in
theorem gX10_sync_X4_unlikeCells : GoodIn wsX10_sync (wsV RX10 279 RX4 yX4_unlikeCells wsX4_unlikeCells) := goodIn_app (goodIn_of _ (by decide +kernel)) ggX10_sync_X4_unlikeCells
set_option maxRecDepth 20000 in
theorem ggX10_sync_X4_renew : GoodIn wsX10_sync wsX4_renew := goodIn_r _ [12, 7, 8, 13, 14, 15, 16, 17, 18, 19, 20, 34, 35, 36, 37, 38, 39, 40, 41, 42, 43, 44, 45, 46, 47, 48, 49] (by decide +kernel) (by decide +kernel)
set_option maxRecDepth 20000 in
theorem gX10_sync_X4_renew : GoodIn wsX10_sync (wsV RX10 283 RX4 yX4_renew wsX4_renew) := goodIn_app (goodIn_of _ (by decide +kernel)) ggX10_sync_X4_renew
theorem dX10_sync_0 : decode cX10_sync 0 = .ok (.aload_n 0, 1) := by decide +kernel
theorem dX10_sync_1 : decode cX10_sync 1 = .ok (.getfield 26, 3) := by decide +kernel
theorem dX10_sync_4 : decode cX10_sync 4 = .ok (.invokevirtual 279, 3) := by decide +kernel
theorem dX10_sync_7 : decode cX10_sync 7 = .ok (.istore_n 1, 1) := by decide +kernel
theorem dX10_sync_8 : decode cX10_sync 8 = .ok (.aload_n 0, 1) := by decide +kernel
theorem dX10_sync_9 : decode cX10_sync 9 = .ok (.getfield 26, 3) := by decide +kernel
theorem dX10_sync_12 : decode cX10_sync 12 = .ok (.invokevirtual 283, 3) := by decide +kernel
theorem dX10_sync_15 : decode cX10_sync 15 = .ok (.iload_n 1, 1) := by decide +kernel
theorem dX10_sync_16 : decode cX10_sync 16 = .ok (.ireturn, 1) := by decide +kernel
set_option maxRecDepth 20000 in
theorem ggX10_image_X4_init : GoodIn wsX10_image wsX4_init := goodIn_r _ [12, 13, 14, 15, 16, 17, 18, 19, 20, 21, 22, 23, 24, 25, 26, 27, 28, 29, 30, 31, 32, 33, 34, 35, 36, 37, 38, 39, 40, 79, 80, 81, 82, 83, 84, 85, 86, 87, 88, 89, 101, 102, 103, 104, 105, 106, 107, 108] (by decide +kernel) (by decide +kernel)
set_option maxRecDepth 20000 in
theorem gX10_image_X4_init_n25 : GoodIn wsX10_image (wsX4_init) := ggX10_image_X4_init
set_option maxRecDepth 20000 in
theorem ggX10_image_X4_become : GoodIn wsX10_image wsX4_become := goodIn_r _ [44, 17, 45, 46, 47, 48, 18, 19, 20, 29, 24, 28, 49, 50, 51, 52, 53, 54, 55, 23, 56, 33, 57, 16, 34, 58, 59, 60, 61, 27, 62, 38, 63, 39, 64, 40, 65, 79, 80, 81, 82, 83, 84, 85, 86, 87, 88, 89, 101, 102, 103, 104, 105, 106, 107, 108] (by decide +kernel) (by decide +kernel)
set_option maxRecDepth 20000 in
theorem gX10_image_X4_become : GoodIn wsX10_image (wsV RX10 286 RX4 yX4_become wsX4_become) := goodIn_app (goodIn_of _ (by decide +kernel)) ggX10_image_X4_become
theorem dX10_image_0 : decode cX10_image 0 = .ok (.iload_n 1, 1) := by decide +kernel
theorem dX10_image_1 : decode cX10_image 1 = .ok (.ifCond .lt 8, 3) := by decide +kernel
theorem dX10_image_4 : decode cX10_image 4 = .ok (.iload_n 1, 1) := by decide +kernel
theorem dX10_image_5 : decode cX10_image 5 = .ok (.iconst 4, 1) := by decide +kernel
theorem dX10_image_6 : decode cX10_image 6 = .ok (.if_icmp .lt 5, 3) := by decide +kernel
theorem dX10_image_9 : decode cX10_image 9 = .ok (.iconst (-1), 1) := by decide +kernel
theorem dX10_image_10 : decode cX10_image 10 = .ok (.ireturn, 1) := by decide +kernel
theorem dX10_image_11 : decode cX10_image 11 = .ok (.aload_n 0, 1) := by decide +kernel
theorem dX10_image_12 : decode cX10_image 12 = .ok (.getfield 30, 3) := by decide +kernel
theorem dX10_image_15 : decode cX10_image 15 = .ok (.iload_n 1, 1) := by decide +kernel
theorem dX10_image_16 : decode cX10_image 16 = .ok (.aaload, 1) := by decide +kernel
theorem dX10_image_17 : decode cX10_image 17 = .ok (.ifnonnull 16, 3) := by decide +kernel
theorem dX10_image_20 : decode cX10_image 20 = .ok (.aload_n 0, 1) := by decide +kernel
theorem dX10_image_21 : decode cX10_image 21 = .ok (.getfield 30, 3) := by decide +kernel
theorem dX10_image_24 : decode cX10_image 24 = .ok (.iload_n 1, 1) := by decide +kernel
theorem dX10_image_25 : decode cX10_image 25 = .ok (.new 23, 3) := by decide +kernel
theorem dX10_image_28 : decode cX10_image 28 = .ok (.dup, 1) := by decide +kernel
theorem dX10_image_29 : decode cX10_image 29 = .ok (.invokespecial 25, 3) := by decide +kernel
theorem dX10_image_32 : decode cX10_image 32 = .ok (.aastore, 1) := by decide +kernel
theorem dX10_image_33 : decode cX10_image 33 = .ok (.aload_n 0, 1) := by decide +kernel
theorem dX10_image_34 : decode cX10_image 34 = .ok (.getfield 30, 3) := by decide +kernel
theorem dX10_image_37 : decode cX10_image 37 = .ok (.iload_n 1, 1) := by decide +kernel
theorem dX10_image_38 : decode cX10_image 38 = .ok (.aaload, 1) := by decide +kernel
theorem dX10_image_39 : decode cX10_image 39 = .ok (.aload_n 0, 1) := by decide +kernel
theorem dX10_image_40 : decode cX10_image 40 = .ok (.getfield 26, 3) := by decide +kernel
theorem dX10_image_43 : decode cX10_image 43 = .ok (.invokevirtual 286, 3) := by decide +kernel
theorem dX10_image_46 : decode cX10_image 46 = .ok (.aload_n 0, 1) := by decide +kernel
theorem dX10_image_47 : decode cX10_image 47 = .ok (.getfield 34, 3) := by decide +kernel
theorem dX10_image_50 : decode cX10_image 50 = .ok (.iload_n 1, 1) := by decide +kernel
theorem dX10_image_51 : decode cX10_image 51 = .ok (.aload_n 0, 1) := by decide +kernel
theorem dX10_image_52 : decode cX10_image 52 = .ok (.getfield 12, 3) := by decide +kernel
theorem dX10_image_55 : decode cX10_image 55 = .ok (.getfield 92, 3) := by decide +kernel
theorem dX10_image_58 : decode cX10_image 58 = .ok (.iastore, 1) := by decide +kernel
theorem dX10_image_59 : decode cX10_image 59 = .ok (.aload_n 0, 1) := by decide +kernel
theorem dX10_image_60 : decode cX10_image 60 = .ok (.getfield 38, 3) := by decide +kernel
theorem dX10_image_63 : decode cX10_image 63 = .ok (.iload_n 1, 1) := by decide +kernel
theorem dX10_image_64 : decode cX10_image 64 = .ok (.aload_n 0, 1) := by decide +kernel
theorem dX10_image_65 : decode cX10_image 65 = .ok (.getfield 12, 3) := by decide +kernel
theorem dX10_image_68 : decode cX10_image 68 = .ok (.getfield 104, 3) := by decide +kernel
theorem dX10_image_71 : decode cX10_image 71 = .ok (.iastore, 1) := by decide +kernel
theorem dX10_image_72 : decode cX10_image 72 = .ok (.iconst 1, 1) := by decide +kernel
theorem dX10_image_73 : decode cX10_image 73 = .ok (.ireturn, 1) := by decide +kernel
set_option maxRecDepth 20000 in
theorem ggX10_restore_X4_become : GoodIn wsX10_restore wsX4_become := goodIn_r _ [12, 13, 14, 15, 16, 17, 18, 19, 20, 21, 22, 23, 24, 25, 26, 27, 28, 29, 30, 31, 32, 33, 34, 35, 36, 37, 38, 39, 40, 41, 42, 43, 44, 45, 46, 47, 48, 73, 74, 75, 76, 77, 78, 79, 80, 81, 82, 83, 84, 85, 86, 87, 88, 89, 90, 91] (by decide +kernel) (by decide +kernel)
set_option maxRecDepth 20000 in
theorem gX10_restore_X4_become : GoodIn wsX10_restore (wsV RX10 286 RX4 yX4_become wsX4_become) := goodIn_app (goodIn_of _ (by decide +kernel)) ggX10_restore_X4_become
theorem dX10_restore_0 : decode cX10_restore 0 = .ok (.iload_n 1, 1) := by decide +kernel
theorem dX10_restore_1 : decode cX10_restore 1 = .ok (.ifCond .lt 8, 3) := by decide +kernel
theorem dX10_restore_4 : decode cX10_restore 4 = .ok (.iload_n 1, 1) := by decide +kernel
theorem dX10_restore_5 : decode cX10_restore 5 = .ok (.iconst 4, 1) := by decide +kernel
theorem dX10_restore_6 : decode cX10_restore 6 = .ok (.if_icmp .lt 5, 3) := by decide +kernel
theorem dX10_restore_9 : decode cX10_restore 9 = .ok (.iconst (-1), 1) := by decide +kernel
theorem dX10_restore_10 : decode cX10_restore 10 = .ok (.ireturn, 1) := by decide +kernel
theorem dX10_restore_11 : decode cX10_restore 11 = .ok (.aload_n 0, 1) := by decide +kernel
theorem dX10_restore_12 : decode cX10_restore 12 = .ok (.getfield 30, 3) := by decide +kernel
theorem dX10_restore_15 : decode cX10_restore 15 = .ok (.iload_n 1, 1) := by decide +kernel
theorem dX10_restore_16 : decode cX10_restore 16 = .ok (.aaload, 1) := by decide +kernel
theorem dX10_restore_17 : decode cX10_restore 17 = .ok (.ifnull 35, 3) := by decide +kernel
theorem dX10_restore_20 : decode cX10_restore 20 = .ok (.aload_n 0, 1) := by decide +kernel
theorem dX10_restore_21 : decode cX10_restore 21 = .ok (.getfield 34, 3) := by decide +kernel
theorem dX10_restore_24 : decode cX10_restore 24 = .ok (.iload_n 1, 1) := by decide +kernel
theorem dX10_restore_25 : decode cX10_restore 25 = .ok (.iaload, 1) := by decide +kernel
theorem dX10_restore_26 : decode cX10_restore 26 = .ok (.aload_n 0, 1) := by decide +kernel
theorem dX10_restore_27 : decode cX10_restore 27 = .ok (.getfield 12, 3) := by decide +kernel
theorem dX10_restore_30 : decode cX10_restore 30 = .ok (.getfield 92, 3) := by decide +kernel
theorem dX10_restore_33 : decode cX10_restore 33 = .ok (.if_icmp .ne 19, 3) := by decide +kernel
theorem dX10_restore_36 : decode cX10_restore 36 = .ok (.aload_n 0, 1) := by decide +kernel
theorem dX10_restore_37 : decode cX10_restore 37 = .ok (.getfield 38, 3) := by decide +kernel
theorem dX10_restore_40 : decode cX10_restore 40 = .ok (.iload_n 1, 1) := by decide +kernel
theorem dX10_restore_41 : decode cX10_restore 41 = .ok (.iaload, 1) := by decide +kernel
theorem dX10_restore_42 : decode cX10_restore 42 = .ok (.aload_n 0, 1) := by decide +kernel
theorem dX10_restore_43 : decode cX10_restore 43 = .ok (.getfield 12, 3) := by decide +kernel
theorem dX10_restore_46 : decode cX10_restore 46 = .ok (.getfield 104, 3) := by decide +kernel
theorem dX10_restore_49 : decode cX10_restore 49 = .ok (.if_icmp .eq 6, 3) := by decide +kernel
theorem dX10_restore_52 : decode cX10_restore 52 = .ok (.bipush (-2), 2) := by decide +kernel
theorem dX10_restore_54 : decode cX10_restore 54 = .ok (.ireturn, 1) := by decide +kernel
theorem dX10_restore_55 : decode cX10_restore 55 = .ok (.aload_n 0, 1) := by decide +kernel
theorem dX10_restore_56 : decode cX10_restore 56 = .ok (.getfield 26, 3) := by decide +kernel
theorem dX10_restore_59 : decode cX10_restore 59 = .ok (.aload_n 0, 1) := by decide +kernel
theorem dX10_restore_60 : decode cX10_restore 60 = .ok (.getfield 30, 3) := by decide +kernel
theorem dX10_restore_63 : decode cX10_restore 63 = .ok (.iload_n 1, 1) := by decide +kernel
theorem dX10_restore_64 : decode cX10_restore 64 = .ok (.aaload, 1) := by decide +kernel
theorem dX10_restore_65 : decode cX10_restore 65 = .ok (.invokevirtual 286, 3) := by decide +kernel
theorem dX10_restore_68 : decode cX10_restore 68 = .ok (.iconst 1, 1) := by decide +kernel
theorem dX10_restore_69 : decode cX10_restore 69 = .ok (.ireturn, 1) := by decide +kernel
theorem dX10_count_0 : decode cX10_count 0 = .ok (.iload_n 1, 1) := by decide +kernel
theorem dX10_count_1 : decode cX10_count 1 = .ok (.tableswitch 129 0 8 #[51, 59, 67, 75, 83, 91, 99, 110, 121], 51) := by decide +kernel
theorem dX10_count_52 : decode cX10_count 52 = .ok (.aload_n 0, 1) := by decide +kernel
theorem dX10_count_53 : decode cX10_count 53 = .ok (.getfield 12, 3) := by decide +kernel
theorem dX10_count_56 : decode cX10_count 56 = .ok (.getfield 92, 3) := by decide +kernel
theorem dX10_count_59 : decode cX10_count 59 = .ok (.ireturn, 1) := by decide +kernel
theorem dX10_count_60 : decode cX10_count 60 = .ok (.aload_n 0, 1) := by decide +kernel
theorem dX10_count_61 : decode cX10_count 61 = .ok (.getfield 12, 3) := by decide +kernel
theorem dX10_count_64 : decode cX10_count 64 = .ok (.getfield 104, 3) := by decide +kernel
theorem dX10_count_67 : decode cX10_count 67 = .ok (.ireturn, 1) := by decide +kernel
theorem dX10_count_68 : decode cX10_count 68 = .ok (.aload_n 0, 1) := by decide +kernel
theorem dX10_count_69 : decode cX10_count 69 = .ok (.getfield 12, 3) := by decide +kernel
theorem dX10_count_72 : decode cX10_count 72 = .ok (.getfield 110, 3) := by decide +kernel
theorem dX10_count_75 : decode cX10_count 75 = .ok (.ireturn, 1) := by decide +kernel
theorem dX10_count_76 : decode cX10_count 76 = .ok (.aload_n 0, 1) := by decide +kernel
theorem dX10_count_77 : decode cX10_count 77 = .ok (.getfield 81, 3) := by decide +kernel
theorem dX10_count_80 : decode cX10_count 80 = .ok (.getfield 231, 3) := by decide +kernel
theorem dX10_count_83 : decode cX10_count 83 = .ok (.ireturn, 1) := by decide +kernel
theorem dX10_count_84 : decode cX10_count 84 = .ok (.aload_n 0, 1) := by decide +kernel
theorem dX10_count_85 : decode cX10_count 85 = .ok (.getfield 26, 3) := by decide +kernel
theorem dX10_count_88 : decode cX10_count 88 = .ok (.getfield 290, 3) := by decide +kernel
theorem dX10_count_91 : decode cX10_count 91 = .ok (.ireturn, 1) := by decide +kernel
theorem dX10_count_92 : decode cX10_count 92 = .ok (.aload_n 0, 1) := by decide +kernel
theorem dX10_count_93 : decode cX10_count 93 = .ok (.getfield 26, 3) := by decide +kernel
theorem dX10_count_96 : decode cX10_count 96 = .ok (.getfield 293, 3) := by decide +kernel
theorem dX10_count_99 : decode cX10_count 99 = .ok (.ireturn, 1) := by decide +kernel
theorem dX10_count_100 : decode cX10_count 100 = .ok (.aload_n 0, 1) := by decide +kernel
theorem dX10_count_101 : decode cX10_count 101 = .ok (.getfield 26, 3) := by decide +kernel
theorem dX10_count_104 : decode cX10_count 104 = .ok (.getfield 164, 3) := by decide +kernel
theorem dX10_count_107 : decode cX10_count 107 = .ok (.getfield 296, 3) := by decide +kernel
theorem dX10_count_110 : decode cX10_count 110 = .ok (.ireturn, 1) := by decide +kernel
theorem dX10_count_111 : decode cX10_count 111 = .ok (.aload_n 0, 1) := by decide +kernel
theorem dX10_count_112 : decode cX10_count 112 = .ok (.getfield 26, 3) := by decide +kernel
theorem dX10_count_115 : decode cX10_count 115 = .ok (.getfield 164, 3) := by decide +kernel
theorem dX10_count_118 : decode cX10_count 118 = .ok (.getfield 168, 3) := by decide +kernel
theorem dX10_count_121 : decode cX10_count 121 = .ok (.ireturn, 1) := by decide +kernel
theorem dX10_count_122 : decode cX10_count 122 = .ok (.aload_n 0, 1) := by decide +kernel
theorem dX10_count_123 : decode cX10_count 123 = .ok (.getfield 26, 3) := by decide +kernel
theorem dX10_count_126 : decode cX10_count 126 = .ok (.getfield 269, 3) := by decide +kernel
theorem dX10_count_129 : decode cX10_count 129 = .ok (.ireturn, 1) := by decide +kernel
theorem dX10_count_130 : decode cX10_count 130 = .ok (.iconst (-1), 1) := by decide +kernel
theorem dX10_count_131 : decode cX10_count 131 = .ok (.ireturn, 1) := by decide +kernel
set_option maxRecDepth 20000 in
theorem ggX10_standsInOld_X0_perform : GoodIn wsX10_standsInOld wsX0_perform := goodIn_r _ [9, 10, 11, 12, 13, 8, 14, 15, 16, 17, 18, 19, 20, 21, 22, 23, 24, 25, 26, 27, 28, 29, 30, 31, 32, 33, 34, 35, 36, 37, 38, 39, 40, 41, 42, 43, 44, 45, 46, 47, 48, 49, 50, 51, 52, 53, 54, 55, 56, 57, 58, 59, 60, 61, 62, 126, 127, 128, 129, 130, 131, 132, 133, 134, 135, 136, 137, 138, 139, 140, 141, 142, 143, 144, 145, 146] (by decide +kernel) (by decide +kernel)
set_option maxRecDepth 20000 in
theorem gX10_standsInOld_X0_perform : GoodIn wsX10_standsInOld (wsV RX10 302 RX0 yX0_perform wsX0_perform) := goodIn_app (goodIn_of _ (by decide +kernel)) ggX10_standsInOld_X0_perform
set_option maxRecDepth 20000 in
theorem ggX10_standsInOld_X4_keepOld : GoodIn wsX10_standsInOld wsX4_keepOld := goodIn_r _ [67, 68, 69, 70, 71, 72, 73, 74, 75, 76, 77, 78, 79, 80, 81, 82, 83, 84, 85, 86, 87, 88, 89, 90, 91, 92, 93, 94, 95, 96, 97, 98, 99, 100, 101, 17, 18, 19, 126, 127, 128, 129, 130, 131, 132, 133, 134, 135, 115, 116, 117, 118, 119, 120, 121, 122, 123, 124, 125, 136, 137, 138, 139, 140, 141, 142, 143, 144, 145, 146, 147, 148, 149] (by decide +kernel) (by decide +kernel)
set_option maxRecDepth 20000 in
theorem gX10_standsInOld_X4_keepOld : GoodIn wsX10_standsInOld (wsV RX10 306 RX4 yX4_keepOld wsX4_keepOld) := goodIn_app (goodIn_of _ (by decide +kernel)) ggX10_standsInOld_X4_keepOld
theorem dX10_standsInOld_0 : decode cX10_standsInOld 0 = .ok (.aload_n 0, 1) := by decide +kernel
theorem dX10_standsInOld_1 : decode cX10_standsInOld 1 = .ok (.getfield 19, 3) := by decide +kernel
theorem dX10_standsInOld_4 : decode cX10_standsInOld 4 = .ok (.aload_n 0, 1) := by decide +kernel
theorem dX10_standsInOld_5 : decode cX10_standsInOld 5 = .ok (.getfield 12, 3) := by decide +kernel
theorem dX10_standsInOld_8 : decode cX10_standsInOld 8 = .ok (.iload_n 1, 1) := by decide +kernel
theorem dX10_standsInOld_9 : decode cX10_standsInOld 9 = .ok (.iload_n 2, 1) := by decide +kernel
theorem dX10_standsInOld_10 : decode cX10_standsInOld 10 = .ok (.aload_n 0, 1) := by decide +kernel
theorem dX10_standsInOld_11 : decode cX10_standsInOld 11 = .ok (.getfield 26, 3) := by decide +kernel
theorem dX10_standsInOld_14 : decode cX10_standsInOld 14 = .ok (.getfield 299, 3) := by decide +kernel
theorem dX10_standsInOld_17 : decode cX10_standsInOld 17 = .ok (.invokevirtual 302, 3) := by decide +kernel
theorem dX10_standsInOld_20 : decode cX10_standsInOld 20 = .ok (.ifCond .ne 5, 3) := by decide +kernel
theorem dX10_standsInOld_23 : decode cX10_standsInOld 23 = .ok (.iconst 0, 1) := by decide +kernel
theorem dX10_standsInOld_24 : decode cX10_standsInOld 24 = .ok (.ireturn, 1) := by decide +kernel
theorem dX10_standsInOld_25 : decode cX10_standsInOld 25 = .ok (.aload_n 0, 1) := by decide +kernel
theorem dX10_standsInOld_26 : decode cX10_standsInOld 26 = .ok (.getfield 26, 3) := by decide +kernel
theorem dX10_standsInOld_29 : decode cX10_standsInOld 29 = .ok (.aload_n 0, 1) := by decide +kernel
theorem dX10_standsInOld_30 : decode cX10_standsInOld 30 = .ok (.getfield 19, 3) := by decide +kernel
theorem dX10_standsInOld_33 : decode cX10_standsInOld 33 = .ok (.aload_n 0, 1) := by decide +kernel
theorem dX10_standsInOld_34 : decode cX10_standsInOld 34 = .ok (.getfield 12, 3) := by decide +kernel
theorem dX10_standsInOld_37 : decode cX10_standsInOld 37 = .ok (.invokevirtual 306, 3) := by decide +kernel
theorem dX10_standsInOld_40 : decode cX10_standsInOld 40 = .ok (.iconst 1, 1) := by decide +kernel
theorem dX10_standsInOld_41 : decode cX10_standsInOld 41 = .ok (.ireturn, 1) := by decide +kernel
set_option maxRecDepth 20000 in
theorem ggX10_standsInNew_X0_perform : GoodIn wsX10_standsInNew wsX0_perform := goodIn_r _ [10, 11, 12, 13, 14, 9, 15, 16, 17, 18, 19, 20, 21, 22, 23, 24, 25, 26, 27, 28, 29, 30, 31, 32, 33, 34, 35, 36, 37, 38, 39, 40, 41, 42, 43, 44, 45, 46, 47, 48, 49, 50, 51, 52, 53, 54, 55, 56, 57, 58, 59, 60, 61, 62, 63, 146, 147, 148, 149, 150, 151, 152, 153, 154, 155, 135, 136, 137, 138, 139, 140, 141, 142, 143, 144, 145] (by decide +kernel) (by decide +kernel)
set_option maxRecDepth 20000 in
theorem gX10_standsInNew_X0_perform : GoodIn wsX10_standsInNew (wsV RX10 302 RX0 yX0_perform wsX0_perform) := goodIn_app (goodIn_of _ (by decide +kernel)) ggX10_standsInNew_X0_perform
set_option maxRecDepth 20000 in
theorem ggX10_standsInNew_X4_keepNew : GoodIn wsX10_standsInNew wsX4_keepNew := goodIn_r _ [68, 69, 70, 71, 72, 73, 74, 75, 76, 77, 78, 67, 79, 80, 81, 82, 83, 84, 85, 86, 87, 88, 89, 90, 91, 92, 93, 94, 95, 96, 97, 98, 99, 100, 101, 102, 103, 104, 105, 106, 107, 108, 109, 110, 18, 19, 20, 124, 125, 126, 127, 128, 129, 130, 131, 132, 133, 134, 146, 147, 148, 149, 150, 151, 152, 153, 154, 155, 135, 136, 137, 138, 139, 140, 141, 142, 143, 144, 145, 156, 157, 158, 159, 160] (by decide +kernel) (by decide +kernel)
set_option maxRecDepth 20000 in
theorem gX10_standsInNew_X4_keepNew : GoodIn wsX10_standsInNew (wsV RX10 313 RX4 yX4_keepNew wsX4_keepNew) := goodIn_app (goodIn_of _ (by decide +kernel)) ggX10_standsInNew_X4_keepNew
theorem dX10_standsInNew_0 : decode cX10_standsInNew 0 = .ok (.aload_n 0, 1) := by decide +kernel
theorem dX10_standsInNew_1 : decode cX10_standsInNew 1 = .ok (.getfield 19, 3) := by decide +kernel
theorem dX10_standsInNew_4 : decode cX10_standsInNew 4 = .ok (.aload_n 0, 1) := by decide +kernel
theorem dX10_standsInNew_5 : decode cX10_standsInNew 5 = .ok (.getfield 12, 3) := by decide +kernel
theorem dX10_standsInNew_8 : decode cX10_standsInNew 8 = .ok (.iload_n 1, 1) := by decide +kernel
theorem dX10_standsInNew_9 : decode cX10_standsInNew 9 = .ok (.iload_n 2, 1) := by decide +kernel
theorem dX10_standsInNew_10 : decode cX10_standsInNew 10 = .ok (.aload_n 0, 1) := by decide +kernel
theorem dX10_standsInNew_11 : decode cX10_standsInNew 11 = .ok (.getfield 26, 3) := by decide +kernel
theorem dX10_standsInNew_14 : decode cX10_standsInNew 14 = .ok (.getfield 216, 3) := by decide +kernel
theorem dX10_standsInNew_17 : decode cX10_standsInNew 17 = .ok (.invokevirtual 302, 3) := by decide +kernel
theorem dX10_standsInNew_20 : decode cX10_standsInNew 20 = .ok (.ifCond .eq 34, 3) := by decide +kernel
theorem dX10_standsInNew_23 : decode cX10_standsInNew 23 = .ok (.aload_n 0, 1) := by decide +kernel
theorem dX10_standsInNew_24 : decode cX10_standsInNew 24 = .ok (.getfield 26, 3) := by decide +kernel
theorem dX10_standsInNew_27 : decode cX10_standsInNew 27 = .ok (.aload_n 0, 1) := by decide +kernel
theorem dX10_standsInNew_28 : decode cX10_standsInNew 28 = .ok (.getfield 19, 3) := by decide +kernel
theorem dX10_standsInNew_31 : decode cX10_standsInNew 31 = .ok (.aload_n 0, 1) := by decide +kernel
theorem dX10_standsInNew_32 : decode cX10_standsInNew 32 = .ok (.getfield 12, 3) := by decide +kernel
theorem dX10_standsInNew_35 : decode cX10_standsInNew 35 = .ok (.aload_n 0, 1) := by decide +kernel
theorem dX10_standsInNew_36 : decode cX10_standsInNew 36 = .ok (.getfield 12, 3) := by decide +kernel
theorem dX10_standsInNew_39 : decode cX10_standsInNew 39 = .ok (.getfield 310, 3) := by decide +kernel
theorem dX10_standsInNew_42 : decode cX10_standsInNew 42 = .ok (.iload_n 1, 1) := by decide +kernel
theorem dX10_standsInNew_43 : decode cX10_standsInNew 43 = .ok (.iaload, 1) := by decide +kernel
theorem dX10_standsInNew_44 : decode cX10_standsInNew 44 = .ok (.invokevirtual 313, 3) := by decide +kernel
theorem dX10_standsInNew_47 : decode cX10_standsInNew 47 = .ok (.ifCond .eq 7, 3) := by decide +kernel
theorem dX10_standsInNew_50 : decode cX10_standsInNew 50 = .ok (.iconst 1, 1) := by decide +kernel
theorem dX10_standsInNew_51 : decode cX10_standsInNew 51 = .ok (.goto 4, 3) := by decide +kernel
theorem dX10_standsInNew_54 : decode cX10_standsInNew 54 = .ok (.iconst 0, 1) := by decide +kernel
theorem dX10_standsInNew_55 : decode cX10_standsInNew 55 = .ok (.ireturn, 1) := by decide +kernel
theorem dX10_isHouse_0 : decode cX10_isHouse 0 = .ok (.iload_n 0, 1) := by decide +kernel
theorem dX10_isHouse_1 : decode cX10_isHouse 1 = .ok (.ifCond .eq 8, 3) := by decide +kernel
theorem dX10_isHouse_4 : decode cX10_isHouse 4 = .ok (.iload_n 0, 1) := by decide +kernel
theorem dX10_isHouse_5 : decode cX10_isHouse 5 = .ok (.iconst 1, 1) := by decide +kernel
theorem dX10_isHouse_6 : decode cX10_isHouse 6 = .ok (.if_icmp .ne 7, 3) := by decide +kernel
theorem dX10_isHouse_9 : decode cX10_isHouse 9 = .ok (.iconst 1, 1) := by decide +kernel
theorem dX10_isHouse_10 : decode cX10_isHouse 10 = .ok (.goto 4, 3) := by decide +kernel
theorem dX10_isHouse_13 : decode cX10_isHouse 13 = .ok (.iconst 0, 1) := by decide +kernel
theorem dX10_isHouse_14 : decode cX10_isHouse 14 = .ok (.ireturn, 1) := by decide +kernel
theorem dX10_tiePlace_0 : decode cX10_tiePlace 0 = .ok (.iload_n 0, 1) := by decide +kernel
theorem dX10_tiePlace_1 : decode cX10_tiePlace 1 = .ok (.ifCond .ne 10, 3) := by decide +kernel
theorem dX10_tiePlace_4 : decode cX10_tiePlace 4 = .ok (.iload_n 1, 1) := by decide +kernel
theorem dX10_tiePlace_5 : decode cX10_tiePlace 5 = .ok (.bipush 10, 2) := by decide +kernel
theorem dX10_tiePlace_7 : decode cX10_tiePlace 7 = .ok (.imul, 1) := by decide +kernel
theorem dX10_tiePlace_8 : decode cX10_tiePlace 8 = .ok (.iload_n 2, 1) := by decide +kernel
theorem dX10_tiePlace_9 : decode cX10_tiePlace 9 = .ok (.iadd, 1) := by decide +kernel
theorem dX10_tiePlace_10 : decode cX10_tiePlace 10 = .ok (.ireturn, 1) := by decide +kernel
theorem dX10_tiePlace_11 : decode cX10_tiePlace 11 = .ok (.iload_n 0, 1) := by decide +kernel
theorem dX10_tiePlace_12 : decode cX10_tiePlace 12 = .ok (.iconst 1, 1) := by decide +kernel
theorem dX10_tiePlace_13 : decode cX10_tiePlace 13 = .ok (.if_icmp .ne 8, 3) := by decide +kernel
theorem dX10_tiePlace_16 : decode cX10_tiePlace 16 = .ok (.bipush 100, 2) := by decide +kernel
theorem dX10_tiePlace_18 : decode cX10_tiePlace 18 = .ok (.goto 6, 3) := by decide +kernel
theorem dX10_tiePlace_21 : decode cX10_tiePlace 21 = .ok (.sipush 260, 3) := by decide +kernel
theorem dX10_tiePlace_24 : decode cX10_tiePlace 24 = .ok (.iload_n 1, 1) := by decide +kernel
theorem dX10_tiePlace_25 : decode cX10_tiePlace 25 = .ok (.bipush 16, 2) := by decide +kernel
theorem dX10_tiePlace_27 : decode cX10_tiePlace 27 = .ok (.imul, 1) := by decide +kernel
theorem dX10_tiePlace_28 : decode cX10_tiePlace 28 = .ok (.iadd, 1) := by decide +kernel
theorem dX10_tiePlace_29 : decode cX10_tiePlace 29 = .ok (.iload_n 2, 1) := by decide +kernel
theorem dX10_tiePlace_30 : decode cX10_tiePlace 30 = .ok (.iadd, 1) := by decide +kernel
theorem dX10_tiePlace_31 : decode cX10_tiePlace 31 = .ok (.ireturn, 1) := by decide +kernel
theorem dX11_init_0 : decode cX11_init 0 = .ok (.aload_n 0, 1) := by decide +kernel
theorem dX11_init_1 : decode cX11_init 1 = .ok (.invokespecial 1, 3) := by decide +kernel
theorem dX11_init_4 : decode cX11_init 4 = .ok (.aload_n 0, 1) := by decide +kernel
theorem dX11_init_5 : decode cX11_init 5 = .ok (.bipush 10, 2) := by decide +kernel
theorem dX11_init_7 : decode cX11_init 7 = .ok (.newarray .int, 2) := by decide +kernel
theorem dX11_init_9 : decode cX11_init 9 = .ok (.putfield 7, 3) := by decide +kernel
theorem dX11_init_12 : decode cX11_init 12 = .ok (.aload_n 0, 1) := by decide +kernel
theorem dX11_init_13 : decode cX11_init 13 = .ok (.bipush 16, 2) := by decide +kernel
theorem dX11_init_15 : decode cX11_init 15 = .ok (.newarray .int, 2) := by decide +kernel
theorem dX11_init_17 : decode cX11_init 17 = .ok (.putfield 13, 3) := by decide +kernel
theorem dX11_init_20 : decode cX11_init 20 = .ok (.aload_n 0, 1) := by decide +kernel
theorem dX11_init_21 : decode cX11_init 21 = .ok (.bipush 40, 2) := by decide +kernel
theorem dX11_init_23 : decode cX11_init 23 = .ok (.newarray .int, 2) := by decide +kernel
theorem dX11_init_25 : decode cX11_init 25 = .ok (.putfield 16, 3) := by decide +kernel
theorem dX11_init_28 : decode cX11_init 28 = .ok (.aload_n 0, 1) := by decide +kernel
theorem dX11_init_29 : decode cX11_init 29 = .ok (.bipush 40, 2) := by decide +kernel
theorem dX11_init_31 : decode cX11_init 31 = .ok (.newarray .int, 2) := by decide +kernel
theorem dX11_init_33 : decode cX11_init 33 = .ok (.putfield 19, 3) := by decide +kernel
theorem dX11_init_36 : decode cX11_init 36 = .ok (.aload_n 0, 1) := by decide +kernel
theorem dX11_init_37 : decode cX11_init 37 = .ok (.sipush 640, 3) := by decide +kernel
theorem dX11_init_40 : decode cX11_init 40 = .ok (.newarray .int, 2) := by decide +kernel
theorem dX11_init_42 : decode cX11_init 42 = .ok (.putfield 22, 3) := by decide +kernel
theorem dX11_init_45 : decode cX11_init 45 = .ok (.aload_n 0, 1) := by decide +kernel
theorem dX11_init_46 : decode cX11_init 46 = .ok (.sipush 640, 3) := by decide +kernel
theorem dX11_init_49 : decode cX11_init 49 = .ok (.newarray .int, 2) := by decide +kernel
theorem dX11_init_51 : decode cX11_init 51 = .ok (.putfield 25, 3) := by decide +kernel
theorem dX11_init_54 : decode cX11_init 54 = .ok (.aload_n 0, 1) := by decide +kernel
theorem dX11_init_55 : decode cX11_init 55 = .ok (.sipush 640, 3) := by decide +kernel
theorem dX11_init_58 : decode cX11_init 58 = .ok (.newarray .int, 2) := by decide +kernel
theorem dX11_init_60 : decode cX11_init 60 = .ok (.putfield 28, 3) := by decide +kernel
theorem dX11_init_63 : decode cX11_init 63 = .ok (.aload_n 0, 1) := by decide +kernel
theorem dX11_init_64 : decode cX11_init 64 = .ok (.sipush 128, 3) := by decide +kernel
theorem dX11_init_67 : decode cX11_init 67 = .ok (.newarray .int, 2) := by decide +kernel
theorem dX11_init_69 : decode cX11_init 69 = .ok (.putfield 31, 3) := by decide +kernel
theorem dX11_init_72 : decode cX11_init 72 = .ok (.aload_n 0, 1) := by decide +kernel
theorem dX11_init_73 : decode cX11_init 73 = .ok (.sipush 128, 3) := by decide +kernel
theorem dX11_init_76 : decode cX11_init 76 = .ok (.newarray .int, 2) := by decide +kernel
theorem dX11_init_78 : decode cX11_init 78 = .ok (.putfield 34, 3) := by decide +kernel
theorem dX11_init_81 : decode cX11_init 81 = .ok (.aload_n 0, 1) := by decide +kernel
theorem dX11_init_82 : decode cX11_init 82 = .ok (.sipush 128, 3) := by decide +kernel
theorem dX11_init_85 : decode cX11_init 85 = .ok (.newarray .int, 2) := by decide +kernel
theorem dX11_init_87 : decode cX11_init 87 = .ok (.putfield 37, 3) := by decide +kernel
theorem dX11_init_90 : decode cX11_init 90 = .ok (.aload_n 0, 1) := by decide +kernel
theorem dX11_init_91 : decode cX11_init 91 = .ok (.bipush 100, 2) := by decide +kernel
theorem dX11_init_93 : decode cX11_init 93 = .ok (.newarray .int, 2) := by decide +kernel
theorem dX11_init_95 : decode cX11_init 95 = .ok (.putfield 40, 3) := by decide +kernel
theorem dX11_init_98 : decode cX11_init 98 = .ok (.aload_n 0, 1) := by decide +kernel
theorem dX11_init_99 : decode cX11_init 99 = .ok (.sipush 160, 3) := by decide +kernel
theorem dX11_init_102 : decode cX11_init 102 = .ok (.newarray .int, 2) := by decide +kernel
theorem dX11_init_104 : decode cX11_init 104 = .ok (.putfield 43, 3) := by decide +kernel
theorem dX11_init_107 : decode cX11_init 107 = .ok (.aload_n 0, 1) := by decide +kernel
theorem dX11_init_108 : decode cX11_init 108 = .ok (.sipush 160, 3) := by decide +kernel
theorem dX11_init_111 : decode cX11_init 111 = .ok (.newarray .int, 2) := by decide +kernel
theorem dX11_init_113 : decode cX11_init 113 = .ok (.putfield 46, 3) := by decide +kernel
theorem dX11_init_116 : decode cX11_init 116 = .ok (.aload_n 0, 1) := by decide +kernel
theorem dX11_init_117 : decode cX11_init 117 = .ok (.sipush 128, 3) := by decide +kernel
theorem dX11_init_120 : decode cX11_init 120 = .ok (.newarray .int, 2) := by decide +kernel
theorem dX11_init_122 : decode cX11_init 122 = .ok (.putfield 49, 3) := by decide +kernel
theorem dX11_init_125 : decode cX11_init 125 = .ok (.aload_n 0, 1) := by decide +kernel
theorem dX11_init_126 : decode cX11_init 126 = .ok (.sipush 128, 3) := by decide +kernel
theorem dX11_init_129 : decode cX11_init 129 = .ok (.newarray .boolean, 2) := by decide +kernel
theorem dX11_init_131 : decode cX11_init 131 = .ok (.putfield 52, 3) := by decide +kernel
theorem dX11_init_134 : decode cX11_init 134 = .ok (.aload_n 0, 1) := by decide +kernel
theorem dX11_init_135 : decode cX11_init 135 = .ok (.bipush 8, 2) := by decide +kernel
theorem dX11_init_137 : decode cX11_init 137 = .ok (.newarray .int, 2) := by decide +kernel
theorem dX11_init_139 : decode cX11_init 139 = .ok (.putfield 56, 3) := by decide +kernel
theorem dX11_init_142 : decode cX11_init 142 = .ok (.aload_n 0, 1) := by decide +kernel
theorem dX11_init_143 : decode cX11_init 143 = .ok (.bipush 8, 2) := by decide +kernel
theorem dX11_init_145 : decode cX11_init 145 = .ok (.newarray .int, 2) := by decide +kernel
theorem dX11_init_147 : decode cX11_init 147 = .ok (.putfield 59, 3) := by decide +kernel
theorem dX11_init_150 : decode cX11_init 150 = .ok (.aload_n 0, 1) := by decide +kernel
theorem dX11_init_151 : decode cX11_init 151 = .ok (.bipush 100, 2) := by decide +kernel
theorem dX11_init_153 : decode cX11_init 153 = .ok (.newarray .int, 2) := by decide +kernel
theorem dX11_init_155 : decode cX11_init 155 = .ok (.putfield 62, 3) := by decide +kernel
theorem dX11_init_158 : decode cX11_init 158 = .ok (.aload_n 0, 1) := by decide +kernel
theorem dX11_init_159 : decode cX11_init 159 = .ok (.sipush 160, 3) := by decide +kernel
theorem dX11_init_162 : decode cX11_init 162 = .ok (.newarray .int, 2) := by decide +kernel
theorem dX11_init_164 : decode cX11_init 164 = .ok (.putfield 65, 3) := by decide +kernel
theorem dX11_init_167 : decode cX11_init 167 = .ok (.aload_n 0, 1) := by decide +kernel
theorem dX11_init_168 : decode cX11_init 168 = .ok (.sipush 160, 3) := by decide +kernel
theorem dX11_init_171 : decode cX11_init 171 = .ok (.newarray .int, 2) := by decide +kernel
theorem dX11_init_173 : decode cX11_init 173 = .ok (.putfield 68, 3) := by decide +kernel
theorem dX11_init_176 : decode cX11_init 176 = .ok (.aload_n 0, 1) := by decide +kernel
theorem dX11_init_177 : decode cX11_init 177 = .ok (.sipush 1024, 3) := by decide +kernel
theorem dX11_init_180 : decode cX11_init 180 = .ok (.newarray .int, 2) := by decide +kernel
theorem dX11_init_182 : decode cX11_init 182 = .ok (.putfield 71, 3) := by decide +kernel
theorem dX11_init_185 : decode cX11_init 185 = .ok (.aload_n 0, 1) := by decide +kernel
theorem dX11_init_186 : decode cX11_init 186 = .ok (.bipush 10, 2) := by decide +kernel
theorem dX11_init_188 : decode cX11_init 188 = .ok (.newarray .int, 2) := by decide +kernel
theorem dX11_init_190 : decode cX11_init 190 = .ok (.putfield 74, 3) := by decide +kernel
theorem dX11_init_193 : decode cX11_init 193 = .ok (.aload_n 0, 1) := by decide +kernel
theorem dX11_init_194 : decode cX11_init 194 = .ok (.iconst 4, 1) := by decide +kernel
theorem dX11_init_195 : decode cX11_init 195 = .ok (.newarray .int, 2) := by decide +kernel
theorem dX11_init_197 : decode cX11_init 197 = .ok (.dup, 1) := by decide +kernel
theorem dX11_init_198 : decode cX11_init 198 = .ok (.iconst 0, 1) := by decide +kernel
theorem dX11_init_199 : decode cX11_init 199 = .ok (.iconst 1, 1) := by decide +kernel
theorem dX11_init_200 : decode cX11_init 200 = .ok (.iastore, 1) := by decide +kernel
theorem dX11_init_201 : decode cX11_init 201 = .ok (.dup, 1) := by decide +kernel
theorem dX11_init_202 : decode cX11_init 202 = .ok (.iconst 1, 1) := by decide +kernel
theorem dX11_init_203 : decode cX11_init 203 = .ok (.iconst 1, 1) := by decide +kernel
theorem dX11_init_204 : decode cX11_init 204 = .ok (.iastore, 1) := by decide +kernel
theorem dX11_init_205 : decode cX11_init 205 = .ok (.dup, 1) := by decide +kernel
theorem dX11_init_206 : decode cX11_init 206 = .ok (.iconst 2, 1) := by decide +kernel
theorem dX11_init_207 : decode cX11_init 207 = .ok (.iconst 1, 1) := by decide +kernel
theorem dX11_init_208 : decode cX11_init 208 = .ok (.iastore, 1) := by decide +kernel
theorem dX11_init_209 : decode cX11_init 209 = .ok (.dup, 1) := by decide +kernel
theorem dX11_init_210 : decode cX11_init 210 = .ok (.iconst 3, 1) := by decide +kernel
theorem dX11_init_211 : decode cX11_init 211 = .ok (.iconst 1, 1) := by decide +kernel
theorem dX11_init_212 : decode cX11_init 212 = .ok (.iastore, 1) := by decide +kernel
theorem dX11_init_213 : decode cX11_init 213 = .ok (.putfield 77, 3) := by decide +kernel
theorem dX11_init_216 : decode cX11_init 216 = .ok (.aload_n 0, 1) := by decide +kernel
theorem dX11_init_217 : decode cX11_init 217 = .ok (.bipush 100, 2) := by decide +kernel
theorem dX11_init_219 : decode cX11_init 219 = .ok (.newarray .int, 2) := by decide +kernel
theorem dX11_init_221 : decode cX11_init 221 = .ok (.putfield 80, 3) := by decide +kernel
theorem dX11_init_224 : decode cX11_init 224 = .ok (.aload_n 0, 1) := by decide +kernel
theorem dX11_init_225 : decode cX11_init 225 = .ok (.bipush 10, 2) := by decide +kernel
theorem dX11_init_227 : decode cX11_init 227 = .ok (.newarray .int, 2) := by decide +kernel
theorem dX11_init_229 : decode cX11_init 229 = .ok (.putfield 83, 3) := by decide +kernel
theorem dX11_init_232 : decode cX11_init 232 = .ok (.aload_n 0, 1) := by decide +kernel
theorem dX11_init_233 : decode cX11_init 233 = .ok (.bipush 10, 2) := by decide +kernel
theorem dX11_init_235 : decode cX11_init 235 = .ok (.newarray .int, 2) := by decide +kernel
theorem dX11_init_237 : decode cX11_init 237 = .ok (.putfield 86, 3) := by decide +kernel
theorem dX11_init_240 : decode cX11_init 240 = .ok (.aload_n 0, 1) := by decide +kernel
theorem dX11_init_241 : decode cX11_init 241 = .ok (.bipush 6, 2) := by decide +kernel
theorem dX11_init_243 : decode cX11_init 243 = .ok (.newarray .int, 2) := by decide +kernel
theorem dX11_init_245 : decode cX11_init 245 = .ok (.putfield 89, 3) := by decide +kernel
theorem dX11_init_248 : decode cX11_init 248 = .ok (.aload_n 0, 1) := by decide +kernel
theorem dX11_init_249 : decode cX11_init 249 = .ok (.bipush 36, 2) := by decide +kernel
theorem dX11_init_251 : decode cX11_init 251 = .ok (.newarray .boolean, 2) := by decide +kernel
theorem dX11_init_253 : decode cX11_init 253 = .ok (.putfield 92, 3) := by decide +kernel
theorem dX11_init_256 : decode cX11_init 256 = .ok (.aload_n 0, 1) := by decide +kernel
theorem dX11_init_257 : decode cX11_init 257 = .ok (.bipush 7, 2) := by decide +kernel
theorem dX11_init_259 : decode cX11_init 259 = .ok (.newarray .int, 2) := by decide +kernel
theorem dX11_init_261 : decode cX11_init 261 = .ok (.putfield 95, 3) := by decide +kernel
theorem dX11_init_264 : decode cX11_init 264 = .ok (.aload_n 0, 1) := by decide +kernel
theorem dX11_init_265 : decode cX11_init 265 = .ok (.sipush 2000, 3) := by decide +kernel
theorem dX11_init_268 : decode cX11_init 268 = .ok (.newarray .int, 2) := by decide +kernel
theorem dX11_init_270 : decode cX11_init 270 = .ok (.putfield 98, 3) := by decide +kernel
theorem dX11_init_273 : decode cX11_init 273 = .ok (.aload_n 0, 1) := by decide +kernel
theorem dX11_init_274 : decode cX11_init 274 = .ok (.sipush 2000, 3) := by decide +kernel
theorem dX11_init_277 : decode cX11_init 277 = .ok (.newarray .int, 2) := by decide +kernel
theorem dX11_init_279 : decode cX11_init 279 = .ok (.putfield 101, 3) := by decide +kernel
theorem dX11_init_282 : decode cX11_init 282 = .ok (.aload_n 0, 1) := by decide +kernel
theorem dX11_init_283 : decode cX11_init 283 = .ok (.sipush 2000, 3) := by decide +kernel
theorem dX11_init_286 : decode cX11_init 286 = .ok (.newarray .int, 2) := by decide +kernel
theorem dX11_init_288 : decode cX11_init 288 = .ok (.putfield 104, 3) := by decide +kernel
theorem dX11_init_291 : decode cX11_init 291 = .ok (.aload_n 0, 1) := by decide +kernel
theorem dX11_init_292 : decode cX11_init 292 = .ok (.sipush 2000, 3) := by decide +kernel
theorem dX11_init_295 : decode cX11_init 295 = .ok (.newarray .int, 2) := by decide +kernel
theorem dX11_init_297 : decode cX11_init 297 = .ok (.putfield 107, 3) := by decide +kernel
theorem dX11_init_300 : decode cX11_init 300 = .ok (.aload_n 0, 1) := by decide +kernel
theorem dX11_init_301 : decode cX11_init 301 = .ok (.sipush 2000, 3) := by decide +kernel
theorem dX11_init_304 : decode cX11_init 304 = .ok (.newarray .boolean, 2) := by decide +kernel
theorem dX11_init_306 : decode cX11_init 306 = .ok (.putfield 110, 3) := by decide +kernel
theorem dX11_init_309 : decode cX11_init 309 = .ok (.aload_n 0, 1) := by decide +kernel
theorem dX11_init_310 : decode cX11_init 310 = .ok (.bipush 10, 2) := by decide +kernel
theorem dX11_init_312 : decode cX11_init 312 = .ok (.newarray .int, 2) := by decide +kernel
theorem dX11_init_314 : decode cX11_init 314 = .ok (.putfield 113, 3) := by decide +kernel
theorem dX11_init_317 : decode cX11_init 317 = .ok (.aload_n 0, 1) := by decide +kernel
theorem dX11_init_318 : decode cX11_init 318 = .ok (.bipush 10, 2) := by decide +kernel
theorem dX11_init_320 : decode cX11_init 320 = .ok (.newarray .int, 2) := by decide +kernel
theorem dX11_init_322 : decode cX11_init 322 = .ok (.putfield 116, 3) := by decide +kernel
theorem dX11_init_325 : decode cX11_init 325 = .ok (.aload_n 0, 1) := by decide +kernel
theorem dX11_init_326 : decode cX11_init 326 = .ok (.bipush 60, 2) := by decide +kernel
theorem dX11_init_328 : decode cX11_init 328 = .ok (.newarray .int, 2) := by decide +kernel
theorem dX11_init_330 : decode cX11_init 330 = .ok (.putfield 119, 3) := by decide +kernel
theorem dX11_init_333 : decode cX11_init 333 = .ok (.aload_n 0, 1) := by decide +kernel
theorem dX11_init_334 : decode cX11_init 334 = .ok (.bipush 60, 2) := by decide +kernel
theorem dX11_init_336 : decode cX11_init 336 = .ok (.newarray .int, 2) := by decide +kernel
theorem dX11_init_338 : decode cX11_init 338 = .ok (.putfield 122, 3) := by decide +kernel
theorem dX11_init_341 : decode cX11_init 341 = .ok (.aload_n 0, 1) := by decide +kernel
theorem dX11_init_342 : decode cX11_init 342 = .ok (.bipush 6, 2) := by decide +kernel
theorem dX11_init_344 : decode cX11_init 344 = .ok (.newarray .int, 2) := by decide +kernel
theorem dX11_init_346 : decode cX11_init 346 = .ok (.putfield 125, 3) := by decide +kernel
theorem dX11_init_349 : decode cX11_init 349 = .ok (.aload_n 0, 1) := by decide +kernel
theorem dX11_init_350 : decode cX11_init 350 = .ok (.bipush 7, 2) := by decide +kernel
theorem dX11_init_352 : decode cX11_init 352 = .ok (.newarray .int, 2) := by decide +kernel
theorem dX11_init_354 : decode cX11_init 354 = .ok (.putfield 128, 3) := by decide +kernel
theorem dX11_init_357 : decode cX11_init 357 = .ok (.aload_n 0, 1) := by decide +kernel
theorem dX11_init_358 : decode cX11_init 358 = .ok (.bipush 6, 2) := by decide +kernel
theorem dX11_init_360 : decode cX11_init 360 = .ok (.newarray .int, 2) := by decide +kernel
theorem dX11_init_362 : decode cX11_init 362 = .ok (.putfield 131, 3) := by decide +kernel
theorem dX11_init_365 : decode cX11_init 365 = .ok (.aload_n 0, 1) := by decide +kernel
theorem dX11_init_366 : decode cX11_init 366 = .ok (.iconst 5, 1) := by decide +kernel
theorem dX11_init_367 : decode cX11_init 367 = .ok (.newarray .int, 2) := by decide +kernel
theorem dX11_init_369 : decode cX11_init 369 = .ok (.putfield 134, 3) := by decide +kernel
theorem dX11_init_372 : decode cX11_init 372 = .ok (.aload_n 0, 1) := by decide +kernel
theorem dX11_init_373 : decode cX11_init 373 = .ok (.iconst 4, 1) := by decide +kernel
theorem dX11_init_374 : decode cX11_init 374 = .ok (.newarray .boolean, 2) := by decide +kernel
theorem dX11_init_376 : decode cX11_init 376 = .ok (.putfield 137, 3) := by decide +kernel
theorem dX11_init_379 : decode cX11_init 379 = .ok (.aload_n 0, 1) := by decide +kernel
theorem dX11_init_380 : decode cX11_init 380 = .ok (.ldc 140, 2) := by decide +kernel
theorem dX11_init_382 : decode cX11_init 382 = .ok (.newarray .int, 2) := by decide +kernel
theorem dX11_init_384 : decode cX11_init 384 = .ok (.putfield 141, 3) := by decide +kernel
theorem dX11_init_387 : decode cX11_init 387 = .ok (.return_, 1) := by decide +kernel
theorem dX11_in_0 : decode cX11_in 0 = .ok (.iload_n 0, 1) := by decide +kernel
theorem dX11_in_1 : decode cX11_in 1 = .ok (.iload_n 1, 1) := by decide +kernel
theorem dX11_in_2 : decode cX11_in 2 = .ok (.if_icmp .lt 12, 3) := by decide +kernel
theorem dX11_in_5 : decode cX11_in 5 = .ok (.iload_n 0, 1) := by decide +kernel
theorem dX11_in_6 : decode cX11_in 6 = .ok (.iload_n 2, 1) := by decide +kernel
theorem dX11_in_7 : decode cX11_in 7 = .ok (.if_icmp .gt 7, 3) := by decide +kernel
theorem dX11_in_10 : decode cX11_in 10 = .ok (.iconst 1, 1) := by decide +kernel
theorem dX11_in_11 : decode cX11_in 11 = .ok (.goto 4, 3) := by decide +kernel
theorem dX11_in_14 : decode cX11_in 14 = .ok (.iconst 0, 1) := by decide +kernel
theorem dX11_in_15 : decode cX11_in 15 = .ok (.ireturn, 1) := by decide +kernel
set_option maxRecDepth 20000 in
theorem ggX11_isModule_X11_in : GoodIn wsX11_isModule wsX11_in := goodIn_r _ [5] (by decide +kernel) (by decide +kernel)
set_option maxRecDepth 20000 in
theorem gX11_isModule_X11_in : GoodIn wsX11_isModule (va_wsS RX11 151 yX11_in wsX11_in) := goodIn_app (goodIn_of _ (by decide +kernel)) ggX11_isModule_X11_in
theorem dX11_isModule_0 : decode cX11_isModule 0 = .ok (.iload_n 1, 1) := by decide +kernel
theorem dX11_isModule_1 : decode cX11_isModule 1 = .ok (.iconst 0, 1) := by decide +kernel
theorem dX11_isModule_2 : decode cX11_isModule 2 = .ok (.aload_n 0, 1) := by decide +kernel
theorem dX11_isModule_3 : decode cX11_isModule 3 = .ok (.getfield 148, 3) := by decide +kernel
theorem dX11_isModule_6 : decode cX11_isModule 6 = .ok (.iconst 1, 1) := by decide +kernel
theorem dX11_isModule_7 : decode cX11_isModule 7 = .ok (.isub, 1) := by decide +kernel
theorem dX11_isModule_8 : decode cX11_isModule 8 = .ok (.invokestatic 151, 3) := by decide +kernel
theorem dX11_isModule_11 : decode cX11_isModule 11 = .ok (.ireturn, 1) := by decide +kernel
set_option maxRecDepth 20000 in
theorem ggX11_isTable_X11_in : GoodIn wsX11_isTable wsX11_in := goodIn_r _ [5] (by decide +kernel) (by decide +kernel)
set_option maxRecDepth 20000 in
theorem gX11_isTable_X11_in : GoodIn wsX11_isTable (va_wsS RX11 151 yX11_in wsX11_in) := goodIn_app (goodIn_of _ (by decide +kernel)) ggX11_isTable_X11_in
theorem dX11_isTable_0 : decode cX11_isTable 0 = .ok (.iload_n 1, 1) := by decide +kernel
theorem dX11_isTable_1 : decode cX11_isTable 1 = .ok (.iconst 0, 1) := by decide +kernel
theorem dX11_isTable_2 : decode cX11_isTable 2 = .ok (.aload_n 0, 1) := by decide +kernel
theorem dX11_isTable_3 : decode cX11_isTable 3 = .ok (.getfield 155, 3) := by decide +kernel
theorem dX11_isTable_6 : decode cX11_isTable 6 = .ok (.iconst 1, 1) := by decide +kernel
theorem dX11_isTable_7 : decode cX11_isTable 7 = .ok (.isub, 1) := by decide +kernel
theorem dX11_isTable_8 : decode cX11_isTable 8 = .ok (.invokestatic 151, 3) := by decide +kernel
theorem dX11_isTable_11 : decode cX11_isTable 11 = .ok (.ireturn, 1) := by decide +kernel
set_option maxRecDepth 20000 in
theorem ggX11_isRoutine_X11_in : GoodIn wsX11_isRoutine wsX11_in := goodIn_r _ [5] (by decide +kernel) (by decide +kernel)
set_option maxRecDepth 20000 in
theorem gX11_isRoutine_X11_in : GoodIn wsX11_isRoutine (va_wsS RX11 151 yX11_in wsX11_in) := goodIn_app (goodIn_of _ (by decide +kernel)) ggX11_isRoutine_X11_in
theorem dX11_isRoutine_0 : decode cX11_isRoutine 0 = .ok (.iload_n 1, 1) := by decide +kernel
theorem dX11_isRoutine_1 : decode cX11_isRoutine 1 = .ok (.iconst 0, 1) := by decide +kernel
theorem dX11_isRoutine_2 : decode cX11_isRoutine 2 = .ok (.aload_n 0, 1) := by decide +kernel
theorem dX11_isRoutine_3 : decode cX11_isRoutine 3 = .ok (.getfield 158, 3) := by decide +kernel
theorem dX11_isRoutine_6 : decode cX11_isRoutine 6 = .ok (.iconst 1, 1) := by decide +kernel
theorem dX11_isRoutine_7 : decode cX11_isRoutine 7 = .ok (.isub, 1) := by decide +kernel
theorem dX11_isRoutine_8 : decode cX11_isRoutine 8 = .ok (.invokestatic 151, 3) := by decide +kernel
theorem dX11_isRoutine_11 : decode cX11_isRoutine 11 = .ok (.ireturn, 1) := by decide +kernel
set_option maxRecDepth 20000 in
theorem ggX11_isRoom_X11_in : GoodIn wsX11_isRoom wsX11_in := goodIn_r _ [4] (by decide +kernel) (by decide +kernel)
set_option maxRecDepth 20000 in
theorem gX11_isRoom_X11_in : GoodIn wsX11_isRoom (va_wsS RX11 151 yX11_in wsX11_in) := goodIn_app (goodIn_of _ (by decide +kernel)) ggX11_isRoom_X11_in
theorem dX11_isRoom_0 : decode cX11_isRoom 0 = .ok (.iload_n 0, 1) := by decide +kernel
theorem dX11_isRoom_1 : decode cX11_isRoom 1 = .ok (.iconst 0, 1) := by decide +kernel
theorem dX11_isRoom_2 : decode cX11_isRoom 2 = .ok (.iconst 5, 1) := by decide +kernel
theorem dX11_isRoom_3 : decode cX11_isRoom 3 = .ok (.invokestatic 151, 3) := by decide +kernel
theorem dX11_isRoom_6 : decode cX11_isRoom 6 = .ok (.ireturn, 1) := by decide +kernel
set_option maxRecDepth 20000 in
theorem ggX11_module_X11_in : GoodIn wsX11_module wsX11_in := goodIn_r _ [6] (by decide +kernel) (by decide +kernel)
set_option maxRecDepth 20000 in
theorem gX11_module_X11_in : GoodIn wsX11_module (va_wsS RX11 151 yX11_in wsX11_in) := goodIn_app (goodIn_of _ (by decide +kernel)) ggX11_module_X11_in
theorem dX11_module_0 : decode cX11_module 0 = .ok (.iload_n 1, 1) := by decide +kernel
theorem dX11_module_1 : decode cX11_module 1 = .ok (.iconst 1, 1) := by decide +kernel
theorem dX11_module_2 : decode cX11_module 2 = .ok (.bipush 99, 2) := by decide +kernel
theorem dX11_module_4 : decode cX11_module 4 = .ok (.invokestatic 151, 3) := by decide +kernel
theorem dX11_module_7 : decode cX11_module 7 = .ok (.ifCond .ne 5, 3) := by decide +kernel
theorem dX11_module_10 : decode cX11_module 10 = .ok (.iconst (-1), 1) := by decide +kernel
theorem dX11_module_11 : decode cX11_module 11 = .ok (.ireturn, 1) := by decide +kernel
theorem dX11_module_12 : decode cX11_module 12 = .ok (.aload_n 0, 1) := by decide +kernel
theorem dX11_module_13 : decode cX11_module 13 = .ok (.getfield 148, 3) := by decide +kernel
theorem dX11_module_16 : decode cX11_module 16 = .ok (.bipush 10, 2) := by decide +kernel
theorem dX11_module_18 : decode cX11_module 18 = .ok (.if_icmp .ne 6, 3) := by decide +kernel
theorem dX11_module_21 : decode cX11_module 21 = .ok (.bipush (-3), 2) := by decide +kernel
theorem dX11_module_23 : decode cX11_module 23 = .ok (.ireturn, 1) := by decide +kernel
theorem dX11_module_24 : decode cX11_module 24 = .ok (.aload_n 0, 1) := by decide +kernel
theorem dX11_module_25 : decode cX11_module 25 = .ok (.getfield 7, 3) := by decide +kernel
theorem dX11_module_28 : decode cX11_module 28 = .ok (.aload_n 0, 1) := by decide +kernel
theorem dX11_module_29 : decode cX11_module 29 = .ok (.getfield 148, 3) := by decide +kernel
theorem dX11_module_32 : decode cX11_module 32 = .ok (.iload_n 1, 1) := by decide +kernel
theorem dX11_module_33 : decode cX11_module 33 = .ok (.iastore, 1) := by decide +kernel
theorem dX11_module_34 : decode cX11_module 34 = .ok (.aload_n 0, 1) := by decide +kernel
theorem dX11_module_35 : decode cX11_module 35 = .ok (.dup, 1) := by decide +kernel
theorem dX11_module_36 : decode cX11_module 36 = .ok (.getfield 148, 3) := by decide +kernel
theorem dX11_module_39 : decode cX11_module 39 = .ok (.iconst 1, 1) := by decide +kernel
theorem dX11_module_40 : decode cX11_module 40 = .ok (.iadd, 1) := by decide +kernel
theorem dX11_module_41 : decode cX11_module 41 = .ok (.putfield 148, 3) := by decide +kernel
theorem dX11_module_44 : decode cX11_module 44 = .ok (.aload_n 0, 1) := by decide +kernel
theorem dX11_module_45 : decode cX11_module 45 = .ok (.getfield 148, 3) := by decide +kernel
theorem dX11_module_48 : decode cX11_module 48 = .ok (.iconst 1, 1) := by decide +kernel
theorem dX11_module_49 : decode cX11_module 49 = .ok (.isub, 1) := by decide +kernel
theorem dX11_module_50 : decode cX11_module 50 = .ok (.ireturn, 1) := by decide +kernel
set_option maxRecDepth 20000 in
theorem ggX11_table_X11_isModule : GoodIn wsX11_table wsX11_isModule := goodIn_r _ [7, 8, 9, 10, 6, 11, 12, 13, 14, 15, 16, 17, 18, 19, 20, 21, 22, 23, 24, 25, 26, 27, 28, 29, 30, 31, 32, 33, 34, 35, 36, 37, 38, 39, 40, 41, 42, 43, 44, 45, 46, 47, 48, 49, 50, 51, 52, 53, 54, 55, 56, 57, 58, 59, 60, 61, 62, 63, 64, 65, 66, 67, 68, 69, 70, 71, 72, 73, 74] (by decide +kernel) (by decide +kernel)
set_option maxRecDepth 20000 in
theorem gX11_table_X11_isModule : GoodIn wsX11_table (wsV RX11 161 RX11 yX11_isModule wsX11_isModule) := goodIn_app (goodIn_of _ (by decide +kernel)) ggX11_table_X11_isModule
theorem dX11_table_0 : decode cX11_table 0 = .ok (.aload_n 0, 1) := by decide +kernel
theorem dX11_table_1 : decode cX11_table 1 = .ok (.iload_n 1, 1) := by decide +kernel
theorem dX11_table_2 : decode cX11_table 2 = .ok (.invokevirtual 161, 3) := by decide +kernel
theorem dX11_table_5 : decode cX11_table 5 = .ok (.ifCond .ne 5, 3) := by decide +kernel
theorem dX11_table_8 : decode cX11_table 8 = .ok (.iconst (-1), 1) := by decide +kernel
theorem dX11_table_9 : decode cX11_table 9 = .ok (.ireturn, 1) := by decide +kernel
theorem dX11_table_10 : decode cX11_table 10 = .ok (.aload_n 0, 1) := by decide +kernel
theorem dX11_table_11 : decode cX11_table 11 = .ok (.getfield 155, 3) := by decide +kernel
theorem dX11_table_14 : decode cX11_table 14 = .ok (.bipush 16, 2) := by decide +kernel
theorem dX11_table_16 : decode cX11_table 16 = .ok (.if_icmp .ne 6, 3) := by decide +kernel
theorem dX11_table_19 : decode cX11_table 19 = .ok (.bipush (-3), 2) := by decide +kernel
theorem dX11_table_21 : decode cX11_table 21 = .ok (.ireturn, 1) := by decide +kernel
theorem dX11_table_22 : decode cX11_table 22 = .ok (.aload_n 0, 1) := by decide +kernel
theorem dX11_table_23 : decode cX11_table 23 = .ok (.getfield 13, 3) := by decide +kernel
theorem dX11_table_26 : decode cX11_table 26 = .ok (.aload_n 0, 1) := by decide +kernel
theorem dX11_table_27 : decode cX11_table 27 = .ok (.getfield 155, 3) := by decide +kernel
theorem dX11_table_30 : decode cX11_table 30 = .ok (.iload_n 1, 1) := by decide +kernel
theorem dX11_table_31 : decode cX11_table 31 = .ok (.iastore, 1) := by decide +kernel
theorem dX11_table_32 : decode cX11_table 32 = .ok (.aload_n 0, 1) := by decide +kernel
theorem dX11_table_33 : decode cX11_table 33 = .ok (.dup, 1) := by decide +kernel
theorem dX11_table_34 : decode cX11_table 34 = .ok (.getfield 155, 3) := by decide +kernel
theorem dX11_table_37 : decode cX11_table 37 = .ok (.iconst 1, 1) := by decide +kernel
theorem dX11_table_38 : decode cX11_table 38 = .ok (.iadd, 1) := by decide +kernel
theorem dX11_table_39 : decode cX11_table 39 = .ok (.putfield 155, 3) := by decide +kernel
theorem dX11_table_42 : decode cX11_table 42 = .ok (.aload_n 0, 1) := by decide +kernel
theorem dX11_table_43 : decode cX11_table 43 = .ok (.getfield 155, 3) := by decide +kernel
theorem dX11_table_46 : decode cX11_table 46 = .ok (.iconst 1, 1) := by decide +kernel
theorem dX11_table_47 : decode cX11_table 47 = .ok (.isub, 1) := by decide +kernel
theorem dX11_table_48 : decode cX11_table 48 = .ok (.ireturn, 1) := by decide +kernel
set_option maxRecDepth 20000 in
theorem ggX11_routine_X11_isModule : GoodIn wsX11_routine wsX11_isModule := goodIn_r _ [7, 8, 9, 10, 6, 11, 12, 13, 14, 15, 16, 17, 18, 19, 20, 21, 22, 23, 24, 25, 26, 27, 28, 29, 30, 31, 32, 33, 34, 35, 36, 37, 38, 39, 40, 41, 42, 43, 44, 45, 46, 47, 48, 49, 50, 51, 52, 53, 54, 55, 56, 57, 58, 59, 60, 61, 62, 63, 64, 65, 66, 67, 68, 69, 70, 71, 72, 73, 74] (by decide +kernel) (by decide +kernel)
set_option maxRecDepth 20000 in
theorem gX11_routine_X11_isModule : GoodIn wsX11_routine (wsV RX11 161 RX11 yX11_isModule wsX11_isModule) := goodIn_app (goodIn_of _ (by decide +kernel)) ggX11_routine_X11_isModule
theorem dX11_routine_0 : decode cX11_routine 0 = .ok (.aload_n 0, 1) := by decide +kernel
theorem dX11_routine_1 : decode cX11_routine 1 = .ok (.iload_n 1, 1) := by decide +kernel
theorem dX11_routine_2 : decode cX11_routine 2 = .ok (.invokevirtual 161, 3) := by decide +kernel
theorem dX11_routine_5 : decode cX11_routine 5 = .ok (.ifCond .ne 5, 3) := by decide +kernel
theorem dX11_routine_8 : decode cX11_routine 8 = .ok (.iconst (-1), 1) := by decide +kernel
theorem dX11_routine_9 : decode cX11_routine 9 = .ok (.ireturn, 1) := by decide +kernel
theorem dX11_routine_10 : decode cX11_routine 10 = .ok (.aload_n 0, 1) := by decide +kernel
theorem dX11_routine_11 : decode cX11_routine 11 = .ok (.getfield 158, 3) := by decide +kernel
theorem dX11_routine_14 : decode cX11_routine 14 = .ok (.bipush 40, 2) := by decide +kernel
theorem dX11_routine_16 : decode cX11_routine 16 = .ok (.if_icmp .ne 6, 3) := by decide +kernel
theorem dX11_routine_19 : decode cX11_routine 19 = .ok (.bipush (-3), 2) := by decide +kernel
theorem dX11_routine_21 : decode cX11_routine 21 = .ok (.ireturn, 1) := by decide +kernel
theorem dX11_routine_22 : decode cX11_routine 22 = .ok (.aload_n 0, 1) := by decide +kernel
theorem dX11_routine_23 : decode cX11_routine 23 = .ok (.getfield 16, 3) := by decide +kernel
theorem dX11_routine_26 : decode cX11_routine 26 = .ok (.aload_n 0, 1) := by decide +kernel
theorem dX11_routine_27 : decode cX11_routine 27 = .ok (.getfield 158, 3) := by decide +kernel
theorem dX11_routine_30 : decode cX11_routine 30 = .ok (.iload_n 1, 1) := by decide +kernel
theorem dX11_routine_31 : decode cX11_routine 31 = .ok (.iastore, 1) := by decide +kernel
theorem dX11_routine_32 : decode cX11_routine 32 = .ok (.aload_n 0, 1) := by decide +kernel
theorem dX11_routine_33 : decode cX11_routine 33 = .ok (.dup, 1) := by decide +kernel
