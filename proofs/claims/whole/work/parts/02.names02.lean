theorem dX4_become_25 : decode cX4_become 25 = .ok (.iconst 0, 1) := by decide +kernel
theorem dX4_become_26 : decode cX4_become 26 = .ok (.sipush 128, 3) := by decide +kernel
theorem dX4_become_29 : decode cX4_become 29 = .ok (.invokestatic 93, 3) := by decide +kernel
theorem dX4_become_32 : decode cX4_become 32 = .ok (.aload_n 1, 1) := by decide +kernel
theorem dX4_become_33 : decode cX4_become 33 = .ok (.getfield 18, 3) := by decide +kernel
theorem dX4_become_36 : decode cX4_become 36 = .ok (.iconst 0, 1) := by decide +kernel
theorem dX4_become_37 : decode cX4_become 37 = .ok (.aload_n 0, 1) := by decide +kernel
theorem dX4_become_38 : decode cX4_become 38 = .ok (.getfield 18, 3) := by decide +kernel
theorem dX4_become_41 : decode cX4_become 41 = .ok (.iconst 0, 1) := by decide +kernel
theorem dX4_become_42 : decode cX4_become 42 = .ok (.bipush 10, 2) := by decide +kernel
theorem dX4_become_44 : decode cX4_become 44 = .ok (.invokestatic 93, 3) := by decide +kernel
theorem dX4_become_47 : decode cX4_become 47 = .ok (.aload_n 1, 1) := by decide +kernel
theorem dX4_become_48 : decode cX4_become 48 = .ok (.getfield 21, 3) := by decide +kernel
theorem dX4_become_51 : decode cX4_become 51 = .ok (.iconst 0, 1) := by decide +kernel
theorem dX4_become_52 : decode cX4_become 52 = .ok (.aload_n 0, 1) := by decide +kernel
theorem dX4_become_53 : decode cX4_become 53 = .ok (.getfield 21, 3) := by decide +kernel
theorem dX4_become_56 : decode cX4_become 56 = .ok (.iconst 0, 1) := by decide +kernel
theorem dX4_become_57 : decode cX4_become 57 = .ok (.sipush 420, 3) := by decide +kernel
theorem dX4_become_60 : decode cX4_become 60 = .ok (.invokestatic 93, 3) := by decide +kernel
theorem dX4_become_63 : decode cX4_become 63 = .ok (.aload_n 1, 1) := by decide +kernel
theorem dX4_become_64 : decode cX4_become 64 = .ok (.getfield 38, 3) := by decide +kernel
theorem dX4_become_67 : decode cX4_become 67 = .ok (.iconst 0, 1) := by decide +kernel
theorem dX4_become_68 : decode cX4_become 68 = .ok (.aload_n 0, 1) := by decide +kernel
theorem dX4_become_69 : decode cX4_become 69 = .ok (.getfield 38, 3) := by decide +kernel
theorem dX4_become_72 : decode cX4_become 72 = .ok (.iconst 0, 1) := by decide +kernel
theorem dX4_become_73 : decode cX4_become 73 = .ok (.iconst 5, 1) := by decide +kernel
theorem dX4_become_74 : decode cX4_become 74 = .ok (.invokestatic 93, 3) := by decide +kernel
theorem dX4_become_77 : decode cX4_become 77 = .ok (.aload_n 0, 1) := by decide +kernel
theorem dX4_become_78 : decode cX4_become 78 = .ok (.getfield 27, 3) := by decide +kernel
theorem dX4_become_81 : decode cX4_become 81 = .ok (.aload_n 1, 1) := by decide +kernel
theorem dX4_become_82 : decode cX4_become 82 = .ok (.getfield 27, 3) := by decide +kernel
theorem dX4_become_85 : decode cX4_become 85 = .ok (.invokevirtual 102, 3) := by decide +kernel
theorem dX4_become_88 : decode cX4_become 88 = .ok (.aload_n 0, 1) := by decide +kernel
theorem dX4_become_89 : decode cX4_become 89 = .ok (.getfield 34, 3) := by decide +kernel
theorem dX4_become_92 : decode cX4_become 92 = .ok (.aload_n 1, 1) := by decide +kernel
theorem dX4_become_93 : decode cX4_become 93 = .ok (.getfield 34, 3) := by decide +kernel
theorem dX4_become_96 : decode cX4_become 96 = .ok (.invokevirtual 106, 3) := by decide +kernel
theorem dX4_become_99 : decode cX4_become 99 = .ok (.aload_n 0, 1) := by decide +kernel
theorem dX4_become_100 : decode cX4_become 100 = .ok (.aload_n 1, 1) := by decide +kernel
theorem dX4_become_101 : decode cX4_become 101 = .ok (.getfield 86, 3) := by decide +kernel
theorem dX4_become_104 : decode cX4_become 104 = .ok (.putfield 86, 3) := by decide +kernel
theorem dX4_become_107 : decode cX4_become 107 = .ok (.aload_n 0, 1) := by decide +kernel
theorem dX4_become_108 : decode cX4_become 108 = .ok (.aload_n 1, 1) := by decide +kernel
theorem dX4_become_109 : decode cX4_become 109 = .ok (.getfield 68, 3) := by decide +kernel
theorem dX4_become_112 : decode cX4_become 112 = .ok (.putfield 68, 3) := by decide +kernel
theorem dX4_become_115 : decode cX4_become 115 = .ok (.aload_n 0, 1) := by decide +kernel
theorem dX4_become_116 : decode cX4_become 116 = .ok (.aload_n 1, 1) := by decide +kernel
theorem dX4_become_117 : decode cX4_become 117 = .ok (.getfield 83, 3) := by decide +kernel
theorem dX4_become_120 : decode cX4_become 120 = .ok (.putfield 83, 3) := by decide +kernel
theorem dX4_become_123 : decode cX4_become 123 = .ok (.aload_n 0, 1) := by decide +kernel
theorem dX4_become_124 : decode cX4_become 124 = .ok (.aload_n 1, 1) := by decide +kernel
theorem dX4_become_125 : decode cX4_become 125 = .ok (.getfield 90, 3) := by decide +kernel
theorem dX4_become_128 : decode cX4_become 128 = .ok (.putfield 90, 3) := by decide +kernel
theorem dX4_become_131 : decode cX4_become 131 = .ok (.return_, 1) := by decide +kernel
theorem dX5_init_0 : decode cX5_init 0 = .ok (.aload_n 0, 1) := by decide +kernel
theorem dX5_init_1 : decode cX5_init 1 = .ok (.invokespecial 3, 3) := by decide +kernel
theorem dX5_init_4 : decode cX5_init 4 = .ok (.aload_n 0, 1) := by decide +kernel
theorem dX5_init_5 : decode cX5_init 5 = .ok (.bipush 10, 2) := by decide +kernel
theorem dX5_init_7 : decode cX5_init 7 = .ok (.newarray .int, 2) := by decide +kernel
theorem dX5_init_9 : decode cX5_init 9 = .ok (.putfield 9, 3) := by decide +kernel
theorem dX5_init_12 : decode cX5_init 12 = .ok (.aload_n 0, 1) := by decide +kernel
theorem dX5_init_13 : decode cX5_init 13 = .ok (.bipush 10, 2) := by decide +kernel
theorem dX5_init_15 : decode cX5_init 15 = .ok (.newarray .int, 2) := by decide +kernel
theorem dX5_init_17 : decode cX5_init 17 = .ok (.putfield 15, 3) := by decide +kernel
theorem dX5_init_20 : decode cX5_init 20 = .ok (.aload_n 0, 1) := by decide +kernel
theorem dX5_init_21 : decode cX5_init 21 = .ok (.bipush 60, 2) := by decide +kernel
theorem dX5_init_23 : decode cX5_init 23 = .ok (.newarray .int, 2) := by decide +kernel
theorem dX5_init_25 : decode cX5_init 25 = .ok (.putfield 18, 3) := by decide +kernel
theorem dX5_init_28 : decode cX5_init 28 = .ok (.aload_n 0, 1) := by decide +kernel
theorem dX5_init_29 : decode cX5_init 29 = .ok (.bipush 60, 2) := by decide +kernel
theorem dX5_init_31 : decode cX5_init 31 = .ok (.newarray .int, 2) := by decide +kernel
theorem dX5_init_33 : decode cX5_init 33 = .ok (.putfield 21, 3) := by decide +kernel
theorem dX5_init_36 : decode cX5_init 36 = .ok (.return_, 1) := by decide +kernel
theorem dX5_has_0 : decode cX5_has 0 = .ok (.iload_n 1, 1) := by decide +kernel
theorem dX5_has_1 : decode cX5_has 1 = .ok (.ifCond .lt 15, 3) := by decide +kernel
theorem dX5_has_4 : decode cX5_has 4 = .ok (.iload_n 1, 1) := by decide +kernel
theorem dX5_has_5 : decode cX5_has 5 = .ok (.aload_n 0, 1) := by decide +kernel
theorem dX5_has_6 : decode cX5_has 6 = .ok (.getfield 24, 3) := by decide +kernel
theorem dX5_has_9 : decode cX5_has 9 = .ok (.if_icmp .ge 7, 3) := by decide +kernel
theorem dX5_has_12 : decode cX5_has 12 = .ok (.iconst 1, 1) := by decide +kernel
theorem dX5_has_13 : decode cX5_has 13 = .ok (.goto 4, 3) := by decide +kernel
theorem dX5_has_16 : decode cX5_has 16 = .ok (.iconst 0, 1) := by decide +kernel
theorem dX5_has_17 : decode cX5_has 17 = .ok (.ireturn, 1) := by decide +kernel
theorem dX5_addLaw_0 : decode cX5_addLaw 0 = .ok (.aload_n 0, 1) := by decide +kernel
theorem dX5_addLaw_1 : decode cX5_addLaw 1 = .ok (.getfield 15, 3) := by decide +kernel
theorem dX5_addLaw_4 : decode cX5_addLaw 4 = .ok (.aload_n 0, 1) := by decide +kernel
theorem dX5_addLaw_5 : decode cX5_addLaw 5 = .ok (.getfield 24, 3) := by decide +kernel
theorem dX5_addLaw_8 : decode cX5_addLaw 8 = .ok (.iload_n 1, 1) := by decide +kernel
theorem dX5_addLaw_9 : decode cX5_addLaw 9 = .ok (.iastore, 1) := by decide +kernel
theorem dX5_addLaw_10 : decode cX5_addLaw 10 = .ok (.aload_n 0, 1) := by decide +kernel
theorem dX5_addLaw_11 : decode cX5_addLaw 11 = .ok (.dup, 1) := by decide +kernel
theorem dX5_addLaw_12 : decode cX5_addLaw 12 = .ok (.getfield 24, 3) := by decide +kernel
theorem dX5_addLaw_15 : decode cX5_addLaw 15 = .ok (.dup_x1, 1) := by decide +kernel
theorem dX5_addLaw_16 : decode cX5_addLaw 16 = .ok (.iconst 1, 1) := by decide +kernel
theorem dX5_addLaw_17 : decode cX5_addLaw 17 = .ok (.iadd, 1) := by decide +kernel
theorem dX5_addLaw_18 : decode cX5_addLaw 18 = .ok (.putfield 24, 3) := by decide +kernel
theorem dX5_addLaw_21 : decode cX5_addLaw 21 = .ok (.ireturn, 1) := by decide +kernel
theorem dX5_addTerm_0 : decode cX5_addTerm 0 = .ok (.iload_n 1, 1) := by decide +kernel
theorem dX5_addTerm_1 : decode cX5_addTerm 1 = .ok (.bipush 6, 2) := by decide +kernel
theorem dX5_addTerm_3 : decode cX5_addTerm 3 = .ok (.imul, 1) := by decide +kernel
theorem dX5_addTerm_4 : decode cX5_addTerm 4 = .ok (.aload_n 0, 1) := by decide +kernel
theorem dX5_addTerm_5 : decode cX5_addTerm 5 = .ok (.getfield 9, 3) := by decide +kernel
theorem dX5_addTerm_8 : decode cX5_addTerm 8 = .ok (.iload_n 1, 1) := by decide +kernel
theorem dX5_addTerm_9 : decode cX5_addTerm 9 = .ok (.iaload, 1) := by decide +kernel
theorem dX5_addTerm_10 : decode cX5_addTerm 10 = .ok (.iadd, 1) := by decide +kernel
theorem dX5_addTerm_11 : decode cX5_addTerm 11 = .ok (.istore 4, 2) := by decide +kernel
theorem dX5_addTerm_13 : decode cX5_addTerm 13 = .ok (.aload_n 0, 1) := by decide +kernel
theorem dX5_addTerm_14 : decode cX5_addTerm 14 = .ok (.getfield 18, 3) := by decide +kernel
theorem dX5_addTerm_17 : decode cX5_addTerm 17 = .ok (.iload 4, 2) := by decide +kernel
theorem dX5_addTerm_19 : decode cX5_addTerm 19 = .ok (.iload_n 2, 1) := by decide +kernel
theorem dX5_addTerm_20 : decode cX5_addTerm 20 = .ok (.iastore, 1) := by decide +kernel
theorem dX5_addTerm_21 : decode cX5_addTerm 21 = .ok (.aload_n 0, 1) := by decide +kernel
theorem dX5_addTerm_22 : decode cX5_addTerm 22 = .ok (.getfield 21, 3) := by decide +kernel
theorem dX5_addTerm_25 : decode cX5_addTerm 25 = .ok (.iload 4, 2) := by decide +kernel
theorem dX5_addTerm_27 : decode cX5_addTerm 27 = .ok (.iload_n 3, 1) := by decide +kernel
theorem dX5_addTerm_28 : decode cX5_addTerm 28 = .ok (.iastore, 1) := by decide +kernel
theorem dX5_addTerm_29 : decode cX5_addTerm 29 = .ok (.aload_n 0, 1) := by decide +kernel
theorem dX5_addTerm_30 : decode cX5_addTerm 30 = .ok (.getfield 9, 3) := by decide +kernel
theorem dX5_addTerm_33 : decode cX5_addTerm 33 = .ok (.iload_n 1, 1) := by decide +kernel
theorem dX5_addTerm_34 : decode cX5_addTerm 34 = .ok (.dup2, 1) := by decide +kernel
theorem dX5_addTerm_35 : decode cX5_addTerm 35 = .ok (.iaload, 1) := by decide +kernel
theorem dX5_addTerm_36 : decode cX5_addTerm 36 = .ok (.iconst 1, 1) := by decide +kernel
theorem dX5_addTerm_37 : decode cX5_addTerm 37 = .ok (.iadd, 1) := by decide +kernel
theorem dX5_addTerm_38 : decode cX5_addTerm 38 = .ok (.iastore, 1) := by decide +kernel
theorem dX5_addTerm_39 : decode cX5_addTerm 39 = .ok (.aload_n 0, 1) := by decide +kernel
theorem dX5_addTerm_40 : decode cX5_addTerm 40 = .ok (.getfield 9, 3) := by decide +kernel
theorem dX5_addTerm_43 : decode cX5_addTerm 43 = .ok (.iload_n 1, 1) := by decide +kernel
theorem dX5_addTerm_44 : decode cX5_addTerm 44 = .ok (.iaload, 1) := by decide +kernel
theorem dX5_addTerm_45 : decode cX5_addTerm 45 = .ok (.ireturn, 1) := by decide +kernel
set_option maxRecDepth 20000 in
theorem ggX5_standsAfter_X1_valueAfter : GoodIn wsX5_standsAfter wsX1_valueAfter := goodIn_r _ [9, 10, 11, 12, 18, 19, 20, 21, 22, 23, 24, 25] (by decide +kernel) (by decide +kernel)
set_option maxRecDepth 20000 in
theorem gX5_standsAfter_X1_valueAfter : GoodIn wsX5_standsAfter (wsV RX5 28 RX1 yX1_valueAfter wsX1_valueAfter) := goodIn_app (goodIn_of _ (by decide +kernel)) ggX5_standsAfter_X1_valueAfter
theorem dX5_standsAfter_0 : decode cX5_standsAfter 0 = .ok (.lconst 0, 1) := by decide +kernel
theorem dX5_standsAfter_1 : decode cX5_standsAfter 1 = .ok (.lstore 5, 2) := by decide +kernel
theorem dX5_standsAfter_3 : decode cX5_standsAfter 3 = .ok (.iconst 0, 1) := by decide +kernel
theorem dX5_standsAfter_4 : decode cX5_standsAfter 4 = .ok (.istore 7, 2) := by decide +kernel
theorem dX5_standsAfter_6 : decode cX5_standsAfter 6 = .ok (.iload 7, 2) := by decide +kernel
theorem dX5_standsAfter_8 : decode cX5_standsAfter 8 = .ok (.aload_n 0, 1) := by decide +kernel
theorem dX5_standsAfter_9 : decode cX5_standsAfter 9 = .ok (.getfield 9, 3) := by decide +kernel
theorem dX5_standsAfter_12 : decode cX5_standsAfter 12 = .ok (.iload_n 1, 1) := by decide +kernel
theorem dX5_standsAfter_13 : decode cX5_standsAfter 13 = .ok (.iaload, 1) := by decide +kernel
theorem dX5_standsAfter_14 : decode cX5_standsAfter 14 = .ok (.if_icmp .ge 47, 3) := by decide +kernel
theorem dX5_standsAfter_17 : decode cX5_standsAfter 17 = .ok (.iload_n 1, 1) := by decide +kernel
theorem dX5_standsAfter_18 : decode cX5_standsAfter 18 = .ok (.bipush 6, 2) := by decide +kernel
theorem dX5_standsAfter_20 : decode cX5_standsAfter 20 = .ok (.imul, 1) := by decide +kernel
theorem dX5_standsAfter_21 : decode cX5_standsAfter 21 = .ok (.iload 7, 2) := by decide +kernel
theorem dX5_standsAfter_23 : decode cX5_standsAfter 23 = .ok (.iadd, 1) := by decide +kernel
theorem dX5_standsAfter_24 : decode cX5_standsAfter 24 = .ok (.istore 8, 2) := by decide +kernel
theorem dX5_standsAfter_26 : decode cX5_standsAfter 26 = .ok (.lload 5, 2) := by decide +kernel
theorem dX5_standsAfter_28 : decode cX5_standsAfter 28 = .ok (.aload_n 0, 1) := by decide +kernel
theorem dX5_standsAfter_29 : decode cX5_standsAfter 29 = .ok (.getfield 21, 3) := by decide +kernel
theorem dX5_standsAfter_32 : decode cX5_standsAfter 32 = .ok (.iload 8, 2) := by decide +kernel
theorem dX5_standsAfter_34 : decode cX5_standsAfter 34 = .ok (.iaload, 1) := by decide +kernel
theorem dX5_standsAfter_35 : decode cX5_standsAfter 35 = .ok (.i2l, 1) := by decide +kernel
theorem dX5_standsAfter_36 : decode cX5_standsAfter 36 = .ok (.aload_n 3, 1) := by decide +kernel
theorem dX5_standsAfter_37 : decode cX5_standsAfter 37 = .ok (.aload_n 0, 1) := by decide +kernel
theorem dX5_standsAfter_38 : decode cX5_standsAfter 38 = .ok (.getfield 18, 3) := by decide +kernel
theorem dX5_standsAfter_41 : decode cX5_standsAfter 41 = .ok (.iload 8, 2) := by decide +kernel
theorem dX5_standsAfter_43 : decode cX5_standsAfter 43 = .ok (.iaload, 1) := by decide +kernel
theorem dX5_standsAfter_44 : decode cX5_standsAfter 44 = .ok (.aload_n 2, 1) := by decide +kernel
theorem dX5_standsAfter_45 : decode cX5_standsAfter 45 = .ok (.iload 4, 2) := by decide +kernel
theorem dX5_standsAfter_47 : decode cX5_standsAfter 47 = .ok (.invokevirtual 28, 3) := by decide +kernel
theorem dX5_standsAfter_50 : decode cX5_standsAfter 50 = .ok (.i2l, 1) := by decide +kernel
theorem dX5_standsAfter_51 : decode cX5_standsAfter 51 = .ok (.lmul, 1) := by decide +kernel
theorem dX5_standsAfter_52 : decode cX5_standsAfter 52 = .ok (.ladd, 1) := by decide +kernel
theorem dX5_standsAfter_53 : decode cX5_standsAfter 53 = .ok (.lstore 5, 2) := by decide +kernel
theorem dX5_standsAfter_55 : decode cX5_standsAfter 55 = .ok (.iinc 7 1, 3) := by decide +kernel
theorem dX5_standsAfter_58 : decode cX5_standsAfter 58 = .ok (.goto (-52), 3) := by decide +kernel
theorem dX5_standsAfter_61 : decode cX5_standsAfter 61 = .ok (.lload 5, 2) := by decide +kernel
theorem dX5_standsAfter_63 : decode cX5_standsAfter 63 = .ok (.aload_n 0, 1) := by decide +kernel
theorem dX5_standsAfter_64 : decode cX5_standsAfter 64 = .ok (.getfield 15, 3) := by decide +kernel
theorem dX5_standsAfter_67 : decode cX5_standsAfter 67 = .ok (.iload_n 1, 1) := by decide +kernel
theorem dX5_standsAfter_68 : decode cX5_standsAfter 68 = .ok (.iaload, 1) := by decide +kernel
theorem dX5_standsAfter_69 : decode cX5_standsAfter 69 = .ok (.i2l, 1) := by decide +kernel
theorem dX5_standsAfter_70 : decode cX5_standsAfter 70 = .ok (.lcmp, 1) := by decide +kernel
theorem dX5_standsAfter_71 : decode cX5_standsAfter 71 = .ok (.ifCond .lt 7, 3) := by decide +kernel
theorem dX5_standsAfter_74 : decode cX5_standsAfter 74 = .ok (.iconst 1, 1) := by decide +kernel
theorem dX5_standsAfter_75 : decode cX5_standsAfter 75 = .ok (.goto 4, 3) := by decide +kernel
theorem dX5_standsAfter_78 : decode cX5_standsAfter 78 = .ok (.iconst 0, 1) := by decide +kernel
theorem dX5_standsAfter_79 : decode cX5_standsAfter 79 = .ok (.ireturn, 1) := by decide +kernel
theorem dX6_init_0 : decode cX6_init 0 = .ok (.aload_n 0, 1) := by decide +kernel
theorem dX6_init_1 : decode cX6_init 1 = .ok (.invokespecial 3, 3) := by decide +kernel
theorem dX6_init_4 : decode cX6_init 4 = .ok (.aload_n 0, 1) := by decide +kernel
theorem dX6_init_5 : decode cX6_init 5 = .ok (.bipush 32, 2) := by decide +kernel
theorem dX6_init_7 : decode cX6_init 7 = .ok (.newarray .int, 2) := by decide +kernel
theorem dX6_init_9 : decode cX6_init 9 = .ok (.putfield 11, 3) := by decide +kernel
theorem dX6_init_12 : decode cX6_init 12 = .ok (.aload_n 0, 1) := by decide +kernel
theorem dX6_init_13 : decode cX6_init 13 = .ok (.bipush 32, 2) := by decide +kernel
theorem dX6_init_15 : decode cX6_init 15 = .ok (.newarray .int, 2) := by decide +kernel
theorem dX6_init_17 : decode cX6_init 17 = .ok (.putfield 15, 3) := by decide +kernel
theorem dX6_init_20 : decode cX6_init 20 = .ok (.aload_n 0, 1) := by decide +kernel
theorem dX6_init_21 : decode cX6_init 21 = .ok (.bipush 40, 2) := by decide +kernel
theorem dX6_init_23 : decode cX6_init 23 = .ok (.newarray .int, 2) := by decide +kernel
theorem dX6_init_25 : decode cX6_init 25 = .ok (.putfield 18, 3) := by decide +kernel
theorem dX6_init_28 : decode cX6_init 28 = .ok (.return_, 1) := by decide +kernel
theorem dX6_knows_0 : decode cX6_knows 0 = .ok (.iload_n 1, 1) := by decide +kernel
theorem dX6_knows_1 : decode cX6_knows 1 = .ok (.ifCond .lt 15, 3) := by decide +kernel
theorem dX6_knows_4 : decode cX6_knows 4 = .ok (.iload_n 1, 1) := by decide +kernel
theorem dX6_knows_5 : decode cX6_knows 5 = .ok (.aload_n 0, 1) := by decide +kernel
theorem dX6_knows_6 : decode cX6_knows 6 = .ok (.getfield 21, 3) := by decide +kernel
theorem dX6_knows_9 : decode cX6_knows 9 = .ok (.if_icmp .ge 7, 3) := by decide +kernel
theorem dX6_knows_12 : decode cX6_knows 12 = .ok (.iconst 1, 1) := by decide +kernel
theorem dX6_knows_13 : decode cX6_knows 13 = .ok (.goto 4, 3) := by decide +kernel
theorem dX6_knows_16 : decode cX6_knows 16 = .ok (.iconst 0, 1) := by decide +kernel
theorem dX6_knows_17 : decode cX6_knows 17 = .ok (.ireturn, 1) := by decide +kernel
theorem dX6_canTake_0 : decode cX6_canTake 0 = .ok (.iload_n 1, 1) := by decide +kernel
theorem dX6_canTake_1 : decode cX6_canTake 1 = .ok (.ifCond .eq 26, 3) := by decide +kernel
theorem dX6_canTake_4 : decode cX6_canTake 4 = .ok (.aload_n 0, 1) := by decide +kernel
theorem dX6_canTake_5 : decode cX6_canTake 5 = .ok (.getfield 25, 3) := by decide +kernel
theorem dX6_canTake_8 : decode cX6_canTake 8 = .ok (.iload_n 1, 1) := by decide +kernel
theorem dX6_canTake_9 : decode cX6_canTake 9 = .ok (.iadd, 1) := by decide +kernel
theorem dX6_canTake_10 : decode cX6_canTake 10 = .ok (.bipush 40, 2) := by decide +kernel
theorem dX6_canTake_12 : decode cX6_canTake 12 = .ok (.if_icmp .gt 19, 3) := by decide +kernel
theorem dX6_canTake_15 : decode cX6_canTake 15 = .ok (.aload_n 0, 1) := by decide +kernel
theorem dX6_canTake_16 : decode cX6_canTake 16 = .ok (.getfield 21, 3) := by decide +kernel
theorem dX6_canTake_19 : decode cX6_canTake 19 = .ok (.iload_n 1, 1) := by decide +kernel
theorem dX6_canTake_20 : decode cX6_canTake 20 = .ok (.iadd, 1) := by decide +kernel
theorem dX6_canTake_21 : decode cX6_canTake 21 = .ok (.sipush 2000, 3) := by decide +kernel
theorem dX6_canTake_24 : decode cX6_canTake 24 = .ok (.if_icmp .gt 7, 3) := by decide +kernel
theorem dX6_canTake_27 : decode cX6_canTake 27 = .ok (.iconst 1, 1) := by decide +kernel
theorem dX6_canTake_28 : decode cX6_canTake 28 = .ok (.goto 4, 3) := by decide +kernel
theorem dX6_canTake_31 : decode cX6_canTake 31 = .ok (.iconst 0, 1) := by decide +kernel
theorem dX6_canTake_32 : decode cX6_canTake 32 = .ok (.ireturn, 1) := by decide +kernel
set_option maxRecDepth 20000 in
theorem ggX6_send_J7_copyOf_59c91 : GoodIn wsX6_send wsJ7_copyOf_59c91 := goodIn_r _ [9, 10, 11, 12, 13, 14, 15, 16, 17, 18, 19, 20, 21, 22, 23, 24] (by decide +kernel) (by decide +kernel)
set_option maxRecDepth 20000 in
theorem gX6_send_J7_copyOf_59c91 : GoodIn wsX6_send (va_wsS RX6 28 yJ7_copyOf_59c91 wsJ7_copyOf_59c91) := goodIn_app (goodIn_of _ (by decide +kernel)) ggX6_send_J7_copyOf_59c91
theorem dX6_send_0 : decode cX6_send 0 = .ok (.aload_n 0, 1) := by decide +kernel
theorem dX6_send_1 : decode cX6_send 1 = .ok (.getfield 21, 3) := by decide +kernel
theorem dX6_send_4 : decode cX6_send 4 = .ok (.aload_n 0, 1) := by decide +kernel
theorem dX6_send_5 : decode cX6_send 5 = .ok (.getfield 11, 3) := by decide +kernel
theorem dX6_send_8 : decode cX6_send 8 = .ok (.arraylength, 1) := by decide +kernel
theorem dX6_send_9 : decode cX6_send 9 = .ok (.if_icmp .lt 37, 3) := by decide +kernel
theorem dX6_send_12 : decode cX6_send 12 = .ok (.aload_n 0, 1) := by decide +kernel
theorem dX6_send_13 : decode cX6_send 13 = .ok (.aload_n 0, 1) := by decide +kernel
theorem dX6_send_14 : decode cX6_send 14 = .ok (.getfield 11, 3) := by decide +kernel
theorem dX6_send_17 : decode cX6_send 17 = .ok (.aload_n 0, 1) := by decide +kernel
theorem dX6_send_18 : decode cX6_send 18 = .ok (.getfield 21, 3) := by decide +kernel
theorem dX6_send_21 : decode cX6_send 21 = .ok (.iconst 2, 1) := by decide +kernel
theorem dX6_send_22 : decode cX6_send 22 = .ok (.imul, 1) := by decide +kernel
theorem dX6_send_23 : decode cX6_send 23 = .ok (.invokestatic 28, 3) := by decide +kernel
theorem dX6_send_26 : decode cX6_send 26 = .ok (.putfield 11, 3) := by decide +kernel
theorem dX6_send_29 : decode cX6_send 29 = .ok (.aload_n 0, 1) := by decide +kernel
theorem dX6_send_30 : decode cX6_send 30 = .ok (.aload_n 0, 1) := by decide +kernel
theorem dX6_send_31 : decode cX6_send 31 = .ok (.getfield 15, 3) := by decide +kernel
theorem dX6_send_34 : decode cX6_send 34 = .ok (.aload_n 0, 1) := by decide +kernel
theorem dX6_send_35 : decode cX6_send 35 = .ok (.getfield 21, 3) := by decide +kernel
theorem dX6_send_38 : decode cX6_send 38 = .ok (.iconst 2, 1) := by decide +kernel
theorem dX6_send_39 : decode cX6_send 39 = .ok (.imul, 1) := by decide +kernel
theorem dX6_send_40 : decode cX6_send 40 = .ok (.invokestatic 28, 3) := by decide +kernel
theorem dX6_send_43 : decode cX6_send 43 = .ok (.putfield 15, 3) := by decide +kernel
theorem dX6_send_46 : decode cX6_send 46 = .ok (.aload_n 0, 1) := by decide +kernel
theorem dX6_send_47 : decode cX6_send 47 = .ok (.getfield 11, 3) := by decide +kernel
theorem dX6_send_50 : decode cX6_send 50 = .ok (.aload_n 0, 1) := by decide +kernel
theorem dX6_send_51 : decode cX6_send 51 = .ok (.getfield 21, 3) := by decide +kernel
theorem dX6_send_54 : decode cX6_send 54 = .ok (.iload_n 1, 1) := by decide +kernel
theorem dX6_send_55 : decode cX6_send 55 = .ok (.bipush 6, 2) := by decide +kernel
theorem dX6_send_57 : decode cX6_send 57 = .ok (.imul, 1) := by decide +kernel
theorem dX6_send_58 : decode cX6_send 58 = .ok (.iload_n 3, 1) := by decide +kernel
theorem dX6_send_59 : decode cX6_send 59 = .ok (.iadd, 1) := by decide +kernel
theorem dX6_send_60 : decode cX6_send 60 = .ok (.bipush 6, 2) := by decide +kernel
theorem dX6_send_62 : decode cX6_send 62 = .ok (.imul, 1) := by decide +kernel
theorem dX6_send_63 : decode cX6_send 63 = .ok (.iload 4, 2) := by decide +kernel
theorem dX6_send_65 : decode cX6_send 65 = .ok (.iadd, 1) := by decide +kernel
theorem dX6_send_66 : decode cX6_send 66 = .ok (.iastore, 1) := by decide +kernel
theorem dX6_send_67 : decode cX6_send 67 = .ok (.aload_n 0, 1) := by decide +kernel
theorem dX6_send_68 : decode cX6_send 68 = .ok (.getfield 15, 3) := by decide +kernel
theorem dX6_send_71 : decode cX6_send 71 = .ok (.aload_n 0, 1) := by decide +kernel
theorem dX6_send_72 : decode cX6_send 72 = .ok (.getfield 21, 3) := by decide +kernel
theorem dX6_send_75 : decode cX6_send 75 = .ok (.iload_n 2, 1) := by decide +kernel
theorem dX6_send_76 : decode cX6_send 76 = .ok (.iastore, 1) := by decide +kernel
theorem dX6_send_77 : decode cX6_send 77 = .ok (.aload_n 0, 1) := by decide +kernel
theorem dX6_send_78 : decode cX6_send 78 = .ok (.getfield 18, 3) := by decide +kernel
theorem dX6_send_81 : decode cX6_send 81 = .ok (.aload_n 0, 1) := by decide +kernel
theorem dX6_send_82 : decode cX6_send 82 = .ok (.getfield 25, 3) := by decide +kernel
theorem dX6_send_85 : decode cX6_send 85 = .ok (.aload_n 0, 1) := by decide +kernel
theorem dX6_send_86 : decode cX6_send 86 = .ok (.getfield 21, 3) := by decide +kernel
theorem dX6_send_89 : decode cX6_send 89 = .ok (.iastore, 1) := by decide +kernel
theorem dX6_send_90 : decode cX6_send 90 = .ok (.aload_n 0, 1) := by decide +kernel
theorem dX6_send_91 : decode cX6_send 91 = .ok (.dup, 1) := by decide +kernel
theorem dX6_send_92 : decode cX6_send 92 = .ok (.getfield 25, 3) := by decide +kernel
theorem dX6_send_95 : decode cX6_send 95 = .ok (.iconst 1, 1) := by decide +kernel
theorem dX6_send_96 : decode cX6_send 96 = .ok (.iadd, 1) := by decide +kernel
theorem dX6_send_97 : decode cX6_send 97 = .ok (.putfield 25, 3) := by decide +kernel
theorem dX6_send_100 : decode cX6_send 100 = .ok (.aload_n 0, 1) := by decide +kernel
theorem dX6_send_101 : decode cX6_send 101 = .ok (.dup, 1) := by decide +kernel
theorem dX6_send_102 : decode cX6_send 102 = .ok (.getfield 21, 3) := by decide +kernel
theorem dX6_send_105 : decode cX6_send 105 = .ok (.iconst 1, 1) := by decide +kernel
theorem dX6_send_106 : decode cX6_send 106 = .ok (.iadd, 1) := by decide +kernel
theorem dX6_send_107 : decode cX6_send 107 = .ok (.putfield 21, 3) := by decide +kernel
theorem dX6_send_110 : decode cX6_send 110 = .ok (.return_, 1) := by decide +kernel
theorem dX6_cellOf_0 : decode cX6_cellOf 0 = .ok (.aload_n 0, 1) := by decide +kernel
theorem dX6_cellOf_1 : decode cX6_cellOf 1 = .ok (.getfield 11, 3) := by decide +kernel
theorem dX6_cellOf_4 : decode cX6_cellOf 4 = .ok (.iload_n 1, 1) := by decide +kernel
theorem dX6_cellOf_5 : decode cX6_cellOf 5 = .ok (.iaload, 1) := by decide +kernel
theorem dX6_cellOf_6 : decode cX6_cellOf 6 = .ok (.bipush 36, 2) := by decide +kernel
theorem dX6_cellOf_8 : decode cX6_cellOf 8 = .ok (.idiv, 1) := by decide +kernel
theorem dX6_cellOf_9 : decode cX6_cellOf 9 = .ok (.ireturn, 1) := by decide +kernel
set_option maxRecDepth 20000 in
theorem ggX6_fact_X6_cellOf : GoodIn wsX6_fact wsX6_cellOf := goodIn_r _ [9, 2, 15, 16, 17, 18, 19] (by decide +kernel) (by decide +kernel)
set_option maxRecDepth 20000 in
theorem gX6_fact_X6_cellOf : GoodIn wsX6_fact (wsV RX6 34 RX6 yX6_cellOf wsX6_cellOf) := goodIn_app (goodIn_of _ (by decide +kernel)) ggX6_fact_X6_cellOf
set_option maxRecDepth 20000 in
theorem ggX6_fact_X6_placeInWaiting : GoodIn wsX6_fact wsX6_placeInWaiting := goodIn_r _ [13, 3, 14, 15, 16, 17, 18, 19] (by decide +kernel) (by decide +kernel)
set_option maxRecDepth 20000 in
theorem gX6_fact_X6_placeInWaiting : GoodIn wsX6_fact (wsV RX6 38 RX6 yX6_placeInWaiting wsX6_placeInWaiting) := goodIn_app (goodIn_of _ (by decide +kernel)) ggX6_fact_X6_placeInWaiting
theorem dX6_fact_0 : decode cX6_fact 0 = .ok (.iload_n 2, 1) := by decide +kernel
theorem dX6_fact_1 : decode cX6_fact 1 = .ok (.tableswitch 105 0 5 #[39, 48, 57, 64, 77, 87], 39) := by decide +kernel
theorem dX6_fact_40 : decode cX6_fact 40 = .ok (.aload_n 0, 1) := by decide +kernel
theorem dX6_fact_41 : decode cX6_fact 41 = .ok (.iload_n 1, 1) := by decide +kernel
theorem dX6_fact_42 : decode cX6_fact 42 = .ok (.invokevirtual 34, 3) := by decide +kernel
theorem dX6_fact_45 : decode cX6_fact 45 = .ok (.bipush 8, 2) := by decide +kernel
theorem dX6_fact_47 : decode cX6_fact 47 = .ok (.idiv, 1) := by decide +kernel
theorem dX6_fact_48 : decode cX6_fact 48 = .ok (.ireturn, 1) := by decide +kernel
theorem dX6_fact_49 : decode cX6_fact 49 = .ok (.aload_n 0, 1) := by decide +kernel
theorem dX6_fact_50 : decode cX6_fact 50 = .ok (.iload_n 1, 1) := by decide +kernel
theorem dX6_fact_51 : decode cX6_fact 51 = .ok (.invokevirtual 34, 3) := by decide +kernel
theorem dX6_fact_54 : decode cX6_fact 54 = .ok (.bipush 8, 2) := by decide +kernel
theorem dX6_fact_56 : decode cX6_fact 56 = .ok (.irem, 1) := by decide +kernel
theorem dX6_fact_57 : decode cX6_fact 57 = .ok (.ireturn, 1) := by decide +kernel
theorem dX6_fact_58 : decode cX6_fact 58 = .ok (.aload_n 0, 1) := by decide +kernel
theorem dX6_fact_59 : decode cX6_fact 59 = .ok (.getfield 15, 3) := by decide +kernel
theorem dX6_fact_62 : decode cX6_fact 62 = .ok (.iload_n 1, 1) := by decide +kernel
theorem dX6_fact_63 : decode cX6_fact 63 = .ok (.iaload, 1) := by decide +kernel
theorem dX6_fact_64 : decode cX6_fact 64 = .ok (.ireturn, 1) := by decide +kernel
theorem dX6_fact_65 : decode cX6_fact 65 = .ok (.aload_n 0, 1) := by decide +kernel
theorem dX6_fact_66 : decode cX6_fact 66 = .ok (.getfield 11, 3) := by decide +kernel
theorem dX6_fact_69 : decode cX6_fact 69 = .ok (.iload_n 1, 1) := by decide +kernel
theorem dX6_fact_70 : decode cX6_fact 70 = .ok (.iaload, 1) := by decide +kernel
theorem dX6_fact_71 : decode cX6_fact 71 = .ok (.bipush 6, 2) := by decide +kernel
theorem dX6_fact_73 : decode cX6_fact 73 = .ok (.idiv, 1) := by decide +kernel
theorem dX6_fact_74 : decode cX6_fact 74 = .ok (.bipush 6, 2) := by decide +kernel
theorem dX6_fact_76 : decode cX6_fact 76 = .ok (.irem, 1) := by decide +kernel
theorem dX6_fact_77 : decode cX6_fact 77 = .ok (.ireturn, 1) := by decide +kernel
theorem dX6_fact_78 : decode cX6_fact 78 = .ok (.aload_n 0, 1) := by decide +kernel
theorem dX6_fact_79 : decode cX6_fact 79 = .ok (.getfield 11, 3) := by decide +kernel
theorem dX6_fact_82 : decode cX6_fact 82 = .ok (.iload_n 1, 1) := by decide +kernel
theorem dX6_fact_83 : decode cX6_fact 83 = .ok (.iaload, 1) := by decide +kernel
theorem dX6_fact_84 : decode cX6_fact 84 = .ok (.bipush 6, 2) := by decide +kernel
theorem dX6_fact_86 : decode cX6_fact 86 = .ok (.irem, 1) := by decide +kernel
theorem dX6_fact_87 : decode cX6_fact 87 = .ok (.ireturn, 1) := by decide +kernel
theorem dX6_fact_88 : decode cX6_fact 88 = .ok (.aload_n 0, 1) := by decide +kernel
theorem dX6_fact_89 : decode cX6_fact 89 = .ok (.iload_n 1, 1) := by decide +kernel
theorem dX6_fact_90 : decode cX6_fact 90 = .ok (.invokevirtual 38, 3) := by decide +kernel
theorem dX6_fact_93 : decode cX6_fact 93 = .ok (.aload_n 0, 1) := by decide +kernel
theorem dX6_fact_94 : decode cX6_fact 94 = .ok (.getfield 25, 3) := by decide +kernel
theorem dX6_fact_97 : decode cX6_fact 97 = .ok (.if_icmp .ge 7, 3) := by decide +kernel
theorem dX6_fact_100 : decode cX6_fact 100 = .ok (.iconst 1, 1) := by decide +kernel
theorem dX6_fact_101 : decode cX6_fact 101 = .ok (.goto 4, 3) := by decide +kernel
theorem dX6_fact_104 : decode cX6_fact 104 = .ok (.iconst 0, 1) := by decide +kernel
theorem dX6_fact_105 : decode cX6_fact 105 = .ok (.ireturn, 1) := by decide +kernel
theorem dX6_fact_106 : decode cX6_fact 106 = .ok (.ldc 41, 2) := by decide +kernel
theorem dX6_fact_108 : decode cX6_fact 108 = .ok (.ireturn, 1) := by decide +kernel
theorem dX6_placeInWaiting_0 : decode cX6_placeInWaiting 0 = .ok (.iconst 0, 1) := by decide +kernel
theorem dX6_placeInWaiting_1 : decode cX6_placeInWaiting 1 = .ok (.istore_n 2, 1) := by decide +kernel
theorem dX6_placeInWaiting_2 : decode cX6_placeInWaiting 2 = .ok (.iload_n 2, 1) := by decide +kernel
theorem dX6_placeInWaiting_3 : decode cX6_placeInWaiting 3 = .ok (.aload_n 0, 1) := by decide +kernel
theorem dX6_placeInWaiting_4 : decode cX6_placeInWaiting 4 = .ok (.getfield 25, 3) := by decide +kernel
theorem dX6_placeInWaiting_7 : decode cX6_placeInWaiting 7 = .ok (.if_icmp .ge 21, 3) := by decide +kernel
theorem dX6_placeInWaiting_10 : decode cX6_placeInWaiting 10 = .ok (.aload_n 0, 1) := by decide +kernel
theorem dX6_placeInWaiting_11 : decode cX6_placeInWaiting 11 = .ok (.getfield 18, 3) := by decide +kernel
theorem dX6_placeInWaiting_14 : decode cX6_placeInWaiting 14 = .ok (.iload_n 2, 1) := by decide +kernel
theorem dX6_placeInWaiting_15 : decode cX6_placeInWaiting 15 = .ok (.iaload, 1) := by decide +kernel
theorem dX6_placeInWaiting_16 : decode cX6_placeInWaiting 16 = .ok (.iload_n 1, 1) := by decide +kernel
theorem dX6_placeInWaiting_17 : decode cX6_placeInWaiting 17 = .ok (.if_icmp .ne 5, 3) := by decide +kernel
theorem dX6_placeInWaiting_20 : decode cX6_placeInWaiting 20 = .ok (.iload_n 2, 1) := by decide +kernel
theorem dX6_placeInWaiting_21 : decode cX6_placeInWaiting 21 = .ok (.ireturn, 1) := by decide +kernel
theorem dX6_placeInWaiting_22 : decode cX6_placeInWaiting 22 = .ok (.iinc 2 1, 3) := by decide +kernel
theorem dX6_placeInWaiting_25 : decode cX6_placeInWaiting 25 = .ok (.goto (-23), 3) := by decide +kernel
theorem dX6_placeInWaiting_28 : decode cX6_placeInWaiting 28 = .ok (.aload_n 0, 1) := by decide +kernel
theorem dX6_placeInWaiting_29 : decode cX6_placeInWaiting 29 = .ok (.getfield 25, 3) := by decide +kernel
theorem dX6_placeInWaiting_32 : decode cX6_placeInWaiting 32 = .ok (.ireturn, 1) := by decide +kernel
set_option maxRecDepth 20000 in
theorem ggX6_arrive_X6_placeInWaiting : GoodIn wsX6_arrive wsX6_placeInWaiting := goodIn_r _ [8, 1, 3, 14, 15, 16, 17, 18] (by decide +kernel) (by decide +kernel)
set_option maxRecDepth 20000 in
theorem gX6_arrive_X6_placeInWaiting : GoodIn wsX6_arrive (wsV RX6 38 RX6 yX6_placeInWaiting wsX6_placeInWaiting) := goodIn_app (goodIn_of _ (by decide +kernel)) ggX6_arrive_X6_placeInWaiting
set_option maxRecDepth 20000 in
theorem ggX6_arrive_X6_cellOf : GoodIn wsX6_arrive wsX6_cellOf := goodIn_r _ [12, 13, 14, 15, 16, 17, 18] (by decide +kernel) (by decide +kernel)
set_option maxRecDepth 20000 in
theorem gX6_arrive_X6_cellOf : GoodIn wsX6_arrive (wsV RX6 34 RX6 yX6_cellOf wsX6_cellOf) := goodIn_app (goodIn_of _ (by decide +kernel)) ggX6_arrive_X6_cellOf
theorem dX6_arrive_0 : decode cX6_arrive 0 = .ok (.aload_n 0, 1) := by decide +kernel
theorem dX6_arrive_1 : decode cX6_arrive 1 = .ok (.iload_n 1, 1) := by decide +kernel
theorem dX6_arrive_2 : decode cX6_arrive 2 = .ok (.invokevirtual 38, 3) := by decide +kernel
theorem dX6_arrive_5 : decode cX6_arrive 5 = .ok (.istore_n 3, 1) := by decide +kernel
theorem dX6_arrive_6 : decode cX6_arrive 6 = .ok (.iload_n 3, 1) := by decide +kernel
theorem dX6_arrive_7 : decode cX6_arrive 7 = .ok (.aload_n 0, 1) := by decide +kernel
theorem dX6_arrive_8 : decode cX6_arrive 8 = .ok (.getfield 25, 3) := by decide +kernel
theorem dX6_arrive_11 : decode cX6_arrive 11 = .ok (.if_icmp .lt 5, 3) := by decide +kernel
theorem dX6_arrive_14 : decode cX6_arrive 14 = .ok (.iconst 0, 1) := by decide +kernel
theorem dX6_arrive_15 : decode cX6_arrive 15 = .ok (.ireturn, 1) := by decide +kernel
theorem dX6_arrive_16 : decode cX6_arrive 16 = .ok (.aload_n 2, 1) := by decide +kernel
theorem dX6_arrive_17 : decode cX6_arrive 17 = .ok (.aload_n 0, 1) := by decide +kernel
theorem dX6_arrive_18 : decode cX6_arrive 18 = .ok (.iload_n 1, 1) := by decide +kernel
theorem dX6_arrive_19 : decode cX6_arrive 19 = .ok (.invokevirtual 34, 3) := by decide +kernel
theorem dX6_arrive_22 : decode cX6_arrive 22 = .ok (.aload_n 0, 1) := by decide +kernel
theorem dX6_arrive_23 : decode cX6_arrive 23 = .ok (.getfield 15, 3) := by decide +kernel
theorem dX6_arrive_26 : decode cX6_arrive 26 = .ok (.iload_n 1, 1) := by decide +kernel
theorem dX6_arrive_27 : decode cX6_arrive 27 = .ok (.iaload, 1) := by decide +kernel
theorem dX6_arrive_28 : decode cX6_arrive 28 = .ok (.iastore, 1) := by decide +kernel
theorem dX6_arrive_29 : decode cX6_arrive 29 = .ok (.aload_n 0, 1) := by decide +kernel
theorem dX6_arrive_30 : decode cX6_arrive 30 = .ok (.dup, 1) := by decide +kernel
theorem dX6_arrive_31 : decode cX6_arrive 31 = .ok (.getfield 25, 3) := by decide +kernel
theorem dX6_arrive_34 : decode cX6_arrive 34 = .ok (.iconst 1, 1) := by decide +kernel
theorem dX6_arrive_35 : decode cX6_arrive 35 = .ok (.isub, 1) := by decide +kernel
theorem dX6_arrive_36 : decode cX6_arrive 36 = .ok (.putfield 25, 3) := by decide +kernel
theorem dX6_arrive_39 : decode cX6_arrive 39 = .ok (.iload_n 3, 1) := by decide +kernel
theorem dX6_arrive_40 : decode cX6_arrive 40 = .ok (.istore 4, 2) := by decide +kernel
theorem dX6_arrive_42 : decode cX6_arrive 42 = .ok (.iload 4, 2) := by decide +kernel
theorem dX6_arrive_44 : decode cX6_arrive 44 = .ok (.aload_n 0, 1) := by decide +kernel
theorem dX6_arrive_45 : decode cX6_arrive 45 = .ok (.getfield 25, 3) := by decide +kernel
theorem dX6_arrive_48 : decode cX6_arrive 48 = .ok (.if_icmp .ge 25, 3) := by decide +kernel
theorem dX6_arrive_51 : decode cX6_arrive 51 = .ok (.aload_n 0, 1) := by decide +kernel
theorem dX6_arrive_52 : decode cX6_arrive 52 = .ok (.getfield 18, 3) := by decide +kernel
theorem dX6_arrive_55 : decode cX6_arrive 55 = .ok (.iload 4, 2) := by decide +kernel
theorem dX6_arrive_57 : decode cX6_arrive 57 = .ok (.aload_n 0, 1) := by decide +kernel
theorem dX6_arrive_58 : decode cX6_arrive 58 = .ok (.getfield 18, 3) := by decide +kernel
theorem dX6_arrive_61 : decode cX6_arrive 61 = .ok (.iload 4, 2) := by decide +kernel
theorem dX6_arrive_63 : decode cX6_arrive 63 = .ok (.iconst 1, 1) := by decide +kernel
theorem dX6_arrive_64 : decode cX6_arrive 64 = .ok (.iadd, 1) := by decide +kernel
theorem dX6_arrive_65 : decode cX6_arrive 65 = .ok (.iaload, 1) := by decide +kernel
theorem dX6_arrive_66 : decode cX6_arrive 66 = .ok (.iastore, 1) := by decide +kernel
theorem dX6_arrive_67 : decode cX6_arrive 67 = .ok (.iinc 4 1, 3) := by decide +kernel
theorem dX6_arrive_70 : decode cX6_arrive 70 = .ok (.goto (-28), 3) := by decide +kernel
theorem dX6_arrive_73 : decode cX6_arrive 73 = .ok (.iconst 1, 1) := by decide +kernel
theorem dX6_arrive_74 : decode cX6_arrive 74 = .ok (.ireturn, 1) := by decide +kernel
set_option maxRecDepth 20000 in
theorem ggX6_arriveAll_X6_cellOf : GoodIn wsX6_arriveAll wsX6_cellOf := goodIn_r _ [8, 9, 10, 11, 12, 13, 14] (by decide +kernel) (by decide +kernel)
set_option maxRecDepth 20000 in
theorem gX6_arriveAll_X6_cellOf : GoodIn wsX6_arriveAll (wsV RX6 34 RX6 yX6_cellOf wsX6_cellOf) := goodIn_app (goodIn_of _ (by decide +kernel)) ggX6_arriveAll_X6_cellOf
theorem dX6_arriveAll_0 : decode cX6_arriveAll 0 = .ok (.aload_n 0, 1) := by decide +kernel
theorem dX6_arriveAll_1 : decode cX6_arriveAll 1 = .ok (.getfield 25, 3) := by decide +kernel
theorem dX6_arriveAll_4 : decode cX6_arriveAll 4 = .ok (.istore_n 2, 1) := by decide +kernel
theorem dX6_arriveAll_5 : decode cX6_arriveAll 5 = .ok (.iconst 0, 1) := by decide +kernel
theorem dX6_arriveAll_6 : decode cX6_arriveAll 6 = .ok (.istore_n 3, 1) := by decide +kernel
theorem dX6_arriveAll_7 : decode cX6_arriveAll 7 = .ok (.iload_n 3, 1) := by decide +kernel
theorem dX6_arriveAll_8 : decode cX6_arriveAll 8 = .ok (.iload_n 2, 1) := by decide +kernel
theorem dX6_arriveAll_9 : decode cX6_arriveAll 9 = .ok (.if_icmp .ge 32, 3) := by decide +kernel
theorem dX6_arriveAll_12 : decode cX6_arriveAll 12 = .ok (.aload_n 1, 1) := by decide +kernel
theorem dX6_arriveAll_13 : decode cX6_arriveAll 13 = .ok (.aload_n 0, 1) := by decide +kernel
theorem dX6_arriveAll_14 : decode cX6_arriveAll 14 = .ok (.aload_n 0, 1) := by decide +kernel
theorem dX6_arriveAll_15 : decode cX6_arriveAll 15 = .ok (.getfield 18, 3) := by decide +kernel
theorem dX6_arriveAll_18 : decode cX6_arriveAll 18 = .ok (.iload_n 3, 1) := by decide +kernel
theorem dX6_arriveAll_19 : decode cX6_arriveAll 19 = .ok (.iaload, 1) := by decide +kernel
theorem dX6_arriveAll_20 : decode cX6_arriveAll 20 = .ok (.invokevirtual 34, 3) := by decide +kernel
theorem dX6_arriveAll_23 : decode cX6_arriveAll 23 = .ok (.aload_n 0, 1) := by decide +kernel
theorem dX6_arriveAll_24 : decode cX6_arriveAll 24 = .ok (.getfield 15, 3) := by decide +kernel
theorem dX6_arriveAll_27 : decode cX6_arriveAll 27 = .ok (.aload_n 0, 1) := by decide +kernel
theorem dX6_arriveAll_28 : decode cX6_arriveAll 28 = .ok (.getfield 18, 3) := by decide +kernel
theorem dX6_arriveAll_31 : decode cX6_arriveAll 31 = .ok (.iload_n 3, 1) := by decide +kernel
theorem dX6_arriveAll_32 : decode cX6_arriveAll 32 = .ok (.iaload, 1) := by decide +kernel
theorem dX6_arriveAll_33 : decode cX6_arriveAll 33 = .ok (.iaload, 1) := by decide +kernel
theorem dX6_arriveAll_34 : decode cX6_arriveAll 34 = .ok (.iastore, 1) := by decide +kernel
theorem dX6_arriveAll_35 : decode cX6_arriveAll 35 = .ok (.iinc 3 1, 3) := by decide +kernel
theorem dX6_arriveAll_38 : decode cX6_arriveAll 38 = .ok (.goto (-31), 3) := by decide +kernel
theorem dX6_arriveAll_41 : decode cX6_arriveAll 41 = .ok (.aload_n 0, 1) := by decide +kernel
theorem dX6_arriveAll_42 : decode cX6_arriveAll 42 = .ok (.iconst 0, 1) := by decide +kernel
theorem dX6_arriveAll_43 : decode cX6_arriveAll 43 = .ok (.putfield 25, 3) := by decide +kernel
theorem dX6_arriveAll_46 : decode cX6_arriveAll 46 = .ok (.iload_n 2, 1) := by decide +kernel
theorem dX6_arriveAll_47 : decode cX6_arriveAll 47 = .ok (.ireturn, 1) := by decide +kernel
theorem dX6_become_0 : decode cX6_become 0 = .ok (.aload_n 0, 1) := by decide +kernel
theorem dX6_become_1 : decode cX6_become 1 = .ok (.getfield 11, 3) := by decide +kernel
theorem dX6_become_4 : decode cX6_become 4 = .ok (.arraylength, 1) := by decide +kernel
theorem dX6_become_5 : decode cX6_become 5 = .ok (.aload_n 1, 1) := by decide +kernel
theorem dX6_become_6 : decode cX6_become 6 = .ok (.getfield 21, 3) := by decide +kernel
theorem dX6_become_9 : decode cX6_become 9 = .ok (.if_icmp .ge 25, 3) := by decide +kernel
theorem dX6_become_12 : decode cX6_become 12 = .ok (.aload_n 0, 1) := by decide +kernel
theorem dX6_become_13 : decode cX6_become 13 = .ok (.aload_n 1, 1) := by decide +kernel
theorem dX6_become_14 : decode cX6_become 14 = .ok (.getfield 11, 3) := by decide +kernel
theorem dX6_become_17 : decode cX6_become 17 = .ok (.arraylength, 1) := by decide +kernel
theorem dX6_become_18 : decode cX6_become 18 = .ok (.newarray .int, 2) := by decide +kernel
theorem dX6_become_20 : decode cX6_become 20 = .ok (.putfield 11, 3) := by decide +kernel
theorem dX6_become_23 : decode cX6_become 23 = .ok (.aload_n 0, 1) := by decide +kernel
theorem dX6_become_24 : decode cX6_become 24 = .ok (.aload_n 1, 1) := by decide +kernel
theorem dX6_become_25 : decode cX6_become 25 = .ok (.getfield 11, 3) := by decide +kernel
theorem dX6_become_28 : decode cX6_become 28 = .ok (.arraylength, 1) := by decide +kernel
theorem dX6_become_29 : decode cX6_become 29 = .ok (.newarray .int, 2) := by decide +kernel
theorem dX6_become_31 : decode cX6_become 31 = .ok (.putfield 15, 3) := by decide +kernel
theorem dX6_become_34 : decode cX6_become 34 = .ok (.aload_n 1, 1) := by decide +kernel
theorem dX6_become_35 : decode cX6_become 35 = .ok (.getfield 11, 3) := by decide +kernel
theorem dX6_become_38 : decode cX6_become 38 = .ok (.iconst 0, 1) := by decide +kernel
theorem dX6_become_39 : decode cX6_become 39 = .ok (.aload_n 0, 1) := by decide +kernel
theorem dX6_become_40 : decode cX6_become 40 = .ok (.getfield 11, 3) := by decide +kernel
theorem dX6_become_43 : decode cX6_become 43 = .ok (.iconst 0, 1) := by decide +kernel
theorem dX6_become_44 : decode cX6_become 44 = .ok (.aload_n 1, 1) := by decide +kernel
theorem dX6_become_45 : decode cX6_become 45 = .ok (.getfield 21, 3) := by decide +kernel
theorem dX6_become_48 : decode cX6_become 48 = .ok (.invokestatic 42, 3) := by decide +kernel
theorem dX6_become_51 : decode cX6_become 51 = .ok (.aload_n 1, 1) := by decide +kernel
theorem dX6_become_52 : decode cX6_become 52 = .ok (.getfield 15, 3) := by decide +kernel
theorem dX6_become_55 : decode cX6_become 55 = .ok (.iconst 0, 1) := by decide +kernel
theorem dX6_become_56 : decode cX6_become 56 = .ok (.aload_n 0, 1) := by decide +kernel
theorem dX6_become_57 : decode cX6_become 57 = .ok (.getfield 15, 3) := by decide +kernel
theorem dX6_become_60 : decode cX6_become 60 = .ok (.iconst 0, 1) := by decide +kernel
theorem dX6_become_61 : decode cX6_become 61 = .ok (.aload_n 1, 1) := by decide +kernel
theorem dX6_become_62 : decode cX6_become 62 = .ok (.getfield 21, 3) := by decide +kernel
theorem dX6_become_65 : decode cX6_become 65 = .ok (.invokestatic 42, 3) := by decide +kernel
theorem dX6_become_68 : decode cX6_become 68 = .ok (.aload_n 1, 1) := by decide +kernel
theorem dX6_become_69 : decode cX6_become 69 = .ok (.getfield 18, 3) := by decide +kernel
theorem dX6_become_72 : decode cX6_become 72 = .ok (.iconst 0, 1) := by decide +kernel
theorem dX6_become_73 : decode cX6_become 73 = .ok (.aload_n 0, 1) := by decide +kernel
theorem dX6_become_74 : decode cX6_become 74 = .ok (.getfield 18, 3) := by decide +kernel
theorem dX6_become_77 : decode cX6_become 77 = .ok (.iconst 0, 1) := by decide +kernel
theorem dX6_become_78 : decode cX6_become 78 = .ok (.aload_n 1, 1) := by decide +kernel
theorem dX6_become_79 : decode cX6_become 79 = .ok (.getfield 25, 3) := by decide +kernel
theorem dX6_become_82 : decode cX6_become 82 = .ok (.invokestatic 42, 3) := by decide +kernel
theorem dX6_become_85 : decode cX6_become 85 = .ok (.aload_n 0, 1) := by decide +kernel
theorem dX6_become_86 : decode cX6_become 86 = .ok (.aload_n 1, 1) := by decide +kernel
theorem dX6_become_87 : decode cX6_become 87 = .ok (.getfield 21, 3) := by decide +kernel
theorem dX6_become_90 : decode cX6_become 90 = .ok (.putfield 21, 3) := by decide +kernel
theorem dX6_become_93 : decode cX6_become 93 = .ok (.aload_n 0, 1) := by decide +kernel
theorem dX6_become_94 : decode cX6_become 94 = .ok (.aload_n 1, 1) := by decide +kernel
theorem dX6_become_95 : decode cX6_become 95 = .ok (.getfield 25, 3) := by decide +kernel
theorem dX6_become_98 : decode cX6_become 98 = .ok (.putfield 25, 3) := by decide +kernel
theorem dX6_become_101 : decode cX6_become 101 = .ok (.return_, 1) := by decide +kernel
theorem dX7_init_0 : decode cX7_init 0 = .ok (.aload_n 0, 1) := by decide +kernel
theorem dX7_init_1 : decode cX7_init 1 = .ok (.invokespecial 3, 3) := by decide +kernel
theorem dX7_init_4 : decode cX7_init 4 = .ok (.aload_n 0, 1) := by decide +kernel
theorem dX7_init_5 : decode cX7_init 5 = .ok (.bipush 100, 2) := by decide +kernel
theorem dX7_init_7 : decode cX7_init 7 = .ok (.newarray .long, 2) := by decide +kernel
theorem dX7_init_9 : decode cX7_init 9 = .ok (.putfield 9, 3) := by decide +kernel
theorem dX7_init_12 : decode cX7_init 12 = .ok (.aload_n 0, 1) := by decide +kernel
theorem dX7_init_13 : decode cX7_init 13 = .ok (.aload_n 1, 1) := by decide +kernel
theorem dX7_init_14 : decode cX7_init 14 = .ok (.putfield 15, 3) := by decide +kernel
theorem dX7_init_17 : decode cX7_init 17 = .ok (.aload_n 0, 1) := by decide +kernel
theorem dX7_init_18 : decode cX7_init 18 = .ok (.aload_n 2, 1) := by decide +kernel
theorem dX7_init_19 : decode cX7_init 19 = .ok (.getfield 19, 3) := by decide +kernel
theorem dX7_init_22 : decode cX7_init 22 = .ok (.putfield 25, 3) := by decide +kernel
theorem dX7_init_25 : decode cX7_init 25 = .ok (.aload_n 0, 1) := by decide +kernel
theorem dX7_init_26 : decode cX7_init 26 = .ok (.aload_n 2, 1) := by decide +kernel
theorem dX7_init_27 : decode cX7_init 27 = .ok (.getfield 26, 3) := by decide +kernel
theorem dX7_init_30 : decode cX7_init 30 = .ok (.putfield 30, 3) := by decide +kernel
theorem dX7_init_33 : decode cX7_init 33 = .ok (.return_, 1) := by decide +kernel
set_option maxRecDepth 20000 in
theorem ggX7_prepare_J7_fill_d0a16 : GoodIn wsX7_prepare wsJ7_fill_d0a16 := goodIn_r _ [11] (by decide +kernel) (by decide +kernel)
set_option maxRecDepth 20000 in
theorem gX7_prepare_J7_fill_d0a16 : GoodIn wsX7_prepare (va_wsS RX7 35 yJ7_fill_d0a16 wsJ7_fill_d0a16) := goodIn_app (goodIn_of _ (by decide +kernel)) ggX7_prepare_J7_fill_d0a16
set_option maxRecDepth 20000 in
theorem ggX7_prepare_X10_tiePlace : GoodIn wsX7_prepare wsX10_tiePlace := goodIn_r _ [14] (by decide +kernel) (by decide +kernel)
set_option maxRecDepth 20000 in
theorem gX7_prepare_X10_tiePlace_n47 : GoodIn wsX7_prepare (wsX10_tiePlace) := ggX7_prepare_X10_tiePlace
set_option maxRecDepth 20000 in
theorem ggX7_prepare_X7_addToPair : GoodIn wsX7_prepare wsX7_addToPair := goodIn_r _ [19, 2, 20, 21, 22, 23, 24] (by decide +kernel) (by decide +kernel)
set_option maxRecDepth 20000 in
theorem gX7_prepare_X7_addToPair : GoodIn wsX7_prepare (wsV RX7 51 RX7 yX7_addToPair wsX7_addToPair) := goodIn_app (goodIn_of _ (by decide +kernel)) ggX7_prepare_X7_addToPair
theorem dX7_prepare_0 : decode cX7_prepare 0 = .ok (.aload_n 0, 1) := by decide +kernel
theorem dX7_prepare_1 : decode cX7_prepare 1 = .ok (.aload_n 1, 1) := by decide +kernel
theorem dX7_prepare_2 : decode cX7_prepare 2 = .ok (.iconst 3, 1) := by decide +kernel
theorem dX7_prepare_3 : decode cX7_prepare 3 = .ok (.iaload, 1) := by decide +kernel
theorem dX7_prepare_4 : decode cX7_prepare 4 = .ok (.i2l, 1) := by decide +kernel
theorem dX7_prepare_5 : decode cX7_prepare 5 = .ok (.putfield 31, 3) := by decide +kernel
theorem dX7_prepare_8 : decode cX7_prepare 8 = .ok (.aload_n 0, 1) := by decide +kernel
theorem dX7_prepare_9 : decode cX7_prepare 9 = .ok (.getfield 9, 3) := by decide +kernel
theorem dX7_prepare_12 : decode cX7_prepare 12 = .ok (.lconst 0, 1) := by decide +kernel
theorem dX7_prepare_13 : decode cX7_prepare 13 = .ok (.invokestatic 35, 3) := by decide +kernel
theorem dX7_prepare_16 : decode cX7_prepare 16 = .ok (.iconst 0, 1) := by decide +kernel
theorem dX7_prepare_17 : decode cX7_prepare 17 = .ok (.istore_n 2, 1) := by decide +kernel
theorem dX7_prepare_18 : decode cX7_prepare 18 = .ok (.iload_n 2, 1) := by decide +kernel
theorem dX7_prepare_19 : decode cX7_prepare 19 = .ok (.aload_n 0, 1) := by decide +kernel
theorem dX7_prepare_20 : decode cX7_prepare 20 = .ok (.getfield 15, 3) := by decide +kernel
theorem dX7_prepare_23 : decode cX7_prepare 23 = .ok (.getfield 41, 3) := by decide +kernel
theorem dX7_prepare_26 : decode cX7_prepare 26 = .ok (.if_icmp .ge 127, 3) := by decide +kernel
theorem dX7_prepare_29 : decode cX7_prepare 29 = .ok (.iconst 0, 1) := by decide +kernel
theorem dX7_prepare_30 : decode cX7_prepare 30 = .ok (.istore_n 3, 1) := by decide +kernel
theorem dX7_prepare_31 : decode cX7_prepare 31 = .ok (.iload_n 3, 1) := by decide +kernel
theorem dX7_prepare_32 : decode cX7_prepare 32 = .ok (.aload_n 0, 1) := by decide +kernel
theorem dX7_prepare_33 : decode cX7_prepare 33 = .ok (.getfield 15, 3) := by decide +kernel
theorem dX7_prepare_36 : decode cX7_prepare 36 = .ok (.getfield 41, 3) := by decide +kernel
theorem dX7_prepare_39 : decode cX7_prepare 39 = .ok (.if_icmp .ge 32, 3) := by decide +kernel
theorem dX7_prepare_42 : decode cX7_prepare 42 = .ok (.aload_n 0, 1) := by decide +kernel
theorem dX7_prepare_43 : decode cX7_prepare 43 = .ok (.iload_n 2, 1) := by decide +kernel
theorem dX7_prepare_44 : decode cX7_prepare 44 = .ok (.iload_n 3, 1) := by decide +kernel
theorem dX7_prepare_45 : decode cX7_prepare 45 = .ok (.aload_n 0, 1) := by decide +kernel
theorem dX7_prepare_46 : decode cX7_prepare 46 = .ok (.getfield 25, 3) := by decide +kernel
theorem dX7_prepare_49 : decode cX7_prepare 49 = .ok (.iconst 0, 1) := by decide +kernel
theorem dX7_prepare_50 : decode cX7_prepare 50 = .ok (.iload_n 2, 1) := by decide +kernel
theorem dX7_prepare_51 : decode cX7_prepare 51 = .ok (.iload_n 3, 1) := by decide +kernel
theorem dX7_prepare_52 : decode cX7_prepare 52 = .ok (.invokestatic 47, 3) := by decide +kernel
theorem dX7_prepare_55 : decode cX7_prepare 55 = .ok (.iaload, 1) := by decide +kernel
theorem dX7_prepare_56 : decode cX7_prepare 56 = .ok (.i2l, 1) := by decide +kernel
theorem dX7_prepare_57 : decode cX7_prepare 57 = .ok (.aload_n 1, 1) := by decide +kernel
theorem dX7_prepare_58 : decode cX7_prepare 58 = .ok (.iconst 0, 1) := by decide +kernel
theorem dX7_prepare_59 : decode cX7_prepare 59 = .ok (.iaload, 1) := by decide +kernel
theorem dX7_prepare_60 : decode cX7_prepare 60 = .ok (.i2l, 1) := by decide +kernel
theorem dX7_prepare_61 : decode cX7_prepare 61 = .ok (.lmul, 1) := by decide +kernel
theorem dX7_prepare_62 : decode cX7_prepare 62 = .ok (.invokevirtual 51, 3) := by decide +kernel
theorem dX7_prepare_65 : decode cX7_prepare 65 = .ok (.iinc 3 1, 3) := by decide +kernel
theorem dX7_prepare_68 : decode cX7_prepare 68 = .ok (.goto (-37), 3) := by decide +kernel
theorem dX7_prepare_71 : decode cX7_prepare 71 = .ok (.iconst 0, 1) := by decide +kernel
theorem dX7_prepare_72 : decode cX7_prepare 72 = .ok (.istore_n 3, 1) := by decide +kernel
theorem dX7_prepare_73 : decode cX7_prepare 73 = .ok (.iload_n 3, 1) := by decide +kernel
theorem dX7_prepare_74 : decode cX7_prepare 74 = .ok (.aload_n 0, 1) := by decide +kernel
theorem dX7_prepare_75 : decode cX7_prepare 75 = .ok (.getfield 15, 3) := by decide +kernel
theorem dX7_prepare_78 : decode cX7_prepare 78 = .ok (.getfield 55, 3) := by decide +kernel
theorem dX7_prepare_81 : decode cX7_prepare 81 = .ok (.if_icmp .ge 66, 3) := by decide +kernel
theorem dX7_prepare_84 : decode cX7_prepare 84 = .ok (.aload_n 0, 1) := by decide +kernel
theorem dX7_prepare_85 : decode cX7_prepare 85 = .ok (.getfield 25, 3) := by decide +kernel
theorem dX7_prepare_88 : decode cX7_prepare 88 = .ok (.iconst 1, 1) := by decide +kernel
theorem dX7_prepare_89 : decode cX7_prepare 89 = .ok (.iload_n 2, 1) := by decide +kernel
theorem dX7_prepare_90 : decode cX7_prepare 90 = .ok (.iload_n 3, 1) := by decide +kernel
theorem dX7_prepare_91 : decode cX7_prepare 91 = .ok (.invokestatic 47, 3) := by decide +kernel
theorem dX7_prepare_94 : decode cX7_prepare 94 = .ok (.iaload, 1) := by decide +kernel
theorem dX7_prepare_95 : decode cX7_prepare 95 = .ok (.i2l, 1) := by decide +kernel
theorem dX7_prepare_96 : decode cX7_prepare 96 = .ok (.aload_n 1, 1) := by decide +kernel
theorem dX7_prepare_97 : decode cX7_prepare 97 = .ok (.iconst 1, 1) := by decide +kernel
theorem dX7_prepare_98 : decode cX7_prepare 98 = .ok (.iaload, 1) := by decide +kernel
theorem dX7_prepare_99 : decode cX7_prepare 99 = .ok (.i2l, 1) := by decide +kernel
theorem dX7_prepare_100 : decode cX7_prepare 100 = .ok (.lmul, 1) := by decide +kernel
theorem dX7_prepare_101 : decode cX7_prepare 101 = .ok (.lstore 4, 2) := by decide +kernel
theorem dX7_prepare_103 : decode cX7_prepare 103 = .ok (.aload_n 0, 1) := by decide +kernel
theorem dX7_prepare_104 : decode cX7_prepare 104 = .ok (.getfield 25, 3) := by decide +kernel
theorem dX7_prepare_107 : decode cX7_prepare 107 = .ok (.iconst 2, 1) := by decide +kernel
theorem dX7_prepare_108 : decode cX7_prepare 108 = .ok (.iload_n 2, 1) := by decide +kernel
theorem dX7_prepare_109 : decode cX7_prepare 109 = .ok (.iload_n 3, 1) := by decide +kernel
theorem dX7_prepare_110 : decode cX7_prepare 110 = .ok (.invokestatic 47, 3) := by decide +kernel
theorem dX7_prepare_113 : decode cX7_prepare 113 = .ok (.iaload, 1) := by decide +kernel
theorem dX7_prepare_114 : decode cX7_prepare 114 = .ok (.i2l, 1) := by decide +kernel
theorem dX7_prepare_115 : decode cX7_prepare 115 = .ok (.aload_n 1, 1) := by decide +kernel
theorem dX7_prepare_116 : decode cX7_prepare 116 = .ok (.iconst 2, 1) := by decide +kernel
theorem dX7_prepare_117 : decode cX7_prepare 117 = .ok (.iaload, 1) := by decide +kernel
theorem dX7_prepare_118 : decode cX7_prepare 118 = .ok (.i2l, 1) := by decide +kernel
theorem dX7_prepare_119 : decode cX7_prepare 119 = .ok (.lmul, 1) := by decide +kernel
theorem dX7_prepare_120 : decode cX7_prepare 120 = .ok (.lstore 6, 2) := by decide +kernel
theorem dX7_prepare_122 : decode cX7_prepare 122 = .ok (.aload_n 0, 1) := by decide +kernel
theorem dX7_prepare_123 : decode cX7_prepare 123 = .ok (.iload_n 2, 1) := by decide +kernel
theorem dX7_prepare_124 : decode cX7_prepare 124 = .ok (.aload_n 0, 1) := by decide +kernel
theorem dX7_prepare_125 : decode cX7_prepare 125 = .ok (.getfield 15, 3) := by decide +kernel
theorem dX7_prepare_128 : decode cX7_prepare 128 = .ok (.getfield 58, 3) := by decide +kernel
theorem dX7_prepare_131 : decode cX7_prepare 131 = .ok (.iload_n 3, 1) := by decide +kernel
theorem dX7_prepare_132 : decode cX7_prepare 132 = .ok (.iaload, 1) := by decide +kernel
theorem dX7_prepare_133 : decode cX7_prepare 133 = .ok (.lload 4, 2) := by decide +kernel
theorem dX7_prepare_135 : decode cX7_prepare 135 = .ok (.lload 6, 2) := by decide +kernel
theorem dX7_prepare_137 : decode cX7_prepare 137 = .ok (.ladd, 1) := by decide +kernel
theorem dX7_prepare_138 : decode cX7_prepare 138 = .ok (.invokevirtual 51, 3) := by decide +kernel
theorem dX7_prepare_141 : decode cX7_prepare 141 = .ok (.iinc 3 1, 3) := by decide +kernel
theorem dX7_prepare_144 : decode cX7_prepare 144 = .ok (.goto (-71), 3) := by decide +kernel
theorem dX7_prepare_147 : decode cX7_prepare 147 = .ok (.iinc 2 1, 3) := by decide +kernel
theorem dX7_prepare_150 : decode cX7_prepare 150 = .ok (.goto (-132), 3) := by decide +kernel
theorem dX7_prepare_153 : decode cX7_prepare 153 = .ok (.return_, 1) := by decide +kernel
theorem dX7_addToPair_0 : decode cX7_addToPair 0 = .ok (.iload_n 1, 1) := by decide +kernel
theorem dX7_addToPair_1 : decode cX7_addToPair 1 = .ok (.iload_n 2, 1) := by decide +kernel
theorem dX7_addToPair_2 : decode cX7_addToPair 2 = .ok (.if_icmp .eq 33, 3) := by decide +kernel
theorem dX7_addToPair_5 : decode cX7_addToPair 5 = .ok (.aload_n 0, 1) := by decide +kernel
theorem dX7_addToPair_6 : decode cX7_addToPair 6 = .ok (.getfield 9, 3) := by decide +kernel
theorem dX7_addToPair_9 : decode cX7_addToPair 9 = .ok (.iload_n 1, 1) := by decide +kernel
theorem dX7_addToPair_10 : decode cX7_addToPair 10 = .ok (.bipush 10, 2) := by decide +kernel
theorem dX7_addToPair_12 : decode cX7_addToPair 12 = .ok (.imul, 1) := by decide +kernel
theorem dX7_addToPair_13 : decode cX7_addToPair 13 = .ok (.iload_n 2, 1) := by decide +kernel
theorem dX7_addToPair_14 : decode cX7_addToPair 14 = .ok (.iadd, 1) := by decide +kernel
theorem dX7_addToPair_15 : decode cX7_addToPair 15 = .ok (.dup2, 1) := by decide +kernel
theorem dX7_addToPair_16 : decode cX7_addToPair 16 = .ok (.laload, 1) := by decide +kernel
theorem dX7_addToPair_17 : decode cX7_addToPair 17 = .ok (.lload_n 3, 1) := by decide +kernel
theorem dX7_addToPair_18 : decode cX7_addToPair 18 = .ok (.ladd, 1) := by decide +kernel
theorem dX7_addToPair_19 : decode cX7_addToPair 19 = .ok (.lastore, 1) := by decide +kernel
theorem dX7_addToPair_20 : decode cX7_addToPair 20 = .ok (.aload_n 0, 1) := by decide +kernel
theorem dX7_addToPair_21 : decode cX7_addToPair 21 = .ok (.getfield 9, 3) := by decide +kernel
theorem dX7_addToPair_24 : decode cX7_addToPair 24 = .ok (.iload_n 2, 1) := by decide +kernel
theorem dX7_addToPair_25 : decode cX7_addToPair 25 = .ok (.bipush 10, 2) := by decide +kernel
theorem dX7_addToPair_27 : decode cX7_addToPair 27 = .ok (.imul, 1) := by decide +kernel
theorem dX7_addToPair_28 : decode cX7_addToPair 28 = .ok (.iload_n 1, 1) := by decide +kernel
theorem dX7_addToPair_29 : decode cX7_addToPair 29 = .ok (.iadd, 1) := by decide +kernel
theorem dX7_addToPair_30 : decode cX7_addToPair 30 = .ok (.dup2, 1) := by decide +kernel
theorem dX7_addToPair_31 : decode cX7_addToPair 31 = .ok (.laload, 1) := by decide +kernel
theorem dX7_addToPair_32 : decode cX7_addToPair 32 = .ok (.lload_n 3, 1) := by decide +kernel
theorem dX7_addToPair_33 : decode cX7_addToPair 33 = .ok (.ladd, 1) := by decide +kernel
theorem dX7_addToPair_34 : decode cX7_addToPair 34 = .ok (.lastore, 1) := by decide +kernel
theorem dX7_addToPair_35 : decode cX7_addToPair 35 = .ok (.return_, 1) := by decide +kernel
set_option maxRecDepth 20000 in
theorem ggX7_of_X7_roomsOf : GoodIn wsX7_of wsX7_roomsOf := goodIn_r _ [17, 1, 2, 18, 19, 20, 21, 22, 23, 24, 25, 26, 27, 28, 29, 30, 31, 32, 33, 34, 35, 36, 37, 38, 39, 40] (by decide +kernel) (by decide +kernel)
set_option maxRecDepth 20000 in
theorem gX7_of_X7_roomsOf : GoodIn wsX7_of (wsV RX7 69 RX7 yX7_roomsOf wsX7_roomsOf) := goodIn_app (goodIn_of _ (by decide +kernel)) ggX7_of_X7_roomsOf
theorem dX7_of_0 : decode cX7_of 0 = .ok (.lconst 0, 1) := by decide +kernel
theorem dX7_of_1 : decode cX7_of 1 = .ok (.lstore_n 2, 1) := by decide +kernel
theorem dX7_of_2 : decode cX7_of 2 = .ok (.iconst 1, 1) := by decide +kernel
theorem dX7_of_3 : decode cX7_of 3 = .ok (.istore 4, 2) := by decide +kernel
theorem dX7_of_5 : decode cX7_of 5 = .ok (.iload 4, 2) := by decide +kernel
theorem dX7_of_7 : decode cX7_of 7 = .ok (.aload_n 0, 1) := by decide +kernel
theorem dX7_of_8 : decode cX7_of 8 = .ok (.getfield 15, 3) := by decide +kernel
theorem dX7_of_11 : decode cX7_of 11 = .ok (.getfield 41, 3) := by decide +kernel
theorem dX7_of_14 : decode cX7_of 14 = .ok (.if_icmp .ge 52, 3) := by decide +kernel
theorem dX7_of_17 : decode cX7_of 17 = .ok (.iconst 0, 1) := by decide +kernel
theorem dX7_of_18 : decode cX7_of 18 = .ok (.istore 5, 2) := by decide +kernel
theorem dX7_of_20 : decode cX7_of 20 = .ok (.iload 5, 2) := by decide +kernel
theorem dX7_of_22 : decode cX7_of 22 = .ok (.iload 4, 2) := by decide +kernel
theorem dX7_of_24 : decode cX7_of 24 = .ok (.if_icmp .ge 36, 3) := by decide +kernel
theorem dX7_of_27 : decode cX7_of 27 = .ok (.aload_n 1, 1) := by decide +kernel
theorem dX7_of_28 : decode cX7_of 28 = .ok (.iload 4, 2) := by decide +kernel
theorem dX7_of_30 : decode cX7_of 30 = .ok (.iaload, 1) := by decide +kernel
theorem dX7_of_31 : decode cX7_of 31 = .ok (.aload_n 1, 1) := by decide +kernel
theorem dX7_of_32 : decode cX7_of 32 = .ok (.iload 5, 2) := by decide +kernel
theorem dX7_of_34 : decode cX7_of 34 = .ok (.iaload, 1) := by decide +kernel
theorem dX7_of_35 : decode cX7_of 35 = .ok (.if_icmp .eq 19, 3) := by decide +kernel
theorem dX7_of_38 : decode cX7_of 38 = .ok (.lload_n 2, 1) := by decide +kernel
theorem dX7_of_39 : decode cX7_of 39 = .ok (.aload_n 0, 1) := by decide +kernel
theorem dX7_of_40 : decode cX7_of 40 = .ok (.getfield 9, 3) := by decide +kernel
theorem dX7_of_43 : decode cX7_of 43 = .ok (.iload 4, 2) := by decide +kernel
theorem dX7_of_45 : decode cX7_of 45 = .ok (.bipush 10, 2) := by decide +kernel
theorem dX7_of_47 : decode cX7_of 47 = .ok (.imul, 1) := by decide +kernel
theorem dX7_of_48 : decode cX7_of 48 = .ok (.iload 5, 2) := by decide +kernel
theorem dX7_of_50 : decode cX7_of 50 = .ok (.iadd, 1) := by decide +kernel
theorem dX7_of_51 : decode cX7_of 51 = .ok (.laload, 1) := by decide +kernel
theorem dX7_of_52 : decode cX7_of 52 = .ok (.ladd, 1) := by decide +kernel
theorem dX7_of_53 : decode cX7_of 53 = .ok (.lstore_n 2, 1) := by decide +kernel
theorem dX7_of_54 : decode cX7_of 54 = .ok (.iinc 5 1, 3) := by decide +kernel
theorem dX7_of_57 : decode cX7_of 57 = .ok (.goto (-37), 3) := by decide +kernel
theorem dX7_of_60 : decode cX7_of 60 = .ok (.iinc 4 1, 3) := by decide +kernel
theorem dX7_of_63 : decode cX7_of 63 = .ok (.goto (-58), 3) := by decide +kernel
theorem dX7_of_66 : decode cX7_of 66 = .ok (.iconst 0, 1) := by decide +kernel
theorem dX7_of_67 : decode cX7_of 67 = .ok (.istore 4, 2) := by decide +kernel
theorem dX7_of_69 : decode cX7_of 69 = .ok (.iload 4, 2) := by decide +kernel
theorem dX7_of_71 : decode cX7_of 71 = .ok (.aload_n 0, 1) := by decide +kernel
theorem dX7_of_72 : decode cX7_of 72 = .ok (.getfield 30, 3) := by decide +kernel
theorem dX7_of_75 : decode cX7_of 75 = .ok (.getfield 61, 3) := by decide +kernel
theorem dX7_of_78 : decode cX7_of 78 = .ok (.if_icmp .ge 55, 3) := by decide +kernel
theorem dX7_of_81 : decode cX7_of 81 = .ok (.iconst 0, 1) := by decide +kernel
theorem dX7_of_82 : decode cX7_of 82 = .ok (.aload_n 0, 1) := by decide +kernel
theorem dX7_of_83 : decode cX7_of 83 = .ok (.aload_n 0, 1) := by decide +kernel
theorem dX7_of_84 : decode cX7_of 84 = .ok (.getfield 30, 3) := by decide +kernel
theorem dX7_of_87 : decode cX7_of 87 = .ok (.getfield 66, 3) := by decide +kernel
theorem dX7_of_90 : decode cX7_of 90 = .ok (.iload 4, 2) := by decide +kernel
theorem dX7_of_92 : decode cX7_of 92 = .ok (.iaload, 1) := by decide +kernel
theorem dX7_of_93 : decode cX7_of 93 = .ok (.aload_n 1, 1) := by decide +kernel
theorem dX7_of_94 : decode cX7_of 94 = .ok (.invokevirtual 69, 3) := by decide +kernel
theorem dX7_of_97 : decode cX7_of 97 = .ok (.iconst 1, 1) := by decide +kernel
theorem dX7_of_98 : decode cX7_of 98 = .ok (.isub, 1) := by decide +kernel
theorem dX7_of_99 : decode cX7_of 99 = .ok (.invokestatic 73, 3) := by decide +kernel
theorem dX7_of_102 : decode cX7_of 102 = .ok (.istore 5, 2) := by decide +kernel
theorem dX7_of_104 : decode cX7_of 104 = .ok (.lload_n 2, 1) := by decide +kernel
theorem dX7_of_105 : decode cX7_of 105 = .ok (.aload_n 0, 1) := by decide +kernel
theorem dX7_of_106 : decode cX7_of 106 = .ok (.getfield 30, 3) := by decide +kernel
theorem dX7_of_109 : decode cX7_of 109 = .ok (.getfield 79, 3) := by decide +kernel
theorem dX7_of_112 : decode cX7_of 112 = .ok (.iload 4, 2) := by decide +kernel
theorem dX7_of_114 : decode cX7_of 114 = .ok (.iaload, 1) := by decide +kernel
theorem dX7_of_115 : decode cX7_of 115 = .ok (.i2l, 1) := by decide +kernel
theorem dX7_of_116 : decode cX7_of 116 = .ok (.aload_n 0, 1) := by decide +kernel
theorem dX7_of_117 : decode cX7_of 117 = .ok (.getfield 31, 3) := by decide +kernel
theorem dX7_of_120 : decode cX7_of 120 = .ok (.lmul, 1) := by decide +kernel
theorem dX7_of_121 : decode cX7_of 121 = .ok (.iload 5, 2) := by decide +kernel
theorem dX7_of_123 : decode cX7_of 123 = .ok (.i2l, 1) := by decide +kernel
theorem dX7_of_124 : decode cX7_of 124 = .ok (.lmul, 1) := by decide +kernel
theorem dX7_of_125 : decode cX7_of 125 = .ok (.ladd, 1) := by decide +kernel
theorem dX7_of_126 : decode cX7_of 126 = .ok (.lstore_n 2, 1) := by decide +kernel
theorem dX7_of_127 : decode cX7_of 127 = .ok (.iinc 4 1, 3) := by decide +kernel
theorem dX7_of_130 : decode cX7_of 130 = .ok (.goto (-61), 3) := by decide +kernel
theorem dX7_of_133 : decode cX7_of 133 = .ok (.lload_n 2, 1) := by decide +kernel
theorem dX7_of_134 : decode cX7_of 134 = .ok (.lreturn, 1) := by decide +kernel
set_option maxRecDepth 20000 in
theorem ggX7_roomsOf_J6_bitCount_0f7a4 : GoodIn wsX7_roomsOf wsJ6_bitCount_0f7a4 := goodIn_r _ [6, 7, 8, 9] (by decide +kernel) (by decide +kernel)
set_option maxRecDepth 20000 in
theorem gX7_roomsOf_J6_bitCount_0f7a4 : GoodIn wsX7_roomsOf (va_wsS RX7 82 yJ6_bitCount_0f7a4 wsJ6_bitCount_0f7a4) := goodIn_app (goodIn_of _ (by decide +kernel)) ggX7_roomsOf_J6_bitCount_0f7a4
theorem dX7_roomsOf_0 : decode cX7_roomsOf 0 = .ok (.iconst 0, 1) := by decide +kernel
theorem dX7_roomsOf_1 : decode cX7_roomsOf 1 = .ok (.istore_n 3, 1) := by decide +kernel
theorem dX7_roomsOf_2 : decode cX7_roomsOf 2 = .ok (.iconst 0, 1) := by decide +kernel
theorem dX7_roomsOf_3 : decode cX7_roomsOf 3 = .ok (.istore 4, 2) := by decide +kernel
theorem dX7_roomsOf_5 : decode cX7_roomsOf 5 = .ok (.iload 4, 2) := by decide +kernel
theorem dX7_roomsOf_7 : decode cX7_roomsOf 7 = .ok (.aload_n 0, 1) := by decide +kernel
theorem dX7_roomsOf_8 : decode cX7_roomsOf 8 = .ok (.getfield 15, 3) := by decide +kernel
theorem dX7_roomsOf_11 : decode cX7_roomsOf 11 = .ok (.getfield 41, 3) := by decide +kernel
theorem dX7_roomsOf_14 : decode cX7_roomsOf 14 = .ok (.if_icmp .ge 27, 3) := by decide +kernel
theorem dX7_roomsOf_17 : decode cX7_roomsOf 17 = .ok (.iload_n 1, 1) := by decide +kernel
theorem dX7_roomsOf_18 : decode cX7_roomsOf 18 = .ok (.iload 4, 2) := by decide +kernel
theorem dX7_roomsOf_20 : decode cX7_roomsOf 20 = .ok (.ishr, 1) := by decide +kernel
theorem dX7_roomsOf_21 : decode cX7_roomsOf 21 = .ok (.iconst 1, 1) := by decide +kernel
theorem dX7_roomsOf_22 : decode cX7_roomsOf 22 = .ok (.iand, 1) := by decide +kernel
theorem dX7_roomsOf_23 : decode cX7_roomsOf 23 = .ok (.ifCond .eq 12, 3) := by decide +kernel
theorem dX7_roomsOf_26 : decode cX7_roomsOf 26 = .ok (.iload_n 3, 1) := by decide +kernel
theorem dX7_roomsOf_27 : decode cX7_roomsOf 27 = .ok (.iconst 1, 1) := by decide +kernel
theorem dX7_roomsOf_28 : decode cX7_roomsOf 28 = .ok (.aload_n 2, 1) := by decide +kernel
theorem dX7_roomsOf_29 : decode cX7_roomsOf 29 = .ok (.iload 4, 2) := by decide +kernel
theorem dX7_roomsOf_31 : decode cX7_roomsOf 31 = .ok (.iaload, 1) := by decide +kernel
theorem dX7_roomsOf_32 : decode cX7_roomsOf 32 = .ok (.ishl, 1) := by decide +kernel
theorem dX7_roomsOf_33 : decode cX7_roomsOf 33 = .ok (.ior, 1) := by decide +kernel
theorem dX7_roomsOf_34 : decode cX7_roomsOf 34 = .ok (.istore_n 3, 1) := by decide +kernel
theorem dX7_roomsOf_35 : decode cX7_roomsOf 35 = .ok (.iinc 4 1, 3) := by decide +kernel
theorem dX7_roomsOf_38 : decode cX7_roomsOf 38 = .ok (.goto (-33), 3) := by decide +kernel
theorem dX7_roomsOf_41 : decode cX7_roomsOf 41 = .ok (.iload_n 3, 1) := by decide +kernel
theorem dX7_roomsOf_42 : decode cX7_roomsOf 42 = .ok (.invokestatic 82, 3) := by decide +kernel
theorem dX7_roomsOf_45 : decode cX7_roomsOf 45 = .ok (.ireturn, 1) := by decide +kernel
theorem dX7_added_0 : decode cX7_added 0 = .ok (.lconst 0, 1) := by decide +kernel
theorem dX7_added_1 : decode cX7_added 1 = .ok (.lstore_n 3, 1) := by decide +kernel
theorem dX7_added_2 : decode cX7_added 2 = .ok (.iconst 0, 1) := by decide +kernel
theorem dX7_added_3 : decode cX7_added 3 = .ok (.istore 5, 2) := by decide +kernel
theorem dX7_added_5 : decode cX7_added 5 = .ok (.iload 5, 2) := by decide +kernel
theorem dX7_added_7 : decode cX7_added 7 = .ok (.iload_n 1, 1) := by decide +kernel
theorem dX7_added_8 : decode cX7_added 8 = .ok (.if_icmp .ge 33, 3) := by decide +kernel
theorem dX7_added_11 : decode cX7_added 11 = .ok (.iload_n 2, 1) := by decide +kernel
theorem dX7_added_12 : decode cX7_added 12 = .ok (.iload 5, 2) := by decide +kernel
theorem dX7_added_14 : decode cX7_added 14 = .ok (.ishr, 1) := by decide +kernel
theorem dX7_added_15 : decode cX7_added 15 = .ok (.iconst 1, 1) := by decide +kernel
theorem dX7_added_16 : decode cX7_added 16 = .ok (.iand, 1) := by decide +kernel
theorem dX7_added_17 : decode cX7_added 17 = .ok (.ifCond .ne 18, 3) := by decide +kernel
theorem dX7_added_20 : decode cX7_added 20 = .ok (.lload_n 3, 1) := by decide +kernel
theorem dX7_added_21 : decode cX7_added 21 = .ok (.aload_n 0, 1) := by decide +kernel
theorem dX7_added_22 : decode cX7_added 22 = .ok (.getfield 9, 3) := by decide +kernel
theorem dX7_added_25 : decode cX7_added 25 = .ok (.iload_n 1, 1) := by decide +kernel
theorem dX7_added_26 : decode cX7_added 26 = .ok (.bipush 10, 2) := by decide +kernel
theorem dX7_added_28 : decode cX7_added 28 = .ok (.imul, 1) := by decide +kernel
theorem dX7_added_29 : decode cX7_added 29 = .ok (.iload 5, 2) := by decide +kernel
theorem dX7_added_31 : decode cX7_added 31 = .ok (.iadd, 1) := by decide +kernel
theorem dX7_added_32 : decode cX7_added 32 = .ok (.laload, 1) := by decide +kernel
theorem dX7_added_33 : decode cX7_added 33 = .ok (.ladd, 1) := by decide +kernel
theorem dX7_added_34 : decode cX7_added 34 = .ok (.lstore_n 3, 1) := by decide +kernel
theorem dX7_added_35 : decode cX7_added 35 = .ok (.iinc 5 1, 3) := by decide +kernel
theorem dX7_added_38 : decode cX7_added 38 = .ok (.goto (-33), 3) := by decide +kernel
theorem dX7_added_41 : decode cX7_added 41 = .ok (.iconst 1, 1) := by decide +kernel
theorem dX7_added_42 : decode cX7_added 42 = .ok (.iload_n 1, 1) := by decide +kernel
theorem dX7_added_43 : decode cX7_added 43 = .ok (.ishl, 1) := by decide +kernel
theorem dX7_added_44 : decode cX7_added 44 = .ok (.iconst 1, 1) := by decide +kernel
theorem dX7_added_45 : decode cX7_added 45 = .ok (.isub, 1) := by decide +kernel
theorem dX7_added_46 : decode cX7_added 46 = .ok (.istore 5, 2) := by decide +kernel
theorem dX7_added_48 : decode cX7_added 48 = .ok (.iconst 0, 1) := by decide +kernel
theorem dX7_added_49 : decode cX7_added 49 = .ok (.istore 6, 2) := by decide +kernel
theorem dX7_added_51 : decode cX7_added 51 = .ok (.iload 6, 2) := by decide +kernel
theorem dX7_added_53 : decode cX7_added 53 = .ok (.aload_n 0, 1) := by decide +kernel
theorem dX7_added_54 : decode cX7_added 54 = .ok (.getfield 30, 3) := by decide +kernel
theorem dX7_added_57 : decode cX7_added 57 = .ok (.getfield 61, 3) := by decide +kernel
theorem dX7_added_60 : decode cX7_added 60 = .ok (.if_icmp .ge 76, 3) := by decide +kernel
theorem dX7_added_63 : decode cX7_added 63 = .ok (.aload_n 0, 1) := by decide +kernel
theorem dX7_added_64 : decode cX7_added 64 = .ok (.getfield 30, 3) := by decide +kernel
theorem dX7_added_67 : decode cX7_added 67 = .ok (.getfield 66, 3) := by decide +kernel
theorem dX7_added_70 : decode cX7_added 70 = .ok (.iload 6, 2) := by decide +kernel
theorem dX7_added_72 : decode cX7_added 72 = .ok (.iaload, 1) := by decide +kernel
theorem dX7_added_73 : decode cX7_added 73 = .ok (.istore 7, 2) := by decide +kernel
theorem dX7_added_75 : decode cX7_added 75 = .ok (.iload 7, 2) := by decide +kernel
theorem dX7_added_77 : decode cX7_added 77 = .ok (.iload_n 1, 1) := by decide +kernel
theorem dX7_added_78 : decode cX7_added 78 = .ok (.ishr, 1) := by decide +kernel
theorem dX7_added_79 : decode cX7_added 79 = .ok (.iconst 1, 1) := by decide +kernel
theorem dX7_added_80 : decode cX7_added 80 = .ok (.iand, 1) := by decide +kernel
theorem dX7_added_81 : decode cX7_added 81 = .ok (.ifCond .eq 14, 3) := by decide +kernel
theorem dX7_added_84 : decode cX7_added 84 = .ok (.iload 7, 2) := by decide +kernel
theorem dX7_added_86 : decode cX7_added 86 = .ok (.iload_n 2, 1) := by decide +kernel
theorem dX7_added_87 : decode cX7_added 87 = .ok (.iand, 1) := by decide +kernel
theorem dX7_added_88 : decode cX7_added 88 = .ok (.ifCond .ne 7, 3) := by decide +kernel
theorem dX7_added_91 : decode cX7_added 91 = .ok (.iconst 1, 1) := by decide +kernel
theorem dX7_added_92 : decode cX7_added 92 = .ok (.goto 4, 3) := by decide +kernel
theorem dX7_added_95 : decode cX7_added 95 = .ok (.iconst 0, 1) := by decide +kernel
theorem dX7_added_96 : decode cX7_added 96 = .ok (.istore 8, 2) := by decide +kernel
theorem dX7_added_98 : decode cX7_added 98 = .ok (.iload 8, 2) := by decide +kernel
theorem dX7_added_100 : decode cX7_added 100 = .ok (.ifCond .eq 30, 3) := by decide +kernel
theorem dX7_added_103 : decode cX7_added 103 = .ok (.iload 7, 2) := by decide +kernel
theorem dX7_added_105 : decode cX7_added 105 = .ok (.iload 5, 2) := by decide +kernel
theorem dX7_added_107 : decode cX7_added 107 = .ok (.iand, 1) := by decide +kernel
theorem dX7_added_108 : decode cX7_added 108 = .ok (.ifCond .eq 22, 3) := by decide +kernel
theorem dX7_added_111 : decode cX7_added 111 = .ok (.lload_n 3, 1) := by decide +kernel
theorem dX7_added_112 : decode cX7_added 112 = .ok (.aload_n 0, 1) := by decide +kernel
theorem dX7_added_113 : decode cX7_added 113 = .ok (.getfield 30, 3) := by decide +kernel
theorem dX7_added_116 : decode cX7_added 116 = .ok (.getfield 79, 3) := by decide +kernel
theorem dX7_added_119 : decode cX7_added 119 = .ok (.iload 6, 2) := by decide +kernel
theorem dX7_added_121 : decode cX7_added 121 = .ok (.iaload, 1) := by decide +kernel
theorem dX7_added_122 : decode cX7_added 122 = .ok (.i2l, 1) := by decide +kernel
theorem dX7_added_123 : decode cX7_added 123 = .ok (.aload_n 0, 1) := by decide +kernel
theorem dX7_added_124 : decode cX7_added 124 = .ok (.getfield 31, 3) := by decide +kernel
theorem dX7_added_127 : decode cX7_added 127 = .ok (.lmul, 1) := by decide +kernel
theorem dX7_added_128 : decode cX7_added 128 = .ok (.ladd, 1) := by decide +kernel
theorem dX7_added_129 : decode cX7_added 129 = .ok (.lstore_n 3, 1) := by decide +kernel
theorem dX7_added_130 : decode cX7_added 130 = .ok (.iinc 6 1, 3) := by decide +kernel
theorem dX7_added_133 : decode cX7_added 133 = .ok (.goto (-82), 3) := by decide +kernel
theorem dX7_added_136 : decode cX7_added 136 = .ok (.lload_n 3, 1) := by decide +kernel
theorem dX7_added_137 : decode cX7_added 137 = .ok (.lreturn, 1) := by decide +kernel
theorem dX8_init_0 : decode cX8_init 0 = .ok (.aload_n 0, 1) := by decide +kernel
theorem dX8_init_1 : decode cX8_init 1 = .ok (.invokespecial 3, 3) := by decide +kernel
theorem dX8_init_4 : decode cX8_init 4 = .ok (.aload_n 0, 1) := by decide +kernel
theorem dX8_init_5 : decode cX8_init 5 = .ok (.bipush 6, 2) := by decide +kernel
theorem dX8_init_7 : decode cX8_init 7 = .ok (.newarray .int, 2) := by decide +kernel
theorem dX8_init_9 : decode cX8_init 9 = .ok (.putfield 9, 3) := by decide +kernel
theorem dX8_init_12 : decode cX8_init 12 = .ok (.aload_n 0, 1) := by decide +kernel
theorem dX8_init_13 : decode cX8_init 13 = .ok (.bipush 6, 2) := by decide +kernel
theorem dX8_init_15 : decode cX8_init 15 = .ok (.newarray .int, 2) := by decide +kernel
theorem dX8_init_17 : decode cX8_init 17 = .ok (.putfield 15, 3) := by decide +kernel
theorem dX8_init_20 : decode cX8_init 20 = .ok (.return_, 1) := by decide +kernel
set_option maxRecDepth 20000 in
theorem ggX8_shortest_X8_readCalls : GoodIn wsX8_shortest wsX8_readCalls := goodIn_r _ [6, 7, 8, 9, 10, 11, 12, 13, 14, 15, 16, 21, 22, 23, 24, 25, 26, 27, 28, 29, 30, 31, 32, 33] (by decide +kernel) (by decide +kernel)
set_option maxRecDepth 20000 in
theorem gX8_shortest_X8_readCalls : GoodIn wsX8_shortest (wsV RX8 18 RX8 yX8_readCalls wsX8_readCalls) := goodIn_app (goodIn_of _ (by decide +kernel)) ggX8_shortest_X8_readCalls
set_option maxRecDepth 20000 in
theorem ggX8_shortest_X8_closes : GoodIn wsX8_shortest wsX8_closes := goodIn_r _ [20, 7, 1, 17, 18, 19, 5, 21, 22] (by decide +kernel) (by decide +kernel)
set_option maxRecDepth 20000 in
theorem gX8_shortest_X8_closes : GoodIn wsX8_shortest (wsV RX8 22 RX8 yX8_closes wsX8_closes) := goodIn_app (goodIn_of _ (by decide +kernel)) ggX8_shortest_X8_closes
theorem dX8_shortest_0 : decode cX8_shortest 0 = .ok (.aload_n 0, 1) := by decide +kernel
theorem dX8_shortest_1 : decode cX8_shortest 1 = .ok (.aload_n 1, 1) := by decide +kernel
theorem dX8_shortest_2 : decode cX8_shortest 2 = .ok (.aload_n 2, 1) := by decide +kernel
theorem dX8_shortest_3 : decode cX8_shortest 3 = .ok (.invokevirtual 18, 3) := by decide +kernel
theorem dX8_shortest_6 : decode cX8_shortest 6 = .ok (.iconst 2, 1) := by decide +kernel
theorem dX8_shortest_7 : decode cX8_shortest 7 = .ok (.istore_n 3, 1) := by decide +kernel
theorem dX8_shortest_8 : decode cX8_shortest 8 = .ok (.iload_n 3, 1) := by decide +kernel
theorem dX8_shortest_9 : decode cX8_shortest 9 = .ok (.bipush 6, 2) := by decide +kernel
theorem dX8_shortest_11 : decode cX8_shortest 11 = .ok (.if_icmp .gt 48, 3) := by decide +kernel
theorem dX8_shortest_14 : decode cX8_shortest 14 = .ok (.iconst 0, 1) := by decide +kernel
theorem dX8_shortest_15 : decode cX8_shortest 15 = .ok (.istore 4, 2) := by decide +kernel
theorem dX8_shortest_17 : decode cX8_shortest 17 = .ok (.iload 4, 2) := by decide +kernel
theorem dX8_shortest_19 : decode cX8_shortest 19 = .ok (.bipush 6, 2) := by decide +kernel
theorem dX8_shortest_21 : decode cX8_shortest 21 = .ok (.if_icmp .ge 32, 3) := by decide +kernel
theorem dX8_shortest_24 : decode cX8_shortest 24 = .ok (.aload_n 0, 1) := by decide +kernel
theorem dX8_shortest_25 : decode cX8_shortest 25 = .ok (.getfield 9, 3) := by decide +kernel
theorem dX8_shortest_28 : decode cX8_shortest 28 = .ok (.iconst 0, 1) := by decide +kernel
theorem dX8_shortest_29 : decode cX8_shortest 29 = .ok (.iload 4, 2) := by decide +kernel
theorem dX8_shortest_31 : decode cX8_shortest 31 = .ok (.iastore, 1) := by decide +kernel
theorem dX8_shortest_32 : decode cX8_shortest 32 = .ok (.aload_n 0, 1) := by decide +kernel
theorem dX8_shortest_33 : decode cX8_shortest 33 = .ok (.iconst 1, 1) := by decide +kernel
theorem dX8_shortest_34 : decode cX8_shortest 34 = .ok (.iload_n 3, 1) := by decide +kernel
theorem dX8_shortest_35 : decode cX8_shortest 35 = .ok (.iconst 1, 1) := by decide +kernel
theorem dX8_shortest_36 : decode cX8_shortest 36 = .ok (.iload 4, 2) := by decide +kernel
theorem dX8_shortest_38 : decode cX8_shortest 38 = .ok (.ishl, 1) := by decide +kernel
theorem dX8_shortest_39 : decode cX8_shortest 39 = .ok (.invokevirtual 22, 3) := by decide +kernel
theorem dX8_shortest_42 : decode cX8_shortest 42 = .ok (.ifCond .eq 5, 3) := by decide +kernel
theorem dX8_shortest_45 : decode cX8_shortest 45 = .ok (.iload_n 3, 1) := by decide +kernel
theorem dX8_shortest_46 : decode cX8_shortest 46 = .ok (.ireturn, 1) := by decide +kernel
theorem dX8_shortest_47 : decode cX8_shortest 47 = .ok (.iinc 4 1, 3) := by decide +kernel
theorem dX8_shortest_50 : decode cX8_shortest 50 = .ok (.goto (-33), 3) := by decide +kernel
theorem dX8_shortest_53 : decode cX8_shortest 53 = .ok (.iinc 3 1, 3) := by decide +kernel
theorem dX8_shortest_56 : decode cX8_shortest 56 = .ok (.goto (-48), 3) := by decide +kernel
theorem dX8_shortest_59 : decode cX8_shortest 59 = .ok (.iconst 0, 1) := by decide +kernel
theorem dX8_shortest_60 : decode cX8_shortest 60 = .ok (.ireturn, 1) := by decide +kernel
set_option maxRecDepth 20000 in
theorem ggX8_readCalls_J7_fill_53178 : GoodIn wsX8_readCalls wsJ7_fill_53178 := goodIn_r _ [7] (by decide +kernel) (by decide +kernel)
set_option maxRecDepth 20000 in
theorem gX8_readCalls_J7_fill_53178 : GoodIn wsX8_readCalls (va_wsS RX8 26 yJ7_fill_53178 wsJ7_fill_53178) := goodIn_app (goodIn_of _ (by decide +kernel)) ggX8_readCalls_J7_fill_53178
set_option maxRecDepth 20000 in
theorem ggX8_readCalls_X10_tiePlace : GoodIn wsX8_readCalls wsX10_tiePlace := goodIn_r _ [10] (by decide +kernel) (by decide +kernel)
set_option maxRecDepth 20000 in
theorem gX8_readCalls_X10_tiePlace_n41 : GoodIn wsX8_readCalls (wsX10_tiePlace) := ggX8_readCalls_X10_tiePlace
theorem dX8_readCalls_0 : decode cX8_readCalls 0 = .ok (.aload_n 0, 1) := by decide +kernel
theorem dX8_readCalls_1 : decode cX8_readCalls 1 = .ok (.getfield 15, 3) := by decide +kernel
theorem dX8_readCalls_4 : decode cX8_readCalls 4 = .ok (.iconst 0, 1) := by decide +kernel
theorem dX8_readCalls_5 : decode cX8_readCalls 5 = .ok (.invokestatic 26, 3) := by decide +kernel
theorem dX8_readCalls_8 : decode cX8_readCalls 8 = .ok (.iconst 0, 1) := by decide +kernel
theorem dX8_readCalls_9 : decode cX8_readCalls 9 = .ok (.istore_n 3, 1) := by decide +kernel
theorem dX8_readCalls_10 : decode cX8_readCalls 10 = .ok (.iload_n 3, 1) := by decide +kernel
theorem dX8_readCalls_11 : decode cX8_readCalls 11 = .ok (.aload_n 1, 1) := by decide +kernel
theorem dX8_readCalls_12 : decode cX8_readCalls 12 = .ok (.getfield 32, 3) := by decide +kernel
theorem dX8_readCalls_15 : decode cX8_readCalls 15 = .ok (.if_icmp .ge 59, 3) := by decide +kernel
theorem dX8_readCalls_18 : decode cX8_readCalls 18 = .ok (.iconst 0, 1) := by decide +kernel
theorem dX8_readCalls_19 : decode cX8_readCalls 19 = .ok (.istore 4, 2) := by decide +kernel
theorem dX8_readCalls_21 : decode cX8_readCalls 21 = .ok (.iload 4, 2) := by decide +kernel
theorem dX8_readCalls_23 : decode cX8_readCalls 23 = .ok (.aload_n 1, 1) := by decide +kernel
theorem dX8_readCalls_24 : decode cX8_readCalls 24 = .ok (.getfield 32, 3) := by decide +kernel
theorem dX8_readCalls_27 : decode cX8_readCalls 27 = .ok (.if_icmp .ge 41, 3) := by decide +kernel
theorem dX8_readCalls_30 : decode cX8_readCalls 30 = .ok (.aload_n 1, 1) := by decide +kernel
theorem dX8_readCalls_31 : decode cX8_readCalls 31 = .ok (.getfield 38, 3) := by decide +kernel
theorem dX8_readCalls_34 : decode cX8_readCalls 34 = .ok (.iconst 0, 1) := by decide +kernel
theorem dX8_readCalls_35 : decode cX8_readCalls 35 = .ok (.iload_n 3, 1) := by decide +kernel
theorem dX8_readCalls_36 : decode cX8_readCalls 36 = .ok (.iload 4, 2) := by decide +kernel
theorem dX8_readCalls_38 : decode cX8_readCalls 38 = .ok (.invokestatic 41, 3) := by decide +kernel
theorem dX8_readCalls_41 : decode cX8_readCalls 41 = .ok (.iaload, 1) := by decide +kernel
theorem dX8_readCalls_42 : decode cX8_readCalls 42 = .ok (.ifCond .le 20, 3) := by decide +kernel
theorem dX8_readCalls_45 : decode cX8_readCalls 45 = .ok (.aload_n 0, 1) := by decide +kernel
theorem dX8_readCalls_46 : decode cX8_readCalls 46 = .ok (.getfield 15, 3) := by decide +kernel
theorem dX8_readCalls_49 : decode cX8_readCalls 49 = .ok (.aload_n 2, 1) := by decide +kernel
theorem dX8_readCalls_50 : decode cX8_readCalls 50 = .ok (.iload_n 3, 1) := by decide +kernel
theorem dX8_readCalls_51 : decode cX8_readCalls 51 = .ok (.iaload, 1) := by decide +kernel
theorem dX8_readCalls_52 : decode cX8_readCalls 52 = .ok (.dup2, 1) := by decide +kernel
theorem dX8_readCalls_53 : decode cX8_readCalls 53 = .ok (.iaload, 1) := by decide +kernel
theorem dX8_readCalls_54 : decode cX8_readCalls 54 = .ok (.iconst 1, 1) := by decide +kernel
theorem dX8_readCalls_55 : decode cX8_readCalls 55 = .ok (.aload_n 2, 1) := by decide +kernel
theorem dX8_readCalls_56 : decode cX8_readCalls 56 = .ok (.iload 4, 2) := by decide +kernel
theorem dX8_readCalls_58 : decode cX8_readCalls 58 = .ok (.iaload, 1) := by decide +kernel
theorem dX8_readCalls_59 : decode cX8_readCalls 59 = .ok (.ishl, 1) := by decide +kernel
theorem dX8_readCalls_60 : decode cX8_readCalls 60 = .ok (.ior, 1) := by decide +kernel
theorem dX8_readCalls_61 : decode cX8_readCalls 61 = .ok (.iastore, 1) := by decide +kernel
theorem dX8_readCalls_62 : decode cX8_readCalls 62 = .ok (.iinc 4 1, 3) := by decide +kernel
theorem dX8_readCalls_65 : decode cX8_readCalls 65 = .ok (.goto (-44), 3) := by decide +kernel
theorem dX8_readCalls_68 : decode cX8_readCalls 68 = .ok (.iinc 3 1, 3) := by decide +kernel
theorem dX8_readCalls_71 : decode cX8_readCalls 71 = .ok (.goto (-61), 3) := by decide +kernel
theorem dX8_readCalls_74 : decode cX8_readCalls 74 = .ok (.return_, 1) := by decide +kernel
set_option maxRecDepth 20000 in
theorem ggX8_closes_X8_closes : GoodIn wsX8_closes wsX8_closes := goodIn_r _ [0, 1, 2, 3, 4, 5, 6, 7, 8] (by decide +kernel) (by decide +kernel)
set_option maxRecDepth 20000 in
theorem gX8_closes_X8_closes : GoodIn wsX8_closes (wsV RX8 22 RX8 yX8_closes wsX8_closes) := goodIn_app (goodIn_of _ (by decide +kernel)) ggX8_closes_X8_closes
theorem dX8_closes_0 : decode cX8_closes 0 = .ok (.aload_n 0, 1) := by decide +kernel
theorem dX8_closes_1 : decode cX8_closes 1 = .ok (.getfield 15, 3) := by decide +kernel
theorem dX8_closes_4 : decode cX8_closes 4 = .ok (.aload_n 0, 1) := by decide +kernel
theorem dX8_closes_5 : decode cX8_closes 5 = .ok (.getfield 9, 3) := by decide +kernel
theorem dX8_closes_8 : decode cX8_closes 8 = .ok (.iload_n 1, 1) := by decide +kernel
theorem dX8_closes_9 : decode cX8_closes 9 = .ok (.iconst 1, 1) := by decide +kernel
theorem dX8_closes_10 : decode cX8_closes 10 = .ok (.isub, 1) := by decide +kernel
theorem dX8_closes_11 : decode cX8_closes 11 = .ok (.iaload, 1) := by decide +kernel
theorem dX8_closes_12 : decode cX8_closes 12 = .ok (.iaload, 1) := by decide +kernel
theorem dX8_closes_13 : decode cX8_closes 13 = .ok (.istore 4, 2) := by decide +kernel
theorem dX8_closes_15 : decode cX8_closes 15 = .ok (.iload_n 1, 1) := by decide +kernel
theorem dX8_closes_16 : decode cX8_closes 16 = .ok (.iload_n 2, 1) := by decide +kernel
theorem dX8_closes_17 : decode cX8_closes 17 = .ok (.if_icmp .lt 23, 3) := by decide +kernel
theorem dX8_closes_20 : decode cX8_closes 20 = .ok (.iload 4, 2) := by decide +kernel
theorem dX8_closes_22 : decode cX8_closes 22 = .ok (.aload_n 0, 1) := by decide +kernel
theorem dX8_closes_23 : decode cX8_closes 23 = .ok (.getfield 9, 3) := by decide +kernel
theorem dX8_closes_26 : decode cX8_closes 26 = .ok (.iconst 0, 1) := by decide +kernel
theorem dX8_closes_27 : decode cX8_closes 27 = .ok (.iaload, 1) := by decide +kernel
theorem dX8_closes_28 : decode cX8_closes 28 = .ok (.ishr, 1) := by decide +kernel
theorem dX8_closes_29 : decode cX8_closes 29 = .ok (.iconst 1, 1) := by decide +kernel
theorem dX8_closes_30 : decode cX8_closes 30 = .ok (.iand, 1) := by decide +kernel
theorem dX8_closes_31 : decode cX8_closes 31 = .ok (.ifCond .eq 7, 3) := by decide +kernel
theorem dX8_closes_34 : decode cX8_closes 34 = .ok (.iconst 1, 1) := by decide +kernel
theorem dX8_closes_35 : decode cX8_closes 35 = .ok (.goto 4, 3) := by decide +kernel
theorem dX8_closes_38 : decode cX8_closes 38 = .ok (.iconst 0, 1) := by decide +kernel
theorem dX8_closes_39 : decode cX8_closes 39 = .ok (.ireturn, 1) := by decide +kernel
theorem dX8_closes_40 : decode cX8_closes 40 = .ok (.iconst 0, 1) := by decide +kernel
theorem dX8_closes_41 : decode cX8_closes 41 = .ok (.istore 5, 2) := by decide +kernel
theorem dX8_closes_43 : decode cX8_closes 43 = .ok (.iload 5, 2) := by decide +kernel
theorem dX8_closes_45 : decode cX8_closes 45 = .ok (.bipush 6, 2) := by decide +kernel
theorem dX8_closes_47 : decode cX8_closes 47 = .ok (.if_icmp .ge 50, 3) := by decide +kernel
theorem dX8_closes_50 : decode cX8_closes 50 = .ok (.iload 4, 2) := by decide +kernel
theorem dX8_closes_52 : decode cX8_closes 52 = .ok (.iload_n 3, 1) := by decide +kernel
theorem dX8_closes_53 : decode cX8_closes 53 = .ok (.iconst (-1), 1) := by decide +kernel
theorem dX8_closes_54 : decode cX8_closes 54 = .ok (.ixor, 1) := by decide +kernel
theorem dX8_closes_55 : decode cX8_closes 55 = .ok (.iand, 1) := by decide +kernel
theorem dX8_closes_56 : decode cX8_closes 56 = .ok (.iload 5, 2) := by decide +kernel
theorem dX8_closes_58 : decode cX8_closes 58 = .ok (.ishr, 1) := by decide +kernel
theorem dX8_closes_59 : decode cX8_closes 59 = .ok (.iconst 1, 1) := by decide +kernel
theorem dX8_closes_60 : decode cX8_closes 60 = .ok (.iand, 1) := by decide +kernel
theorem dX8_closes_61 : decode cX8_closes 61 = .ok (.ifCond .eq 30, 3) := by decide +kernel
theorem dX8_closes_64 : decode cX8_closes 64 = .ok (.aload_n 0, 1) := by decide +kernel
theorem dX8_closes_65 : decode cX8_closes 65 = .ok (.getfield 9, 3) := by decide +kernel
theorem dX8_closes_68 : decode cX8_closes 68 = .ok (.iload_n 1, 1) := by decide +kernel
theorem dX8_closes_69 : decode cX8_closes 69 = .ok (.iload 5, 2) := by decide +kernel
theorem dX8_closes_71 : decode cX8_closes 71 = .ok (.iastore, 1) := by decide +kernel
theorem dX8_closes_72 : decode cX8_closes 72 = .ok (.aload_n 0, 1) := by decide +kernel
theorem dX8_closes_73 : decode cX8_closes 73 = .ok (.iload_n 1, 1) := by decide +kernel
theorem dX8_closes_74 : decode cX8_closes 74 = .ok (.iconst 1, 1) := by decide +kernel
theorem dX8_closes_75 : decode cX8_closes 75 = .ok (.iadd, 1) := by decide +kernel
theorem dX8_closes_76 : decode cX8_closes 76 = .ok (.iload_n 2, 1) := by decide +kernel
theorem dX8_closes_77 : decode cX8_closes 77 = .ok (.iload_n 3, 1) := by decide +kernel
theorem dX8_closes_78 : decode cX8_closes 78 = .ok (.iconst 1, 1) := by decide +kernel
theorem dX8_closes_79 : decode cX8_closes 79 = .ok (.iload 5, 2) := by decide +kernel
theorem dX8_closes_81 : decode cX8_closes 81 = .ok (.ishl, 1) := by decide +kernel
theorem dX8_closes_82 : decode cX8_closes 82 = .ok (.ior, 1) := by decide +kernel
theorem dX8_closes_83 : decode cX8_closes 83 = .ok (.invokevirtual 22, 3) := by decide +kernel
theorem dX8_closes_86 : decode cX8_closes 86 = .ok (.ifCond .eq 5, 3) := by decide +kernel
theorem dX8_closes_89 : decode cX8_closes 89 = .ok (.iconst 1, 1) := by decide +kernel
theorem dX8_closes_90 : decode cX8_closes 90 = .ok (.ireturn, 1) := by decide +kernel
theorem dX8_closes_91 : decode cX8_closes 91 = .ok (.iinc 5 1, 3) := by decide +kernel
theorem dX8_closes_94 : decode cX8_closes 94 = .ok (.goto (-51), 3) := by decide +kernel
theorem dX8_closes_97 : decode cX8_closes 97 = .ok (.iconst 0, 1) := by decide +kernel
theorem dX8_closes_98 : decode cX8_closes 98 = .ok (.ireturn, 1) := by decide +kernel
theorem dX9_init_0 : decode cX9_init 0 = .ok (.aload_n 0, 1) := by decide +kernel
theorem dX9_init_1 : decode cX9_init 1 = .ok (.invokespecial 3, 3) := by decide +kernel
theorem dX9_init_4 : decode cX9_init 4 = .ok (.aload_n 0, 1) := by decide +kernel
theorem dX9_init_5 : decode cX9_init 5 = .ok (.bipush 10, 2) := by decide +kernel
theorem dX9_init_7 : decode cX9_init 7 = .ok (.newarray .int, 2) := by decide +kernel
theorem dX9_init_9 : decode cX9_init 9 = .ok (.putfield 9, 3) := by decide +kernel
theorem dX9_init_12 : decode cX9_init 12 = .ok (.aload_n 0, 1) := by decide +kernel
theorem dX9_init_13 : decode cX9_init 13 = .ok (.bipush 16, 2) := by decide +kernel
theorem dX9_init_15 : decode cX9_init 15 = .ok (.newarray .int, 2) := by decide +kernel
theorem dX9_init_17 : decode cX9_init 17 = .ok (.putfield 15, 3) := by decide +kernel
theorem dX9_init_20 : decode cX9_init 20 = .ok (.aload_n 0, 1) := by decide +kernel
theorem dX9_init_21 : decode cX9_init 21 = .ok (.bipush 40, 2) := by decide +kernel
theorem dX9_init_23 : decode cX9_init 23 = .ok (.newarray .int, 2) := by decide +kernel
theorem dX9_init_25 : decode cX9_init 25 = .ok (.putfield 18, 3) := by decide +kernel
theorem dX9_init_28 : decode cX9_init 28 = .ok (.aload_n 0, 1) := by decide +kernel
theorem dX9_init_29 : decode cX9_init 29 = .ok (.bipush 40, 2) := by decide +kernel
theorem dX9_init_31 : decode cX9_init 31 = .ok (.newarray .int, 2) := by decide +kernel
theorem dX9_init_33 : decode cX9_init 33 = .ok (.putfield 21, 3) := by decide +kernel
theorem dX9_init_36 : decode cX9_init 36 = .ok (.aload_n 0, 1) := by decide +kernel
theorem dX9_init_37 : decode cX9_init 37 = .ok (.sipush 640, 3) := by decide +kernel
theorem dX9_init_40 : decode cX9_init 40 = .ok (.newarray .int, 2) := by decide +kernel
theorem dX9_init_42 : decode cX9_init 42 = .ok (.putfield 24, 3) := by decide +kernel
theorem dX9_init_45 : decode cX9_init 45 = .ok (.aload_n 0, 1) := by decide +kernel
theorem dX9_init_46 : decode cX9_init 46 = .ok (.sipush 640, 3) := by decide +kernel
theorem dX9_init_49 : decode cX9_init 49 = .ok (.newarray .int, 2) := by decide +kernel
theorem dX9_init_51 : decode cX9_init 51 = .ok (.putfield 27, 3) := by decide +kernel
theorem dX9_init_54 : decode cX9_init 54 = .ok (.aload_n 0, 1) := by decide +kernel
theorem dX9_init_55 : decode cX9_init 55 = .ok (.sipush 640, 3) := by decide +kernel
theorem dX9_init_58 : decode cX9_init 58 = .ok (.newarray .int, 2) := by decide +kernel
theorem dX9_init_60 : decode cX9_init 60 = .ok (.putfield 30, 3) := by decide +kernel
theorem dX9_init_63 : decode cX9_init 63 = .ok (.aload_n 0, 1) := by decide +kernel
theorem dX9_init_64 : decode cX9_init 64 = .ok (.sipush 420, 3) := by decide +kernel
theorem dX9_init_67 : decode cX9_init 67 = .ok (.newarray .int, 2) := by decide +kernel
theorem dX9_init_69 : decode cX9_init 69 = .ok (.putfield 33, 3) := by decide +kernel
theorem dX9_init_72 : decode cX9_init 72 = .ok (.return_, 1) := by decide +kernel
theorem dX9_hasModule_0 : decode cX9_hasModule 0 = .ok (.iload_n 1, 1) := by decide +kernel
theorem dX9_hasModule_1 : decode cX9_hasModule 1 = .ok (.ifCond .lt 15, 3) := by decide +kernel
theorem dX9_hasModule_4 : decode cX9_hasModule 4 = .ok (.iload_n 1, 1) := by decide +kernel
theorem dX9_hasModule_5 : decode cX9_hasModule 5 = .ok (.aload_n 0, 1) := by decide +kernel
theorem dX9_hasModule_6 : decode cX9_hasModule 6 = .ok (.getfield 36, 3) := by decide +kernel
theorem dX9_hasModule_9 : decode cX9_hasModule 9 = .ok (.if_icmp .ge 7, 3) := by decide +kernel
theorem dX9_hasModule_12 : decode cX9_hasModule 12 = .ok (.iconst 1, 1) := by decide +kernel
theorem dX9_hasModule_13 : decode cX9_hasModule 13 = .ok (.goto 4, 3) := by decide +kernel
theorem dX9_hasModule_16 : decode cX9_hasModule 16 = .ok (.iconst 0, 1) := by decide +kernel
theorem dX9_hasModule_17 : decode cX9_hasModule 17 = .ok (.ireturn, 1) := by decide +kernel
theorem dX9_hasTable_0 : decode cX9_hasTable 0 = .ok (.iload_n 1, 1) := by decide +kernel
theorem dX9_hasTable_1 : decode cX9_hasTable 1 = .ok (.ifCond .lt 15, 3) := by decide +kernel
theorem dX9_hasTable_4 : decode cX9_hasTable 4 = .ok (.iload_n 1, 1) := by decide +kernel
theorem dX9_hasTable_5 : decode cX9_hasTable 5 = .ok (.aload_n 0, 1) := by decide +kernel
theorem dX9_hasTable_6 : decode cX9_hasTable 6 = .ok (.getfield 40, 3) := by decide +kernel
theorem dX9_hasTable_9 : decode cX9_hasTable 9 = .ok (.if_icmp .ge 7, 3) := by decide +kernel
theorem dX9_hasTable_12 : decode cX9_hasTable 12 = .ok (.iconst 1, 1) := by decide +kernel
theorem dX9_hasTable_13 : decode cX9_hasTable 13 = .ok (.goto 4, 3) := by decide +kernel
theorem dX9_hasTable_16 : decode cX9_hasTable 16 = .ok (.iconst 0, 1) := by decide +kernel
theorem dX9_hasTable_17 : decode cX9_hasTable 17 = .ok (.ireturn, 1) := by decide +kernel
theorem dX9_hasRoutine_0 : decode cX9_hasRoutine 0 = .ok (.iload_n 1, 1) := by decide +kernel
theorem dX9_hasRoutine_1 : decode cX9_hasRoutine 1 = .ok (.ifCond .lt 15, 3) := by decide +kernel
theorem dX9_hasRoutine_4 : decode cX9_hasRoutine 4 = .ok (.iload_n 1, 1) := by decide +kernel
theorem dX9_hasRoutine_5 : decode cX9_hasRoutine 5 = .ok (.aload_n 0, 1) := by decide +kernel
theorem dX9_hasRoutine_6 : decode cX9_hasRoutine 6 = .ok (.getfield 43, 3) := by decide +kernel
theorem dX9_hasRoutine_9 : decode cX9_hasRoutine 9 = .ok (.if_icmp .ge 7, 3) := by decide +kernel
theorem dX9_hasRoutine_12 : decode cX9_hasRoutine 12 = .ok (.iconst 1, 1) := by decide +kernel
theorem dX9_hasRoutine_13 : decode cX9_hasRoutine 13 = .ok (.goto 4, 3) := by decide +kernel
theorem dX9_hasRoutine_16 : decode cX9_hasRoutine 16 = .ok (.iconst 0, 1) := by decide +kernel
theorem dX9_hasRoutine_17 : decode cX9_hasRoutine 17 = .ok (.ireturn, 1) := by decide +kernel
set_option maxRecDepth 20000 in
theorem ggX9_hasCell_X9_hasTable : GoodIn wsX9_hasCell wsX9_hasTable := goodIn_r _ [5, 6, 7, 8, 9, 10, 11, 12, 13, 14, 15, 16, 17] (by decide +kernel) (by decide +kernel)
set_option maxRecDepth 20000 in
theorem gX9_hasCell_X9_hasTable : GoodIn wsX9_hasCell (wsV RX9 46 RX9 yX9_hasTable wsX9_hasTable) := goodIn_app (goodIn_of _ (by decide +kernel)) ggX9_hasCell_X9_hasTable
theorem dX9_hasCell_0 : decode cX9_hasCell 0 = .ok (.aload_n 0, 1) := by decide +kernel
theorem dX9_hasCell_1 : decode cX9_hasCell 1 = .ok (.iload_n 1, 1) := by decide +kernel
theorem dX9_hasCell_2 : decode cX9_hasCell 2 = .ok (.invokevirtual 46, 3) := by decide +kernel
theorem dX9_hasCell_5 : decode cX9_hasCell 5 = .ok (.ifCond .eq 17, 3) := by decide +kernel
theorem dX9_hasCell_8 : decode cX9_hasCell 8 = .ok (.iload_n 2, 1) := by decide +kernel
theorem dX9_hasCell_9 : decode cX9_hasCell 9 = .ok (.ifCond .lt 13, 3) := by decide +kernel
theorem dX9_hasCell_12 : decode cX9_hasCell 12 = .ok (.iload_n 2, 1) := by decide +kernel
theorem dX9_hasCell_13 : decode cX9_hasCell 13 = .ok (.bipush 8, 2) := by decide +kernel
theorem dX9_hasCell_15 : decode cX9_hasCell 15 = .ok (.if_icmp .ge 7, 3) := by decide +kernel
theorem dX9_hasCell_18 : decode cX9_hasCell 18 = .ok (.iconst 1, 1) := by decide +kernel
theorem dX9_hasCell_19 : decode cX9_hasCell 19 = .ok (.goto 4, 3) := by decide +kernel
theorem dX9_hasCell_22 : decode cX9_hasCell 22 = .ok (.iconst 0, 1) := by decide +kernel
theorem dX9_hasCell_23 : decode cX9_hasCell 23 = .ok (.ireturn, 1) := by decide +kernel
set_option maxRecDepth 20000 in
theorem ggX9_hasTiePlace_X9_hasModule : GoodIn wsX9_hasTiePlace wsX9_hasModule := goodIn_r _ [5, 6, 12, 13, 14, 15, 16, 17, 18, 19, 20, 21, 22] (by decide +kernel) (by decide +kernel)
set_option maxRecDepth 20000 in
theorem gX9_hasTiePlace_X9_hasModule : GoodIn wsX9_hasTiePlace (wsV RX9 50 RX9 yX9_hasModule wsX9_hasModule) := goodIn_app (goodIn_of _ (by decide +kernel)) ggX9_hasTiePlace_X9_hasModule
set_option maxRecDepth 20000 in
theorem ggX9_hasTiePlace_X9_hasTable : GoodIn wsX9_hasTiePlace wsX9_hasTable := goodIn_r _ [10, 11, 12, 13, 14, 15, 16, 17, 18, 19, 20, 21, 22] (by decide +kernel) (by decide +kernel)
set_option maxRecDepth 20000 in
theorem gX9_hasTiePlace_X9_hasTable : GoodIn wsX9_hasTiePlace (wsV RX9 46 RX9 yX9_hasTable wsX9_hasTable) := goodIn_app (goodIn_of _ (by decide +kernel)) ggX9_hasTiePlace_X9_hasTable
theorem dX9_hasTiePlace_0 : decode cX9_hasTiePlace 0 = .ok (.iload_n 1, 1) := by decide +kernel
theorem dX9_hasTiePlace_1 : decode cX9_hasTiePlace 1 = .ok (.ifCond .lt 16, 3) := by decide +kernel
theorem dX9_hasTiePlace_4 : decode cX9_hasTiePlace 4 = .ok (.iload_n 1, 1) := by decide +kernel
theorem dX9_hasTiePlace_5 : decode cX9_hasTiePlace 5 = .ok (.iconst 2, 1) := by decide +kernel
theorem dX9_hasTiePlace_6 : decode cX9_hasTiePlace 6 = .ok (.if_icmp .gt 11, 3) := by decide +kernel
theorem dX9_hasTiePlace_9 : decode cX9_hasTiePlace 9 = .ok (.aload_n 0, 1) := by decide +kernel
theorem dX9_hasTiePlace_10 : decode cX9_hasTiePlace 10 = .ok (.iload_n 2, 1) := by decide +kernel
theorem dX9_hasTiePlace_11 : decode cX9_hasTiePlace 11 = .ok (.invokevirtual 50, 3) := by decide +kernel
theorem dX9_hasTiePlace_14 : decode cX9_hasTiePlace 14 = .ok (.ifCond .ne 5, 3) := by decide +kernel
theorem dX9_hasTiePlace_17 : decode cX9_hasTiePlace 17 = .ok (.iconst 0, 1) := by decide +kernel
theorem dX9_hasTiePlace_18 : decode cX9_hasTiePlace 18 = .ok (.ireturn, 1) := by decide +kernel
theorem dX9_hasTiePlace_19 : decode cX9_hasTiePlace 19 = .ok (.iload_n 1, 1) := by decide +kernel
theorem dX9_hasTiePlace_20 : decode cX9_hasTiePlace 20 = .ok (.ifCond .ne 11, 3) := by decide +kernel
theorem dX9_hasTiePlace_23 : decode cX9_hasTiePlace 23 = .ok (.aload_n 0, 1) := by decide +kernel
theorem dX9_hasTiePlace_24 : decode cX9_hasTiePlace 24 = .ok (.iload_n 3, 1) := by decide +kernel
theorem dX9_hasTiePlace_25 : decode cX9_hasTiePlace 25 = .ok (.invokevirtual 50, 3) := by decide +kernel
theorem dX9_hasTiePlace_28 : decode cX9_hasTiePlace 28 = .ok (.goto 8, 3) := by decide +kernel
theorem dX9_hasTiePlace_31 : decode cX9_hasTiePlace 31 = .ok (.aload_n 0, 1) := by decide +kernel
theorem dX9_hasTiePlace_32 : decode cX9_hasTiePlace 32 = .ok (.iload_n 3, 1) := by decide +kernel
theorem dX9_hasTiePlace_33 : decode cX9_hasTiePlace 33 = .ok (.invokevirtual 46, 3) := by decide +kernel
theorem dX9_hasTiePlace_36 : decode cX9_hasTiePlace 36 = .ok (.ireturn, 1) := by decide +kernel
set_option maxRecDepth 20000 in
theorem ggX9_isLine_X9_hasCell : GoodIn wsX9_isLine wsX9_hasCell := goodIn_r _ [5, 6, 7, 8, 4, 9, 10, 16, 17, 18, 19, 20, 21, 22, 23, 24, 25, 26] (by decide +kernel) (by decide +kernel)
set_option maxRecDepth 20000 in
theorem gX9_isLine_X9_hasCell : GoodIn wsX9_isLine (wsV RX9 53 RX9 yX9_hasCell wsX9_hasCell) := goodIn_app (goodIn_of _ (by decide +kernel)) ggX9_isLine_X9_hasCell
set_option maxRecDepth 20000 in
theorem ggX9_isLine_X9_hasRoutine : GoodIn wsX9_isLine wsX9_hasRoutine := goodIn_r _ [14, 15, 16, 17, 18, 19, 20, 21, 22, 23, 24, 25, 26] (by decide +kernel) (by decide +kernel)
set_option maxRecDepth 20000 in
theorem gX9_isLine_X9_hasRoutine : GoodIn wsX9_isLine (wsV RX9 57 RX9 yX9_hasRoutine wsX9_hasRoutine) := goodIn_app (goodIn_of _ (by decide +kernel)) ggX9_isLine_X9_hasRoutine
theorem dX9_isLine_0 : decode cX9_isLine 0 = .ok (.iload_n 1, 1) := by decide +kernel
theorem dX9_isLine_1 : decode cX9_isLine 1 = .ok (.tableswitch 135 0 8 #[51, 51, 75, 75, 82, 100, 121, 75, 75], 51) := by decide +kernel
theorem dX9_isLine_52 : decode cX9_isLine 52 = .ok (.iload_n 2, 1) := by decide +kernel
theorem dX9_isLine_53 : decode cX9_isLine 53 = .ok (.sipush (-999), 3) := by decide +kernel
theorem dX9_isLine_56 : decode cX9_isLine 56 = .ok (.if_icmp .lt 18, 3) := by decide +kernel
theorem dX9_isLine_59 : decode cX9_isLine 59 = .ok (.iload_n 2, 1) := by decide +kernel
theorem dX9_isLine_60 : decode cX9_isLine 60 = .ok (.sipush 999, 3) := by decide +kernel
theorem dX9_isLine_63 : decode cX9_isLine 63 = .ok (.if_icmp .gt 11, 3) := by decide +kernel
theorem dX9_isLine_66 : decode cX9_isLine 66 = .ok (.iload_n 3, 1) := by decide +kernel
theorem dX9_isLine_67 : decode cX9_isLine 67 = .ok (.ifCond .ne 7, 3) := by decide +kernel
theorem dX9_isLine_70 : decode cX9_isLine 70 = .ok (.iconst 1, 1) := by decide +kernel
theorem dX9_isLine_71 : decode cX9_isLine 71 = .ok (.goto 4, 3) := by decide +kernel
theorem dX9_isLine_74 : decode cX9_isLine 74 = .ok (.iconst 0, 1) := by decide +kernel
theorem dX9_isLine_75 : decode cX9_isLine 75 = .ok (.ireturn, 1) := by decide +kernel
theorem dX9_isLine_76 : decode cX9_isLine 76 = .ok (.aload_n 0, 1) := by decide +kernel
theorem dX9_isLine_77 : decode cX9_isLine 77 = .ok (.iload_n 2, 1) := by decide +kernel
theorem dX9_isLine_78 : decode cX9_isLine 78 = .ok (.iload_n 3, 1) := by decide +kernel
theorem dX9_isLine_79 : decode cX9_isLine 79 = .ok (.invokevirtual 53, 3) := by decide +kernel
theorem dX9_isLine_82 : decode cX9_isLine 82 = .ok (.ireturn, 1) := by decide +kernel
theorem dX9_isLine_83 : decode cX9_isLine 83 = .ok (.aload_n 0, 1) := by decide +kernel
theorem dX9_isLine_84 : decode cX9_isLine 84 = .ok (.iload_n 2, 1) := by decide +kernel
theorem dX9_isLine_85 : decode cX9_isLine 85 = .ok (.invokevirtual 57, 3) := by decide +kernel
theorem dX9_isLine_88 : decode cX9_isLine 88 = .ok (.ifCond .eq 11, 3) := by decide +kernel
theorem dX9_isLine_91 : decode cX9_isLine 91 = .ok (.iload_n 3, 1) := by decide +kernel
theorem dX9_isLine_92 : decode cX9_isLine 92 = .ok (.ifCond .ne 7, 3) := by decide +kernel
theorem dX9_isLine_95 : decode cX9_isLine 95 = .ok (.iconst 1, 1) := by decide +kernel
theorem dX9_isLine_96 : decode cX9_isLine 96 = .ok (.goto 4, 3) := by decide +kernel
theorem dX9_isLine_99 : decode cX9_isLine 99 = .ok (.iconst 0, 1) := by decide +kernel
theorem dX9_isLine_100 : decode cX9_isLine 100 = .ok (.ireturn, 1) := by decide +kernel
theorem dX9_isLine_101 : decode cX9_isLine 101 = .ok (.iload_n 2, 1) := by decide +kernel
theorem dX9_isLine_102 : decode cX9_isLine 102 = .ok (.iconst 1, 1) := by decide +kernel
theorem dX9_isLine_103 : decode cX9_isLine 103 = .ok (.if_icmp .lt 17, 3) := by decide +kernel
theorem dX9_isLine_106 : decode cX9_isLine 106 = .ok (.iload_n 2, 1) := by decide +kernel
theorem dX9_isLine_107 : decode cX9_isLine 107 = .ok (.bipush 16, 2) := by decide +kernel
theorem dX9_isLine_109 : decode cX9_isLine 109 = .ok (.if_icmp .ge 11, 3) := by decide +kernel
theorem dX9_isLine_112 : decode cX9_isLine 112 = .ok (.iload_n 3, 1) := by decide +kernel
theorem dX9_isLine_113 : decode cX9_isLine 113 = .ok (.ifCond .ne 7, 3) := by decide +kernel
theorem dX9_isLine_116 : decode cX9_isLine 116 = .ok (.iconst 1, 1) := by decide +kernel
theorem dX9_isLine_117 : decode cX9_isLine 117 = .ok (.goto 4, 3) := by decide +kernel
theorem dX9_isLine_120 : decode cX9_isLine 120 = .ok (.iconst 0, 1) := by decide +kernel
theorem dX9_isLine_121 : decode cX9_isLine 121 = .ok (.ireturn, 1) := by decide +kernel
theorem dX9_isLine_122 : decode cX9_isLine 122 = .ok (.iload_n 2, 1) := by decide +kernel
theorem dX9_isLine_123 : decode cX9_isLine 123 = .ok (.ifCond .ne 11, 3) := by decide +kernel
theorem dX9_isLine_126 : decode cX9_isLine 126 = .ok (.iload_n 3, 1) := by decide +kernel
theorem dX9_isLine_127 : decode cX9_isLine 127 = .ok (.ifCond .ne 7, 3) := by decide +kernel
theorem dX9_isLine_130 : decode cX9_isLine 130 = .ok (.iconst 1, 1) := by decide +kernel
theorem dX9_isLine_131 : decode cX9_isLine 131 = .ok (.goto 4, 3) := by decide +kernel
theorem dX9_isLine_134 : decode cX9_isLine 134 = .ok (.iconst 0, 1) := by decide +kernel
theorem dX9_isLine_135 : decode cX9_isLine 135 = .ok (.ireturn, 1) := by decide +kernel
theorem dX9_isLine_136 : decode cX9_isLine 136 = .ok (.iconst 0, 1) := by decide +kernel
theorem dX9_isLine_137 : decode cX9_isLine 137 = .ok (.ireturn, 1) := by decide +kernel
theorem dX9_addModule_0 : decode cX9_addModule 0 = .ok (.aload_n 0, 1) := by decide +kernel
theorem dX9_addModule_1 : decode cX9_addModule 1 = .ok (.getfield 9, 3) := by decide +kernel
theorem dX9_addModule_4 : decode cX9_addModule 4 = .ok (.aload_n 0, 1) := by decide +kernel
theorem dX9_addModule_5 : decode cX9_addModule 5 = .ok (.getfield 36, 3) := by decide +kernel
theorem dX9_addModule_8 : decode cX9_addModule 8 = .ok (.iload_n 1, 1) := by decide +kernel
theorem dX9_addModule_9 : decode cX9_addModule 9 = .ok (.iastore, 1) := by decide +kernel
theorem dX9_addModule_10 : decode cX9_addModule 10 = .ok (.aload_n 0, 1) := by decide +kernel
theorem dX9_addModule_11 : decode cX9_addModule 11 = .ok (.dup, 1) := by decide +kernel
theorem dX9_addModule_12 : decode cX9_addModule 12 = .ok (.getfield 36, 3) := by decide +kernel
theorem dX9_addModule_15 : decode cX9_addModule 15 = .ok (.dup_x1, 1) := by decide +kernel
theorem dX9_addModule_16 : decode cX9_addModule 16 = .ok (.iconst 1, 1) := by decide +kernel
theorem dX9_addModule_17 : decode cX9_addModule 17 = .ok (.iadd, 1) := by decide +kernel
theorem dX9_addModule_18 : decode cX9_addModule 18 = .ok (.putfield 36, 3) := by decide +kernel
theorem dX9_addModule_21 : decode cX9_addModule 21 = .ok (.ireturn, 1) := by decide +kernel
theorem dX9_addTable_0 : decode cX9_addTable 0 = .ok (.aload_n 0, 1) := by decide +kernel
theorem dX9_addTable_1 : decode cX9_addTable 1 = .ok (.getfield 15, 3) := by decide +kernel
theorem dX9_addTable_4 : decode cX9_addTable 4 = .ok (.aload_n 0, 1) := by decide +kernel
theorem dX9_addTable_5 : decode cX9_addTable 5 = .ok (.getfield 40, 3) := by decide +kernel
theorem dX9_addTable_8 : decode cX9_addTable 8 = .ok (.iload_n 1, 1) := by decide +kernel
theorem dX9_addTable_9 : decode cX9_addTable 9 = .ok (.iastore, 1) := by decide +kernel
theorem dX9_addTable_10 : decode cX9_addTable 10 = .ok (.aload_n 0, 1) := by decide +kernel
theorem dX9_addTable_11 : decode cX9_addTable 11 = .ok (.dup, 1) := by decide +kernel
theorem dX9_addTable_12 : decode cX9_addTable 12 = .ok (.getfield 40, 3) := by decide +kernel
theorem dX9_addTable_15 : decode cX9_addTable 15 = .ok (.dup_x1, 1) := by decide +kernel
theorem dX9_addTable_16 : decode cX9_addTable 16 = .ok (.iconst 1, 1) := by decide +kernel
theorem dX9_addTable_17 : decode cX9_addTable 17 = .ok (.iadd, 1) := by decide +kernel
theorem dX9_addTable_18 : decode cX9_addTable 18 = .ok (.putfield 40, 3) := by decide +kernel
theorem dX9_addTable_21 : decode cX9_addTable 21 = .ok (.ireturn, 1) := by decide +kernel
theorem dX9_addRoutine_0 : decode cX9_addRoutine 0 = .ok (.aload_n 0, 1) := by decide +kernel
theorem dX9_addRoutine_1 : decode cX9_addRoutine 1 = .ok (.getfield 18, 3) := by decide +kernel
theorem dX9_addRoutine_4 : decode cX9_addRoutine 4 = .ok (.aload_n 0, 1) := by decide +kernel
theorem dX9_addRoutine_5 : decode cX9_addRoutine 5 = .ok (.getfield 43, 3) := by decide +kernel
theorem dX9_addRoutine_8 : decode cX9_addRoutine 8 = .ok (.iload_n 1, 1) := by decide +kernel
theorem dX9_addRoutine_9 : decode cX9_addRoutine 9 = .ok (.iastore, 1) := by decide +kernel
theorem dX9_addRoutine_10 : decode cX9_addRoutine 10 = .ok (.aload_n 0, 1) := by decide +kernel
theorem dX9_addRoutine_11 : decode cX9_addRoutine 11 = .ok (.dup, 1) := by decide +kernel
theorem dX9_addRoutine_12 : decode cX9_addRoutine 12 = .ok (.getfield 43, 3) := by decide +kernel
theorem dX9_addRoutine_15 : decode cX9_addRoutine 15 = .ok (.dup_x1, 1) := by decide +kernel
theorem dX9_addRoutine_16 : decode cX9_addRoutine 16 = .ok (.iconst 1, 1) := by decide +kernel
theorem dX9_addRoutine_17 : decode cX9_addRoutine 17 = .ok (.iadd, 1) := by decide +kernel
theorem dX9_addRoutine_18 : decode cX9_addRoutine 18 = .ok (.putfield 43, 3) := by decide +kernel
theorem dX9_addRoutine_21 : decode cX9_addRoutine 21 = .ok (.ireturn, 1) := by decide +kernel
set_option maxRecDepth 20000 in
theorem ggX9_addLine_X9_tieOfLine : GoodIn wsX9_addLine wsX9_tieOfLine := goodIn_r _ [9, 10, 2, 3, 11, 12, 13, 19, 20, 21, 22, 23, 24, 25, 26, 27, 28, 29] (by decide +kernel) (by decide +kernel)
set_option maxRecDepth 20000 in
theorem gX9_addLine_X9_tieOfLine : GoodIn wsX9_addLine (wsV RX9 60 RX9 yX9_tieOfLine wsX9_tieOfLine) := goodIn_app (goodIn_of _ (by decide +kernel)) ggX9_addLine_X9_tieOfLine
set_option maxRecDepth 20000 in
theorem ggX9_addLine_X9_addToTie : GoodIn wsX9_addLine wsX9_addToTie := goodIn_r _ [17, 18, 19, 20, 21, 22, 23, 24, 25, 26, 27, 28, 29] (by decide +kernel) (by decide +kernel)
set_option maxRecDepth 20000 in
theorem gX9_addLine_X9_addToTie : GoodIn wsX9_addLine (wsV RX9 64 RX9 yX9_addToTie wsX9_addToTie) := goodIn_app (goodIn_of _ (by decide +kernel)) ggX9_addLine_X9_addToTie
theorem dX9_addLine_0 : decode cX9_addLine 0 = .ok (.aload_n 0, 1) := by decide +kernel
theorem dX9_addLine_1 : decode cX9_addLine 1 = .ok (.getfield 21, 3) := by decide +kernel
theorem dX9_addLine_4 : decode cX9_addLine 4 = .ok (.iload_n 1, 1) := by decide +kernel
theorem dX9_addLine_5 : decode cX9_addLine 5 = .ok (.iaload, 1) := by decide +kernel
theorem dX9_addLine_6 : decode cX9_addLine 6 = .ok (.istore 5, 2) := by decide +kernel
theorem dX9_addLine_8 : decode cX9_addLine 8 = .ok (.iload_n 1, 1) := by decide +kernel
theorem dX9_addLine_9 : decode cX9_addLine 9 = .ok (.bipush 16, 2) := by decide +kernel
theorem dX9_addLine_11 : decode cX9_addLine 11 = .ok (.imul, 1) := by decide +kernel
theorem dX9_addLine_12 : decode cX9_addLine 12 = .ok (.iload 5, 2) := by decide +kernel
theorem dX9_addLine_14 : decode cX9_addLine 14 = .ok (.iadd, 1) := by decide +kernel
theorem dX9_addLine_15 : decode cX9_addLine 15 = .ok (.istore 6, 2) := by decide +kernel
theorem dX9_addLine_17 : decode cX9_addLine 17 = .ok (.aload_n 0, 1) := by decide +kernel
theorem dX9_addLine_18 : decode cX9_addLine 18 = .ok (.getfield 24, 3) := by decide +kernel
theorem dX9_addLine_21 : decode cX9_addLine 21 = .ok (.iload 6, 2) := by decide +kernel
theorem dX9_addLine_23 : decode cX9_addLine 23 = .ok (.iload_n 2, 1) := by decide +kernel
theorem dX9_addLine_24 : decode cX9_addLine 24 = .ok (.iastore, 1) := by decide +kernel
theorem dX9_addLine_25 : decode cX9_addLine 25 = .ok (.aload_n 0, 1) := by decide +kernel
theorem dX9_addLine_26 : decode cX9_addLine 26 = .ok (.getfield 27, 3) := by decide +kernel
theorem dX9_addLine_29 : decode cX9_addLine 29 = .ok (.iload 6, 2) := by decide +kernel
theorem dX9_addLine_31 : decode cX9_addLine 31 = .ok (.iload_n 3, 1) := by decide +kernel
theorem dX9_addLine_32 : decode cX9_addLine 32 = .ok (.iastore, 1) := by decide +kernel
theorem dX9_addLine_33 : decode cX9_addLine 33 = .ok (.aload_n 0, 1) := by decide +kernel
theorem dX9_addLine_34 : decode cX9_addLine 34 = .ok (.getfield 30, 3) := by decide +kernel
theorem dX9_addLine_37 : decode cX9_addLine 37 = .ok (.iload 6, 2) := by decide +kernel
theorem dX9_addLine_39 : decode cX9_addLine 39 = .ok (.iload 4, 2) := by decide +kernel
theorem dX9_addLine_41 : decode cX9_addLine 41 = .ok (.iastore, 1) := by decide +kernel
theorem dX9_addLine_42 : decode cX9_addLine 42 = .ok (.aload_n 0, 1) := by decide +kernel
theorem dX9_addLine_43 : decode cX9_addLine 43 = .ok (.getfield 21, 3) := by decide +kernel
theorem dX9_addLine_46 : decode cX9_addLine 46 = .ok (.iload_n 1, 1) := by decide +kernel
theorem dX9_addLine_47 : decode cX9_addLine 47 = .ok (.iload 5, 2) := by decide +kernel
theorem dX9_addLine_49 : decode cX9_addLine 49 = .ok (.iconst 1, 1) := by decide +kernel
theorem dX9_addLine_50 : decode cX9_addLine 50 = .ok (.iadd, 1) := by decide +kernel
theorem dX9_addLine_51 : decode cX9_addLine 51 = .ok (.iastore, 1) := by decide +kernel
theorem dX9_addLine_52 : decode cX9_addLine 52 = .ok (.aload_n 0, 1) := by decide +kernel
theorem dX9_addLine_53 : decode cX9_addLine 53 = .ok (.aload_n 0, 1) := by decide +kernel
theorem dX9_addLine_54 : decode cX9_addLine 54 = .ok (.iload_n 1, 1) := by decide +kernel
theorem dX9_addLine_55 : decode cX9_addLine 55 = .ok (.iload 6, 2) := by decide +kernel
theorem dX9_addLine_57 : decode cX9_addLine 57 = .ok (.invokevirtual 60, 3) := by decide +kernel
theorem dX9_addLine_60 : decode cX9_addLine 60 = .ok (.iconst 1, 1) := by decide +kernel
theorem dX9_addLine_61 : decode cX9_addLine 61 = .ok (.invokevirtual 64, 3) := by decide +kernel
theorem dX9_addLine_64 : decode cX9_addLine 64 = .ok (.iload 5, 2) := by decide +kernel
theorem dX9_addLine_66 : decode cX9_addLine 66 = .ok (.ireturn, 1) := by decide +kernel
set_option maxRecDepth 20000 in
theorem ggX9_dropLines_X9_tieOfLine : GoodIn wsX9_dropLines wsX9_tieOfLine := goodIn_r _ [6, 7, 8, 9, 10, 11, 12, 18, 19, 20, 21, 22, 23, 24, 25, 26, 27, 28] (by decide +kernel) (by decide +kernel)
set_option maxRecDepth 20000 in
theorem gX9_dropLines_X9_tieOfLine : GoodIn wsX9_dropLines (wsV RX9 60 RX9 yX9_tieOfLine wsX9_tieOfLine) := goodIn_app (goodIn_of _ (by decide +kernel)) ggX9_dropLines_X9_tieOfLine
set_option maxRecDepth 20000 in
theorem ggX9_dropLines_X9_addToTie : GoodIn wsX9_dropLines wsX9_addToTie := goodIn_r _ [16, 17, 18, 19, 20, 21, 22, 23, 24, 25, 26, 27, 28] (by decide +kernel) (by decide +kernel)
set_option maxRecDepth 20000 in
theorem gX9_dropLines_X9_addToTie : GoodIn wsX9_dropLines (wsV RX9 64 RX9 yX9_addToTie wsX9_addToTie) := goodIn_app (goodIn_of _ (by decide +kernel)) ggX9_dropLines_X9_addToTie
theorem dX9_dropLines_0 : decode cX9_dropLines 0 = .ok (.aload_n 0, 1) := by decide +kernel
theorem dX9_dropLines_1 : decode cX9_dropLines 1 = .ok (.getfield 21, 3) := by decide +kernel
theorem dX9_dropLines_4 : decode cX9_dropLines 4 = .ok (.iload_n 1, 1) := by decide +kernel
theorem dX9_dropLines_5 : decode cX9_dropLines 5 = .ok (.iaload, 1) := by decide +kernel
theorem dX9_dropLines_6 : decode cX9_dropLines 6 = .ok (.istore_n 2, 1) := by decide +kernel
theorem dX9_dropLines_7 : decode cX9_dropLines 7 = .ok (.iconst 0, 1) := by decide +kernel
theorem dX9_dropLines_8 : decode cX9_dropLines 8 = .ok (.istore_n 3, 1) := by decide +kernel
theorem dX9_dropLines_9 : decode cX9_dropLines 9 = .ok (.iload_n 3, 1) := by decide +kernel
theorem dX9_dropLines_10 : decode cX9_dropLines 10 = .ok (.iload_n 2, 1) := by decide +kernel
theorem dX9_dropLines_11 : decode cX9_dropLines 11 = .ok (.if_icmp .ge 25, 3) := by decide +kernel
theorem dX9_dropLines_14 : decode cX9_dropLines 14 = .ok (.aload_n 0, 1) := by decide +kernel
theorem dX9_dropLines_15 : decode cX9_dropLines 15 = .ok (.aload_n 0, 1) := by decide +kernel
theorem dX9_dropLines_16 : decode cX9_dropLines 16 = .ok (.iload_n 1, 1) := by decide +kernel
theorem dX9_dropLines_17 : decode cX9_dropLines 17 = .ok (.iload_n 1, 1) := by decide +kernel
theorem dX9_dropLines_18 : decode cX9_dropLines 18 = .ok (.bipush 16, 2) := by decide +kernel
theorem dX9_dropLines_20 : decode cX9_dropLines 20 = .ok (.imul, 1) := by decide +kernel
theorem dX9_dropLines_21 : decode cX9_dropLines 21 = .ok (.iload_n 3, 1) := by decide +kernel
theorem dX9_dropLines_22 : decode cX9_dropLines 22 = .ok (.iadd, 1) := by decide +kernel
theorem dX9_dropLines_23 : decode cX9_dropLines 23 = .ok (.invokevirtual 60, 3) := by decide +kernel
theorem dX9_dropLines_26 : decode cX9_dropLines 26 = .ok (.iconst (-1), 1) := by decide +kernel
theorem dX9_dropLines_27 : decode cX9_dropLines 27 = .ok (.invokevirtual 64, 3) := by decide +kernel
theorem dX9_dropLines_30 : decode cX9_dropLines 30 = .ok (.iinc 3 1, 3) := by decide +kernel
theorem dX9_dropLines_33 : decode cX9_dropLines 33 = .ok (.goto (-24), 3) := by decide +kernel
theorem dX9_dropLines_36 : decode cX9_dropLines 36 = .ok (.aload_n 0, 1) := by decide +kernel
theorem dX9_dropLines_37 : decode cX9_dropLines 37 = .ok (.getfield 21, 3) := by decide +kernel
theorem dX9_dropLines_40 : decode cX9_dropLines 40 = .ok (.iload_n 1, 1) := by decide +kernel
theorem dX9_dropLines_41 : decode cX9_dropLines 41 = .ok (.iconst 0, 1) := by decide +kernel
theorem dX9_dropLines_42 : decode cX9_dropLines 42 = .ok (.iastore, 1) := by decide +kernel
theorem dX9_dropLines_43 : decode cX9_dropLines 43 = .ok (.iload_n 2, 1) := by decide +kernel
theorem dX9_dropLines_44 : decode cX9_dropLines 44 = .ok (.ireturn, 1) := by decide +kernel
set_option maxRecDepth 20000 in
theorem ggX9_tieOfLine_X10_tiePlace : GoodIn wsX9_tieOfLine wsX10_tiePlace := goodIn_r _ [6] (by decide +kernel) (by decide +kernel)
set_option maxRecDepth 20000 in
theorem gX9_tieOfLine_X10_tiePlace_n68 : GoodIn wsX9_tieOfLine (wsX10_tiePlace) := ggX9_tieOfLine_X10_tiePlace
theorem dX9_tieOfLine_0 : decode cX9_tieOfLine 0 = .ok (.aload_n 0, 1) := by decide +kernel
theorem dX9_tieOfLine_1 : decode cX9_tieOfLine 1 = .ok (.getfield 18, 3) := by decide +kernel
theorem dX9_tieOfLine_4 : decode cX9_tieOfLine 4 = .ok (.iload_n 1, 1) := by decide +kernel
theorem dX9_tieOfLine_5 : decode cX9_tieOfLine 5 = .ok (.iaload, 1) := by decide +kernel
theorem dX9_tieOfLine_6 : decode cX9_tieOfLine 6 = .ok (.istore_n 3, 1) := by decide +kernel
theorem dX9_tieOfLine_7 : decode cX9_tieOfLine 7 = .ok (.aload_n 0, 1) := by decide +kernel
theorem dX9_tieOfLine_8 : decode cX9_tieOfLine 8 = .ok (.getfield 24, 3) := by decide +kernel
theorem dX9_tieOfLine_11 : decode cX9_tieOfLine 11 = .ok (.iload_n 2, 1) := by decide +kernel
theorem dX9_tieOfLine_12 : decode cX9_tieOfLine 12 = .ok (.iaload, 1) := by decide +kernel
theorem dX9_tieOfLine_13 : decode cX9_tieOfLine 13 = .ok (.tableswitch 84 2 8 #[60, 72, 43, 84, 84, 60, 60], 43) := by decide +kernel
theorem dX9_tieOfLine_56 : decode cX9_tieOfLine 56 = .ok (.iconst 0, 1) := by decide +kernel
theorem dX9_tieOfLine_57 : decode cX9_tieOfLine 57 = .ok (.iload_n 3, 1) := by decide +kernel
theorem dX9_tieOfLine_58 : decode cX9_tieOfLine 58 = .ok (.aload_n 0, 1) := by decide +kernel
theorem dX9_tieOfLine_59 : decode cX9_tieOfLine 59 = .ok (.getfield 18, 3) := by decide +kernel
theorem dX9_tieOfLine_62 : decode cX9_tieOfLine 62 = .ok (.aload_n 0, 1) := by decide +kernel
theorem dX9_tieOfLine_63 : decode cX9_tieOfLine 63 = .ok (.getfield 27, 3) := by decide +kernel
theorem dX9_tieOfLine_66 : decode cX9_tieOfLine 66 = .ok (.iload_n 2, 1) := by decide +kernel
theorem dX9_tieOfLine_67 : decode cX9_tieOfLine 67 = .ok (.iaload, 1) := by decide +kernel
theorem dX9_tieOfLine_68 : decode cX9_tieOfLine 68 = .ok (.iaload, 1) := by decide +kernel
theorem dX9_tieOfLine_69 : decode cX9_tieOfLine 69 = .ok (.invokestatic 68, 3) := by decide +kernel
theorem dX9_tieOfLine_72 : decode cX9_tieOfLine 72 = .ok (.ireturn, 1) := by decide +kernel
theorem dX9_tieOfLine_73 : decode cX9_tieOfLine 73 = .ok (.iconst 1, 1) := by decide +kernel
theorem dX9_tieOfLine_74 : decode cX9_tieOfLine 74 = .ok (.iload_n 3, 1) := by decide +kernel
theorem dX9_tieOfLine_75 : decode cX9_tieOfLine 75 = .ok (.aload_n 0, 1) := by decide +kernel
theorem dX9_tieOfLine_76 : decode cX9_tieOfLine 76 = .ok (.getfield 27, 3) := by decide +kernel
theorem dX9_tieOfLine_79 : decode cX9_tieOfLine 79 = .ok (.iload_n 2, 1) := by decide +kernel
theorem dX9_tieOfLine_80 : decode cX9_tieOfLine 80 = .ok (.iaload, 1) := by decide +kernel
theorem dX9_tieOfLine_81 : decode cX9_tieOfLine 81 = .ok (.invokestatic 68, 3) := by decide +kernel
theorem dX9_tieOfLine_84 : decode cX9_tieOfLine 84 = .ok (.ireturn, 1) := by decide +kernel
theorem dX9_tieOfLine_85 : decode cX9_tieOfLine 85 = .ok (.iconst 2, 1) := by decide +kernel
theorem dX9_tieOfLine_86 : decode cX9_tieOfLine 86 = .ok (.iload_n 3, 1) := by decide +kernel
theorem dX9_tieOfLine_87 : decode cX9_tieOfLine 87 = .ok (.aload_n 0, 1) := by decide +kernel
theorem dX9_tieOfLine_88 : decode cX9_tieOfLine 88 = .ok (.getfield 27, 3) := by decide +kernel
theorem dX9_tieOfLine_91 : decode cX9_tieOfLine 91 = .ok (.iload_n 2, 1) := by decide +kernel
theorem dX9_tieOfLine_92 : decode cX9_tieOfLine 92 = .ok (.iaload, 1) := by decide +kernel
theorem dX9_tieOfLine_93 : decode cX9_tieOfLine 93 = .ok (.invokestatic 68, 3) := by decide +kernel
theorem dX9_tieOfLine_96 : decode cX9_tieOfLine 96 = .ok (.ireturn, 1) := by decide +kernel
theorem dX9_tieOfLine_97 : decode cX9_tieOfLine 97 = .ok (.iconst (-1), 1) := by decide +kernel
theorem dX9_tieOfLine_98 : decode cX9_tieOfLine 98 = .ok (.ireturn, 1) := by decide +kernel
theorem dX9_addToTie_0 : decode cX9_addToTie 0 = .ok (.iload_n 1, 1) := by decide +kernel
theorem dX9_addToTie_1 : decode cX9_addToTie 1 = .ok (.iconst (-1), 1) := by decide +kernel
theorem dX9_addToTie_2 : decode cX9_addToTie 2 = .ok (.if_icmp .eq 13, 3) := by decide +kernel
theorem dX9_addToTie_5 : decode cX9_addToTie 5 = .ok (.aload_n 0, 1) := by decide +kernel
theorem dX9_addToTie_6 : decode cX9_addToTie 6 = .ok (.getfield 33, 3) := by decide +kernel
theorem dX9_addToTie_9 : decode cX9_addToTie 9 = .ok (.iload_n 1, 1) := by decide +kernel
theorem dX9_addToTie_10 : decode cX9_addToTie 10 = .ok (.dup2, 1) := by decide +kernel
theorem dX9_addToTie_11 : decode cX9_addToTie 11 = .ok (.iaload, 1) := by decide +kernel
theorem dX9_addToTie_12 : decode cX9_addToTie 12 = .ok (.iload_n 2, 1) := by decide +kernel
theorem dX9_addToTie_13 : decode cX9_addToTie 13 = .ok (.iadd, 1) := by decide +kernel
theorem dX9_addToTie_14 : decode cX9_addToTie 14 = .ok (.iastore, 1) := by decide +kernel
theorem dX9_addToTie_15 : decode cX9_addToTie 15 = .ok (.return_, 1) := by decide +kernel
set_option maxRecDepth 20000 in
theorem ggX10_init_X9_init : GoodIn wsX10_init wsX9_init := goodIn_r _ [43, 44, 2, 3, 17, 45, 46, 47, 48, 49, 50, 51, 52, 140, 141, 142, 143, 144, 145, 146, 147, 148, 149, 150] (by decide +kernel) (by decide +kernel)
set_option maxRecDepth 20000 in
theorem gX10_init_X9_init_n11 : GoodIn wsX10_init (wsX9_init) := ggX10_init_X9_init
set_option maxRecDepth 20000 in
theorem ggX10_init_X0_init : GoodIn wsX10_init wsX0_init := goodIn_r _ [54, 55, 2, 3, 17, 56, 57, 58, 59, 60, 61, 62, 164, 165, 166, 167, 168, 169, 170, 171, 172, 173] (by decide +kernel) (by decide +kernel)
set_option maxRecDepth 20000 in
theorem gX10_init_X0_init_n18 : GoodIn wsX10_init (wsX0_init) := ggX10_init_X0_init
set_option maxRecDepth 20000 in
theorem ggX10_init_X4_init : GoodIn wsX10_init wsX4_init := goodIn_r _ [64, 65, 2, 3, 17, 66, 67, 68, 69, 70, 71, 72, 73, 74, 75, 76, 77, 78, 79, 80, 81, 82, 83, 84, 85, 86, 87, 88, 89, 174, 175, 176, 177, 178, 179, 180, 181, 182, 183, 184, 219, 220, 221, 222, 223, 224, 225, 226] (by decide +kernel) (by decide +kernel)
set_option maxRecDepth 20000 in
theorem gX10_init_X4_init_n25 : GoodIn wsX10_init (wsX4_init) := ggX10_init_X4_init
set_option maxRecDepth 20000 in
theorem ggX10_init_J7_fill_53178 : GoodIn wsX10_init wsJ7_fill_53178 := goodIn_r _ [93] (by decide +kernel) (by decide +kernel)
set_option maxRecDepth 20000 in
theorem gX10_init_J7_fill_53178 : GoodIn wsX10_init (va_wsS RX10 44 yJ7_fill_53178 wsJ7_fill_53178) := goodIn_app (goodIn_of _ (by decide +kernel)) ggX10_init_J7_fill_53178
set_option maxRecDepth 20000 in
theorem ggX10_init_X7_init : GoodIn wsX10_init wsX7_init := goodIn_r _ [96, 97, 2, 3, 98, 99, 100, 101, 102, 103, 104, 185, 186, 187, 188, 189, 174, 175, 176, 177, 178, 179, 180, 181, 182, 183, 184] (by decide +kernel) (by decide +kernel)
set_option maxRecDepth 20000 in
theorem gX10_init_X7_init : GoodIn wsX10_init (wsX7_init) := ggX10_init_X7_init
set_option maxRecDepth 20000 in
theorem ggX10_init_X2_init : GoodIn wsX10_init wsX2_init := goodIn_r _ [107, 108, 2, 3, 17, 109, 110, 111, 112, 113, 114, 115, 116, 117, 190, 191, 192, 193, 194, 195, 196, 197, 198, 199, 200, 201, 202, 203] (by decide +kernel) (by decide +kernel)
set_option maxRecDepth 20000 in
theorem gX10_init_X2_init : GoodIn wsX10_init (wsX2_init) := ggX10_init_X2_init
set_option maxRecDepth 20000 in
theorem ggX10_init_X8_init : GoodIn wsX10_init wsX8_init := goodIn_r _ [119, 120, 2, 3, 17, 121, 122, 204, 205] (by decide +kernel) (by decide +kernel)
set_option maxRecDepth 20000 in
theorem gX10_init_X8_init_n73 : GoodIn wsX10_init (wsX8_init) := ggX10_init_X8_init
set_option maxRecDepth 20000 in
theorem ggX10_init_X5_init : GoodIn wsX10_init wsX5_init := goodIn_r _ [124, 125, 2, 3, 17, 126, 127, 128, 129, 206, 207, 208, 209, 210] (by decide +kernel) (by decide +kernel)
set_option maxRecDepth 20000 in
theorem gX10_init_X5_init_n80 : GoodIn wsX10_init (wsX5_init) := ggX10_init_X5_init
set_option maxRecDepth 20000 in
theorem ggX10_init_X1_init : GoodIn wsX10_init wsX1_init := goodIn_r _ [131, 132, 2, 3, 17, 133, 134, 57, 135, 136, 137, 138, 139, 211, 212, 213, 214, 215, 216, 217, 218] (by decide +kernel) (by decide +kernel)
set_option maxRecDepth 20000 in
theorem gX10_init_X1_init_n87 : GoodIn wsX10_init (wsX1_init) := ggX10_init_X1_init
theorem dX10_init_0 : decode cX10_init 0 = .ok (.aload_n 0, 1) := by decide +kernel
theorem dX10_init_1 : decode cX10_init 1 = .ok (.invokespecial 3, 3) := by decide +kernel
theorem dX10_init_4 : decode cX10_init 4 = .ok (.aload_n 0, 1) := by decide +kernel
theorem dX10_init_5 : decode cX10_init 5 = .ok (.new 9, 3) := by decide +kernel
theorem dX10_init_8 : decode cX10_init 8 = .ok (.dup, 1) := by decide +kernel
theorem dX10_init_9 : decode cX10_init 9 = .ok (.invokespecial 11, 3) := by decide +kernel
theorem dX10_init_12 : decode cX10_init 12 = .ok (.putfield 12, 3) := by decide +kernel
theorem dX10_init_15 : decode cX10_init 15 = .ok (.aload_n 0, 1) := by decide +kernel
theorem dX10_init_16 : decode cX10_init 16 = .ok (.new 16, 3) := by decide +kernel
theorem dX10_init_19 : decode cX10_init 19 = .ok (.dup, 1) := by decide +kernel
theorem dX10_init_20 : decode cX10_init 20 = .ok (.invokespecial 18, 3) := by decide +kernel
theorem dX10_init_23 : decode cX10_init 23 = .ok (.putfield 19, 3) := by decide +kernel
theorem dX10_init_26 : decode cX10_init 26 = .ok (.aload_n 0, 1) := by decide +kernel
theorem dX10_init_27 : decode cX10_init 27 = .ok (.new 23, 3) := by decide +kernel
theorem dX10_init_30 : decode cX10_init 30 = .ok (.dup, 1) := by decide +kernel
theorem dX10_init_31 : decode cX10_init 31 = .ok (.invokespecial 25, 3) := by decide +kernel
theorem dX10_init_34 : decode cX10_init 34 = .ok (.putfield 26, 3) := by decide +kernel
theorem dX10_init_37 : decode cX10_init 37 = .ok (.aload_n 0, 1) := by decide +kernel
theorem dX10_init_38 : decode cX10_init 38 = .ok (.iconst 4, 1) := by decide +kernel
theorem dX10_init_39 : decode cX10_init 39 = .ok (.anewarray 23, 3) := by decide +kernel
theorem dX10_init_42 : decode cX10_init 42 = .ok (.putfield 30, 3) := by decide +kernel
theorem dX10_init_45 : decode cX10_init 45 = .ok (.aload_n 0, 1) := by decide +kernel
theorem dX10_init_46 : decode cX10_init 46 = .ok (.iconst 4, 1) := by decide +kernel
theorem dX10_init_47 : decode cX10_init 47 = .ok (.newarray .int, 2) := by decide +kernel
theorem dX10_init_49 : decode cX10_init 49 = .ok (.putfield 34, 3) := by decide +kernel
theorem dX10_init_52 : decode cX10_init 52 = .ok (.aload_n 0, 1) := by decide +kernel
theorem dX10_init_53 : decode cX10_init 53 = .ok (.iconst 4, 1) := by decide +kernel
theorem dX10_init_54 : decode cX10_init 54 = .ok (.newarray .int, 2) := by decide +kernel
theorem dX10_init_56 : decode cX10_init 56 = .ok (.putfield 38, 3) := by decide +kernel
theorem dX10_init_59 : decode cX10_init 59 = .ok (.aload_n 0, 1) := by decide +kernel
theorem dX10_init_60 : decode cX10_init 60 = .ok (.iconst 4, 1) := by decide +kernel
theorem dX10_init_61 : decode cX10_init 61 = .ok (.newarray .int, 2) := by decide +kernel
theorem dX10_init_63 : decode cX10_init 63 = .ok (.putfield 41, 3) := by decide +kernel
theorem dX10_init_66 : decode cX10_init 66 = .ok (.aload_n 0, 1) := by decide +kernel
theorem dX10_init_67 : decode cX10_init 67 = .ok (.getfield 41, 3) := by decide +kernel
theorem dX10_init_70 : decode cX10_init 70 = .ok (.iconst 1, 1) := by decide +kernel
theorem dX10_init_71 : decode cX10_init 71 = .ok (.invokestatic 44, 3) := by decide +kernel
theorem dX10_init_74 : decode cX10_init 74 = .ok (.aload_n 0, 1) := by decide +kernel
theorem dX10_init_75 : decode cX10_init 75 = .ok (.bipush 100, 2) := by decide +kernel
theorem dX10_init_77 : decode cX10_init 77 = .ok (.newarray .int, 2) := by decide +kernel
theorem dX10_init_79 : decode cX10_init 79 = .ok (.putfield 50, 3) := by decide +kernel
theorem dX10_init_82 : decode cX10_init 82 = .ok (.aload_n 0, 1) := by decide +kernel
theorem dX10_init_83 : decode cX10_init 83 = .ok (.new 53, 3) := by decide +kernel
theorem dX10_init_86 : decode cX10_init 86 = .ok (.dup, 1) := by decide +kernel
theorem dX10_init_87 : decode cX10_init 87 = .ok (.aload_n 0, 1) := by decide +kernel
theorem dX10_init_88 : decode cX10_init 88 = .ok (.getfield 12, 3) := by decide +kernel
theorem dX10_init_91 : decode cX10_init 91 = .ok (.aload_n 0, 1) := by decide +kernel
theorem dX10_init_92 : decode cX10_init 92 = .ok (.getfield 26, 3) := by decide +kernel
theorem dX10_init_95 : decode cX10_init 95 = .ok (.invokespecial 55, 3) := by decide +kernel
theorem dX10_init_98 : decode cX10_init 98 = .ok (.putfield 58, 3) := by decide +kernel
theorem dX10_init_101 : decode cX10_init 101 = .ok (.aload_n 0, 1) := by decide +kernel
theorem dX10_init_102 : decode cX10_init 102 = .ok (.new 62, 3) := by decide +kernel
theorem dX10_init_105 : decode cX10_init 105 = .ok (.dup, 1) := by decide +kernel
theorem dX10_init_106 : decode cX10_init 106 = .ok (.aload_n 0, 1) := by decide +kernel
theorem dX10_init_107 : decode cX10_init 107 = .ok (.getfield 12, 3) := by decide +kernel
theorem dX10_init_110 : decode cX10_init 110 = .ok (.aload_n 0, 1) := by decide +kernel
theorem dX10_init_111 : decode cX10_init 111 = .ok (.getfield 58, 3) := by decide +kernel
theorem dX10_init_114 : decode cX10_init 114 = .ok (.invokespecial 64, 3) := by decide +kernel
theorem dX10_init_117 : decode cX10_init 117 = .ok (.putfield 67, 3) := by decide +kernel
theorem dX10_init_120 : decode cX10_init 120 = .ok (.aload_n 0, 1) := by decide +kernel
theorem dX10_init_121 : decode cX10_init 121 = .ok (.new 71, 3) := by decide +kernel
theorem dX10_init_124 : decode cX10_init 124 = .ok (.dup, 1) := by decide +kernel
theorem dX10_init_125 : decode cX10_init 125 = .ok (.invokespecial 73, 3) := by decide +kernel
theorem dX10_init_128 : decode cX10_init 128 = .ok (.putfield 74, 3) := by decide +kernel
theorem dX10_init_131 : decode cX10_init 131 = .ok (.aload_n 0, 1) := by decide +kernel
theorem dX10_init_132 : decode cX10_init 132 = .ok (.new 78, 3) := by decide +kernel
theorem dX10_init_135 : decode cX10_init 135 = .ok (.dup, 1) := by decide +kernel
theorem dX10_init_136 : decode cX10_init 136 = .ok (.invokespecial 80, 3) := by decide +kernel
theorem dX10_init_139 : decode cX10_init 139 = .ok (.putfield 81, 3) := by decide +kernel
theorem dX10_init_142 : decode cX10_init 142 = .ok (.aload_n 0, 1) := by decide +kernel
theorem dX10_init_143 : decode cX10_init 143 = .ok (.new 85, 3) := by decide +kernel
theorem dX10_init_146 : decode cX10_init 146 = .ok (.dup, 1) := by decide +kernel
theorem dX10_init_147 : decode cX10_init 147 = .ok (.invokespecial 87, 3) := by decide +kernel
theorem dX10_init_150 : decode cX10_init 150 = .ok (.putfield 88, 3) := by decide +kernel
theorem dX10_init_153 : decode cX10_init 153 = .ok (.return_, 1) := by decide +kernel
set_option maxRecDepth 20000 in
theorem ggX10_module_X9_addModule : GoodIn wsX10_module wsX9_addModule := goodIn_r _ [7, 8, 9, 23, 24, 25, 26, 27, 28, 29, 30, 31, 32, 33] (by decide +kernel) (by decide +kernel)
set_option maxRecDepth 20000 in
theorem gX10_module_X9_addModule : GoodIn wsX10_module (wsV RX10 96 RX9 yX9_addModule wsX9_addModule) := goodIn_app (goodIn_of _ (by decide +kernel)) ggX10_module_X9_addModule
