theorem dX11_isNext_8 : decode cX11_isNext 8 = .ok (.getfield 95, 3) := by decide +kernel
theorem dX11_isNext_11 : decode cX11_isNext 11 = .ok (.iload_n 2, 1) := by decide +kernel
theorem dX11_isNext_12 : decode cX11_isNext 12 = .ok (.iaload, 1) := by decide +kernel
theorem dX11_isNext_13 : decode cX11_isNext 13 = .ok (.aload_n 0, 1) := by decide +kernel
theorem dX11_isNext_14 : decode cX11_isNext 14 = .ok (.getfield 95, 3) := by decide +kernel
theorem dX11_isNext_17 : decode cX11_isNext 17 = .ok (.iload_n 1, 1) := by decide +kernel
theorem dX11_isNext_18 : decode cX11_isNext 18 = .ok (.iaload, 1) := by decide +kernel
theorem dX11_isNext_19 : decode cX11_isNext 19 = .ok (.if_icmp .ne 5, 3) := by decide +kernel
theorem dX11_isNext_22 : decode cX11_isNext 22 = .ok (.iconst 0, 1) := by decide +kernel
theorem dX11_isNext_23 : decode cX11_isNext 23 = .ok (.ireturn, 1) := by decide +kernel
theorem dX11_isNext_24 : decode cX11_isNext 24 = .ok (.iinc 2 1, 3) := by decide +kernel
theorem dX11_isNext_27 : decode cX11_isNext 27 = .ok (.goto (-25), 3) := by decide +kernel
theorem dX11_isNext_30 : decode cX11_isNext 30 = .ok (.iload_n 1, 1) := by decide +kernel
theorem dX11_isNext_31 : decode cX11_isNext 31 = .ok (.ifCond .eq 29, 3) := by decide +kernel
theorem dX11_isNext_34 : decode cX11_isNext 34 = .ok (.aload_n 0, 1) := by decide +kernel
theorem dX11_isNext_35 : decode cX11_isNext 35 = .ok (.getfield 92, 3) := by decide +kernel
theorem dX11_isNext_38 : decode cX11_isNext 38 = .ok (.bipush 6, 2) := by decide +kernel
theorem dX11_isNext_40 : decode cX11_isNext 40 = .ok (.aload_n 0, 1) := by decide +kernel
theorem dX11_isNext_41 : decode cX11_isNext 41 = .ok (.getfield 95, 3) := by decide +kernel
theorem dX11_isNext_44 : decode cX11_isNext 44 = .ok (.iload_n 1, 1) := by decide +kernel
theorem dX11_isNext_45 : decode cX11_isNext 45 = .ok (.iconst 1, 1) := by decide +kernel
theorem dX11_isNext_46 : decode cX11_isNext 46 = .ok (.isub, 1) := by decide +kernel
theorem dX11_isNext_47 : decode cX11_isNext 47 = .ok (.iaload, 1) := by decide +kernel
theorem dX11_isNext_48 : decode cX11_isNext 48 = .ok (.imul, 1) := by decide +kernel
theorem dX11_isNext_49 : decode cX11_isNext 49 = .ok (.aload_n 0, 1) := by decide +kernel
theorem dX11_isNext_50 : decode cX11_isNext 50 = .ok (.getfield 95, 3) := by decide +kernel
theorem dX11_isNext_53 : decode cX11_isNext 53 = .ok (.iload_n 1, 1) := by decide +kernel
theorem dX11_isNext_54 : decode cX11_isNext 54 = .ok (.iaload, 1) := by decide +kernel
theorem dX11_isNext_55 : decode cX11_isNext 55 = .ok (.iadd, 1) := by decide +kernel
theorem dX11_isNext_56 : decode cX11_isNext 56 = .ok (.baload, 1) := by decide +kernel
theorem dX11_isNext_57 : decode cX11_isNext 57 = .ok (.ifCond .eq 7, 3) := by decide +kernel
theorem dX11_isNext_60 : decode cX11_isNext 60 = .ok (.iconst 1, 1) := by decide +kernel
theorem dX11_isNext_61 : decode cX11_isNext 61 = .ok (.goto 4, 3) := by decide +kernel
theorem dX11_isNext_64 : decode cX11_isNext 64 = .ok (.iconst 0, 1) := by decide +kernel
theorem dX11_isNext_65 : decode cX11_isNext 65 = .ok (.ireturn, 1) := by decide +kernel
set_option maxRecDepth 20000 in
theorem ggX11_findRing_X11_isNext : GoodIn wsX11_findRing wsX11_isNext := goodIn_r _ [7, 1, 2, 8, 9, 10, 11, 12, 13, 14, 15, 16, 17, 18, 19, 20, 21, 22, 23, 24, 25, 26, 27, 28, 29, 30, 31, 32, 33, 34, 35, 36, 37, 38, 39, 40, 41, 42, 43, 44, 45, 46, 47, 48, 49, 50, 51, 52, 53, 54, 55, 56, 57, 58, 59, 60, 61, 62, 63, 64, 65, 66, 67, 68, 69, 70] (by decide +kernel) (by decide +kernel)
set_option maxRecDepth 20000 in
theorem gX11_findRing_X11_isNext : GoodIn wsX11_findRing (wsV RX11 233 RX11 yX11_isNext wsX11_isNext) := goodIn_app (goodIn_of _ (by decide +kernel)) ggX11_findRing_X11_isNext
theorem dX11_findRing_0 : decode cX11_findRing 0 = .ok (.iconst 0, 1) := by decide +kernel
theorem dX11_findRing_1 : decode cX11_findRing 1 = .ok (.istore_n 2, 1) := by decide +kernel
theorem dX11_findRing_2 : decode cX11_findRing 2 = .ok (.aload_n 0, 1) := by decide +kernel
theorem dX11_findRing_3 : decode cX11_findRing 3 = .ok (.getfield 95, 3) := by decide +kernel
theorem dX11_findRing_6 : decode cX11_findRing 6 = .ok (.iconst 0, 1) := by decide +kernel
theorem dX11_findRing_7 : decode cX11_findRing 7 = .ok (.iconst (-1), 1) := by decide +kernel
theorem dX11_findRing_8 : decode cX11_findRing 8 = .ok (.iastore, 1) := by decide +kernel
theorem dX11_findRing_9 : decode cX11_findRing 9 = .ok (.iload_n 2, 1) := by decide +kernel
theorem dX11_findRing_10 : decode cX11_findRing 10 = .ok (.ifCond .lt 87, 3) := by decide +kernel
theorem dX11_findRing_13 : decode cX11_findRing 13 = .ok (.aload_n 0, 1) := by decide +kernel
theorem dX11_findRing_14 : decode cX11_findRing 14 = .ok (.getfield 95, 3) := by decide +kernel
theorem dX11_findRing_17 : decode cX11_findRing 17 = .ok (.iload_n 2, 1) := by decide +kernel
theorem dX11_findRing_18 : decode cX11_findRing 18 = .ok (.dup2, 1) := by decide +kernel
theorem dX11_findRing_19 : decode cX11_findRing 19 = .ok (.iaload, 1) := by decide +kernel
theorem dX11_findRing_20 : decode cX11_findRing 20 = .ok (.iconst 1, 1) := by decide +kernel
theorem dX11_findRing_21 : decode cX11_findRing 21 = .ok (.iadd, 1) := by decide +kernel
theorem dX11_findRing_22 : decode cX11_findRing 22 = .ok (.iastore, 1) := by decide +kernel
theorem dX11_findRing_23 : decode cX11_findRing 23 = .ok (.aload_n 0, 1) := by decide +kernel
theorem dX11_findRing_24 : decode cX11_findRing 24 = .ok (.getfield 95, 3) := by decide +kernel
theorem dX11_findRing_27 : decode cX11_findRing 27 = .ok (.iload_n 2, 1) := by decide +kernel
theorem dX11_findRing_28 : decode cX11_findRing 28 = .ok (.iaload, 1) := by decide +kernel
theorem dX11_findRing_29 : decode cX11_findRing 29 = .ok (.bipush 6, 2) := by decide +kernel
theorem dX11_findRing_31 : decode cX11_findRing 31 = .ok (.if_icmp .ne 9, 3) := by decide +kernel
theorem dX11_findRing_34 : decode cX11_findRing 34 = .ok (.iinc 2 (-1), 3) := by decide +kernel
theorem dX11_findRing_37 : decode cX11_findRing 37 = .ok (.goto (-28), 3) := by decide +kernel
theorem dX11_findRing_40 : decode cX11_findRing 40 = .ok (.aload_n 0, 1) := by decide +kernel
theorem dX11_findRing_41 : decode cX11_findRing 41 = .ok (.iload_n 2, 1) := by decide +kernel
theorem dX11_findRing_42 : decode cX11_findRing 42 = .ok (.invokevirtual 233, 3) := by decide +kernel
theorem dX11_findRing_45 : decode cX11_findRing 45 = .ok (.ifCond .ne 6, 3) := by decide +kernel
theorem dX11_findRing_48 : decode cX11_findRing 48 = .ok (.goto (-39), 3) := by decide +kernel
theorem dX11_findRing_51 : decode cX11_findRing 51 = .ok (.iload_n 2, 1) := by decide +kernel
theorem dX11_findRing_52 : decode cX11_findRing 52 = .ok (.iload_n 1, 1) := by decide +kernel
theorem dX11_findRing_53 : decode cX11_findRing 53 = .ok (.iconst 1, 1) := by decide +kernel
theorem dX11_findRing_54 : decode cX11_findRing 54 = .ok (.isub, 1) := by decide +kernel
theorem dX11_findRing_55 : decode cX11_findRing 55 = .ok (.if_icmp .ne 29, 3) := by decide +kernel
theorem dX11_findRing_58 : decode cX11_findRing 58 = .ok (.aload_n 0, 1) := by decide +kernel
theorem dX11_findRing_59 : decode cX11_findRing 59 = .ok (.getfield 92, 3) := by decide +kernel
theorem dX11_findRing_62 : decode cX11_findRing 62 = .ok (.bipush 6, 2) := by decide +kernel
theorem dX11_findRing_64 : decode cX11_findRing 64 = .ok (.aload_n 0, 1) := by decide +kernel
theorem dX11_findRing_65 : decode cX11_findRing 65 = .ok (.getfield 95, 3) := by decide +kernel
theorem dX11_findRing_68 : decode cX11_findRing 68 = .ok (.iload_n 2, 1) := by decide +kernel
theorem dX11_findRing_69 : decode cX11_findRing 69 = .ok (.iaload, 1) := by decide +kernel
theorem dX11_findRing_70 : decode cX11_findRing 70 = .ok (.imul, 1) := by decide +kernel
theorem dX11_findRing_71 : decode cX11_findRing 71 = .ok (.aload_n 0, 1) := by decide +kernel
theorem dX11_findRing_72 : decode cX11_findRing 72 = .ok (.getfield 95, 3) := by decide +kernel
theorem dX11_findRing_75 : decode cX11_findRing 75 = .ok (.iconst 0, 1) := by decide +kernel
theorem dX11_findRing_76 : decode cX11_findRing 76 = .ok (.iaload, 1) := by decide +kernel
theorem dX11_findRing_77 : decode cX11_findRing 77 = .ok (.iadd, 1) := by decide +kernel
theorem dX11_findRing_78 : decode cX11_findRing 78 = .ok (.baload, 1) := by decide +kernel
theorem dX11_findRing_79 : decode cX11_findRing 79 = .ok (.ifCond .eq (-70), 3) := by decide +kernel
theorem dX11_findRing_82 : decode cX11_findRing 82 = .ok (.iconst 1, 1) := by decide +kernel
theorem dX11_findRing_83 : decode cX11_findRing 83 = .ok (.ireturn, 1) := by decide +kernel
theorem dX11_findRing_84 : decode cX11_findRing 84 = .ok (.iinc 2 1, 3) := by decide +kernel
theorem dX11_findRing_87 : decode cX11_findRing 87 = .ok (.aload_n 0, 1) := by decide +kernel
theorem dX11_findRing_88 : decode cX11_findRing 88 = .ok (.getfield 95, 3) := by decide +kernel
theorem dX11_findRing_91 : decode cX11_findRing 91 = .ok (.iload_n 2, 1) := by decide +kernel
theorem dX11_findRing_92 : decode cX11_findRing 92 = .ok (.iconst (-1), 1) := by decide +kernel
theorem dX11_findRing_93 : decode cX11_findRing 93 = .ok (.iastore, 1) := by decide +kernel
theorem dX11_findRing_94 : decode cX11_findRing 94 = .ok (.goto (-85), 3) := by decide +kernel
theorem dX11_findRing_97 : decode cX11_findRing 97 = .ok (.iconst 0, 1) := by decide +kernel
theorem dX11_findRing_98 : decode cX11_findRing 98 = .ok (.ireturn, 1) := by decide +kernel
set_option maxRecDepth 20000 in
theorem ggX11_ring_X11_findLeads : GoodIn wsX11_ring wsX11_findLeads := goodIn_r _ [6, 7, 8, 9, 10, 11, 12, 5, 13, 14, 15, 16, 17, 18, 30, 31, 32, 33, 34, 35, 36, 37, 38, 39, 40, 41, 42, 43, 44, 45, 46, 47, 48, 49, 50, 51, 52, 53, 54, 55, 56, 57, 58, 59, 60, 61, 62, 63, 64, 65, 66, 67, 68, 69, 70, 71, 72, 73, 74, 75, 76, 77, 78, 79, 80, 81, 82, 83, 84, 85, 86, 87, 88, 89, 90, 91, 92] (by decide +kernel) (by decide +kernel)
set_option maxRecDepth 20000 in
theorem gX11_ring_X11_findLeads : GoodIn wsX11_ring (wsV RX11 236 RX11 yX11_findLeads wsX11_findLeads) := goodIn_app (goodIn_of _ (by decide +kernel)) ggX11_ring_X11_findLeads
set_option maxRecDepth 20000 in
theorem ggX11_ring_X11_findRing : GoodIn wsX11_ring wsX11_findRing := goodIn_r _ [22, 1, 7, 23, 24, 25, 5, 26, 30, 31, 32, 33, 34, 35, 36, 37, 38, 39, 40, 41, 42, 43, 44, 45, 46, 47, 48, 49, 50, 51, 52, 53, 54, 55, 56, 57, 58, 59, 60, 61, 62, 63, 64, 65, 66, 67, 68, 69, 70, 71, 72, 73, 74, 75, 76, 77, 78, 79, 80, 81, 82, 83, 84, 85, 86, 87, 88, 89, 90, 91, 92] (by decide +kernel) (by decide +kernel)
set_option maxRecDepth 20000 in
theorem gX11_ring_X11_findRing : GoodIn wsX11_ring (wsV RX11 239 RX11 yX11_findRing wsX11_findRing) := goodIn_app (goodIn_of _ (by decide +kernel)) ggX11_ring_X11_findRing
set_option maxRecDepth 20000 in
theorem ggX11_ring_X11_in : GoodIn wsX11_ring wsX11_in := goodIn_r _ [29] (by decide +kernel) (by decide +kernel)
set_option maxRecDepth 20000 in
theorem gX11_ring_X11_in : GoodIn wsX11_ring (va_wsS RX11 151 yX11_in wsX11_in) := goodIn_app (goodIn_of _ (by decide +kernel)) ggX11_ring_X11_in
theorem dX11_ring_0 : decode cX11_ring 0 = .ok (.aload_n 0, 1) := by decide +kernel
theorem dX11_ring_1 : decode cX11_ring 1 = .ok (.invokevirtual 236, 3) := by decide +kernel
theorem dX11_ring_4 : decode cX11_ring 4 = .ok (.iconst 2, 1) := by decide +kernel
theorem dX11_ring_5 : decode cX11_ring 5 = .ok (.istore_n 2, 1) := by decide +kernel
theorem dX11_ring_6 : decode cX11_ring 6 = .ok (.iload_n 2, 1) := by decide +kernel
theorem dX11_ring_7 : decode cX11_ring 7 = .ok (.bipush 6, 2) := by decide +kernel
theorem dX11_ring_9 : decode cX11_ring 9 = .ok (.if_icmp .gt 39, 3) := by decide +kernel
theorem dX11_ring_12 : decode cX11_ring 12 = .ok (.aload_n 0, 1) := by decide +kernel
theorem dX11_ring_13 : decode cX11_ring 13 = .ok (.iload_n 2, 1) := by decide +kernel
theorem dX11_ring_14 : decode cX11_ring 14 = .ok (.invokevirtual 239, 3) := by decide +kernel
theorem dX11_ring_17 : decode cX11_ring 17 = .ok (.ifCond .eq 25, 3) := by decide +kernel
theorem dX11_ring_20 : decode cX11_ring 20 = .ok (.iload_n 1, 1) := by decide +kernel
theorem dX11_ring_21 : decode cX11_ring 21 = .ok (.iconst 0, 1) := by decide +kernel
theorem dX11_ring_22 : decode cX11_ring 22 = .ok (.iload_n 2, 1) := by decide +kernel
theorem dX11_ring_23 : decode cX11_ring 23 = .ok (.iconst 1, 1) := by decide +kernel
theorem dX11_ring_24 : decode cX11_ring 24 = .ok (.isub, 1) := by decide +kernel
theorem dX11_ring_25 : decode cX11_ring 25 = .ok (.invokestatic 151, 3) := by decide +kernel
theorem dX11_ring_28 : decode cX11_ring 28 = .ok (.ifCond .eq 12, 3) := by decide +kernel
theorem dX11_ring_31 : decode cX11_ring 31 = .ok (.aload_n 0, 1) := by decide +kernel
theorem dX11_ring_32 : decode cX11_ring 32 = .ok (.getfield 95, 3) := by decide +kernel
theorem dX11_ring_35 : decode cX11_ring 35 = .ok (.iload_n 1, 1) := by decide +kernel
theorem dX11_ring_36 : decode cX11_ring 36 = .ok (.iaload, 1) := by decide +kernel
theorem dX11_ring_37 : decode cX11_ring 37 = .ok (.goto 4, 3) := by decide +kernel
theorem dX11_ring_40 : decode cX11_ring 40 = .ok (.iconst (-1), 1) := by decide +kernel
theorem dX11_ring_41 : decode cX11_ring 41 = .ok (.ireturn, 1) := by decide +kernel
theorem dX11_ring_42 : decode cX11_ring 42 = .ok (.iinc 2 1, 3) := by decide +kernel
theorem dX11_ring_45 : decode cX11_ring 45 = .ok (.goto (-39), 3) := by decide +kernel
theorem dX11_ring_48 : decode cX11_ring 48 = .ok (.iconst (-1), 1) := by decide +kernel
theorem dX11_ring_49 : decode cX11_ring 49 = .ok (.ireturn, 1) := by decide +kernel
theorem dX11_waitingNow_0 : decode cX11_waitingNow 0 = .ok (.iconst 0, 1) := by decide +kernel
theorem dX11_waitingNow_1 : decode cX11_waitingNow 1 = .ok (.istore_n 1, 1) := by decide +kernel
theorem dX11_waitingNow_2 : decode cX11_waitingNow 2 = .ok (.iconst 0, 1) := by decide +kernel
theorem dX11_waitingNow_3 : decode cX11_waitingNow 3 = .ok (.istore_n 2, 1) := by decide +kernel
theorem dX11_waitingNow_4 : decode cX11_waitingNow 4 = .ok (.iload_n 2, 1) := by decide +kernel
theorem dX11_waitingNow_5 : decode cX11_waitingNow 5 = .ok (.aload_n 0, 1) := by decide +kernel
theorem dX11_waitingNow_6 : decode cX11_waitingNow 6 = .ok (.getfield 242, 3) := by decide +kernel
theorem dX11_waitingNow_9 : decode cX11_waitingNow 9 = .ok (.if_icmp .ge 26, 3) := by decide +kernel
theorem dX11_waitingNow_12 : decode cX11_waitingNow 12 = .ok (.iload_n 1, 1) := by decide +kernel
theorem dX11_waitingNow_13 : decode cX11_waitingNow 13 = .ok (.aload_n 0, 1) := by decide +kernel
theorem dX11_waitingNow_14 : decode cX11_waitingNow 14 = .ok (.getfield 110, 3) := by decide +kernel
theorem dX11_waitingNow_17 : decode cX11_waitingNow 17 = .ok (.iload_n 2, 1) := by decide +kernel
theorem dX11_waitingNow_18 : decode cX11_waitingNow 18 = .ok (.baload, 1) := by decide +kernel
theorem dX11_waitingNow_19 : decode cX11_waitingNow 19 = .ok (.ifCond .eq 7, 3) := by decide +kernel
theorem dX11_waitingNow_22 : decode cX11_waitingNow 22 = .ok (.iconst 1, 1) := by decide +kernel
theorem dX11_waitingNow_23 : decode cX11_waitingNow 23 = .ok (.goto 4, 3) := by decide +kernel
theorem dX11_waitingNow_26 : decode cX11_waitingNow 26 = .ok (.iconst 0, 1) := by decide +kernel
theorem dX11_waitingNow_27 : decode cX11_waitingNow 27 = .ok (.iadd, 1) := by decide +kernel
theorem dX11_waitingNow_28 : decode cX11_waitingNow 28 = .ok (.istore_n 1, 1) := by decide +kernel
theorem dX11_waitingNow_29 : decode cX11_waitingNow 29 = .ok (.iinc 2 1, 3) := by decide +kernel
theorem dX11_waitingNow_32 : decode cX11_waitingNow 32 = .ok (.goto (-28), 3) := by decide +kernel
theorem dX11_waitingNow_35 : decode cX11_waitingNow 35 = .ok (.iload_n 1, 1) := by decide +kernel
theorem dX11_waitingNow_36 : decode cX11_waitingNow 36 = .ok (.ireturn, 1) := by decide +kernel
set_option maxRecDepth 20000 in
theorem ggX11_runNew_X11_works : GoodIn wsX11_runNew wsX11_works := goodIn_r _ [22, 10, 23, 24, 25, 26, 6, 17, 27, 28, 29, 30, 5, 31, 32, 33, 34, 35, 21, 36, 8, 41, 42, 43, 44, 45, 46, 47, 48, 49, 50, 51, 52, 53, 54, 55, 56, 57, 58, 59, 60, 61, 62, 63, 64, 65, 66, 67, 68, 69, 70, 71, 72, 73, 74, 75, 76, 77, 78, 79, 80, 81, 82, 83, 84, 85, 86, 87, 88, 89, 90, 91, 92, 93, 94, 95, 96, 97, 98, 99, 100, 101, 102, 103] (by decide +kernel) (by decide +kernel)
set_option maxRecDepth 20000 in
theorem gX11_runNew_X11_works : GoodIn wsX11_runNew (wsV RX11 184 RX11 yX11_works wsX11_works) := goodIn_app (goodIn_of _ (by decide +kernel)) ggX11_runNew_X11_works
set_option maxRecDepth 20000 in
theorem ggX11_runNew_X11_waitingNow : GoodIn wsX11_runNew wsX11_waitingNow := goodIn_r _ [40, 9, 15, 41, 42, 43, 44, 45, 46, 47, 48, 49, 50, 51, 52, 53, 54, 55, 56, 57, 58, 59, 60, 61, 62, 63, 64, 65, 66, 67, 68, 69, 70, 71, 72, 73, 74, 75, 76, 77, 78, 79, 80, 81, 82, 83, 84, 85, 86, 87, 88, 89, 90, 91, 92, 93, 94, 95, 96, 97, 98, 99, 100, 101, 102, 103] (by decide +kernel) (by decide +kernel)
set_option maxRecDepth 20000 in
theorem gX11_runNew_X11_waitingNow : GoodIn wsX11_runNew (wsV RX11 209 RX11 yX11_waitingNow wsX11_waitingNow) := goodIn_app (goodIn_of _ (by decide +kernel)) ggX11_runNew_X11_waitingNow
theorem dX11_runNew_0 : decode cX11_runNew 0 = .ok (.aload_n 0, 1) := by decide +kernel
theorem dX11_runNew_1 : decode cX11_runNew 1 = .ok (.aload_n 0, 1) := by decide +kernel
theorem dX11_runNew_2 : decode cX11_runNew 2 = .ok (.iload_n 1, 1) := by decide +kernel
theorem dX11_runNew_3 : decode cX11_runNew 3 = .ok (.iload_n 2, 1) := by decide +kernel
theorem dX11_runNew_4 : decode cX11_runNew 4 = .ok (.aload_n 0, 1) := by decide +kernel
theorem dX11_runNew_5 : decode cX11_runNew 5 = .ok (.getfield 34, 3) := by decide +kernel
theorem dX11_runNew_8 : decode cX11_runNew 8 = .ok (.invokevirtual 184, 3) := by decide +kernel
theorem dX11_runNew_11 : decode cX11_runNew 11 = .ok (.putfield 188, 3) := by decide +kernel
theorem dX11_runNew_14 : decode cX11_runNew 14 = .ok (.aload_n 0, 1) := by decide +kernel
theorem dX11_runNew_15 : decode cX11_runNew 15 = .ok (.getfield 188, 3) := by decide +kernel
theorem dX11_runNew_18 : decode cX11_runNew 18 = .ok (.ifCond .ne 6, 3) := by decide +kernel
theorem dX11_runNew_21 : decode cX11_runNew 21 = .ok (.ldc 192, 2) := by decide +kernel
theorem dX11_runNew_23 : decode cX11_runNew 23 = .ok (.ireturn, 1) := by decide +kernel
theorem dX11_runNew_24 : decode cX11_runNew 24 = .ok (.aload_n 0, 1) := by decide +kernel
theorem dX11_runNew_25 : decode cX11_runNew 25 = .ok (.getfield 74, 3) := by decide +kernel
theorem dX11_runNew_28 : decode cX11_runNew 28 = .ok (.aload_n 0, 1) := by decide +kernel
theorem dX11_runNew_29 : decode cX11_runNew 29 = .ok (.getfield 16, 3) := by decide +kernel
theorem dX11_runNew_32 : decode cX11_runNew 32 = .ok (.iload_n 1, 1) := by decide +kernel
theorem dX11_runNew_33 : decode cX11_runNew 33 = .ok (.iaload, 1) := by decide +kernel
theorem dX11_runNew_34 : decode cX11_runNew 34 = .ok (.iaload, 1) := by decide +kernel
theorem dX11_runNew_35 : decode cX11_runNew 35 = .ok (.istore_n 3, 1) := by decide +kernel
theorem dX11_runNew_36 : decode cX11_runNew 36 = .ok (.iconst 0, 1) := by decide +kernel
theorem dX11_runNew_37 : decode cX11_runNew 37 = .ok (.istore 4, 2) := by decide +kernel
theorem dX11_runNew_39 : decode cX11_runNew 39 = .ok (.iconst 0, 1) := by decide +kernel
theorem dX11_runNew_40 : decode cX11_runNew 40 = .ok (.istore 5, 2) := by decide +kernel
theorem dX11_runNew_42 : decode cX11_runNew 42 = .ok (.iload 5, 2) := by decide +kernel
theorem dX11_runNew_44 : decode cX11_runNew 44 = .ok (.aload_n 0, 1) := by decide +kernel
theorem dX11_runNew_45 : decode cX11_runNew 45 = .ok (.getfield 174, 3) := by decide +kernel
theorem dX11_runNew_48 : decode cX11_runNew 48 = .ok (.if_icmp .ge 43, 3) := by decide +kernel
theorem dX11_runNew_51 : decode cX11_runNew 51 = .ok (.iload 4, 2) := by decide +kernel
theorem dX11_runNew_53 : decode cX11_runNew 53 = .ok (.aload_n 0, 1) := by decide +kernel
theorem dX11_runNew_54 : decode cX11_runNew 54 = .ok (.getfield 74, 3) := by decide +kernel
theorem dX11_runNew_57 : decode cX11_runNew 57 = .ok (.aload_n 0, 1) := by decide +kernel
theorem dX11_runNew_58 : decode cX11_runNew 58 = .ok (.getfield 13, 3) := by decide +kernel
theorem dX11_runNew_61 : decode cX11_runNew 61 = .ok (.aload_n 0, 1) := by decide +kernel
theorem dX11_runNew_62 : decode cX11_runNew 62 = .ok (.getfield 49, 3) := by decide +kernel
theorem dX11_runNew_65 : decode cX11_runNew 65 = .ok (.iload 5, 2) := by decide +kernel
theorem dX11_runNew_67 : decode cX11_runNew 67 = .ok (.iaload, 1) := by decide +kernel
theorem dX11_runNew_68 : decode cX11_runNew 68 = .ok (.bipush 8, 2) := by decide +kernel
theorem dX11_runNew_70 : decode cX11_runNew 70 = .ok (.idiv, 1) := by decide +kernel
theorem dX11_runNew_71 : decode cX11_runNew 71 = .ok (.iaload, 1) := by decide +kernel
theorem dX11_runNew_72 : decode cX11_runNew 72 = .ok (.iaload, 1) := by decide +kernel
theorem dX11_runNew_73 : decode cX11_runNew 73 = .ok (.iload_n 3, 1) := by decide +kernel
theorem dX11_runNew_74 : decode cX11_runNew 74 = .ok (.if_icmp .ne 7, 3) := by decide +kernel
theorem dX11_runNew_77 : decode cX11_runNew 77 = .ok (.iconst 0, 1) := by decide +kernel
theorem dX11_runNew_78 : decode cX11_runNew 78 = .ok (.goto 4, 3) := by decide +kernel
theorem dX11_runNew_81 : decode cX11_runNew 81 = .ok (.iconst 1, 1) := by decide +kernel
theorem dX11_runNew_82 : decode cX11_runNew 82 = .ok (.iadd, 1) := by decide +kernel
theorem dX11_runNew_83 : decode cX11_runNew 83 = .ok (.istore 4, 2) := by decide +kernel
theorem dX11_runNew_85 : decode cX11_runNew 85 = .ok (.iinc 5 1, 3) := by decide +kernel
theorem dX11_runNew_88 : decode cX11_runNew 88 = .ok (.goto (-46), 3) := by decide +kernel
theorem dX11_runNew_91 : decode cX11_runNew 91 = .ok (.iload 4, 2) := by decide +kernel
theorem dX11_runNew_93 : decode cX11_runNew 93 = .ok (.ifCond .le 36, 3) := by decide +kernel
theorem dX11_runNew_96 : decode cX11_runNew 96 = .ok (.aload_n 0, 1) := by decide +kernel
theorem dX11_runNew_97 : decode cX11_runNew 97 = .ok (.invokevirtual 209, 3) := by decide +kernel
theorem dX11_runNew_100 : decode cX11_runNew 100 = .ok (.iload 4, 2) := by decide +kernel
theorem dX11_runNew_102 : decode cX11_runNew 102 = .ok (.iadd, 1) := by decide +kernel
theorem dX11_runNew_103 : decode cX11_runNew 103 = .ok (.bipush 40, 2) := by decide +kernel
theorem dX11_runNew_105 : decode cX11_runNew 105 = .ok (.if_icmp .gt 16, 3) := by decide +kernel
theorem dX11_runNew_108 : decode cX11_runNew 108 = .ok (.aload_n 0, 1) := by decide +kernel
theorem dX11_runNew_109 : decode cX11_runNew 109 = .ok (.getfield 242, 3) := by decide +kernel
theorem dX11_runNew_112 : decode cX11_runNew 112 = .ok (.iload 4, 2) := by decide +kernel
theorem dX11_runNew_114 : decode cX11_runNew 114 = .ok (.iadd, 1) := by decide +kernel
theorem dX11_runNew_115 : decode cX11_runNew 115 = .ok (.sipush 2000, 3) := by decide +kernel
theorem dX11_runNew_118 : decode cX11_runNew 118 = .ok (.if_icmp .le 11, 3) := by decide +kernel
theorem dX11_runNew_121 : decode cX11_runNew 121 = .ok (.aload_n 0, 1) := by decide +kernel
theorem dX11_runNew_122 : decode cX11_runNew 122 = .ok (.iconst 0, 1) := by decide +kernel
theorem dX11_runNew_123 : decode cX11_runNew 123 = .ok (.putfield 188, 3) := by decide +kernel
theorem dX11_runNew_126 : decode cX11_runNew 126 = .ok (.ldc 192, 2) := by decide +kernel
theorem dX11_runNew_128 : decode cX11_runNew 128 = .ok (.ireturn, 1) := by decide +kernel
theorem dX11_runNew_129 : decode cX11_runNew 129 = .ok (.iconst 0, 1) := by decide +kernel
theorem dX11_runNew_130 : decode cX11_runNew 130 = .ok (.istore 5, 2) := by decide +kernel
theorem dX11_runNew_132 : decode cX11_runNew 132 = .ok (.iload 5, 2) := by decide +kernel
theorem dX11_runNew_134 : decode cX11_runNew 134 = .ok (.aload_n 0, 1) := by decide +kernel
theorem dX11_runNew_135 : decode cX11_runNew 135 = .ok (.getfield 174, 3) := by decide +kernel
theorem dX11_runNew_138 : decode cX11_runNew 138 = .ok (.if_icmp .ge 126, 3) := by decide +kernel
theorem dX11_runNew_141 : decode cX11_runNew 141 = .ok (.aload_n 0, 1) := by decide +kernel
theorem dX11_runNew_142 : decode cX11_runNew 142 = .ok (.getfield 49, 3) := by decide +kernel
theorem dX11_runNew_145 : decode cX11_runNew 145 = .ok (.iload 5, 2) := by decide +kernel
theorem dX11_runNew_147 : decode cX11_runNew 147 = .ok (.iaload, 1) := by decide +kernel
theorem dX11_runNew_148 : decode cX11_runNew 148 = .ok (.istore 6, 2) := by decide +kernel
theorem dX11_runNew_150 : decode cX11_runNew 150 = .ok (.aload_n 0, 1) := by decide +kernel
theorem dX11_runNew_151 : decode cX11_runNew 151 = .ok (.getfield 74, 3) := by decide +kernel
theorem dX11_runNew_154 : decode cX11_runNew 154 = .ok (.aload_n 0, 1) := by decide +kernel
theorem dX11_runNew_155 : decode cX11_runNew 155 = .ok (.getfield 13, 3) := by decide +kernel
theorem dX11_runNew_158 : decode cX11_runNew 158 = .ok (.iload 6, 2) := by decide +kernel
theorem dX11_runNew_160 : decode cX11_runNew 160 = .ok (.bipush 8, 2) := by decide +kernel
theorem dX11_runNew_162 : decode cX11_runNew 162 = .ok (.idiv, 1) := by decide +kernel
theorem dX11_runNew_163 : decode cX11_runNew 163 = .ok (.iaload, 1) := by decide +kernel
theorem dX11_runNew_164 : decode cX11_runNew 164 = .ok (.iaload, 1) := by decide +kernel
theorem dX11_runNew_165 : decode cX11_runNew 165 = .ok (.istore 7, 2) := by decide +kernel
theorem dX11_runNew_167 : decode cX11_runNew 167 = .ok (.iload 7, 2) := by decide +kernel
theorem dX11_runNew_169 : decode cX11_runNew 169 = .ok (.iload_n 3, 1) := by decide +kernel
theorem dX11_runNew_170 : decode cX11_runNew 170 = .ok (.if_icmp .ne 20, 3) := by decide +kernel
theorem dX11_runNew_173 : decode cX11_runNew 173 = .ok (.aload_n 0, 1) := by decide +kernel
theorem dX11_runNew_174 : decode cX11_runNew 174 = .ok (.getfield 34, 3) := by decide +kernel
theorem dX11_runNew_177 : decode cX11_runNew 177 = .ok (.iload 6, 2) := by decide +kernel
theorem dX11_runNew_179 : decode cX11_runNew 179 = .ok (.aload_n 0, 1) := by decide +kernel
theorem dX11_runNew_180 : decode cX11_runNew 180 = .ok (.getfield 37, 3) := by decide +kernel
theorem dX11_runNew_183 : decode cX11_runNew 183 = .ok (.iload 6, 2) := by decide +kernel
theorem dX11_runNew_185 : decode cX11_runNew 185 = .ok (.iaload, 1) := by decide +kernel
theorem dX11_runNew_186 : decode cX11_runNew 186 = .ok (.iastore, 1) := by decide +kernel
theorem dX11_runNew_187 : decode cX11_runNew 187 = .ok (.goto 71, 3) := by decide +kernel
theorem dX11_runNew_190 : decode cX11_runNew 190 = .ok (.aload_n 0, 1) := by decide +kernel
theorem dX11_runNew_191 : decode cX11_runNew 191 = .ok (.getfield 98, 3) := by decide +kernel
theorem dX11_runNew_194 : decode cX11_runNew 194 = .ok (.aload_n 0, 1) := by decide +kernel
theorem dX11_runNew_195 : decode cX11_runNew 195 = .ok (.getfield 242, 3) := by decide +kernel
theorem dX11_runNew_198 : decode cX11_runNew 198 = .ok (.iload 6, 2) := by decide +kernel
theorem dX11_runNew_200 : decode cX11_runNew 200 = .ok (.iastore, 1) := by decide +kernel
theorem dX11_runNew_201 : decode cX11_runNew 201 = .ok (.aload_n 0, 1) := by decide +kernel
theorem dX11_runNew_202 : decode cX11_runNew 202 = .ok (.getfield 101, 3) := by decide +kernel
theorem dX11_runNew_205 : decode cX11_runNew 205 = .ok (.aload_n 0, 1) := by decide +kernel
theorem dX11_runNew_206 : decode cX11_runNew 206 = .ok (.getfield 242, 3) := by decide +kernel
theorem dX11_runNew_209 : decode cX11_runNew 209 = .ok (.aload_n 0, 1) := by decide +kernel
theorem dX11_runNew_210 : decode cX11_runNew 210 = .ok (.getfield 37, 3) := by decide +kernel
theorem dX11_runNew_213 : decode cX11_runNew 213 = .ok (.iload 6, 2) := by decide +kernel
theorem dX11_runNew_215 : decode cX11_runNew 215 = .ok (.iaload, 1) := by decide +kernel
theorem dX11_runNew_216 : decode cX11_runNew 216 = .ok (.iastore, 1) := by decide +kernel
theorem dX11_runNew_217 : decode cX11_runNew 217 = .ok (.aload_n 0, 1) := by decide +kernel
theorem dX11_runNew_218 : decode cX11_runNew 218 = .ok (.getfield 104, 3) := by decide +kernel
theorem dX11_runNew_221 : decode cX11_runNew 221 = .ok (.aload_n 0, 1) := by decide +kernel
theorem dX11_runNew_222 : decode cX11_runNew 222 = .ok (.getfield 242, 3) := by decide +kernel
theorem dX11_runNew_225 : decode cX11_runNew 225 = .ok (.iload_n 3, 1) := by decide +kernel
theorem dX11_runNew_226 : decode cX11_runNew 226 = .ok (.iastore, 1) := by decide +kernel
theorem dX11_runNew_227 : decode cX11_runNew 227 = .ok (.aload_n 0, 1) := by decide +kernel
theorem dX11_runNew_228 : decode cX11_runNew 228 = .ok (.getfield 107, 3) := by decide +kernel
theorem dX11_runNew_231 : decode cX11_runNew 231 = .ok (.aload_n 0, 1) := by decide +kernel
theorem dX11_runNew_232 : decode cX11_runNew 232 = .ok (.getfield 242, 3) := by decide +kernel
theorem dX11_runNew_235 : decode cX11_runNew 235 = .ok (.iload 7, 2) := by decide +kernel
theorem dX11_runNew_237 : decode cX11_runNew 237 = .ok (.iastore, 1) := by decide +kernel
theorem dX11_runNew_238 : decode cX11_runNew 238 = .ok (.aload_n 0, 1) := by decide +kernel
theorem dX11_runNew_239 : decode cX11_runNew 239 = .ok (.getfield 110, 3) := by decide +kernel
theorem dX11_runNew_242 : decode cX11_runNew 242 = .ok (.aload_n 0, 1) := by decide +kernel
theorem dX11_runNew_243 : decode cX11_runNew 243 = .ok (.getfield 242, 3) := by decide +kernel
theorem dX11_runNew_246 : decode cX11_runNew 246 = .ok (.iconst 1, 1) := by decide +kernel
theorem dX11_runNew_247 : decode cX11_runNew 247 = .ok (.bastore, 1) := by decide +kernel
theorem dX11_runNew_248 : decode cX11_runNew 248 = .ok (.aload_n 0, 1) := by decide +kernel
theorem dX11_runNew_249 : decode cX11_runNew 249 = .ok (.dup, 1) := by decide +kernel
theorem dX11_runNew_250 : decode cX11_runNew 250 = .ok (.getfield 242, 3) := by decide +kernel
theorem dX11_runNew_253 : decode cX11_runNew 253 = .ok (.iconst 1, 1) := by decide +kernel
theorem dX11_runNew_254 : decode cX11_runNew 254 = .ok (.iadd, 1) := by decide +kernel
theorem dX11_runNew_255 : decode cX11_runNew 255 = .ok (.putfield 242, 3) := by decide +kernel
theorem dX11_runNew_258 : decode cX11_runNew 258 = .ok (.iinc 5 1, 3) := by decide +kernel
theorem dX11_runNew_261 : decode cX11_runNew 261 = .ok (.goto (-129), 3) := by decide +kernel
theorem dX11_runNew_264 : decode cX11_runNew 264 = .ok (.aload_n 0, 1) := by decide +kernel
theorem dX11_runNew_265 : decode cX11_runNew 265 = .ok (.dup, 1) := by decide +kernel
theorem dX11_runNew_266 : decode cX11_runNew 266 = .ok (.getfield 245, 3) := by decide +kernel
theorem dX11_runNew_269 : decode cX11_runNew 269 = .ok (.iconst 1, 1) := by decide +kernel
theorem dX11_runNew_270 : decode cX11_runNew 270 = .ok (.iadd, 1) := by decide +kernel
theorem dX11_runNew_271 : decode cX11_runNew 271 = .ok (.putfield 245, 3) := by decide +kernel
theorem dX11_runNew_274 : decode cX11_runNew 274 = .ok (.aload_n 0, 1) := by decide +kernel
theorem dX11_runNew_275 : decode cX11_runNew 275 = .ok (.getfield 177, 3) := by decide +kernel
theorem dX11_runNew_278 : decode cX11_runNew 278 = .ok (.ireturn, 1) := by decide +kernel
set_option maxRecDepth 20000 in
theorem ggX11_act_X11_isRoutine : GoodIn wsX11_act wsX11_isRoutine := goodIn_r _ [5, 6, 7, 8, 4, 9, 53, 54, 55, 56, 57, 58, 59, 60, 61, 62, 63, 64, 65, 66, 67, 68, 69, 70, 71, 72, 73, 74, 75, 76, 77, 78, 79, 80, 81, 82, 83, 84, 85, 86, 87, 88, 89, 90, 91, 92, 93, 94, 95, 96, 97, 98, 99, 100, 101, 102, 103, 104, 105, 106, 107, 108, 109, 110, 111, 112, 113, 114, 115] (by decide +kernel) (by decide +kernel)
set_option maxRecDepth 20000 in
theorem gX11_act_X11_isRoutine : GoodIn wsX11_act (wsV RX11 168 RX11 yX11_isRoutine wsX11_isRoutine) := goodIn_app (goodIn_of _ (by decide +kernel)) ggX11_act_X11_isRoutine
set_option maxRecDepth 20000 in
theorem ggX11_act_X11_runNew : GoodIn wsX11_act wsX11_runNew := goodIn_r _ [13, 14, 15, 16, 17, 18, 19, 20, 21, 22, 23, 24, 25, 26, 27, 28, 29, 30, 31, 32, 33, 4, 34, 35, 36, 37, 38, 39, 40, 41, 42, 43, 44, 45, 46, 47, 48, 49, 50, 51, 52, 53, 54, 55, 56, 57, 58, 59, 60, 61, 62, 63, 64, 65, 66, 67, 68, 69, 70, 71, 72, 73, 74, 75, 76, 77, 78, 79, 80, 81, 82, 83, 84, 85, 86, 87, 88, 89, 90, 91, 92, 93, 94, 95, 96, 97, 98, 99, 100, 101, 102, 103, 104, 105, 106, 107, 108, 109, 110, 111, 112, 113, 114, 115] (by decide +kernel) (by decide +kernel)
set_option maxRecDepth 20000 in
theorem gX11_act_X11_runNew : GoodIn wsX11_act (wsV RX11 248 RX11 yX11_runNew wsX11_runNew) := goodIn_app (goodIn_of _ (by decide +kernel)) ggX11_act_X11_runNew
theorem dX11_act_0 : decode cX11_act 0 = .ok (.aload_n 0, 1) := by decide +kernel
theorem dX11_act_1 : decode cX11_act 1 = .ok (.iload_n 1, 1) := by decide +kernel
theorem dX11_act_2 : decode cX11_act 2 = .ok (.invokevirtual 168, 3) := by decide +kernel
theorem dX11_act_5 : decode cX11_act 5 = .ok (.ifCond .eq 12, 3) := by decide +kernel
theorem dX11_act_8 : decode cX11_act 8 = .ok (.aload_n 0, 1) := by decide +kernel
theorem dX11_act_9 : decode cX11_act 9 = .ok (.iload_n 1, 1) := by decide +kernel
theorem dX11_act_10 : decode cX11_act 10 = .ok (.iload_n 2, 1) := by decide +kernel
theorem dX11_act_11 : decode cX11_act 11 = .ok (.invokevirtual 248, 3) := by decide +kernel
theorem dX11_act_14 : decode cX11_act 14 = .ok (.goto 4, 3) := by decide +kernel
theorem dX11_act_17 : decode cX11_act 17 = .ok (.iconst (-1), 1) := by decide +kernel
theorem dX11_act_18 : decode cX11_act 18 = .ok (.ireturn, 1) := by decide +kernel
set_option maxRecDepth 20000 in
theorem ggX11_deliver_X11_in : GoodIn wsX11_deliver wsX11_in := goodIn_r _ [9] (by decide +kernel) (by decide +kernel)
set_option maxRecDepth 20000 in
theorem gX11_deliver_X11_in : GoodIn wsX11_deliver (va_wsS RX11 151 yX11_in wsX11_in) := goodIn_app (goodIn_of _ (by decide +kernel)) ggX11_deliver_X11_in
theorem dX11_deliver_0 : decode cX11_deliver 0 = .ok (.iload_n 1, 1) := by decide +kernel
theorem dX11_deliver_1 : decode cX11_deliver 1 = .ok (.iconst 0, 1) := by decide +kernel
theorem dX11_deliver_2 : decode cX11_deliver 2 = .ok (.aload_n 0, 1) := by decide +kernel
theorem dX11_deliver_3 : decode cX11_deliver 3 = .ok (.getfield 242, 3) := by decide +kernel
theorem dX11_deliver_6 : decode cX11_deliver 6 = .ok (.iconst 1, 1) := by decide +kernel
theorem dX11_deliver_7 : decode cX11_deliver 7 = .ok (.isub, 1) := by decide +kernel
theorem dX11_deliver_8 : decode cX11_deliver 8 = .ok (.invokestatic 151, 3) := by decide +kernel
theorem dX11_deliver_11 : decode cX11_deliver 11 = .ok (.ifCond .ne 5, 3) := by decide +kernel
theorem dX11_deliver_14 : decode cX11_deliver 14 = .ok (.iconst (-1), 1) := by decide +kernel
theorem dX11_deliver_15 : decode cX11_deliver 15 = .ok (.ireturn, 1) := by decide +kernel
theorem dX11_deliver_16 : decode cX11_deliver 16 = .ok (.aload_n 0, 1) := by decide +kernel
theorem dX11_deliver_17 : decode cX11_deliver 17 = .ok (.getfield 110, 3) := by decide +kernel
theorem dX11_deliver_20 : decode cX11_deliver 20 = .ok (.iload_n 1, 1) := by decide +kernel
theorem dX11_deliver_21 : decode cX11_deliver 21 = .ok (.baload, 1) := by decide +kernel
theorem dX11_deliver_22 : decode cX11_deliver 22 = .ok (.ifCond .ne 5, 3) := by decide +kernel
theorem dX11_deliver_25 : decode cX11_deliver 25 = .ok (.iconst 0, 1) := by decide +kernel
theorem dX11_deliver_26 : decode cX11_deliver 26 = .ok (.ireturn, 1) := by decide +kernel
theorem dX11_deliver_27 : decode cX11_deliver 27 = .ok (.aload_n 0, 1) := by decide +kernel
theorem dX11_deliver_28 : decode cX11_deliver 28 = .ok (.getfield 110, 3) := by decide +kernel
theorem dX11_deliver_31 : decode cX11_deliver 31 = .ok (.iload_n 1, 1) := by decide +kernel
theorem dX11_deliver_32 : decode cX11_deliver 32 = .ok (.iconst 0, 1) := by decide +kernel
theorem dX11_deliver_33 : decode cX11_deliver 33 = .ok (.bastore, 1) := by decide +kernel
theorem dX11_deliver_34 : decode cX11_deliver 34 = .ok (.aload_n 0, 1) := by decide +kernel
theorem dX11_deliver_35 : decode cX11_deliver 35 = .ok (.getfield 34, 3) := by decide +kernel
theorem dX11_deliver_38 : decode cX11_deliver 38 = .ok (.aload_n 0, 1) := by decide +kernel
theorem dX11_deliver_39 : decode cX11_deliver 39 = .ok (.getfield 98, 3) := by decide +kernel
theorem dX11_deliver_42 : decode cX11_deliver 42 = .ok (.iload_n 1, 1) := by decide +kernel
theorem dX11_deliver_43 : decode cX11_deliver 43 = .ok (.iaload, 1) := by decide +kernel
theorem dX11_deliver_44 : decode cX11_deliver 44 = .ok (.aload_n 0, 1) := by decide +kernel
theorem dX11_deliver_45 : decode cX11_deliver 45 = .ok (.getfield 101, 3) := by decide +kernel
theorem dX11_deliver_48 : decode cX11_deliver 48 = .ok (.iload_n 1, 1) := by decide +kernel
theorem dX11_deliver_49 : decode cX11_deliver 49 = .ok (.iaload, 1) := by decide +kernel
theorem dX11_deliver_50 : decode cX11_deliver 50 = .ok (.iastore, 1) := by decide +kernel
theorem dX11_deliver_51 : decode cX11_deliver 51 = .ok (.iconst 1, 1) := by decide +kernel
theorem dX11_deliver_52 : decode cX11_deliver 52 = .ok (.ireturn, 1) := by decide +kernel
set_option maxRecDepth 20000 in
theorem ggX11_settle_X11_deliver : GoodIn wsX11_settle wsX11_deliver := goodIn_r _ [6, 1, 7, 8, 9, 10, 11, 12, 5, 13, 14, 15, 16, 17, 18, 19, 20, 21, 22, 23, 24, 25, 26, 27, 28, 29, 30, 31, 32, 33, 34, 35, 36, 37, 38, 39, 40, 41, 42, 43, 44, 45, 46, 47, 48, 49, 50, 51, 52, 53, 54, 55, 56, 57, 58, 59, 60, 61, 62, 63, 64, 65, 66, 67, 68, 69, 70, 71, 72, 73, 74, 75, 76] (by decide +kernel) (by decide +kernel)
set_option maxRecDepth 20000 in
theorem gX11_settle_X11_deliver : GoodIn wsX11_settle (wsV RX11 251 RX11 yX11_deliver wsX11_deliver) := goodIn_app (goodIn_of _ (by decide +kernel)) ggX11_settle_X11_deliver
theorem dX11_settle_0 : decode cX11_settle 0 = .ok (.iconst 0, 1) := by decide +kernel
theorem dX11_settle_1 : decode cX11_settle 1 = .ok (.istore_n 1, 1) := by decide +kernel
theorem dX11_settle_2 : decode cX11_settle 2 = .ok (.iconst 0, 1) := by decide +kernel
theorem dX11_settle_3 : decode cX11_settle 3 = .ok (.istore_n 2, 1) := by decide +kernel
theorem dX11_settle_4 : decode cX11_settle 4 = .ok (.iload_n 2, 1) := by decide +kernel
theorem dX11_settle_5 : decode cX11_settle 5 = .ok (.aload_n 0, 1) := by decide +kernel
theorem dX11_settle_6 : decode cX11_settle 6 = .ok (.getfield 242, 3) := by decide +kernel
theorem dX11_settle_9 : decode cX11_settle 9 = .ok (.if_icmp .ge 17, 3) := by decide +kernel
theorem dX11_settle_12 : decode cX11_settle 12 = .ok (.iload_n 1, 1) := by decide +kernel
theorem dX11_settle_13 : decode cX11_settle 13 = .ok (.aload_n 0, 1) := by decide +kernel
theorem dX11_settle_14 : decode cX11_settle 14 = .ok (.iload_n 2, 1) := by decide +kernel
theorem dX11_settle_15 : decode cX11_settle 15 = .ok (.invokevirtual 251, 3) := by decide +kernel
theorem dX11_settle_18 : decode cX11_settle 18 = .ok (.iadd, 1) := by decide +kernel
theorem dX11_settle_19 : decode cX11_settle 19 = .ok (.istore_n 1, 1) := by decide +kernel
theorem dX11_settle_20 : decode cX11_settle 20 = .ok (.iinc 2 1, 3) := by decide +kernel
theorem dX11_settle_23 : decode cX11_settle 23 = .ok (.goto (-19), 3) := by decide +kernel
theorem dX11_settle_26 : decode cX11_settle 26 = .ok (.iload_n 1, 1) := by decide +kernel
theorem dX11_settle_27 : decode cX11_settle 27 = .ok (.ireturn, 1) := by decide +kernel
set_option maxRecDepth 20000 in
theorem ggX11_letter_X11_in : GoodIn wsX11_letter wsX11_in := goodIn_r _ [11] (by decide +kernel) (by decide +kernel)
set_option maxRecDepth 20000 in
theorem gX11_letter_X11_in : GoodIn wsX11_letter (va_wsS RX11 151 yX11_in wsX11_in) := goodIn_app (goodIn_of _ (by decide +kernel)) ggX11_letter_X11_in
theorem dX11_letter_0 : decode cX11_letter 0 = .ok (.iload_n 1, 1) := by decide +kernel
theorem dX11_letter_1 : decode cX11_letter 1 = .ok (.iconst 0, 1) := by decide +kernel
theorem dX11_letter_2 : decode cX11_letter 2 = .ok (.aload_n 0, 1) := by decide +kernel
theorem dX11_letter_3 : decode cX11_letter 3 = .ok (.getfield 242, 3) := by decide +kernel
theorem dX11_letter_6 : decode cX11_letter 6 = .ok (.iconst 1, 1) := by decide +kernel
theorem dX11_letter_7 : decode cX11_letter 7 = .ok (.isub, 1) := by decide +kernel
theorem dX11_letter_8 : decode cX11_letter 8 = .ok (.invokestatic 151, 3) := by decide +kernel
theorem dX11_letter_11 : decode cX11_letter 11 = .ok (.ifCond .ne 6, 3) := by decide +kernel
theorem dX11_letter_14 : decode cX11_letter 14 = .ok (.ldc 192, 2) := by decide +kernel
theorem dX11_letter_16 : decode cX11_letter 16 = .ok (.ireturn, 1) := by decide +kernel
theorem dX11_letter_17 : decode cX11_letter 17 = .ok (.iload_n 2, 1) := by decide +kernel
theorem dX11_letter_18 : decode cX11_letter 18 = .ok (.tableswitch 94 0 5 #[38, 48, 58, 65, 72, 79], 38) := by decide +kernel
theorem dX11_letter_56 : decode cX11_letter 56 = .ok (.aload_n 0, 1) := by decide +kernel
theorem dX11_letter_57 : decode cX11_letter 57 = .ok (.getfield 98, 3) := by decide +kernel
theorem dX11_letter_60 : decode cX11_letter 60 = .ok (.iload_n 1, 1) := by decide +kernel
theorem dX11_letter_61 : decode cX11_letter 61 = .ok (.iaload, 1) := by decide +kernel
theorem dX11_letter_62 : decode cX11_letter 62 = .ok (.bipush 8, 2) := by decide +kernel
theorem dX11_letter_64 : decode cX11_letter 64 = .ok (.idiv, 1) := by decide +kernel
theorem dX11_letter_65 : decode cX11_letter 65 = .ok (.ireturn, 1) := by decide +kernel
theorem dX11_letter_66 : decode cX11_letter 66 = .ok (.aload_n 0, 1) := by decide +kernel
theorem dX11_letter_67 : decode cX11_letter 67 = .ok (.getfield 98, 3) := by decide +kernel
theorem dX11_letter_70 : decode cX11_letter 70 = .ok (.iload_n 1, 1) := by decide +kernel
theorem dX11_letter_71 : decode cX11_letter 71 = .ok (.iaload, 1) := by decide +kernel
theorem dX11_letter_72 : decode cX11_letter 72 = .ok (.bipush 8, 2) := by decide +kernel
theorem dX11_letter_74 : decode cX11_letter 74 = .ok (.irem, 1) := by decide +kernel
theorem dX11_letter_75 : decode cX11_letter 75 = .ok (.ireturn, 1) := by decide +kernel
theorem dX11_letter_76 : decode cX11_letter 76 = .ok (.aload_n 0, 1) := by decide +kernel
theorem dX11_letter_77 : decode cX11_letter 77 = .ok (.getfield 101, 3) := by decide +kernel
theorem dX11_letter_80 : decode cX11_letter 80 = .ok (.iload_n 1, 1) := by decide +kernel
theorem dX11_letter_81 : decode cX11_letter 81 = .ok (.iaload, 1) := by decide +kernel
theorem dX11_letter_82 : decode cX11_letter 82 = .ok (.ireturn, 1) := by decide +kernel
theorem dX11_letter_83 : decode cX11_letter 83 = .ok (.aload_n 0, 1) := by decide +kernel
theorem dX11_letter_84 : decode cX11_letter 84 = .ok (.getfield 104, 3) := by decide +kernel
theorem dX11_letter_87 : decode cX11_letter 87 = .ok (.iload_n 1, 1) := by decide +kernel
theorem dX11_letter_88 : decode cX11_letter 88 = .ok (.iaload, 1) := by decide +kernel
theorem dX11_letter_89 : decode cX11_letter 89 = .ok (.ireturn, 1) := by decide +kernel
theorem dX11_letter_90 : decode cX11_letter 90 = .ok (.aload_n 0, 1) := by decide +kernel
theorem dX11_letter_91 : decode cX11_letter 91 = .ok (.getfield 107, 3) := by decide +kernel
theorem dX11_letter_94 : decode cX11_letter 94 = .ok (.iload_n 1, 1) := by decide +kernel
theorem dX11_letter_95 : decode cX11_letter 95 = .ok (.iaload, 1) := by decide +kernel
theorem dX11_letter_96 : decode cX11_letter 96 = .ok (.ireturn, 1) := by decide +kernel
theorem dX11_letter_97 : decode cX11_letter 97 = .ok (.aload_n 0, 1) := by decide +kernel
theorem dX11_letter_98 : decode cX11_letter 98 = .ok (.getfield 110, 3) := by decide +kernel
theorem dX11_letter_101 : decode cX11_letter 101 = .ok (.iload_n 1, 1) := by decide +kernel
theorem dX11_letter_102 : decode cX11_letter 102 = .ok (.baload, 1) := by decide +kernel
theorem dX11_letter_103 : decode cX11_letter 103 = .ok (.ifCond .eq 7, 3) := by decide +kernel
theorem dX11_letter_106 : decode cX11_letter 106 = .ok (.iconst 1, 1) := by decide +kernel
theorem dX11_letter_107 : decode cX11_letter 107 = .ok (.goto 4, 3) := by decide +kernel
theorem dX11_letter_110 : decode cX11_letter 110 = .ok (.iconst 0, 1) := by decide +kernel
theorem dX11_letter_111 : decode cX11_letter 111 = .ok (.ireturn, 1) := by decide +kernel
theorem dX11_letter_112 : decode cX11_letter 112 = .ok (.ldc 192, 2) := by decide +kernel
theorem dX11_letter_114 : decode cX11_letter 114 = .ok (.ireturn, 1) := by decide +kernel
set_option maxRecDepth 20000 in
theorem ggX11_isLaw_X11_in : GoodIn wsX11_isLaw wsX11_in := goodIn_r _ [5] (by decide +kernel) (by decide +kernel)
set_option maxRecDepth 20000 in
theorem gX11_isLaw_X11_in : GoodIn wsX11_isLaw (va_wsS RX11 151 yX11_in wsX11_in) := goodIn_app (goodIn_of _ (by decide +kernel)) ggX11_isLaw_X11_in
theorem dX11_isLaw_0 : decode cX11_isLaw 0 = .ok (.iload_n 1, 1) := by decide +kernel
theorem dX11_isLaw_1 : decode cX11_isLaw 1 = .ok (.iconst 0, 1) := by decide +kernel
theorem dX11_isLaw_2 : decode cX11_isLaw 2 = .ok (.aload_n 0, 1) := by decide +kernel
theorem dX11_isLaw_3 : decode cX11_isLaw 3 = .ok (.getfield 255, 3) := by decide +kernel
theorem dX11_isLaw_6 : decode cX11_isLaw 6 = .ok (.iconst 1, 1) := by decide +kernel
theorem dX11_isLaw_7 : decode cX11_isLaw 7 = .ok (.isub, 1) := by decide +kernel
theorem dX11_isLaw_8 : decode cX11_isLaw 8 = .ok (.invokestatic 151, 3) := by decide +kernel
theorem dX11_isLaw_11 : decode cX11_isLaw 11 = .ok (.ireturn, 1) := by decide +kernel
theorem dX11_law_0 : decode cX11_law 0 = .ok (.aload_n 0, 1) := by decide +kernel
theorem dX11_law_1 : decode cX11_law 1 = .ok (.getfield 255, 3) := by decide +kernel
theorem dX11_law_4 : decode cX11_law 4 = .ok (.bipush 10, 2) := by decide +kernel
theorem dX11_law_6 : decode cX11_law 6 = .ok (.if_icmp .ne 6, 3) := by decide +kernel
theorem dX11_law_9 : decode cX11_law 9 = .ok (.bipush (-3), 2) := by decide +kernel
theorem dX11_law_11 : decode cX11_law 11 = .ok (.ireturn, 1) := by decide +kernel
theorem dX11_law_12 : decode cX11_law 12 = .ok (.aload_n 0, 1) := by decide +kernel
theorem dX11_law_13 : decode cX11_law 13 = .ok (.getfield 113, 3) := by decide +kernel
theorem dX11_law_16 : decode cX11_law 16 = .ok (.aload_n 0, 1) := by decide +kernel
theorem dX11_law_17 : decode cX11_law 17 = .ok (.getfield 255, 3) := by decide +kernel
theorem dX11_law_20 : decode cX11_law 20 = .ok (.iload_n 1, 1) := by decide +kernel
theorem dX11_law_21 : decode cX11_law 21 = .ok (.iastore, 1) := by decide +kernel
theorem dX11_law_22 : decode cX11_law 22 = .ok (.aload_n 0, 1) := by decide +kernel
theorem dX11_law_23 : decode cX11_law 23 = .ok (.dup, 1) := by decide +kernel
theorem dX11_law_24 : decode cX11_law 24 = .ok (.getfield 255, 3) := by decide +kernel
theorem dX11_law_27 : decode cX11_law 27 = .ok (.iconst 1, 1) := by decide +kernel
theorem dX11_law_28 : decode cX11_law 28 = .ok (.iadd, 1) := by decide +kernel
theorem dX11_law_29 : decode cX11_law 29 = .ok (.putfield 255, 3) := by decide +kernel
theorem dX11_law_32 : decode cX11_law 32 = .ok (.aload_n 0, 1) := by decide +kernel
theorem dX11_law_33 : decode cX11_law 33 = .ok (.getfield 255, 3) := by decide +kernel
theorem dX11_law_36 : decode cX11_law 36 = .ok (.iconst 1, 1) := by decide +kernel
theorem dX11_law_37 : decode cX11_law 37 = .ok (.isub, 1) := by decide +kernel
theorem dX11_law_38 : decode cX11_law 38 = .ok (.ireturn, 1) := by decide +kernel
set_option maxRecDepth 20000 in
theorem ggX11_term_X11_isLaw : GoodIn wsX11_term wsX11_isLaw := goodIn_r _ [8, 9, 10, 11, 7, 12, 18, 19, 20, 21, 22, 23, 24, 25, 26, 27, 28, 29, 30, 31, 32, 33, 34, 35, 36, 37, 38, 39, 40, 41, 42, 43, 44, 45, 46, 47, 48, 49, 50, 51, 52, 53, 54, 55, 56, 57, 58, 59, 60, 61, 62, 63, 64, 65, 66, 67, 68, 69, 70, 71, 72, 73, 74, 75, 76, 77, 78, 79, 80] (by decide +kernel) (by decide +kernel)
set_option maxRecDepth 20000 in
theorem gX11_term_X11_isLaw : GoodIn wsX11_term (wsV RX11 258 RX11 yX11_isLaw wsX11_isLaw) := goodIn_app (goodIn_of _ (by decide +kernel)) ggX11_term_X11_isLaw
set_option maxRecDepth 20000 in
theorem ggX11_term_X11_isTable : GoodIn wsX11_term wsX11_isTable := goodIn_r _ [16, 17, 10, 11, 7, 12, 18, 19, 20, 21, 22, 23, 24, 25, 26, 27, 28, 29, 30, 31, 32, 33, 34, 35, 36, 37, 38, 39, 40, 41, 42, 43, 44, 45, 46, 47, 48, 49, 50, 51, 52, 53, 54, 55, 56, 57, 58, 59, 60, 61, 62, 63, 64, 65, 66, 67, 68, 69, 70, 71, 72, 73, 74, 75, 76, 77, 78, 79, 80] (by decide +kernel) (by decide +kernel)
set_option maxRecDepth 20000 in
theorem gX11_term_X11_isTable : GoodIn wsX11_term (wsV RX11 165 RX11 yX11_isTable wsX11_isTable) := goodIn_app (goodIn_of _ (by decide +kernel)) ggX11_term_X11_isTable
set_option maxRecDepth 20000 in
theorem ggX11_term_X11_in : GoodIn wsX11_term wsX11_in := goodIn_r _ [12] (by decide +kernel) (by decide +kernel)
set_option maxRecDepth 20000 in
theorem gX11_term_X11_in : GoodIn wsX11_term (va_wsS RX11 151 yX11_in wsX11_in) := goodIn_app (goodIn_of _ (by decide +kernel)) ggX11_term_X11_in
theorem dX11_term_0 : decode cX11_term 0 = .ok (.aload_n 0, 1) := by decide +kernel
theorem dX11_term_1 : decode cX11_term 1 = .ok (.iload_n 1, 1) := by decide +kernel
theorem dX11_term_2 : decode cX11_term 2 = .ok (.invokevirtual 258, 3) := by decide +kernel
theorem dX11_term_5 : decode cX11_term 5 = .ok (.ifCond .eq 33, 3) := by decide +kernel
theorem dX11_term_8 : decode cX11_term 8 = .ok (.aload_n 0, 1) := by decide +kernel
theorem dX11_term_9 : decode cX11_term 9 = .ok (.iload_n 2, 1) := by decide +kernel
theorem dX11_term_10 : decode cX11_term 10 = .ok (.invokevirtual 165, 3) := by decide +kernel
theorem dX11_term_13 : decode cX11_term 13 = .ok (.ifCond .eq 25, 3) := by decide +kernel
theorem dX11_term_16 : decode cX11_term 16 = .ok (.iload_n 3, 1) := by decide +kernel
theorem dX11_term_17 : decode cX11_term 17 = .ok (.iconst 0, 1) := by decide +kernel
theorem dX11_term_18 : decode cX11_term 18 = .ok (.bipush 7, 2) := by decide +kernel
theorem dX11_term_20 : decode cX11_term 20 = .ok (.invokestatic 151, 3) := by decide +kernel
theorem dX11_term_23 : decode cX11_term 23 = .ok (.ifCond .eq 15, 3) := by decide +kernel
theorem dX11_term_26 : decode cX11_term 26 = .ok (.iload 4, 2) := by decide +kernel
theorem dX11_term_28 : decode cX11_term 28 = .ok (.bipush (-9), 2) := by decide +kernel
theorem dX11_term_30 : decode cX11_term 30 = .ok (.bipush 9, 2) := by decide +kernel
theorem dX11_term_32 : decode cX11_term 32 = .ok (.invokestatic 151, 3) := by decide +kernel
theorem dX11_term_35 : decode cX11_term 35 = .ok (.ifCond .ne 5, 3) := by decide +kernel
theorem dX11_term_38 : decode cX11_term 38 = .ok (.iconst (-1), 1) := by decide +kernel
theorem dX11_term_39 : decode cX11_term 39 = .ok (.ireturn, 1) := by decide +kernel
theorem dX11_term_40 : decode cX11_term 40 = .ok (.aload_n 0, 1) := by decide +kernel
theorem dX11_term_41 : decode cX11_term 41 = .ok (.getfield 116, 3) := by decide +kernel
theorem dX11_term_44 : decode cX11_term 44 = .ok (.iload_n 1, 1) := by decide +kernel
theorem dX11_term_45 : decode cX11_term 45 = .ok (.iaload, 1) := by decide +kernel
theorem dX11_term_46 : decode cX11_term 46 = .ok (.bipush 6, 2) := by decide +kernel
theorem dX11_term_48 : decode cX11_term 48 = .ok (.if_icmp .ne 6, 3) := by decide +kernel
theorem dX11_term_51 : decode cX11_term 51 = .ok (.bipush (-3), 2) := by decide +kernel
theorem dX11_term_53 : decode cX11_term 53 = .ok (.ireturn, 1) := by decide +kernel
theorem dX11_term_54 : decode cX11_term 54 = .ok (.aload_n 0, 1) := by decide +kernel
theorem dX11_term_55 : decode cX11_term 55 = .ok (.getfield 119, 3) := by decide +kernel
theorem dX11_term_58 : decode cX11_term 58 = .ok (.bipush 6, 2) := by decide +kernel
theorem dX11_term_60 : decode cX11_term 60 = .ok (.iload_n 1, 1) := by decide +kernel
theorem dX11_term_61 : decode cX11_term 61 = .ok (.imul, 1) := by decide +kernel
theorem dX11_term_62 : decode cX11_term 62 = .ok (.aload_n 0, 1) := by decide +kernel
theorem dX11_term_63 : decode cX11_term 63 = .ok (.getfield 116, 3) := by decide +kernel
theorem dX11_term_66 : decode cX11_term 66 = .ok (.iload_n 1, 1) := by decide +kernel
theorem dX11_term_67 : decode cX11_term 67 = .ok (.iaload, 1) := by decide +kernel
theorem dX11_term_68 : decode cX11_term 68 = .ok (.iadd, 1) := by decide +kernel
theorem dX11_term_69 : decode cX11_term 69 = .ok (.bipush 8, 2) := by decide +kernel
theorem dX11_term_71 : decode cX11_term 71 = .ok (.iload_n 2, 1) := by decide +kernel
theorem dX11_term_72 : decode cX11_term 72 = .ok (.imul, 1) := by decide +kernel
theorem dX11_term_73 : decode cX11_term 73 = .ok (.iload_n 3, 1) := by decide +kernel
theorem dX11_term_74 : decode cX11_term 74 = .ok (.iadd, 1) := by decide +kernel
theorem dX11_term_75 : decode cX11_term 75 = .ok (.iastore, 1) := by decide +kernel
theorem dX11_term_76 : decode cX11_term 76 = .ok (.aload_n 0, 1) := by decide +kernel
theorem dX11_term_77 : decode cX11_term 77 = .ok (.getfield 122, 3) := by decide +kernel
theorem dX11_term_80 : decode cX11_term 80 = .ok (.bipush 6, 2) := by decide +kernel
theorem dX11_term_82 : decode cX11_term 82 = .ok (.iload_n 1, 1) := by decide +kernel
theorem dX11_term_83 : decode cX11_term 83 = .ok (.imul, 1) := by decide +kernel
theorem dX11_term_84 : decode cX11_term 84 = .ok (.aload_n 0, 1) := by decide +kernel
theorem dX11_term_85 : decode cX11_term 85 = .ok (.getfield 116, 3) := by decide +kernel
theorem dX11_term_88 : decode cX11_term 88 = .ok (.iload_n 1, 1) := by decide +kernel
theorem dX11_term_89 : decode cX11_term 89 = .ok (.iaload, 1) := by decide +kernel
theorem dX11_term_90 : decode cX11_term 90 = .ok (.iadd, 1) := by decide +kernel
theorem dX11_term_91 : decode cX11_term 91 = .ok (.iload 4, 2) := by decide +kernel
theorem dX11_term_93 : decode cX11_term 93 = .ok (.iastore, 1) := by decide +kernel
theorem dX11_term_94 : decode cX11_term 94 = .ok (.aload_n 0, 1) := by decide +kernel
theorem dX11_term_95 : decode cX11_term 95 = .ok (.getfield 116, 3) := by decide +kernel
theorem dX11_term_98 : decode cX11_term 98 = .ok (.iload_n 1, 1) := by decide +kernel
theorem dX11_term_99 : decode cX11_term 99 = .ok (.dup2, 1) := by decide +kernel
theorem dX11_term_100 : decode cX11_term 100 = .ok (.iaload, 1) := by decide +kernel
theorem dX11_term_101 : decode cX11_term 101 = .ok (.iconst 1, 1) := by decide +kernel
theorem dX11_term_102 : decode cX11_term 102 = .ok (.iadd, 1) := by decide +kernel
theorem dX11_term_103 : decode cX11_term 103 = .ok (.iastore, 1) := by decide +kernel
theorem dX11_term_104 : decode cX11_term 104 = .ok (.aload_n 0, 1) := by decide +kernel
theorem dX11_term_105 : decode cX11_term 105 = .ok (.getfield 116, 3) := by decide +kernel
theorem dX11_term_108 : decode cX11_term 108 = .ok (.iload_n 1, 1) := by decide +kernel
theorem dX11_term_109 : decode cX11_term 109 = .ok (.iaload, 1) := by decide +kernel
theorem dX11_term_110 : decode cX11_term 110 = .ok (.ireturn, 1) := by decide +kernel
theorem dX11_doesHold_0 : decode cX11_doesHold 0 = .ok (.lconst 0, 1) := by decide +kernel
theorem dX11_doesHold_1 : decode cX11_doesHold 1 = .ok (.lstore_n 3, 1) := by decide +kernel
theorem dX11_doesHold_2 : decode cX11_doesHold 2 = .ok (.bipush 6, 2) := by decide +kernel
theorem dX11_doesHold_4 : decode cX11_doesHold 4 = .ok (.iload_n 1, 1) := by decide +kernel
theorem dX11_doesHold_5 : decode cX11_doesHold 5 = .ok (.imul, 1) := by decide +kernel
theorem dX11_doesHold_6 : decode cX11_doesHold 6 = .ok (.istore 5, 2) := by decide +kernel
theorem dX11_doesHold_8 : decode cX11_doesHold 8 = .ok (.iload 5, 2) := by decide +kernel
theorem dX11_doesHold_10 : decode cX11_doesHold 10 = .ok (.bipush 6, 2) := by decide +kernel
theorem dX11_doesHold_12 : decode cX11_doesHold 12 = .ok (.iload_n 1, 1) := by decide +kernel
theorem dX11_doesHold_13 : decode cX11_doesHold 13 = .ok (.imul, 1) := by decide +kernel
theorem dX11_doesHold_14 : decode cX11_doesHold 14 = .ok (.aload_n 0, 1) := by decide +kernel
theorem dX11_doesHold_15 : decode cX11_doesHold 15 = .ok (.getfield 116, 3) := by decide +kernel
theorem dX11_doesHold_18 : decode cX11_doesHold 18 = .ok (.iload_n 1, 1) := by decide +kernel
theorem dX11_doesHold_19 : decode cX11_doesHold 19 = .ok (.iaload, 1) := by decide +kernel
theorem dX11_doesHold_20 : decode cX11_doesHold 20 = .ok (.iadd, 1) := by decide +kernel
theorem dX11_doesHold_21 : decode cX11_doesHold 21 = .ok (.if_icmp .ge 31, 3) := by decide +kernel
theorem dX11_doesHold_24 : decode cX11_doesHold 24 = .ok (.lload_n 3, 1) := by decide +kernel
theorem dX11_doesHold_25 : decode cX11_doesHold 25 = .ok (.aload_n 0, 1) := by decide +kernel
theorem dX11_doesHold_26 : decode cX11_doesHold 26 = .ok (.getfield 122, 3) := by decide +kernel
theorem dX11_doesHold_29 : decode cX11_doesHold 29 = .ok (.iload 5, 2) := by decide +kernel
theorem dX11_doesHold_31 : decode cX11_doesHold 31 = .ok (.iaload, 1) := by decide +kernel
theorem dX11_doesHold_32 : decode cX11_doesHold 32 = .ok (.i2l, 1) := by decide +kernel
theorem dX11_doesHold_33 : decode cX11_doesHold 33 = .ok (.aload_n 2, 1) := by decide +kernel
theorem dX11_doesHold_34 : decode cX11_doesHold 34 = .ok (.aload_n 0, 1) := by decide +kernel
theorem dX11_doesHold_35 : decode cX11_doesHold 35 = .ok (.getfield 119, 3) := by decide +kernel
theorem dX11_doesHold_38 : decode cX11_doesHold 38 = .ok (.iload 5, 2) := by decide +kernel
theorem dX11_doesHold_40 : decode cX11_doesHold 40 = .ok (.iaload, 1) := by decide +kernel
theorem dX11_doesHold_41 : decode cX11_doesHold 41 = .ok (.iaload, 1) := by decide +kernel
theorem dX11_doesHold_42 : decode cX11_doesHold 42 = .ok (.i2l, 1) := by decide +kernel
theorem dX11_doesHold_43 : decode cX11_doesHold 43 = .ok (.lmul, 1) := by decide +kernel
theorem dX11_doesHold_44 : decode cX11_doesHold 44 = .ok (.ladd, 1) := by decide +kernel
theorem dX11_doesHold_45 : decode cX11_doesHold 45 = .ok (.lstore_n 3, 1) := by decide +kernel
theorem dX11_doesHold_46 : decode cX11_doesHold 46 = .ok (.iinc 5 1, 3) := by decide +kernel
theorem dX11_doesHold_49 : decode cX11_doesHold 49 = .ok (.goto (-41), 3) := by decide +kernel
theorem dX11_doesHold_52 : decode cX11_doesHold 52 = .ok (.lload_n 3, 1) := by decide +kernel
theorem dX11_doesHold_53 : decode cX11_doesHold 53 = .ok (.aload_n 0, 1) := by decide +kernel
theorem dX11_doesHold_54 : decode cX11_doesHold 54 = .ok (.getfield 113, 3) := by decide +kernel
theorem dX11_doesHold_57 : decode cX11_doesHold 57 = .ok (.iload_n 1, 1) := by decide +kernel
theorem dX11_doesHold_58 : decode cX11_doesHold 58 = .ok (.iaload, 1) := by decide +kernel
theorem dX11_doesHold_59 : decode cX11_doesHold 59 = .ok (.i2l, 1) := by decide +kernel
theorem dX11_doesHold_60 : decode cX11_doesHold 60 = .ok (.lcmp, 1) := by decide +kernel
theorem dX11_doesHold_61 : decode cX11_doesHold 61 = .ok (.ifCond .lt 7, 3) := by decide +kernel
theorem dX11_doesHold_64 : decode cX11_doesHold 64 = .ok (.iconst 1, 1) := by decide +kernel
theorem dX11_doesHold_65 : decode cX11_doesHold 65 = .ok (.goto 4, 3) := by decide +kernel
theorem dX11_doesHold_68 : decode cX11_doesHold 68 = .ok (.iconst 0, 1) := by decide +kernel
theorem dX11_doesHold_69 : decode cX11_doesHold 69 = .ok (.ireturn, 1) := by decide +kernel
set_option maxRecDepth 20000 in
theorem ggX11_holds_X11_isLaw : GoodIn wsX11_holds wsX11_isLaw := goodIn_r _ [7, 8, 9, 10, 6, 11, 20, 21, 22, 23, 24, 25, 26, 27, 28, 29, 30, 31, 32, 33, 34, 35, 36, 37, 38, 39, 40, 41, 42, 43, 44, 45, 46, 47, 48, 49, 50, 51, 52, 53, 54, 55, 56, 57, 58, 59, 60, 61, 62, 63, 64, 65, 66, 67, 68, 69, 70, 71, 72, 73, 74, 75, 76, 77, 78, 79, 80, 81, 82] (by decide +kernel) (by decide +kernel)
set_option maxRecDepth 20000 in
theorem gX11_holds_X11_isLaw : GoodIn wsX11_holds (wsV RX11 258 RX11 yX11_isLaw wsX11_isLaw) := goodIn_app (goodIn_of _ (by decide +kernel)) ggX11_holds_X11_isLaw
set_option maxRecDepth 20000 in
theorem ggX11_holds_X11_in : GoodIn wsX11_holds wsX11_in := goodIn_r _ [11] (by decide +kernel) (by decide +kernel)
set_option maxRecDepth 20000 in
theorem gX11_holds_X11_in : GoodIn wsX11_holds (va_wsS RX11 151 yX11_in wsX11_in) := goodIn_app (goodIn_of _ (by decide +kernel)) ggX11_holds_X11_in
set_option maxRecDepth 20000 in
theorem ggX11_holds_X11_doesHold : GoodIn wsX11_holds wsX11_doesHold := goodIn_r _ [15, 16, 17, 18, 19, 20, 21, 22, 23, 24, 25, 26, 27, 28, 29, 30, 31, 32, 33, 34, 35, 36, 37, 38, 39, 40, 41, 42, 43, 44, 45, 46, 47, 48, 49, 50, 51, 52, 53, 54, 55, 56, 57, 58, 59, 60, 61, 62, 63, 64, 65, 66, 67, 68, 69, 70, 71, 72, 73, 74, 75, 76, 77, 78, 79, 80, 81, 82] (by decide +kernel) (by decide +kernel)
set_option maxRecDepth 20000 in
theorem gX11_holds_X11_doesHold : GoodIn wsX11_holds (wsV RX11 261 RX11 yX11_doesHold wsX11_doesHold) := goodIn_app (goodIn_of _ (by decide +kernel)) ggX11_holds_X11_doesHold
theorem dX11_holds_0 : decode cX11_holds 0 = .ok (.aload_n 0, 1) := by decide +kernel
theorem dX11_holds_1 : decode cX11_holds 1 = .ok (.iload_n 1, 1) := by decide +kernel
theorem dX11_holds_2 : decode cX11_holds 2 = .ok (.invokevirtual 258, 3) := by decide +kernel
theorem dX11_holds_5 : decode cX11_holds 5 = .ok (.ifCond .eq 12, 3) := by decide +kernel
theorem dX11_holds_8 : decode cX11_holds 8 = .ok (.iload_n 2, 1) := by decide +kernel
theorem dX11_holds_9 : decode cX11_holds 9 = .ok (.iconst 0, 1) := by decide +kernel
theorem dX11_holds_10 : decode cX11_holds 10 = .ok (.iconst 1, 1) := by decide +kernel
theorem dX11_holds_11 : decode cX11_holds 11 = .ok (.invokestatic 151, 3) := by decide +kernel
theorem dX11_holds_14 : decode cX11_holds 14 = .ok (.ifCond .ne 7, 3) := by decide +kernel
theorem dX11_holds_17 : decode cX11_holds 17 = .ok (.iconst (-1), 1) := by decide +kernel
theorem dX11_holds_18 : decode cX11_holds 18 = .ok (.goto 31, 3) := by decide +kernel
theorem dX11_holds_21 : decode cX11_holds 21 = .ok (.aload_n 0, 1) := by decide +kernel
theorem dX11_holds_22 : decode cX11_holds 22 = .ok (.iload_n 1, 1) := by decide +kernel
theorem dX11_holds_23 : decode cX11_holds 23 = .ok (.iload_n 2, 1) := by decide +kernel
theorem dX11_holds_24 : decode cX11_holds 24 = .ok (.ifCond .ne 10, 3) := by decide +kernel
theorem dX11_holds_27 : decode cX11_holds 27 = .ok (.aload_n 0, 1) := by decide +kernel
theorem dX11_holds_28 : decode cX11_holds 28 = .ok (.getfield 31, 3) := by decide +kernel
theorem dX11_holds_31 : decode cX11_holds 31 = .ok (.goto 7, 3) := by decide +kernel
theorem dX11_holds_34 : decode cX11_holds 34 = .ok (.aload_n 0, 1) := by decide +kernel
theorem dX11_holds_35 : decode cX11_holds 35 = .ok (.getfield 34, 3) := by decide +kernel
theorem dX11_holds_38 : decode cX11_holds 38 = .ok (.invokevirtual 261, 3) := by decide +kernel
theorem dX11_holds_41 : decode cX11_holds 41 = .ok (.ifCond .eq 7, 3) := by decide +kernel
theorem dX11_holds_44 : decode cX11_holds 44 = .ok (.iconst 1, 1) := by decide +kernel
theorem dX11_holds_45 : decode cX11_holds 45 = .ok (.goto 4, 3) := by decide +kernel
theorem dX11_holds_48 : decode cX11_holds 48 = .ok (.iconst 0, 1) := by decide +kernel
theorem dX11_holds_49 : decode cX11_holds 49 = .ok (.ireturn, 1) := by decide +kernel
theorem dX11_findWaiting_0 : decode cX11_findWaiting 0 = .ok (.aload_n 0, 1) := by decide +kernel
theorem dX11_findWaiting_1 : decode cX11_findWaiting 1 = .ok (.iconst 0, 1) := by decide +kernel
theorem dX11_findWaiting_2 : decode cX11_findWaiting 2 = .ok (.putfield 265, 3) := by decide +kernel
theorem dX11_findWaiting_5 : decode cX11_findWaiting 5 = .ok (.iconst 0, 1) := by decide +kernel
theorem dX11_findWaiting_6 : decode cX11_findWaiting 6 = .ok (.istore_n 1, 1) := by decide +kernel
theorem dX11_findWaiting_7 : decode cX11_findWaiting 7 = .ok (.iload_n 1, 1) := by decide +kernel
theorem dX11_findWaiting_8 : decode cX11_findWaiting 8 = .ok (.aload_n 0, 1) := by decide +kernel
theorem dX11_findWaiting_9 : decode cX11_findWaiting 9 = .ok (.getfield 242, 3) := by decide +kernel
theorem dX11_findWaiting_12 : decode cX11_findWaiting 12 = .ok (.if_icmp .ge 50, 3) := by decide +kernel
theorem dX11_findWaiting_15 : decode cX11_findWaiting 15 = .ok (.aload_n 0, 1) := by decide +kernel
theorem dX11_findWaiting_16 : decode cX11_findWaiting 16 = .ok (.getfield 265, 3) := by decide +kernel
theorem dX11_findWaiting_19 : decode cX11_findWaiting 19 = .ok (.bipush 6, 2) := by decide +kernel
theorem dX11_findWaiting_21 : decode cX11_findWaiting 21 = .ok (.if_icmp .ge 41, 3) := by decide +kernel
theorem dX11_findWaiting_24 : decode cX11_findWaiting 24 = .ok (.aload_n 0, 1) := by decide +kernel
theorem dX11_findWaiting_25 : decode cX11_findWaiting 25 = .ok (.getfield 110, 3) := by decide +kernel
theorem dX11_findWaiting_28 : decode cX11_findWaiting 28 = .ok (.iload_n 1, 1) := by decide +kernel
theorem dX11_findWaiting_29 : decode cX11_findWaiting 29 = .ok (.baload, 1) := by decide +kernel
theorem dX11_findWaiting_30 : decode cX11_findWaiting 30 = .ok (.ifCond .ne 6, 3) := by decide +kernel
theorem dX11_findWaiting_33 : decode cX11_findWaiting 33 = .ok (.goto 23, 3) := by decide +kernel
theorem dX11_findWaiting_36 : decode cX11_findWaiting 36 = .ok (.aload_n 0, 1) := by decide +kernel
theorem dX11_findWaiting_37 : decode cX11_findWaiting 37 = .ok (.getfield 125, 3) := by decide +kernel
theorem dX11_findWaiting_40 : decode cX11_findWaiting 40 = .ok (.aload_n 0, 1) := by decide +kernel
theorem dX11_findWaiting_41 : decode cX11_findWaiting 41 = .ok (.getfield 265, 3) := by decide +kernel
theorem dX11_findWaiting_44 : decode cX11_findWaiting 44 = .ok (.iload_n 1, 1) := by decide +kernel
theorem dX11_findWaiting_45 : decode cX11_findWaiting 45 = .ok (.iastore, 1) := by decide +kernel
theorem dX11_findWaiting_46 : decode cX11_findWaiting 46 = .ok (.aload_n 0, 1) := by decide +kernel
theorem dX11_findWaiting_47 : decode cX11_findWaiting 47 = .ok (.dup, 1) := by decide +kernel
theorem dX11_findWaiting_48 : decode cX11_findWaiting 48 = .ok (.getfield 265, 3) := by decide +kernel
theorem dX11_findWaiting_51 : decode cX11_findWaiting 51 = .ok (.iconst 1, 1) := by decide +kernel
theorem dX11_findWaiting_52 : decode cX11_findWaiting 52 = .ok (.iadd, 1) := by decide +kernel
theorem dX11_findWaiting_53 : decode cX11_findWaiting 53 = .ok (.putfield 265, 3) := by decide +kernel
theorem dX11_findWaiting_56 : decode cX11_findWaiting 56 = .ok (.iinc 1 1, 3) := by decide +kernel
theorem dX11_findWaiting_59 : decode cX11_findWaiting 59 = .ok (.goto (-52), 3) := by decide +kernel
theorem dX11_findWaiting_62 : decode cX11_findWaiting 62 = .ok (.return_, 1) := by decide +kernel
theorem dX11_mayCome_0 : decode cX11_mayCome 0 = .ok (.aload_n 0, 1) := by decide +kernel
theorem dX11_mayCome_1 : decode cX11_mayCome 1 = .ok (.getfield 128, 3) := by decide +kernel
theorem dX11_mayCome_4 : decode cX11_mayCome 4 = .ok (.iload_n 1, 1) := by decide +kernel
theorem dX11_mayCome_5 : decode cX11_mayCome 5 = .ok (.iaload, 1) := by decide +kernel
theorem dX11_mayCome_6 : decode cX11_mayCome 6 = .ok (.istore_n 2, 1) := by decide +kernel
theorem dX11_mayCome_7 : decode cX11_mayCome 7 = .ok (.iconst 0, 1) := by decide +kernel
theorem dX11_mayCome_8 : decode cX11_mayCome 8 = .ok (.istore_n 3, 1) := by decide +kernel
theorem dX11_mayCome_9 : decode cX11_mayCome 9 = .ok (.iload_n 3, 1) := by decide +kernel
theorem dX11_mayCome_10 : decode cX11_mayCome 10 = .ok (.iload_n 1, 1) := by decide +kernel
theorem dX11_mayCome_11 : decode cX11_mayCome 11 = .ok (.if_icmp .ge 21, 3) := by decide +kernel
theorem dX11_mayCome_14 : decode cX11_mayCome 14 = .ok (.aload_n 0, 1) := by decide +kernel
theorem dX11_mayCome_15 : decode cX11_mayCome 15 = .ok (.getfield 128, 3) := by decide +kernel
theorem dX11_mayCome_18 : decode cX11_mayCome 18 = .ok (.iload_n 3, 1) := by decide +kernel
theorem dX11_mayCome_19 : decode cX11_mayCome 19 = .ok (.iaload, 1) := by decide +kernel
theorem dX11_mayCome_20 : decode cX11_mayCome 20 = .ok (.iload_n 2, 1) := by decide +kernel
theorem dX11_mayCome_21 : decode cX11_mayCome 21 = .ok (.if_icmp .ne 5, 3) := by decide +kernel
theorem dX11_mayCome_24 : decode cX11_mayCome 24 = .ok (.iconst 0, 1) := by decide +kernel
theorem dX11_mayCome_25 : decode cX11_mayCome 25 = .ok (.ireturn, 1) := by decide +kernel
theorem dX11_mayCome_26 : decode cX11_mayCome 26 = .ok (.iinc 3 1, 3) := by decide +kernel
theorem dX11_mayCome_29 : decode cX11_mayCome 29 = .ok (.goto (-20), 3) := by decide +kernel
theorem dX11_mayCome_32 : decode cX11_mayCome 32 = .ok (.iconst 0, 1) := by decide +kernel
theorem dX11_mayCome_33 : decode cX11_mayCome 33 = .ok (.istore_n 3, 1) := by decide +kernel
theorem dX11_mayCome_34 : decode cX11_mayCome 34 = .ok (.iload_n 3, 1) := by decide +kernel
theorem dX11_mayCome_35 : decode cX11_mayCome 35 = .ok (.iload_n 2, 1) := by decide +kernel
theorem dX11_mayCome_36 : decode cX11_mayCome 36 = .ok (.if_icmp .ge 85, 3) := by decide +kernel
theorem dX11_mayCome_39 : decode cX11_mayCome 39 = .ok (.aload_n 0, 1) := by decide +kernel
theorem dX11_mayCome_40 : decode cX11_mayCome 40 = .ok (.getfield 98, 3) := by decide +kernel
theorem dX11_mayCome_43 : decode cX11_mayCome 43 = .ok (.aload_n 0, 1) := by decide +kernel
theorem dX11_mayCome_44 : decode cX11_mayCome 44 = .ok (.getfield 125, 3) := by decide +kernel
theorem dX11_mayCome_47 : decode cX11_mayCome 47 = .ok (.iload_n 3, 1) := by decide +kernel
theorem dX11_mayCome_48 : decode cX11_mayCome 48 = .ok (.iaload, 1) := by decide +kernel
theorem dX11_mayCome_49 : decode cX11_mayCome 49 = .ok (.iaload, 1) := by decide +kernel
theorem dX11_mayCome_50 : decode cX11_mayCome 50 = .ok (.aload_n 0, 1) := by decide +kernel
theorem dX11_mayCome_51 : decode cX11_mayCome 51 = .ok (.getfield 98, 3) := by decide +kernel
theorem dX11_mayCome_54 : decode cX11_mayCome 54 = .ok (.aload_n 0, 1) := by decide +kernel
theorem dX11_mayCome_55 : decode cX11_mayCome 55 = .ok (.getfield 125, 3) := by decide +kernel
theorem dX11_mayCome_58 : decode cX11_mayCome 58 = .ok (.iload_n 2, 1) := by decide +kernel
theorem dX11_mayCome_59 : decode cX11_mayCome 59 = .ok (.iaload, 1) := by decide +kernel
theorem dX11_mayCome_60 : decode cX11_mayCome 60 = .ok (.iaload, 1) := by decide +kernel
theorem dX11_mayCome_61 : decode cX11_mayCome 61 = .ok (.if_icmp .eq 6, 3) := by decide +kernel
theorem dX11_mayCome_64 : decode cX11_mayCome 64 = .ok (.goto 51, 3) := by decide +kernel
theorem dX11_mayCome_67 : decode cX11_mayCome 67 = .ok (.iconst 0, 1) := by decide +kernel
theorem dX11_mayCome_68 : decode cX11_mayCome 68 = .ok (.istore 4, 2) := by decide +kernel
theorem dX11_mayCome_70 : decode cX11_mayCome 70 = .ok (.iconst 0, 1) := by decide +kernel
theorem dX11_mayCome_71 : decode cX11_mayCome 71 = .ok (.istore 5, 2) := by decide +kernel
theorem dX11_mayCome_73 : decode cX11_mayCome 73 = .ok (.iload 5, 2) := by decide +kernel
theorem dX11_mayCome_75 : decode cX11_mayCome 75 = .ok (.iload_n 1, 1) := by decide +kernel
theorem dX11_mayCome_76 : decode cX11_mayCome 76 = .ok (.if_icmp .ge 32, 3) := by decide +kernel
theorem dX11_mayCome_79 : decode cX11_mayCome 79 = .ok (.iload 4, 2) := by decide +kernel
theorem dX11_mayCome_81 : decode cX11_mayCome 81 = .ok (.ifCond .ne 14, 3) := by decide +kernel
theorem dX11_mayCome_84 : decode cX11_mayCome 84 = .ok (.aload_n 0, 1) := by decide +kernel
theorem dX11_mayCome_85 : decode cX11_mayCome 85 = .ok (.getfield 128, 3) := by decide +kernel
theorem dX11_mayCome_88 : decode cX11_mayCome 88 = .ok (.iload 5, 2) := by decide +kernel
theorem dX11_mayCome_90 : decode cX11_mayCome 90 = .ok (.iaload, 1) := by decide +kernel
theorem dX11_mayCome_91 : decode cX11_mayCome 91 = .ok (.iload_n 3, 1) := by decide +kernel
theorem dX11_mayCome_92 : decode cX11_mayCome 92 = .ok (.if_icmp .ne 7, 3) := by decide +kernel
theorem dX11_mayCome_95 : decode cX11_mayCome 95 = .ok (.iconst 1, 1) := by decide +kernel
theorem dX11_mayCome_96 : decode cX11_mayCome 96 = .ok (.goto 4, 3) := by decide +kernel
theorem dX11_mayCome_99 : decode cX11_mayCome 99 = .ok (.iconst 0, 1) := by decide +kernel
theorem dX11_mayCome_100 : decode cX11_mayCome 100 = .ok (.istore 4, 2) := by decide +kernel
theorem dX11_mayCome_102 : decode cX11_mayCome 102 = .ok (.iinc 5 1, 3) := by decide +kernel
theorem dX11_mayCome_105 : decode cX11_mayCome 105 = .ok (.goto (-32), 3) := by decide +kernel
theorem dX11_mayCome_108 : decode cX11_mayCome 108 = .ok (.iload 4, 2) := by decide +kernel
theorem dX11_mayCome_110 : decode cX11_mayCome 110 = .ok (.ifCond .ne 5, 3) := by decide +kernel
theorem dX11_mayCome_113 : decode cX11_mayCome 113 = .ok (.iconst 0, 1) := by decide +kernel
theorem dX11_mayCome_114 : decode cX11_mayCome 114 = .ok (.ireturn, 1) := by decide +kernel
theorem dX11_mayCome_115 : decode cX11_mayCome 115 = .ok (.iinc 3 1, 3) := by decide +kernel
theorem dX11_mayCome_118 : decode cX11_mayCome 118 = .ok (.goto (-84), 3) := by decide +kernel
theorem dX11_mayCome_121 : decode cX11_mayCome 121 = .ok (.iconst 1, 1) := by decide +kernel
theorem dX11_mayCome_122 : decode cX11_mayCome 122 = .ok (.ireturn, 1) := by decide +kernel
set_option maxRecDepth 20000 in
theorem ggX11_breaks_X11_doesHold : GoodIn wsX11_breaks wsX11_doesHold := goodIn_r _ [12, 13, 14, 15, 16, 17, 18, 19, 20, 21, 22, 23, 24, 25, 26, 27, 28, 29, 30, 31, 32, 33, 34, 35, 36, 37, 38, 39, 40, 41, 42, 43, 44, 45, 46, 47, 48, 49, 50, 51, 52, 53, 54, 55, 56, 57, 58, 59, 60, 61, 62, 63, 64, 65, 66, 67, 68, 69, 70, 71, 72, 73, 74, 75, 76, 77, 78, 79] (by decide +kernel) (by decide +kernel)
set_option maxRecDepth 20000 in
theorem gX11_breaks_X11_doesHold : GoodIn wsX11_breaks (wsV RX11 261 RX11 yX11_doesHold wsX11_doesHold) := goodIn_app (goodIn_of _ (by decide +kernel)) ggX11_breaks_X11_doesHold
theorem dX11_breaks_0 : decode cX11_breaks 0 = .ok (.iconst 0, 1) := by decide +kernel
theorem dX11_breaks_1 : decode cX11_breaks 1 = .ok (.istore_n 2, 1) := by decide +kernel
theorem dX11_breaks_2 : decode cX11_breaks 2 = .ok (.iload_n 2, 1) := by decide +kernel
theorem dX11_breaks_3 : decode cX11_breaks 3 = .ok (.sipush 128, 3) := by decide +kernel
theorem dX11_breaks_6 : decode cX11_breaks 6 = .ok (.if_icmp .ge 21, 3) := by decide +kernel
theorem dX11_breaks_9 : decode cX11_breaks 9 = .ok (.aload_n 0, 1) := by decide +kernel
theorem dX11_breaks_10 : decode cX11_breaks 10 = .ok (.getfield 37, 3) := by decide +kernel
theorem dX11_breaks_13 : decode cX11_breaks 13 = .ok (.iload_n 2, 1) := by decide +kernel
theorem dX11_breaks_14 : decode cX11_breaks 14 = .ok (.aload_n 0, 1) := by decide +kernel
theorem dX11_breaks_15 : decode cX11_breaks 15 = .ok (.getfield 34, 3) := by decide +kernel
theorem dX11_breaks_18 : decode cX11_breaks 18 = .ok (.iload_n 2, 1) := by decide +kernel
theorem dX11_breaks_19 : decode cX11_breaks 19 = .ok (.iaload, 1) := by decide +kernel
theorem dX11_breaks_20 : decode cX11_breaks 20 = .ok (.iastore, 1) := by decide +kernel
theorem dX11_breaks_21 : decode cX11_breaks 21 = .ok (.iinc 2 1, 3) := by decide +kernel
theorem dX11_breaks_24 : decode cX11_breaks 24 = .ok (.goto (-22), 3) := by decide +kernel
theorem dX11_breaks_27 : decode cX11_breaks 27 = .ok (.aload_n 0, 1) := by decide +kernel
theorem dX11_breaks_28 : decode cX11_breaks 28 = .ok (.iload_n 1, 1) := by decide +kernel
theorem dX11_breaks_29 : decode cX11_breaks 29 = .ok (.aload_n 0, 1) := by decide +kernel
theorem dX11_breaks_30 : decode cX11_breaks 30 = .ok (.getfield 37, 3) := by decide +kernel
theorem dX11_breaks_33 : decode cX11_breaks 33 = .ok (.invokevirtual 261, 3) := by decide +kernel
theorem dX11_breaks_36 : decode cX11_breaks 36 = .ok (.ifCond .ne 5, 3) := by decide +kernel
theorem dX11_breaks_39 : decode cX11_breaks 39 = .ok (.iconst 1, 1) := by decide +kernel
theorem dX11_breaks_40 : decode cX11_breaks 40 = .ok (.ireturn, 1) := by decide +kernel
theorem dX11_breaks_41 : decode cX11_breaks 41 = .ok (.iconst 0, 1) := by decide +kernel
theorem dX11_breaks_42 : decode cX11_breaks 42 = .ok (.istore_n 2, 1) := by decide +kernel
theorem dX11_breaks_43 : decode cX11_breaks 43 = .ok (.iload_n 2, 1) := by decide +kernel
theorem dX11_breaks_44 : decode cX11_breaks 44 = .ok (.aload_n 0, 1) := by decide +kernel
theorem dX11_breaks_45 : decode cX11_breaks 45 = .ok (.getfield 265, 3) := by decide +kernel
theorem dX11_breaks_48 : decode cX11_breaks 48 = .ok (.if_icmp .ge 52, 3) := by decide +kernel
theorem dX11_breaks_51 : decode cX11_breaks 51 = .ok (.aload_n 0, 1) := by decide +kernel
theorem dX11_breaks_52 : decode cX11_breaks 52 = .ok (.getfield 125, 3) := by decide +kernel
theorem dX11_breaks_55 : decode cX11_breaks 55 = .ok (.aload_n 0, 1) := by decide +kernel
theorem dX11_breaks_56 : decode cX11_breaks 56 = .ok (.getfield 128, 3) := by decide +kernel
theorem dX11_breaks_59 : decode cX11_breaks 59 = .ok (.iload_n 2, 1) := by decide +kernel
theorem dX11_breaks_60 : decode cX11_breaks 60 = .ok (.iaload, 1) := by decide +kernel
theorem dX11_breaks_61 : decode cX11_breaks 61 = .ok (.iaload, 1) := by decide +kernel
theorem dX11_breaks_62 : decode cX11_breaks 62 = .ok (.istore_n 3, 1) := by decide +kernel
theorem dX11_breaks_63 : decode cX11_breaks 63 = .ok (.aload_n 0, 1) := by decide +kernel
theorem dX11_breaks_64 : decode cX11_breaks 64 = .ok (.getfield 37, 3) := by decide +kernel
theorem dX11_breaks_67 : decode cX11_breaks 67 = .ok (.aload_n 0, 1) := by decide +kernel
theorem dX11_breaks_68 : decode cX11_breaks 68 = .ok (.getfield 98, 3) := by decide +kernel
theorem dX11_breaks_71 : decode cX11_breaks 71 = .ok (.iload_n 3, 1) := by decide +kernel
theorem dX11_breaks_72 : decode cX11_breaks 72 = .ok (.iaload, 1) := by decide +kernel
theorem dX11_breaks_73 : decode cX11_breaks 73 = .ok (.aload_n 0, 1) := by decide +kernel
theorem dX11_breaks_74 : decode cX11_breaks 74 = .ok (.getfield 101, 3) := by decide +kernel
theorem dX11_breaks_77 : decode cX11_breaks 77 = .ok (.iload_n 3, 1) := by decide +kernel
theorem dX11_breaks_78 : decode cX11_breaks 78 = .ok (.iaload, 1) := by decide +kernel
theorem dX11_breaks_79 : decode cX11_breaks 79 = .ok (.iastore, 1) := by decide +kernel
theorem dX11_breaks_80 : decode cX11_breaks 80 = .ok (.aload_n 0, 1) := by decide +kernel
theorem dX11_breaks_81 : decode cX11_breaks 81 = .ok (.iload_n 1, 1) := by decide +kernel
theorem dX11_breaks_82 : decode cX11_breaks 82 = .ok (.aload_n 0, 1) := by decide +kernel
theorem dX11_breaks_83 : decode cX11_breaks 83 = .ok (.getfield 37, 3) := by decide +kernel
theorem dX11_breaks_86 : decode cX11_breaks 86 = .ok (.invokevirtual 261, 3) := by decide +kernel
theorem dX11_breaks_89 : decode cX11_breaks 89 = .ok (.ifCond .ne 5, 3) := by decide +kernel
theorem dX11_breaks_92 : decode cX11_breaks 92 = .ok (.iconst 1, 1) := by decide +kernel
theorem dX11_breaks_93 : decode cX11_breaks 93 = .ok (.ireturn, 1) := by decide +kernel
theorem dX11_breaks_94 : decode cX11_breaks 94 = .ok (.iinc 2 1, 3) := by decide +kernel
theorem dX11_breaks_97 : decode cX11_breaks 97 = .ok (.goto (-54), 3) := by decide +kernel
theorem dX11_breaks_100 : decode cX11_breaks 100 = .ok (.iconst 0, 1) := by decide +kernel
theorem dX11_breaks_101 : decode cX11_breaks 101 = .ok (.ireturn, 1) := by decide +kernel
set_option maxRecDepth 20000 in
theorem ggX11_shuffle_X11_findWaiting : GoodIn wsX11_shuffle wsX11_findWaiting := goodIn_r _ [11, 4, 12, 13, 6, 34, 35, 36, 37, 38, 39, 40, 41, 42, 43, 44, 45, 46, 47, 48, 49, 50, 51, 52, 53, 54, 55, 56, 57, 58, 59, 60, 61, 62, 63, 64, 65, 66, 67, 68, 69, 70, 71, 72, 73, 74, 75, 76, 77, 78, 79, 80, 81, 82, 83, 84, 85, 86, 87, 88, 89, 90, 91, 92, 93, 94, 95, 96] (by decide +kernel) (by decide +kernel)
set_option maxRecDepth 20000 in
theorem gX11_shuffle_X11_findWaiting : GoodIn wsX11_shuffle (wsV RX11 268 RX11 yX11_findWaiting wsX11_findWaiting) := goodIn_app (goodIn_of _ (by decide +kernel)) ggX11_shuffle_X11_findWaiting
set_option maxRecDepth 20000 in
theorem ggX11_shuffle_X11_breaks : GoodIn wsX11_shuffle wsX11_breaks := goodIn_r _ [17, 18, 19, 4, 6, 3, 20, 21, 22, 23, 24, 10, 25, 26, 27, 28, 29, 34, 35, 36, 37, 38, 39, 40, 41, 42, 43, 44, 45, 46, 47, 48, 49, 50, 51, 52, 53, 54, 55, 56, 57, 58, 59, 60, 61, 62, 63, 64, 65, 66, 67, 68, 69, 70, 71, 72, 73, 74, 75, 76, 77, 78, 79, 80, 81, 82, 83, 84, 85, 86, 87, 88, 89, 90, 91, 92, 93, 94, 95, 96] (by decide +kernel) (by decide +kernel)
set_option maxRecDepth 20000 in
theorem gX11_shuffle_X11_breaks : GoodIn wsX11_shuffle (wsV RX11 277 RX11 yX11_breaks wsX11_breaks) := goodIn_app (goodIn_of _ (by decide +kernel)) ggX11_shuffle_X11_breaks
set_option maxRecDepth 20000 in
theorem ggX11_shuffle_X11_mayCome : GoodIn wsX11_shuffle wsX11_mayCome := goodIn_r _ [33, 3, 20, 6, 34, 35, 36, 37, 38, 39, 40, 41, 42, 43, 44, 45, 46, 47, 48, 49, 50, 51, 52, 53, 54, 55, 56, 57, 58, 59, 60, 61, 62, 63, 64, 65, 66, 67, 68, 69, 70, 71, 72, 73, 74, 75, 76, 77, 78, 79, 80, 81, 82, 83, 84, 85, 86, 87, 88, 89, 90, 91, 92, 93, 94, 95, 96] (by decide +kernel) (by decide +kernel)
set_option maxRecDepth 20000 in
theorem gX11_shuffle_X11_mayCome : GoodIn wsX11_shuffle (wsV RX11 280 RX11 yX11_mayCome wsX11_mayCome) := goodIn_app (goodIn_of _ (by decide +kernel)) ggX11_shuffle_X11_mayCome
theorem dX11_shuffle_0 : decode cX11_shuffle 0 = .ok (.aload_n 0, 1) := by decide +kernel
theorem dX11_shuffle_1 : decode cX11_shuffle 1 = .ok (.invokevirtual 268, 3) := by decide +kernel
theorem dX11_shuffle_4 : decode cX11_shuffle 4 = .ok (.aload_n 0, 1) := by decide +kernel
theorem dX11_shuffle_5 : decode cX11_shuffle 5 = .ok (.iconst 0, 1) := by decide +kernel
theorem dX11_shuffle_6 : decode cX11_shuffle 6 = .ok (.putfield 271, 3) := by decide +kernel
theorem dX11_shuffle_9 : decode cX11_shuffle 9 = .ok (.aload_n 0, 1) := by decide +kernel
theorem dX11_shuffle_10 : decode cX11_shuffle 10 = .ok (.iconst 0, 1) := by decide +kernel
theorem dX11_shuffle_11 : decode cX11_shuffle 11 = .ok (.putfield 274, 3) := by decide +kernel
theorem dX11_shuffle_14 : decode cX11_shuffle 14 = .ok (.iconst 0, 1) := by decide +kernel
theorem dX11_shuffle_15 : decode cX11_shuffle 15 = .ok (.istore_n 2, 1) := by decide +kernel
theorem dX11_shuffle_16 : decode cX11_shuffle 16 = .ok (.aload_n 0, 1) := by decide +kernel
theorem dX11_shuffle_17 : decode cX11_shuffle 17 = .ok (.getfield 128, 3) := by decide +kernel
theorem dX11_shuffle_20 : decode cX11_shuffle 20 = .ok (.iconst 0, 1) := by decide +kernel
theorem dX11_shuffle_21 : decode cX11_shuffle 21 = .ok (.iconst (-1), 1) := by decide +kernel
theorem dX11_shuffle_22 : decode cX11_shuffle 22 = .ok (.iastore, 1) := by decide +kernel
theorem dX11_shuffle_23 : decode cX11_shuffle 23 = .ok (.iload_n 2, 1) := by decide +kernel
theorem dX11_shuffle_24 : decode cX11_shuffle 24 = .ok (.ifCond .lt 142, 3) := by decide +kernel
theorem dX11_shuffle_27 : decode cX11_shuffle 27 = .ok (.iload_n 2, 1) := by decide +kernel
theorem dX11_shuffle_28 : decode cX11_shuffle 28 = .ok (.aload_n 0, 1) := by decide +kernel
theorem dX11_shuffle_29 : decode cX11_shuffle 29 = .ok (.getfield 265, 3) := by decide +kernel
theorem dX11_shuffle_32 : decode cX11_shuffle 32 = .ok (.if_icmp .ne 81, 3) := by decide +kernel
theorem dX11_shuffle_35 : decode cX11_shuffle 35 = .ok (.aload_n 0, 1) := by decide +kernel
theorem dX11_shuffle_36 : decode cX11_shuffle 36 = .ok (.dup, 1) := by decide +kernel
theorem dX11_shuffle_37 : decode cX11_shuffle 37 = .ok (.getfield 271, 3) := by decide +kernel
theorem dX11_shuffle_40 : decode cX11_shuffle 40 = .ok (.iconst 1, 1) := by decide +kernel
theorem dX11_shuffle_41 : decode cX11_shuffle 41 = .ok (.iadd, 1) := by decide +kernel
theorem dX11_shuffle_42 : decode cX11_shuffle 42 = .ok (.putfield 271, 3) := by decide +kernel
theorem dX11_shuffle_45 : decode cX11_shuffle 45 = .ok (.iload_n 1, 1) := by decide +kernel
theorem dX11_shuffle_46 : decode cX11_shuffle 46 = .ok (.ifCond .lt 61, 3) := by decide +kernel
theorem dX11_shuffle_49 : decode cX11_shuffle 49 = .ok (.aload_n 0, 1) := by decide +kernel
theorem dX11_shuffle_50 : decode cX11_shuffle 50 = .ok (.iload_n 1, 1) := by decide +kernel
theorem dX11_shuffle_51 : decode cX11_shuffle 51 = .ok (.invokevirtual 277, 3) := by decide +kernel
theorem dX11_shuffle_54 : decode cX11_shuffle 54 = .ok (.ifCond .eq 53, 3) := by decide +kernel
theorem dX11_shuffle_57 : decode cX11_shuffle 57 = .ok (.iconst 0, 1) := by decide +kernel
theorem dX11_shuffle_58 : decode cX11_shuffle 58 = .ok (.istore_n 3, 1) := by decide +kernel
theorem dX11_shuffle_59 : decode cX11_shuffle 59 = .ok (.iload_n 3, 1) := by decide +kernel
theorem dX11_shuffle_60 : decode cX11_shuffle 60 = .ok (.aload_n 0, 1) := by decide +kernel
theorem dX11_shuffle_61 : decode cX11_shuffle 61 = .ok (.getfield 265, 3) := by decide +kernel
theorem dX11_shuffle_64 : decode cX11_shuffle 64 = .ok (.if_icmp .ge 33, 3) := by decide +kernel
theorem dX11_shuffle_67 : decode cX11_shuffle 67 = .ok (.aload_n 0, 1) := by decide +kernel
theorem dX11_shuffle_68 : decode cX11_shuffle 68 = .ok (.getfield 274, 3) := by decide +kernel
theorem dX11_shuffle_71 : decode cX11_shuffle 71 = .ok (.ifCond .ne 26, 3) := by decide +kernel
theorem dX11_shuffle_74 : decode cX11_shuffle 74 = .ok (.aload_n 0, 1) := by decide +kernel
theorem dX11_shuffle_75 : decode cX11_shuffle 75 = .ok (.getfield 131, 3) := by decide +kernel
theorem dX11_shuffle_78 : decode cX11_shuffle 78 = .ok (.iload_n 3, 1) := by decide +kernel
theorem dX11_shuffle_79 : decode cX11_shuffle 79 = .ok (.aload_n 0, 1) := by decide +kernel
theorem dX11_shuffle_80 : decode cX11_shuffle 80 = .ok (.getfield 125, 3) := by decide +kernel
theorem dX11_shuffle_83 : decode cX11_shuffle 83 = .ok (.aload_n 0, 1) := by decide +kernel
theorem dX11_shuffle_84 : decode cX11_shuffle 84 = .ok (.getfield 128, 3) := by decide +kernel
theorem dX11_shuffle_87 : decode cX11_shuffle 87 = .ok (.iload_n 3, 1) := by decide +kernel
theorem dX11_shuffle_88 : decode cX11_shuffle 88 = .ok (.iaload, 1) := by decide +kernel
theorem dX11_shuffle_89 : decode cX11_shuffle 89 = .ok (.iaload, 1) := by decide +kernel
theorem dX11_shuffle_90 : decode cX11_shuffle 90 = .ok (.iastore, 1) := by decide +kernel
theorem dX11_shuffle_91 : decode cX11_shuffle 91 = .ok (.iinc 3 1, 3) := by decide +kernel
theorem dX11_shuffle_94 : decode cX11_shuffle 94 = .ok (.goto (-35), 3) := by decide +kernel
theorem dX11_shuffle_97 : decode cX11_shuffle 97 = .ok (.aload_n 0, 1) := by decide +kernel
theorem dX11_shuffle_98 : decode cX11_shuffle 98 = .ok (.dup, 1) := by decide +kernel
theorem dX11_shuffle_99 : decode cX11_shuffle 99 = .ok (.getfield 274, 3) := by decide +kernel
theorem dX11_shuffle_102 : decode cX11_shuffle 102 = .ok (.iconst 1, 1) := by decide +kernel
theorem dX11_shuffle_103 : decode cX11_shuffle 103 = .ok (.iadd, 1) := by decide +kernel
theorem dX11_shuffle_104 : decode cX11_shuffle 104 = .ok (.putfield 274, 3) := by decide +kernel
theorem dX11_shuffle_107 : decode cX11_shuffle 107 = .ok (.iinc 2 (-1), 3) := by decide +kernel
theorem dX11_shuffle_110 : decode cX11_shuffle 110 = .ok (.goto (-87), 3) := by decide +kernel
theorem dX11_shuffle_113 : decode cX11_shuffle 113 = .ok (.aload_n 0, 1) := by decide +kernel
theorem dX11_shuffle_114 : decode cX11_shuffle 114 = .ok (.getfield 128, 3) := by decide +kernel
theorem dX11_shuffle_117 : decode cX11_shuffle 117 = .ok (.iload_n 2, 1) := by decide +kernel
theorem dX11_shuffle_118 : decode cX11_shuffle 118 = .ok (.dup2, 1) := by decide +kernel
theorem dX11_shuffle_119 : decode cX11_shuffle 119 = .ok (.iaload, 1) := by decide +kernel
theorem dX11_shuffle_120 : decode cX11_shuffle 120 = .ok (.iconst 1, 1) := by decide +kernel
theorem dX11_shuffle_121 : decode cX11_shuffle 121 = .ok (.iadd, 1) := by decide +kernel
theorem dX11_shuffle_122 : decode cX11_shuffle 122 = .ok (.iastore, 1) := by decide +kernel
theorem dX11_shuffle_123 : decode cX11_shuffle 123 = .ok (.aload_n 0, 1) := by decide +kernel
theorem dX11_shuffle_124 : decode cX11_shuffle 124 = .ok (.getfield 128, 3) := by decide +kernel
theorem dX11_shuffle_127 : decode cX11_shuffle 127 = .ok (.iload_n 2, 1) := by decide +kernel
theorem dX11_shuffle_128 : decode cX11_shuffle 128 = .ok (.iaload, 1) := by decide +kernel
theorem dX11_shuffle_129 : decode cX11_shuffle 129 = .ok (.aload_n 0, 1) := by decide +kernel
theorem dX11_shuffle_130 : decode cX11_shuffle 130 = .ok (.getfield 265, 3) := by decide +kernel
theorem dX11_shuffle_133 : decode cX11_shuffle 133 = .ok (.if_icmp .ne 9, 3) := by decide +kernel
theorem dX11_shuffle_136 : decode cX11_shuffle 136 = .ok (.iinc 2 (-1), 3) := by decide +kernel
theorem dX11_shuffle_139 : decode cX11_shuffle 139 = .ok (.goto (-116), 3) := by decide +kernel
theorem dX11_shuffle_142 : decode cX11_shuffle 142 = .ok (.aload_n 0, 1) := by decide +kernel
theorem dX11_shuffle_143 : decode cX11_shuffle 143 = .ok (.iload_n 2, 1) := by decide +kernel
theorem dX11_shuffle_144 : decode cX11_shuffle 144 = .ok (.invokevirtual 280, 3) := by decide +kernel
theorem dX11_shuffle_147 : decode cX11_shuffle 147 = .ok (.ifCond .ne 6, 3) := by decide +kernel
theorem dX11_shuffle_150 : decode cX11_shuffle 150 = .ok (.goto (-127), 3) := by decide +kernel
theorem dX11_shuffle_153 : decode cX11_shuffle 153 = .ok (.iinc 2 1, 3) := by decide +kernel
theorem dX11_shuffle_156 : decode cX11_shuffle 156 = .ok (.aload_n 0, 1) := by decide +kernel
theorem dX11_shuffle_157 : decode cX11_shuffle 157 = .ok (.getfield 128, 3) := by decide +kernel
theorem dX11_shuffle_160 : decode cX11_shuffle 160 = .ok (.iload_n 2, 1) := by decide +kernel
theorem dX11_shuffle_161 : decode cX11_shuffle 161 = .ok (.iconst (-1), 1) := by decide +kernel
theorem dX11_shuffle_162 : decode cX11_shuffle 162 = .ok (.iastore, 1) := by decide +kernel
theorem dX11_shuffle_163 : decode cX11_shuffle 163 = .ok (.goto (-140), 3) := by decide +kernel
theorem dX11_shuffle_166 : decode cX11_shuffle 166 = .ok (.return_, 1) := by decide +kernel
set_option maxRecDepth 20000 in
theorem ggX11_broken_X11_isLaw : GoodIn wsX11_broken wsX11_isLaw := goodIn_r _ [6, 7, 8, 9, 5, 10, 50, 51, 52, 53, 54, 55, 56, 57, 58, 59, 60, 61, 62, 63, 64, 65, 66, 67, 68, 69, 70, 71, 72, 73, 74, 75, 76, 77, 78, 79, 80, 81, 82, 83, 84, 85, 86, 87, 88, 89, 90, 91, 92, 93, 94, 95, 96, 97, 98, 99, 100, 101, 102, 103, 104, 105, 106, 107, 108, 109, 110, 111, 112] (by decide +kernel) (by decide +kernel)
set_option maxRecDepth 20000 in
theorem gX11_broken_X11_isLaw : GoodIn wsX11_broken (wsV RX11 258 RX11 yX11_isLaw wsX11_isLaw) := goodIn_app (goodIn_of _ (by decide +kernel)) ggX11_broken_X11_isLaw
set_option maxRecDepth 20000 in
theorem ggX11_broken_X11_waitingNow : GoodIn wsX11_broken wsX11_waitingNow := goodIn_r _ [14, 15, 16, 50, 51, 52, 53, 54, 55, 56, 57, 58, 59, 60, 61, 62, 63, 64, 65, 66, 67, 68, 69, 70, 71, 72, 73, 74, 75, 76, 77, 78, 79, 80, 81, 82, 83, 84, 85, 86, 87, 88, 89, 90, 91, 92, 93, 94, 95, 96, 97, 98, 99, 100, 101, 102, 103, 104, 105, 106, 107, 108, 109, 110, 111, 112] (by decide +kernel) (by decide +kernel)
set_option maxRecDepth 20000 in
theorem gX11_broken_X11_waitingNow : GoodIn wsX11_broken (wsV RX11 209 RX11 yX11_waitingNow wsX11_waitingNow) := goodIn_app (goodIn_of _ (by decide +kernel)) ggX11_broken_X11_waitingNow
set_option maxRecDepth 20000 in
theorem ggX11_broken_X11_shuffle : GoodIn wsX11_broken wsX11_shuffle := goodIn_r _ [20, 21, 1, 22, 23, 24, 25, 26, 27, 28, 5, 29, 15, 16, 30, 31, 32, 33, 34, 35, 36, 37, 38, 39, 40, 41, 42, 43, 44, 45, 46, 47, 48, 49, 50, 51, 52, 53, 54, 55, 56, 57, 58, 59, 60, 61, 62, 63, 64, 65, 66, 67, 68, 69, 70, 71, 72, 73, 74, 75, 76, 77, 78, 79, 80, 81, 82, 83, 84, 85, 86, 87, 88, 89, 90, 91, 92, 93, 94, 95, 96, 97, 98, 99, 100, 101, 102, 103, 104, 105, 106, 107, 108, 109, 110, 111, 112] (by decide +kernel) (by decide +kernel)
set_option maxRecDepth 20000 in
theorem gX11_broken_X11_shuffle : GoodIn wsX11_broken (wsV RX11 283 RX11 yX11_shuffle wsX11_shuffle) := goodIn_app (goodIn_of _ (by decide +kernel)) ggX11_broken_X11_shuffle
theorem dX11_broken_0 : decode cX11_broken 0 = .ok (.aload_n 0, 1) := by decide +kernel
theorem dX11_broken_1 : decode cX11_broken 1 = .ok (.iload_n 1, 1) := by decide +kernel
theorem dX11_broken_2 : decode cX11_broken 2 = .ok (.invokevirtual 258, 3) := by decide +kernel
theorem dX11_broken_5 : decode cX11_broken 5 = .ok (.ifCond .ne 5, 3) := by decide +kernel
theorem dX11_broken_8 : decode cX11_broken 8 = .ok (.iconst (-1), 1) := by decide +kernel
theorem dX11_broken_9 : decode cX11_broken 9 = .ok (.ireturn, 1) := by decide +kernel
theorem dX11_broken_10 : decode cX11_broken 10 = .ok (.aload_n 0, 1) := by decide +kernel
theorem dX11_broken_11 : decode cX11_broken 11 = .ok (.invokevirtual 209, 3) := by decide +kernel
theorem dX11_broken_14 : decode cX11_broken 14 = .ok (.bipush 6, 2) := by decide +kernel
theorem dX11_broken_16 : decode cX11_broken 16 = .ok (.if_icmp .le 6, 3) := by decide +kernel
theorem dX11_broken_19 : decode cX11_broken 19 = .ok (.bipush (-4), 2) := by decide +kernel
theorem dX11_broken_21 : decode cX11_broken 21 = .ok (.ireturn, 1) := by decide +kernel
theorem dX11_broken_22 : decode cX11_broken 22 = .ok (.aload_n 0, 1) := by decide +kernel
theorem dX11_broken_23 : decode cX11_broken 23 = .ok (.iload_n 1, 1) := by decide +kernel
theorem dX11_broken_24 : decode cX11_broken 24 = .ok (.invokevirtual 283, 3) := by decide +kernel
theorem dX11_broken_27 : decode cX11_broken 27 = .ok (.aload_n 0, 1) := by decide +kernel
theorem dX11_broken_28 : decode cX11_broken 28 = .ok (.getfield 274, 3) := by decide +kernel
theorem dX11_broken_31 : decode cX11_broken 31 = .ok (.ireturn, 1) := by decide +kernel
set_option maxRecDepth 20000 in
theorem ggX11_worst_X11_isLaw : GoodIn wsX11_worst wsX11_isLaw := goodIn_r _ [8, 9, 10, 11, 7, 12, 50, 51, 52, 53, 54, 55, 56, 57, 58, 59, 60, 61, 62, 63, 64, 65, 66, 67, 68, 69, 70, 71, 72, 73, 74, 75, 76, 77, 78, 79, 80, 81, 82, 83, 84, 85, 86, 87, 88, 89, 90, 91, 92, 93, 94, 95, 96, 97, 98, 99, 100, 101, 102, 103, 104, 105, 106, 107, 108, 109, 110, 111, 112] (by decide +kernel) (by decide +kernel)
set_option maxRecDepth 20000 in
theorem gX11_worst_X11_isLaw : GoodIn wsX11_worst (wsV RX11 258 RX11 yX11_isLaw wsX11_isLaw) := goodIn_app (goodIn_of _ (by decide +kernel)) ggX11_worst_X11_isLaw
set_option maxRecDepth 20000 in
theorem ggX11_worst_X11_waitingNow : GoodIn wsX11_worst wsX11_waitingNow := goodIn_r _ [16, 17, 18, 50, 51, 52, 53, 54, 55, 56, 57, 58, 59, 60, 61, 62, 63, 64, 65, 66, 67, 68, 69, 70, 71, 72, 73, 74, 75, 76, 77, 78, 79, 80, 81, 82, 83, 84, 85, 86, 87, 88, 89, 90, 91, 92, 93, 94, 95, 96, 97, 98, 99, 100, 101, 102, 103, 104, 105, 106, 107, 108, 109, 110, 111, 112] (by decide +kernel) (by decide +kernel)
set_option maxRecDepth 20000 in
theorem gX11_worst_X11_waitingNow : GoodIn wsX11_worst (wsV RX11 209 RX11 yX11_waitingNow wsX11_waitingNow) := goodIn_app (goodIn_of _ (by decide +kernel)) ggX11_worst_X11_waitingNow
set_option maxRecDepth 20000 in
theorem ggX11_worst_X11_shuffle : GoodIn wsX11_worst wsX11_shuffle := goodIn_r _ [22, 23, 1, 24, 2, 3, 25, 26, 27, 28, 7, 29, 17, 18, 30, 31, 32, 33, 34, 35, 36, 37, 38, 39, 40, 41, 42, 43, 44, 45, 46, 47, 48, 49, 50, 51, 52, 53, 54, 55, 56, 57, 58, 59, 60, 61, 62, 63, 64, 65, 66, 67, 68, 69, 70, 71, 72, 73, 74, 75, 76, 77, 78, 79, 80, 81, 82, 83, 84, 85, 86, 87, 88, 89, 90, 91, 92, 93, 94, 95, 96, 97, 98, 99, 100, 101, 102, 103, 104, 105, 106, 107, 108, 109, 110, 111, 112] (by decide +kernel) (by decide +kernel)
set_option maxRecDepth 20000 in
theorem gX11_worst_X11_shuffle : GoodIn wsX11_worst (wsV RX11 283 RX11 yX11_shuffle wsX11_shuffle) := goodIn_app (goodIn_of _ (by decide +kernel)) ggX11_worst_X11_shuffle
set_option maxRecDepth 20000 in
theorem ggX11_worst_X11_in : GoodIn wsX11_worst wsX11_in := goodIn_r _ [12] (by decide +kernel) (by decide +kernel)
set_option maxRecDepth 20000 in
theorem gX11_worst_X11_in : GoodIn wsX11_worst (va_wsS RX11 151 yX11_in wsX11_in) := goodIn_app (goodIn_of _ (by decide +kernel)) ggX11_worst_X11_in
theorem dX11_worst_0 : decode cX11_worst 0 = .ok (.aload_n 0, 1) := by decide +kernel
theorem dX11_worst_1 : decode cX11_worst 1 = .ok (.iload_n 1, 1) := by decide +kernel
theorem dX11_worst_2 : decode cX11_worst 2 = .ok (.invokevirtual 258, 3) := by decide +kernel
theorem dX11_worst_5 : decode cX11_worst 5 = .ok (.ifCond .ne 5, 3) := by decide +kernel
theorem dX11_worst_8 : decode cX11_worst 8 = .ok (.iconst (-1), 1) := by decide +kernel
theorem dX11_worst_9 : decode cX11_worst 9 = .ok (.ireturn, 1) := by decide +kernel
theorem dX11_worst_10 : decode cX11_worst 10 = .ok (.aload_n 0, 1) := by decide +kernel
theorem dX11_worst_11 : decode cX11_worst 11 = .ok (.invokevirtual 209, 3) := by decide +kernel
theorem dX11_worst_14 : decode cX11_worst 14 = .ok (.bipush 6, 2) := by decide +kernel
theorem dX11_worst_16 : decode cX11_worst 16 = .ok (.if_icmp .le 6, 3) := by decide +kernel
theorem dX11_worst_19 : decode cX11_worst 19 = .ok (.bipush (-4), 2) := by decide +kernel
theorem dX11_worst_21 : decode cX11_worst 21 = .ok (.ireturn, 1) := by decide +kernel
theorem dX11_worst_22 : decode cX11_worst 22 = .ok (.aload_n 0, 1) := by decide +kernel
theorem dX11_worst_23 : decode cX11_worst 23 = .ok (.iload_n 1, 1) := by decide +kernel
theorem dX11_worst_24 : decode cX11_worst 24 = .ok (.invokevirtual 283, 3) := by decide +kernel
theorem dX11_worst_27 : decode cX11_worst 27 = .ok (.aload_n 0, 1) := by decide +kernel
theorem dX11_worst_28 : decode cX11_worst 28 = .ok (.getfield 274, 3) := by decide +kernel
theorem dX11_worst_31 : decode cX11_worst 31 = .ok (.ifCond .le 26, 3) := by decide +kernel
theorem dX11_worst_34 : decode cX11_worst 34 = .ok (.iload_n 2, 1) := by decide +kernel
theorem dX11_worst_35 : decode cX11_worst 35 = .ok (.iconst 0, 1) := by decide +kernel
theorem dX11_worst_36 : decode cX11_worst 36 = .ok (.aload_n 0, 1) := by decide +kernel
theorem dX11_worst_37 : decode cX11_worst 37 = .ok (.getfield 265, 3) := by decide +kernel
theorem dX11_worst_40 : decode cX11_worst 40 = .ok (.iconst 1, 1) := by decide +kernel
theorem dX11_worst_41 : decode cX11_worst 41 = .ok (.isub, 1) := by decide +kernel
theorem dX11_worst_42 : decode cX11_worst 42 = .ok (.invokestatic 151, 3) := by decide +kernel
theorem dX11_worst_45 : decode cX11_worst 45 = .ok (.ifCond .eq 12, 3) := by decide +kernel
theorem dX11_worst_48 : decode cX11_worst 48 = .ok (.aload_n 0, 1) := by decide +kernel
theorem dX11_worst_49 : decode cX11_worst 49 = .ok (.getfield 131, 3) := by decide +kernel
theorem dX11_worst_52 : decode cX11_worst 52 = .ok (.iload_n 2, 1) := by decide +kernel
theorem dX11_worst_53 : decode cX11_worst 53 = .ok (.iaload, 1) := by decide +kernel
theorem dX11_worst_54 : decode cX11_worst 54 = .ok (.goto 4, 3) := by decide +kernel
theorem dX11_worst_57 : decode cX11_worst 57 = .ok (.iconst (-1), 1) := by decide +kernel
theorem dX11_worst_58 : decode cX11_worst 58 = .ok (.ireturn, 1) := by decide +kernel
set_option maxRecDepth 20000 in
theorem ggX11_orders_X11_waitingNow : GoodIn wsX11_orders wsX11_waitingNow := goodIn_r _ [6, 7, 8, 42, 43, 44, 45, 46, 47, 48, 49, 50, 51, 52, 53, 54, 55, 56, 57, 58, 59, 60, 61, 62, 63, 64, 65, 66, 67, 68, 69, 70, 71, 72, 73, 74, 75, 76, 77, 78, 79, 80, 81, 82, 83, 84, 85, 86, 87, 88, 89, 90, 91, 92, 93, 94, 95, 96, 97, 98, 99, 100, 101, 102, 103, 104] (by decide +kernel) (by decide +kernel)
set_option maxRecDepth 20000 in
theorem gX11_orders_X11_waitingNow : GoodIn wsX11_orders (wsV RX11 209 RX11 yX11_waitingNow wsX11_waitingNow) := goodIn_app (goodIn_of _ (by decide +kernel)) ggX11_orders_X11_waitingNow
set_option maxRecDepth 20000 in
theorem ggX11_orders_X11_shuffle : GoodIn wsX11_orders wsX11_shuffle := goodIn_r _ [12, 1, 13, 14, 15, 16, 17, 18, 19, 20, 5, 21, 7, 8, 22, 23, 24, 25, 26, 27, 28, 29, 30, 31, 32, 33, 34, 35, 36, 37, 38, 39, 40, 41, 42, 43, 44, 45, 46, 47, 48, 49, 50, 51, 52, 53, 54, 55, 56, 57, 58, 59, 60, 61, 62, 63, 64, 65, 66, 67, 68, 69, 70, 71, 72, 73, 74, 75, 76, 77, 78, 79, 80, 81, 82, 83, 84, 85, 86, 87, 88, 89, 90, 91, 92, 93, 94, 95, 96, 97, 98, 99, 100, 101, 102, 103, 104] (by decide +kernel) (by decide +kernel)
set_option maxRecDepth 20000 in
theorem gX11_orders_X11_shuffle : GoodIn wsX11_orders (wsV RX11 283 RX11 yX11_shuffle wsX11_shuffle) := goodIn_app (goodIn_of _ (by decide +kernel)) ggX11_orders_X11_shuffle
theorem dX11_orders_0 : decode cX11_orders 0 = .ok (.aload_n 0, 1) := by decide +kernel
theorem dX11_orders_1 : decode cX11_orders 1 = .ok (.invokevirtual 209, 3) := by decide +kernel
theorem dX11_orders_4 : decode cX11_orders 4 = .ok (.bipush 6, 2) := by decide +kernel
theorem dX11_orders_6 : decode cX11_orders 6 = .ok (.if_icmp .le 6, 3) := by decide +kernel
theorem dX11_orders_9 : decode cX11_orders 9 = .ok (.bipush (-4), 2) := by decide +kernel
theorem dX11_orders_11 : decode cX11_orders 11 = .ok (.ireturn, 1) := by decide +kernel
theorem dX11_orders_12 : decode cX11_orders 12 = .ok (.aload_n 0, 1) := by decide +kernel
theorem dX11_orders_13 : decode cX11_orders 13 = .ok (.iconst (-1), 1) := by decide +kernel
theorem dX11_orders_14 : decode cX11_orders 14 = .ok (.invokevirtual 283, 3) := by decide +kernel
theorem dX11_orders_17 : decode cX11_orders 17 = .ok (.aload_n 0, 1) := by decide +kernel
theorem dX11_orders_18 : decode cX11_orders 18 = .ok (.getfield 271, 3) := by decide +kernel
theorem dX11_orders_21 : decode cX11_orders 21 = .ok (.ireturn, 1) := by decide +kernel
set_option maxRecDepth 20000 in
theorem ggX11_beside_X11_isRoutine : GoodIn wsX11_beside wsX11_isRoutine := goodIn_r _ [9, 10, 11, 12, 8, 13, 66, 67, 68, 69, 70, 71, 72, 73, 74, 75, 76, 77, 78, 79, 80, 81, 82, 83, 84, 85, 86, 87, 88, 89, 90, 91, 92, 93, 94, 95, 96, 97, 98, 99, 100, 101, 102, 103, 104, 105, 106, 107, 108, 109, 110, 111, 112, 113, 114, 115, 116, 117, 118, 119, 120, 121, 122, 123, 124, 125, 126, 127, 128] (by decide +kernel) (by decide +kernel)
set_option maxRecDepth 20000 in
theorem gX11_beside_X11_isRoutine : GoodIn wsX11_beside (wsV RX11 168 RX11 yX11_isRoutine wsX11_isRoutine) := goodIn_app (goodIn_of _ (by decide +kernel)) ggX11_beside_X11_isRoutine
set_option maxRecDepth 20000 in
theorem ggX11_beside_X11_runOld : GoodIn wsX11_beside wsX11_runOld := goodIn_r _ [17, 18, 1, 19, 20, 21, 22, 23, 24, 25, 26, 27, 28, 29, 30, 31, 32, 33, 34, 35, 8, 36, 37, 38, 39, 40, 41, 42, 43, 44, 45, 46, 47, 48, 66, 67, 68, 69, 70, 71, 72, 73, 74, 75, 76, 77, 78, 79, 80, 81, 82, 83, 84, 85, 86, 87, 88, 89, 90, 91, 92, 93, 94, 95, 96, 97, 98, 99, 100, 101, 102, 103, 104, 105, 106, 107, 108, 109, 110, 111, 112, 113, 114, 115, 116, 117, 118, 119, 120, 121, 122, 123, 124, 125, 126, 127, 128] (by decide +kernel) (by decide +kernel)
set_option maxRecDepth 20000 in
theorem gX11_beside_X11_runOld : GoodIn wsX11_beside (wsV RX11 196 RX11 yX11_runOld wsX11_runOld) := goodIn_app (goodIn_of _ (by decide +kernel)) ggX11_beside_X11_runOld
set_option maxRecDepth 20000 in
theorem ggX11_beside_X11_runNew : GoodIn wsX11_beside wsX11_runNew := goodIn_r _ [52, 53, 1, 19, 54, 42, 27, 28, 29, 55, 20, 56, 57, 58, 59, 60, 61, 32, 33, 34, 35, 8, 36, 37, 22, 24, 26, 38, 39, 40, 41, 43, 44, 45, 46, 47, 48, 62, 63, 64, 65, 66, 67, 68, 69, 70, 71, 72, 73, 74, 75, 76, 77, 78, 79, 80, 81, 82, 83, 84, 85, 86, 87, 88, 89, 90, 91, 92, 93, 94, 95, 96, 97, 98, 99, 100, 101, 102, 103, 104, 105, 106, 107, 108, 109, 110, 111, 112, 113, 114, 115, 116, 117, 118, 119, 120, 121, 122, 123, 124, 125, 126, 127, 128] (by decide +kernel) (by decide +kernel)
set_option maxRecDepth 20000 in
theorem gX11_beside_X11_runNew : GoodIn wsX11_beside (wsV RX11 248 RX11 yX11_runNew wsX11_runNew) := goodIn_app (goodIn_of _ (by decide +kernel)) ggX11_beside_X11_runNew
theorem dX11_beside_0 : decode cX11_beside 0 = .ok (.aload_n 0, 1) := by decide +kernel
theorem dX11_beside_1 : decode cX11_beside 1 = .ok (.iload_n 1, 1) := by decide +kernel
theorem dX11_beside_2 : decode cX11_beside 2 = .ok (.invokevirtual 168, 3) := by decide +kernel
theorem dX11_beside_5 : decode cX11_beside 5 = .ok (.ifCond .ne 5, 3) := by decide +kernel
theorem dX11_beside_8 : decode cX11_beside 8 = .ok (.iconst (-1), 1) := by decide +kernel
theorem dX11_beside_9 : decode cX11_beside 9 = .ok (.ireturn, 1) := by decide +kernel
theorem dX11_beside_10 : decode cX11_beside 10 = .ok (.aload_n 0, 1) := by decide +kernel
theorem dX11_beside_11 : decode cX11_beside 11 = .ok (.iload_n 1, 1) := by decide +kernel
theorem dX11_beside_12 : decode cX11_beside 12 = .ok (.iload_n 2, 1) := by decide +kernel
theorem dX11_beside_13 : decode cX11_beside 13 = .ok (.invokevirtual 196, 3) := by decide +kernel
theorem dX11_beside_16 : decode cX11_beside 16 = .ok (.istore_n 3, 1) := by decide +kernel
theorem dX11_beside_17 : decode cX11_beside 17 = .ok (.aload_n 0, 1) := by decide +kernel
theorem dX11_beside_18 : decode cX11_beside 18 = .ok (.getfield 188, 3) := by decide +kernel
theorem dX11_beside_21 : decode cX11_beside 21 = .ok (.istore 4, 2) := by decide +kernel
theorem dX11_beside_23 : decode cX11_beside 23 = .ok (.aload_n 0, 1) := by decide +kernel
theorem dX11_beside_24 : decode cX11_beside 24 = .ok (.iload_n 1, 1) := by decide +kernel
theorem dX11_beside_25 : decode cX11_beside 25 = .ok (.iload_n 2, 1) := by decide +kernel
theorem dX11_beside_26 : decode cX11_beside 26 = .ok (.invokevirtual 248, 3) := by decide +kernel
theorem dX11_beside_29 : decode cX11_beside 29 = .ok (.istore 5, 2) := by decide +kernel
theorem dX11_beside_31 : decode cX11_beside 31 = .ok (.aload_n 0, 1) := by decide +kernel
theorem dX11_beside_32 : decode cX11_beside 32 = .ok (.dup, 1) := by decide +kernel
theorem dX11_beside_33 : decode cX11_beside 33 = .ok (.getfield 287, 3) := by decide +kernel
theorem dX11_beside_36 : decode cX11_beside 36 = .ok (.iconst 1, 1) := by decide +kernel
theorem dX11_beside_37 : decode cX11_beside 37 = .ok (.iadd, 1) := by decide +kernel
theorem dX11_beside_38 : decode cX11_beside 38 = .ok (.putfield 287, 3) := by decide +kernel
theorem dX11_beside_41 : decode cX11_beside 41 = .ok (.iload 4, 2) := by decide +kernel
theorem dX11_beside_43 : decode cX11_beside 43 = .ok (.aload_n 0, 1) := by decide +kernel
theorem dX11_beside_44 : decode cX11_beside 44 = .ok (.getfield 188, 3) := by decide +kernel
theorem dX11_beside_47 : decode cX11_beside 47 = .ok (.if_icmp .ne 18, 3) := by decide +kernel
theorem dX11_beside_50 : decode cX11_beside 50 = .ok (.iload_n 3, 1) := by decide +kernel
theorem dX11_beside_51 : decode cX11_beside 51 = .ok (.iload 5, 2) := by decide +kernel
theorem dX11_beside_53 : decode cX11_beside 53 = .ok (.if_icmp .eq 10, 3) := by decide +kernel
theorem dX11_beside_56 : decode cX11_beside 56 = .ok (.aload_n 0, 1) := by decide +kernel
theorem dX11_beside_57 : decode cX11_beside 57 = .ok (.getfield 188, 3) := by decide +kernel
theorem dX11_beside_60 : decode cX11_beside 60 = .ok (.ifCond .ne 5, 3) := by decide +kernel
theorem dX11_beside_63 : decode cX11_beside 63 = .ok (.iconst 1, 1) := by decide +kernel
theorem dX11_beside_64 : decode cX11_beside 64 = .ok (.ireturn, 1) := by decide +kernel
theorem dX11_beside_65 : decode cX11_beside 65 = .ok (.aload_n 0, 1) := by decide +kernel
theorem dX11_beside_66 : decode cX11_beside 66 = .ok (.getfield 290, 3) := by decide +kernel
theorem dX11_beside_69 : decode cX11_beside 69 = .ok (.ifCond .ne 49, 3) := by decide +kernel
theorem dX11_beside_72 : decode cX11_beside 72 = .ok (.aload_n 0, 1) := by decide +kernel
theorem dX11_beside_73 : decode cX11_beside 73 = .ok (.iconst 1, 1) := by decide +kernel
theorem dX11_beside_74 : decode cX11_beside 74 = .ok (.putfield 290, 3) := by decide +kernel
theorem dX11_beside_77 : decode cX11_beside 77 = .ok (.aload_n 0, 1) := by decide +kernel
theorem dX11_beside_78 : decode cX11_beside 78 = .ok (.getfield 134, 3) := by decide +kernel
theorem dX11_beside_81 : decode cX11_beside 81 = .ok (.iconst 0, 1) := by decide +kernel
theorem dX11_beside_82 : decode cX11_beside 82 = .ok (.aload_n 0, 1) := by decide +kernel
theorem dX11_beside_83 : decode cX11_beside 83 = .ok (.getfield 287, 3) := by decide +kernel
theorem dX11_beside_86 : decode cX11_beside 86 = .ok (.iconst 1, 1) := by decide +kernel
theorem dX11_beside_87 : decode cX11_beside 87 = .ok (.isub, 1) := by decide +kernel
theorem dX11_beside_88 : decode cX11_beside 88 = .ok (.iastore, 1) := by decide +kernel
theorem dX11_beside_89 : decode cX11_beside 89 = .ok (.aload_n 0, 1) := by decide +kernel
theorem dX11_beside_90 : decode cX11_beside 90 = .ok (.getfield 134, 3) := by decide +kernel
theorem dX11_beside_93 : decode cX11_beside 93 = .ok (.iconst 1, 1) := by decide +kernel
theorem dX11_beside_94 : decode cX11_beside 94 = .ok (.iload_n 1, 1) := by decide +kernel
theorem dX11_beside_95 : decode cX11_beside 95 = .ok (.iastore, 1) := by decide +kernel
theorem dX11_beside_96 : decode cX11_beside 96 = .ok (.aload_n 0, 1) := by decide +kernel
theorem dX11_beside_97 : decode cX11_beside 97 = .ok (.getfield 134, 3) := by decide +kernel
theorem dX11_beside_100 : decode cX11_beside 100 = .ok (.iconst 2, 1) := by decide +kernel
theorem dX11_beside_101 : decode cX11_beside 101 = .ok (.iload_n 2, 1) := by decide +kernel
theorem dX11_beside_102 : decode cX11_beside 102 = .ok (.iastore, 1) := by decide +kernel
theorem dX11_beside_103 : decode cX11_beside 103 = .ok (.aload_n 0, 1) := by decide +kernel
theorem dX11_beside_104 : decode cX11_beside 104 = .ok (.getfield 134, 3) := by decide +kernel
theorem dX11_beside_107 : decode cX11_beside 107 = .ok (.iconst 3, 1) := by decide +kernel
theorem dX11_beside_108 : decode cX11_beside 108 = .ok (.iload_n 3, 1) := by decide +kernel
theorem dX11_beside_109 : decode cX11_beside 109 = .ok (.iastore, 1) := by decide +kernel
theorem dX11_beside_110 : decode cX11_beside 110 = .ok (.aload_n 0, 1) := by decide +kernel
theorem dX11_beside_111 : decode cX11_beside 111 = .ok (.getfield 134, 3) := by decide +kernel
theorem dX11_beside_114 : decode cX11_beside 114 = .ok (.iconst 4, 1) := by decide +kernel
theorem dX11_beside_115 : decode cX11_beside 115 = .ok (.iload 5, 2) := by decide +kernel
theorem dX11_beside_117 : decode cX11_beside 117 = .ok (.iastore, 1) := by decide +kernel
theorem dX11_beside_118 : decode cX11_beside 118 = .ok (.iconst 0, 1) := by decide +kernel
theorem dX11_beside_119 : decode cX11_beside 119 = .ok (.ireturn, 1) := by decide +kernel
set_option maxRecDepth 20000 in
theorem ggX11_unlike_X11_in : GoodIn wsX11_unlike wsX11_in := goodIn_r _ [6] (by decide +kernel) (by decide +kernel)
set_option maxRecDepth 20000 in
theorem gX11_unlike_X11_in : GoodIn wsX11_unlike (va_wsS RX11 151 yX11_in wsX11_in) := goodIn_app (goodIn_of _ (by decide +kernel)) ggX11_unlike_X11_in
theorem dX11_unlike_0 : decode cX11_unlike 0 = .ok (.iload_n 1, 1) := by decide +kernel
theorem dX11_unlike_1 : decode cX11_unlike 1 = .ok (.iconst 0, 1) := by decide +kernel
theorem dX11_unlike_2 : decode cX11_unlike 2 = .ok (.iconst 4, 1) := by decide +kernel
theorem dX11_unlike_3 : decode cX11_unlike 3 = .ok (.invokestatic 151, 3) := by decide +kernel
theorem dX11_unlike_6 : decode cX11_unlike 6 = .ok (.ifCond .ne 7, 3) := by decide +kernel
theorem dX11_unlike_9 : decode cX11_unlike 9 = .ok (.iconst (-1), 1) := by decide +kernel
theorem dX11_unlike_10 : decode cX11_unlike 10 = .ok (.goto 21, 3) := by decide +kernel
theorem dX11_unlike_13 : decode cX11_unlike 13 = .ok (.aload_n 0, 1) := by decide +kernel
theorem dX11_unlike_14 : decode cX11_unlike 14 = .ok (.getfield 290, 3) := by decide +kernel
theorem dX11_unlike_17 : decode cX11_unlike 17 = .ok (.ifCond .eq 12, 3) := by decide +kernel
theorem dX11_unlike_20 : decode cX11_unlike 20 = .ok (.aload_n 0, 1) := by decide +kernel
theorem dX11_unlike_21 : decode cX11_unlike 21 = .ok (.getfield 134, 3) := by decide +kernel
theorem dX11_unlike_24 : decode cX11_unlike 24 = .ok (.iload_n 1, 1) := by decide +kernel
theorem dX11_unlike_25 : decode cX11_unlike 25 = .ok (.iaload, 1) := by decide +kernel
theorem dX11_unlike_26 : decode cX11_unlike 26 = .ok (.goto 5, 3) := by decide +kernel
theorem dX11_unlike_29 : decode cX11_unlike 29 = .ok (.bipush (-2), 2) := by decide +kernel
theorem dX11_unlike_31 : decode cX11_unlike 31 = .ok (.ireturn, 1) := by decide +kernel
theorem dX11_differ_0 : decode cX11_differ 0 = .ok (.iconst 0, 1) := by decide +kernel
theorem dX11_differ_1 : decode cX11_differ 1 = .ok (.istore_n 1, 1) := by decide +kernel
theorem dX11_differ_2 : decode cX11_differ 2 = .ok (.iconst 0, 1) := by decide +kernel
theorem dX11_differ_3 : decode cX11_differ 3 = .ok (.istore_n 2, 1) := by decide +kernel
theorem dX11_differ_4 : decode cX11_differ 4 = .ok (.iload_n 2, 1) := by decide +kernel
theorem dX11_differ_5 : decode cX11_differ 5 = .ok (.bipush 8, 2) := by decide +kernel
theorem dX11_differ_7 : decode cX11_differ 7 = .ok (.aload_n 0, 1) := by decide +kernel
theorem dX11_differ_8 : decode cX11_differ 8 = .ok (.getfield 155, 3) := by decide +kernel
theorem dX11_differ_11 : decode cX11_differ 11 = .ok (.imul, 1) := by decide +kernel
theorem dX11_differ_12 : decode cX11_differ 12 = .ok (.if_icmp .ge 32, 3) := by decide +kernel
theorem dX11_differ_15 : decode cX11_differ 15 = .ok (.iload_n 1, 1) := by decide +kernel
theorem dX11_differ_16 : decode cX11_differ 16 = .ok (.aload_n 0, 1) := by decide +kernel
theorem dX11_differ_17 : decode cX11_differ 17 = .ok (.getfield 31, 3) := by decide +kernel
theorem dX11_differ_20 : decode cX11_differ 20 = .ok (.iload_n 2, 1) := by decide +kernel
theorem dX11_differ_21 : decode cX11_differ 21 = .ok (.iaload, 1) := by decide +kernel
theorem dX11_differ_22 : decode cX11_differ 22 = .ok (.aload_n 0, 1) := by decide +kernel
theorem dX11_differ_23 : decode cX11_differ 23 = .ok (.getfield 34, 3) := by decide +kernel
theorem dX11_differ_26 : decode cX11_differ 26 = .ok (.iload_n 2, 1) := by decide +kernel
theorem dX11_differ_27 : decode cX11_differ 27 = .ok (.iaload, 1) := by decide +kernel
theorem dX11_differ_28 : decode cX11_differ 28 = .ok (.if_icmp .ne 7, 3) := by decide +kernel
theorem dX11_differ_31 : decode cX11_differ 31 = .ok (.iconst 0, 1) := by decide +kernel
theorem dX11_differ_32 : decode cX11_differ 32 = .ok (.goto 4, 3) := by decide +kernel
theorem dX11_differ_35 : decode cX11_differ 35 = .ok (.iconst 1, 1) := by decide +kernel
theorem dX11_differ_36 : decode cX11_differ 36 = .ok (.iadd, 1) := by decide +kernel
theorem dX11_differ_37 : decode cX11_differ 37 = .ok (.istore_n 1, 1) := by decide +kernel
theorem dX11_differ_38 : decode cX11_differ 38 = .ok (.iinc 2 1, 3) := by decide +kernel
theorem dX11_differ_41 : decode cX11_differ 41 = .ok (.goto (-37), 3) := by decide +kernel
theorem dX11_differ_44 : decode cX11_differ 44 = .ok (.iload_n 1, 1) := by decide +kernel
theorem dX11_differ_45 : decode cX11_differ 45 = .ok (.ireturn, 1) := by decide +kernel
set_option maxRecDepth 20000 in
theorem ggX11_sync_X11_differ : GoodIn wsX11_sync wsX11_differ := goodIn_r _ [11, 12, 2, 1, 13, 14, 15, 16, 17, 18, 19, 20, 21, 22, 23, 24, 25, 26, 27, 28, 29, 30, 31, 32, 33, 34, 35, 36, 37, 38, 39, 40, 41, 42, 43, 44, 45, 46, 47, 48, 49, 50, 51, 52, 53, 54, 55, 56, 57, 58, 59, 60, 61, 62, 63, 64, 65, 66, 67, 68, 69, 70, 71, 72, 73, 74, 75] (by decide +kernel) (by decide +kernel)
set_option maxRecDepth 20000 in
theorem gX11_sync_X11_differ : GoodIn wsX11_sync (wsV RX11 293 RX11 yX11_differ wsX11_differ) := goodIn_app (goodIn_of _ (by decide +kernel)) ggX11_sync_X11_differ
theorem dX11_sync_0 : decode cX11_sync 0 = .ok (.aload_n 0, 1) := by decide +kernel
theorem dX11_sync_1 : decode cX11_sync 1 = .ok (.invokevirtual 293, 3) := by decide +kernel
theorem dX11_sync_4 : decode cX11_sync 4 = .ok (.istore_n 1, 1) := by decide +kernel
theorem dX11_sync_5 : decode cX11_sync 5 = .ok (.iconst 0, 1) := by decide +kernel
theorem dX11_sync_6 : decode cX11_sync 6 = .ok (.istore_n 2, 1) := by decide +kernel
theorem dX11_sync_7 : decode cX11_sync 7 = .ok (.iload_n 2, 1) := by decide +kernel
theorem dX11_sync_8 : decode cX11_sync 8 = .ok (.sipush 128, 3) := by decide +kernel
theorem dX11_sync_11 : decode cX11_sync 11 = .ok (.if_icmp .ge 21, 3) := by decide +kernel
theorem dX11_sync_14 : decode cX11_sync 14 = .ok (.aload_n 0, 1) := by decide +kernel
theorem dX11_sync_15 : decode cX11_sync 15 = .ok (.getfield 34, 3) := by decide +kernel
theorem dX11_sync_18 : decode cX11_sync 18 = .ok (.iload_n 2, 1) := by decide +kernel
theorem dX11_sync_19 : decode cX11_sync 19 = .ok (.aload_n 0, 1) := by decide +kernel
theorem dX11_sync_20 : decode cX11_sync 20 = .ok (.getfield 31, 3) := by decide +kernel
theorem dX11_sync_23 : decode cX11_sync 23 = .ok (.iload_n 2, 1) := by decide +kernel
theorem dX11_sync_24 : decode cX11_sync 24 = .ok (.iaload, 1) := by decide +kernel
theorem dX11_sync_25 : decode cX11_sync 25 = .ok (.iastore, 1) := by decide +kernel
theorem dX11_sync_26 : decode cX11_sync 26 = .ok (.iinc 2 1, 3) := by decide +kernel
theorem dX11_sync_29 : decode cX11_sync 29 = .ok (.goto (-22), 3) := by decide +kernel
theorem dX11_sync_32 : decode cX11_sync 32 = .ok (.iconst 0, 1) := by decide +kernel
theorem dX11_sync_33 : decode cX11_sync 33 = .ok (.istore_n 2, 1) := by decide +kernel
theorem dX11_sync_34 : decode cX11_sync 34 = .ok (.iload_n 2, 1) := by decide +kernel
theorem dX11_sync_35 : decode cX11_sync 35 = .ok (.aload_n 0, 1) := by decide +kernel
theorem dX11_sync_36 : decode cX11_sync 36 = .ok (.getfield 242, 3) := by decide +kernel
theorem dX11_sync_39 : decode cX11_sync 39 = .ok (.if_icmp .ge 16, 3) := by decide +kernel
theorem dX11_sync_42 : decode cX11_sync 42 = .ok (.aload_n 0, 1) := by decide +kernel
theorem dX11_sync_43 : decode cX11_sync 43 = .ok (.getfield 110, 3) := by decide +kernel
theorem dX11_sync_46 : decode cX11_sync 46 = .ok (.iload_n 2, 1) := by decide +kernel
theorem dX11_sync_47 : decode cX11_sync 47 = .ok (.iconst 0, 1) := by decide +kernel
theorem dX11_sync_48 : decode cX11_sync 48 = .ok (.bastore, 1) := by decide +kernel
theorem dX11_sync_49 : decode cX11_sync 49 = .ok (.iinc 2 1, 3) := by decide +kernel
theorem dX11_sync_52 : decode cX11_sync 52 = .ok (.goto (-18), 3) := by decide +kernel
theorem dX11_sync_55 : decode cX11_sync 55 = .ok (.aload_n 0, 1) := by decide +kernel
theorem dX11_sync_56 : decode cX11_sync 56 = .ok (.iconst 0, 1) := by decide +kernel
theorem dX11_sync_57 : decode cX11_sync 57 = .ok (.putfield 287, 3) := by decide +kernel
theorem dX11_sync_60 : decode cX11_sync 60 = .ok (.aload_n 0, 1) := by decide +kernel
theorem dX11_sync_61 : decode cX11_sync 61 = .ok (.iconst 0, 1) := by decide +kernel
theorem dX11_sync_62 : decode cX11_sync 62 = .ok (.putfield 290, 3) := by decide +kernel
theorem dX11_sync_65 : decode cX11_sync 65 = .ok (.iload_n 1, 1) := by decide +kernel
theorem dX11_sync_66 : decode cX11_sync 66 = .ok (.ireturn, 1) := by decide +kernel
theorem dX11_keep_0 : decode cX11_keep 0 = .ok (.aload_n 0, 1) := by decide +kernel
theorem dX11_keep_1 : decode cX11_keep 1 = .ok (.getfield 141, 3) := by decide +kernel
theorem dX11_keep_4 : decode cX11_keep 4 = .ok (.aload_n 0, 1) := by decide +kernel
theorem dX11_keep_5 : decode cX11_keep 5 = .ok (.getfield 296, 3) := by decide +kernel
theorem dX11_keep_8 : decode cX11_keep 8 = .ok (.iload_n 1, 1) := by decide +kernel
theorem dX11_keep_9 : decode cX11_keep 9 = .ok (.iastore, 1) := by decide +kernel
theorem dX11_keep_10 : decode cX11_keep 10 = .ok (.aload_n 0, 1) := by decide +kernel
theorem dX11_keep_11 : decode cX11_keep 11 = .ok (.dup, 1) := by decide +kernel
theorem dX11_keep_12 : decode cX11_keep 12 = .ok (.getfield 296, 3) := by decide +kernel
theorem dX11_keep_15 : decode cX11_keep 15 = .ok (.iconst 1, 1) := by decide +kernel
theorem dX11_keep_16 : decode cX11_keep 16 = .ok (.iadd, 1) := by decide +kernel
theorem dX11_keep_17 : decode cX11_keep 17 = .ok (.putfield 296, 3) := by decide +kernel
theorem dX11_keep_20 : decode cX11_keep 20 = .ok (.return_, 1) := by decide +kernel
theorem dX11_taken_0 : decode cX11_taken 0 = .ok (.aload_n 0, 1) := by decide +kernel
theorem dX11_taken_1 : decode cX11_taken 1 = .ok (.dup, 1) := by decide +kernel
theorem dX11_taken_2 : decode cX11_taken 2 = .ok (.getfield 296, 3) := by decide +kernel
theorem dX11_taken_5 : decode cX11_taken 5 = .ok (.iconst 1, 1) := by decide +kernel
theorem dX11_taken_6 : decode cX11_taken 6 = .ok (.iadd, 1) := by decide +kernel
theorem dX11_taken_7 : decode cX11_taken 7 = .ok (.putfield 296, 3) := by decide +kernel
theorem dX11_taken_10 : decode cX11_taken 10 = .ok (.aload_n 0, 1) := by decide +kernel
theorem dX11_taken_11 : decode cX11_taken 11 = .ok (.getfield 141, 3) := by decide +kernel
theorem dX11_taken_14 : decode cX11_taken 14 = .ok (.aload_n 0, 1) := by decide +kernel
theorem dX11_taken_15 : decode cX11_taken 15 = .ok (.getfield 296, 3) := by decide +kernel
theorem dX11_taken_18 : decode cX11_taken 18 = .ok (.iconst 1, 1) := by decide +kernel
theorem dX11_taken_19 : decode cX11_taken 19 = .ok (.isub, 1) := by decide +kernel
theorem dX11_taken_20 : decode cX11_taken 20 = .ok (.iaload, 1) := by decide +kernel
theorem dX11_taken_21 : decode cX11_taken 21 = .ok (.ireturn, 1) := by decide +kernel
set_option maxRecDepth 20000 in
theorem ggX11_image_X11_in : GoodIn wsX11_image wsX11_in := goodIn_r _ [26] (by decide +kernel) (by decide +kernel)
set_option maxRecDepth 20000 in
theorem gX11_image_X11_in : GoodIn wsX11_image (va_wsS RX11 151 yX11_in wsX11_in) := goodIn_app (goodIn_of _ (by decide +kernel)) ggX11_image_X11_in
set_option maxRecDepth 20000 in
theorem ggX11_image_X11_keep : GoodIn wsX11_image wsX11_keep := goodIn_r _ [30, 31, 1, 32, 33, 34, 35, 36, 37, 38, 39, 40, 41, 42, 43, 44, 45, 46, 47, 48, 49, 50, 51, 52, 53, 54, 55, 56, 57, 58, 59, 60, 61, 62, 63, 64, 65, 66, 67, 68, 69, 70, 71, 72, 73, 74, 75, 76, 77, 78, 79, 80, 81, 82, 83, 84, 85, 86, 87, 88, 89, 90, 91, 92, 93, 94] (by decide +kernel) (by decide +kernel)
set_option maxRecDepth 20000 in
theorem gX11_image_X11_keep : GoodIn wsX11_image (wsV RX11 299 RX11 yX11_keep wsX11_keep) := goodIn_app (goodIn_of _ (by decide +kernel)) ggX11_image_X11_keep
theorem dX11_image_0 : decode cX11_image 0 = .ok (.iload_n 1, 1) := by decide +kernel
theorem dX11_image_1 : decode cX11_image 1 = .ok (.iconst 0, 1) := by decide +kernel
theorem dX11_image_2 : decode cX11_image 2 = .ok (.iconst 3, 1) := by decide +kernel
theorem dX11_image_3 : decode cX11_image 3 = .ok (.invokestatic 151, 3) := by decide +kernel
theorem dX11_image_6 : decode cX11_image 6 = .ok (.ifCond .ne 5, 3) := by decide +kernel
theorem dX11_image_9 : decode cX11_image 9 = .ok (.iconst (-1), 1) := by decide +kernel
theorem dX11_image_10 : decode cX11_image 10 = .ok (.ireturn, 1) := by decide +kernel
theorem dX11_image_11 : decode cX11_image 11 = .ok (.aload_n 0, 1) := by decide +kernel
theorem dX11_image_12 : decode cX11_image 12 = .ok (.sipush 13400, 3) := by decide +kernel
theorem dX11_image_15 : decode cX11_image 15 = .ok (.iload_n 1, 1) := by decide +kernel
theorem dX11_image_16 : decode cX11_image 16 = .ok (.imul, 1) := by decide +kernel
theorem dX11_image_17 : decode cX11_image 17 = .ok (.putfield 296, 3) := by decide +kernel
theorem dX11_image_20 : decode cX11_image 20 = .ok (.aload_n 0, 1) := by decide +kernel
theorem dX11_image_21 : decode cX11_image 21 = .ok (.getfield 137, 3) := by decide +kernel
theorem dX11_image_24 : decode cX11_image 24 = .ok (.iload_n 1, 1) := by decide +kernel
theorem dX11_image_25 : decode cX11_image 25 = .ok (.iconst 1, 1) := by decide +kernel
theorem dX11_image_26 : decode cX11_image 26 = .ok (.bastore, 1) := by decide +kernel
theorem dX11_image_27 : decode cX11_image 27 = .ok (.aload_n 0, 1) := by decide +kernel
theorem dX11_image_28 : decode cX11_image 28 = .ok (.aload_n 0, 1) := by decide +kernel
theorem dX11_image_29 : decode cX11_image 29 = .ok (.getfield 148, 3) := by decide +kernel
theorem dX11_image_32 : decode cX11_image 32 = .ok (.invokevirtual 299, 3) := by decide +kernel
theorem dX11_image_35 : decode cX11_image 35 = .ok (.aload_n 0, 1) := by decide +kernel
theorem dX11_image_36 : decode cX11_image 36 = .ok (.aload_n 0, 1) := by decide +kernel
theorem dX11_image_37 : decode cX11_image 37 = .ok (.getfield 155, 3) := by decide +kernel
theorem dX11_image_40 : decode cX11_image 40 = .ok (.invokevirtual 299, 3) := by decide +kernel
theorem dX11_image_43 : decode cX11_image 43 = .ok (.iconst 0, 1) := by decide +kernel
theorem dX11_image_44 : decode cX11_image 44 = .ok (.istore_n 2, 1) := by decide +kernel
theorem dX11_image_45 : decode cX11_image 45 = .ok (.iload_n 2, 1) := by decide +kernel
theorem dX11_image_46 : decode cX11_image 46 = .ok (.sipush 128, 3) := by decide +kernel
theorem dX11_image_49 : decode cX11_image 49 = .ok (.if_icmp .ge 19, 3) := by decide +kernel
theorem dX11_image_52 : decode cX11_image 52 = .ok (.aload_n 0, 1) := by decide +kernel
theorem dX11_image_53 : decode cX11_image 53 = .ok (.aload_n 0, 1) := by decide +kernel
theorem dX11_image_54 : decode cX11_image 54 = .ok (.getfield 31, 3) := by decide +kernel
theorem dX11_image_57 : decode cX11_image 57 = .ok (.iload_n 2, 1) := by decide +kernel
theorem dX11_image_58 : decode cX11_image 58 = .ok (.iaload, 1) := by decide +kernel
theorem dX11_image_59 : decode cX11_image 59 = .ok (.invokevirtual 299, 3) := by decide +kernel
theorem dX11_image_62 : decode cX11_image 62 = .ok (.iinc 2 1, 3) := by decide +kernel
theorem dX11_image_65 : decode cX11_image 65 = .ok (.goto (-20), 3) := by decide +kernel
theorem dX11_image_68 : decode cX11_image 68 = .ok (.iconst 0, 1) := by decide +kernel
theorem dX11_image_69 : decode cX11_image 69 = .ok (.istore_n 2, 1) := by decide +kernel
theorem dX11_image_70 : decode cX11_image 70 = .ok (.iload_n 2, 1) := by decide +kernel
theorem dX11_image_71 : decode cX11_image 71 = .ok (.sipush 128, 3) := by decide +kernel
theorem dX11_image_74 : decode cX11_image 74 = .ok (.if_icmp .ge 19, 3) := by decide +kernel
theorem dX11_image_77 : decode cX11_image 77 = .ok (.aload_n 0, 1) := by decide +kernel
theorem dX11_image_78 : decode cX11_image 78 = .ok (.aload_n 0, 1) := by decide +kernel
theorem dX11_image_79 : decode cX11_image 79 = .ok (.getfield 34, 3) := by decide +kernel
theorem dX11_image_82 : decode cX11_image 82 = .ok (.iload_n 2, 1) := by decide +kernel
theorem dX11_image_83 : decode cX11_image 83 = .ok (.iaload, 1) := by decide +kernel
theorem dX11_image_84 : decode cX11_image 84 = .ok (.invokevirtual 299, 3) := by decide +kernel
theorem dX11_image_87 : decode cX11_image 87 = .ok (.iinc 2 1, 3) := by decide +kernel
theorem dX11_image_90 : decode cX11_image 90 = .ok (.goto (-20), 3) := by decide +kernel
theorem dX11_image_93 : decode cX11_image 93 = .ok (.iconst 0, 1) := by decide +kernel
theorem dX11_image_94 : decode cX11_image 94 = .ok (.istore_n 2, 1) := by decide +kernel
theorem dX11_image_95 : decode cX11_image 95 = .ok (.iload_n 2, 1) := by decide +kernel
theorem dX11_image_96 : decode cX11_image 96 = .ok (.bipush 100, 2) := by decide +kernel
theorem dX11_image_98 : decode cX11_image 98 = .ok (.if_icmp .ge 19, 3) := by decide +kernel
theorem dX11_image_101 : decode cX11_image 101 = .ok (.aload_n 0, 1) := by decide +kernel
theorem dX11_image_102 : decode cX11_image 102 = .ok (.aload_n 0, 1) := by decide +kernel
theorem dX11_image_103 : decode cX11_image 103 = .ok (.getfield 62, 3) := by decide +kernel
theorem dX11_image_106 : decode cX11_image 106 = .ok (.iload_n 2, 1) := by decide +kernel
theorem dX11_image_107 : decode cX11_image 107 = .ok (.iaload, 1) := by decide +kernel
theorem dX11_image_108 : decode cX11_image 108 = .ok (.invokevirtual 299, 3) := by decide +kernel
theorem dX11_image_111 : decode cX11_image 111 = .ok (.iinc 2 1, 3) := by decide +kernel
theorem dX11_image_114 : decode cX11_image 114 = .ok (.goto (-19), 3) := by decide +kernel
theorem dX11_image_117 : decode cX11_image 117 = .ok (.iconst 0, 1) := by decide +kernel
theorem dX11_image_118 : decode cX11_image 118 = .ok (.istore_n 2, 1) := by decide +kernel
theorem dX11_image_119 : decode cX11_image 119 = .ok (.iload_n 2, 1) := by decide +kernel
theorem dX11_image_120 : decode cX11_image 120 = .ok (.sipush 160, 3) := by decide +kernel
theorem dX11_image_123 : decode cX11_image 123 = .ok (.if_icmp .ge 19, 3) := by decide +kernel
theorem dX11_image_126 : decode cX11_image 126 = .ok (.aload_n 0, 1) := by decide +kernel
theorem dX11_image_127 : decode cX11_image 127 = .ok (.aload_n 0, 1) := by decide +kernel
theorem dX11_image_128 : decode cX11_image 128 = .ok (.getfield 65, 3) := by decide +kernel
theorem dX11_image_131 : decode cX11_image 131 = .ok (.iload_n 2, 1) := by decide +kernel
theorem dX11_image_132 : decode cX11_image 132 = .ok (.iaload, 1) := by decide +kernel
theorem dX11_image_133 : decode cX11_image 133 = .ok (.invokevirtual 299, 3) := by decide +kernel
theorem dX11_image_136 : decode cX11_image 136 = .ok (.iinc 2 1, 3) := by decide +kernel
theorem dX11_image_139 : decode cX11_image 139 = .ok (.goto (-20), 3) := by decide +kernel
theorem dX11_image_142 : decode cX11_image 142 = .ok (.iconst 0, 1) := by decide +kernel
theorem dX11_image_143 : decode cX11_image 143 = .ok (.istore_n 2, 1) := by decide +kernel
theorem dX11_image_144 : decode cX11_image 144 = .ok (.iload_n 2, 1) := by decide +kernel
theorem dX11_image_145 : decode cX11_image 145 = .ok (.sipush 160, 3) := by decide +kernel
theorem dX11_image_148 : decode cX11_image 148 = .ok (.if_icmp .ge 19, 3) := by decide +kernel
theorem dX11_image_151 : decode cX11_image 151 = .ok (.aload_n 0, 1) := by decide +kernel
theorem dX11_image_152 : decode cX11_image 152 = .ok (.aload_n 0, 1) := by decide +kernel
theorem dX11_image_153 : decode cX11_image 153 = .ok (.getfield 68, 3) := by decide +kernel
theorem dX11_image_156 : decode cX11_image 156 = .ok (.iload_n 2, 1) := by decide +kernel
theorem dX11_image_157 : decode cX11_image 157 = .ok (.iaload, 1) := by decide +kernel
theorem dX11_image_158 : decode cX11_image 158 = .ok (.invokevirtual 299, 3) := by decide +kernel
theorem dX11_image_161 : decode cX11_image 161 = .ok (.iinc 2 1, 3) := by decide +kernel
theorem dX11_image_164 : decode cX11_image 164 = .ok (.goto (-20), 3) := by decide +kernel
theorem dX11_image_167 : decode cX11_image 167 = .ok (.iconst 0, 1) := by decide +kernel
theorem dX11_image_168 : decode cX11_image 168 = .ok (.istore_n 2, 1) := by decide +kernel
theorem dX11_image_169 : decode cX11_image 169 = .ok (.iload_n 2, 1) := by decide +kernel
theorem dX11_image_170 : decode cX11_image 170 = .ok (.sipush 1024, 3) := by decide +kernel
theorem dX11_image_173 : decode cX11_image 173 = .ok (.if_icmp .ge 19, 3) := by decide +kernel
theorem dX11_image_176 : decode cX11_image 176 = .ok (.aload_n 0, 1) := by decide +kernel
theorem dX11_image_177 : decode cX11_image 177 = .ok (.aload_n 0, 1) := by decide +kernel
theorem dX11_image_178 : decode cX11_image 178 = .ok (.getfield 71, 3) := by decide +kernel
theorem dX11_image_181 : decode cX11_image 181 = .ok (.iload_n 2, 1) := by decide +kernel
theorem dX11_image_182 : decode cX11_image 182 = .ok (.iaload, 1) := by decide +kernel
theorem dX11_image_183 : decode cX11_image 183 = .ok (.invokevirtual 299, 3) := by decide +kernel
theorem dX11_image_186 : decode cX11_image 186 = .ok (.iinc 2 1, 3) := by decide +kernel
theorem dX11_image_189 : decode cX11_image 189 = .ok (.goto (-20), 3) := by decide +kernel
theorem dX11_image_192 : decode cX11_image 192 = .ok (.iconst 0, 1) := by decide +kernel
theorem dX11_image_193 : decode cX11_image 193 = .ok (.istore_n 2, 1) := by decide +kernel
theorem dX11_image_194 : decode cX11_image 194 = .ok (.iload_n 2, 1) := by decide +kernel
theorem dX11_image_195 : decode cX11_image 195 = .ok (.bipush 10, 2) := by decide +kernel
theorem dX11_image_197 : decode cX11_image 197 = .ok (.if_icmp .ge 19, 3) := by decide +kernel
theorem dX11_image_200 : decode cX11_image 200 = .ok (.aload_n 0, 1) := by decide +kernel
theorem dX11_image_201 : decode cX11_image 201 = .ok (.aload_n 0, 1) := by decide +kernel
theorem dX11_image_202 : decode cX11_image 202 = .ok (.getfield 74, 3) := by decide +kernel
theorem dX11_image_205 : decode cX11_image 205 = .ok (.iload_n 2, 1) := by decide +kernel
theorem dX11_image_206 : decode cX11_image 206 = .ok (.iaload, 1) := by decide +kernel
theorem dX11_image_207 : decode cX11_image 207 = .ok (.invokevirtual 299, 3) := by decide +kernel
theorem dX11_image_210 : decode cX11_image 210 = .ok (.iinc 2 1, 3) := by decide +kernel
theorem dX11_image_213 : decode cX11_image 213 = .ok (.goto (-19), 3) := by decide +kernel
theorem dX11_image_216 : decode cX11_image 216 = .ok (.iconst 0, 1) := by decide +kernel
theorem dX11_image_217 : decode cX11_image 217 = .ok (.istore_n 2, 1) := by decide +kernel
theorem dX11_image_218 : decode cX11_image 218 = .ok (.iload_n 2, 1) := by decide +kernel
theorem dX11_image_219 : decode cX11_image 219 = .ok (.iconst 5, 1) := by decide +kernel
theorem dX11_image_220 : decode cX11_image 220 = .ok (.if_icmp .ge 19, 3) := by decide +kernel
theorem dX11_image_223 : decode cX11_image 223 = .ok (.aload_n 0, 1) := by decide +kernel
theorem dX11_image_224 : decode cX11_image 224 = .ok (.aload_n 0, 1) := by decide +kernel
theorem dX11_image_225 : decode cX11_image 225 = .ok (.getfield 134, 3) := by decide +kernel
theorem dX11_image_228 : decode cX11_image 228 = .ok (.iload_n 2, 1) := by decide +kernel
theorem dX11_image_229 : decode cX11_image 229 = .ok (.iaload, 1) := by decide +kernel
theorem dX11_image_230 : decode cX11_image 230 = .ok (.invokevirtual 299, 3) := by decide +kernel
theorem dX11_image_233 : decode cX11_image 233 = .ok (.iinc 2 1, 3) := by decide +kernel
theorem dX11_image_236 : decode cX11_image 236 = .ok (.goto (-18), 3) := by decide +kernel
theorem dX11_image_239 : decode cX11_image 239 = .ok (.aload_n 0, 1) := by decide +kernel
theorem dX11_image_240 : decode cX11_image 240 = .ok (.aload_n 0, 1) := by decide +kernel
theorem dX11_image_241 : decode cX11_image 241 = .ok (.getfield 290, 3) := by decide +kernel
theorem dX11_image_244 : decode cX11_image 244 = .ok (.ifCond .eq 7, 3) := by decide +kernel
theorem dX11_image_247 : decode cX11_image 247 = .ok (.iconst 1, 1) := by decide +kernel
theorem dX11_image_248 : decode cX11_image 248 = .ok (.goto 4, 3) := by decide +kernel
theorem dX11_image_251 : decode cX11_image 251 = .ok (.iconst 0, 1) := by decide +kernel
theorem dX11_image_252 : decode cX11_image 252 = .ok (.invokevirtual 299, 3) := by decide +kernel
theorem dX11_image_255 : decode cX11_image 255 = .ok (.aload_n 0, 1) := by decide +kernel
theorem dX11_image_256 : decode cX11_image 256 = .ok (.aload_n 0, 1) := by decide +kernel
theorem dX11_image_257 : decode cX11_image 257 = .ok (.getfield 287, 3) := by decide +kernel
theorem dX11_image_260 : decode cX11_image 260 = .ok (.invokevirtual 299, 3) := by decide +kernel
theorem dX11_image_263 : decode cX11_image 263 = .ok (.aload_n 0, 1) := by decide +kernel
theorem dX11_image_264 : decode cX11_image 264 = .ok (.aload_n 0, 1) := by decide +kernel
theorem dX11_image_265 : decode cX11_image 265 = .ok (.getfield 193, 3) := by decide +kernel
theorem dX11_image_268 : decode cX11_image 268 = .ok (.invokevirtual 299, 3) := by decide +kernel
theorem dX11_image_271 : decode cX11_image 271 = .ok (.aload_n 0, 1) := by decide +kernel
theorem dX11_image_272 : decode cX11_image 272 = .ok (.aload_n 0, 1) := by decide +kernel
theorem dX11_image_273 : decode cX11_image 273 = .ok (.getfield 245, 3) := by decide +kernel
theorem dX11_image_276 : decode cX11_image 276 = .ok (.invokevirtual 299, 3) := by decide +kernel
theorem dX11_image_279 : decode cX11_image 279 = .ok (.aload_n 0, 1) := by decide +kernel
theorem dX11_image_280 : decode cX11_image 280 = .ok (.aload_n 0, 1) := by decide +kernel
theorem dX11_image_281 : decode cX11_image 281 = .ok (.getfield 242, 3) := by decide +kernel
theorem dX11_image_284 : decode cX11_image 284 = .ok (.invokevirtual 299, 3) := by decide +kernel
theorem dX11_image_287 : decode cX11_image 287 = .ok (.iconst 0, 1) := by decide +kernel
theorem dX11_image_288 : decode cX11_image 288 = .ok (.istore_n 2, 1) := by decide +kernel
theorem dX11_image_289 : decode cX11_image 289 = .ok (.iload_n 2, 1) := by decide +kernel
theorem dX11_image_290 : decode cX11_image 290 = .ok (.aload_n 0, 1) := by decide +kernel
theorem dX11_image_291 : decode cX11_image 291 = .ok (.getfield 242, 3) := by decide +kernel
theorem dX11_image_294 : decode cX11_image 294 = .ok (.if_icmp .ge 67, 3) := by decide +kernel
theorem dX11_image_297 : decode cX11_image 297 = .ok (.aload_n 0, 1) := by decide +kernel
theorem dX11_image_298 : decode cX11_image 298 = .ok (.aload_n 0, 1) := by decide +kernel
theorem dX11_image_299 : decode cX11_image 299 = .ok (.getfield 98, 3) := by decide +kernel
theorem dX11_image_302 : decode cX11_image 302 = .ok (.iload_n 2, 1) := by decide +kernel
theorem dX11_image_303 : decode cX11_image 303 = .ok (.iaload, 1) := by decide +kernel
theorem dX11_image_304 : decode cX11_image 304 = .ok (.invokevirtual 299, 3) := by decide +kernel
theorem dX11_image_307 : decode cX11_image 307 = .ok (.aload_n 0, 1) := by decide +kernel
theorem dX11_image_308 : decode cX11_image 308 = .ok (.aload_n 0, 1) := by decide +kernel
theorem dX11_image_309 : decode cX11_image 309 = .ok (.getfield 101, 3) := by decide +kernel
theorem dX11_image_312 : decode cX11_image 312 = .ok (.iload_n 2, 1) := by decide +kernel
theorem dX11_image_313 : decode cX11_image 313 = .ok (.iaload, 1) := by decide +kernel
theorem dX11_image_314 : decode cX11_image 314 = .ok (.invokevirtual 299, 3) := by decide +kernel
theorem dX11_image_317 : decode cX11_image 317 = .ok (.aload_n 0, 1) := by decide +kernel
theorem dX11_image_318 : decode cX11_image 318 = .ok (.aload_n 0, 1) := by decide +kernel
theorem dX11_image_319 : decode cX11_image 319 = .ok (.getfield 104, 3) := by decide +kernel
theorem dX11_image_322 : decode cX11_image 322 = .ok (.iload_n 2, 1) := by decide +kernel
theorem dX11_image_323 : decode cX11_image 323 = .ok (.iaload, 1) := by decide +kernel
theorem dX11_image_324 : decode cX11_image 324 = .ok (.invokevirtual 299, 3) := by decide +kernel
theorem dX11_image_327 : decode cX11_image 327 = .ok (.aload_n 0, 1) := by decide +kernel
theorem dX11_image_328 : decode cX11_image 328 = .ok (.aload_n 0, 1) := by decide +kernel
theorem dX11_image_329 : decode cX11_image 329 = .ok (.getfield 107, 3) := by decide +kernel
theorem dX11_image_332 : decode cX11_image 332 = .ok (.iload_n 2, 1) := by decide +kernel
theorem dX11_image_333 : decode cX11_image 333 = .ok (.iaload, 1) := by decide +kernel
theorem dX11_image_334 : decode cX11_image 334 = .ok (.invokevirtual 299, 3) := by decide +kernel
theorem dX11_image_337 : decode cX11_image 337 = .ok (.aload_n 0, 1) := by decide +kernel
theorem dX11_image_338 : decode cX11_image 338 = .ok (.aload_n 0, 1) := by decide +kernel
theorem dX11_image_339 : decode cX11_image 339 = .ok (.getfield 110, 3) := by decide +kernel
theorem dX11_image_342 : decode cX11_image 342 = .ok (.iload_n 2, 1) := by decide +kernel
theorem dX11_image_343 : decode cX11_image 343 = .ok (.baload, 1) := by decide +kernel
theorem dX11_image_344 : decode cX11_image 344 = .ok (.ifCond .eq 7, 3) := by decide +kernel
theorem dX11_image_347 : decode cX11_image 347 = .ok (.iconst 1, 1) := by decide +kernel
theorem dX11_image_348 : decode cX11_image 348 = .ok (.goto 4, 3) := by decide +kernel
theorem dX11_image_351 : decode cX11_image 351 = .ok (.iconst 0, 1) := by decide +kernel
theorem dX11_image_352 : decode cX11_image 352 = .ok (.invokevirtual 299, 3) := by decide +kernel
theorem dX11_image_355 : decode cX11_image 355 = .ok (.iinc 2 1, 3) := by decide +kernel
theorem dX11_image_358 : decode cX11_image 358 = .ok (.goto (-69), 3) := by decide +kernel
theorem dX11_image_361 : decode cX11_image 361 = .ok (.iconst 1, 1) := by decide +kernel
theorem dX11_image_362 : decode cX11_image 362 = .ok (.ireturn, 1) := by decide +kernel
set_option maxRecDepth 20000 in
theorem ggX11_restore_X11_in : GoodIn wsX11_restore wsX11_in := goodIn_r _ [27] (by decide +kernel) (by decide +kernel)
set_option maxRecDepth 20000 in
theorem gX11_restore_X11_in : GoodIn wsX11_restore (va_wsS RX11 151 yX11_in wsX11_in) := goodIn_app (goodIn_of _ (by decide +kernel)) ggX11_restore_X11_in
set_option maxRecDepth 20000 in
theorem ggX11_restore_X11_taken : GoodIn wsX11_restore wsX11_taken := goodIn_r _ [31, 1, 3, 32, 33, 34, 35, 36, 37, 38, 39, 40, 41, 42, 43, 44, 45, 46, 47, 48, 49, 50, 51, 52, 53, 54, 55, 56, 57, 58, 59, 60, 61, 62, 63, 64, 65, 66, 67, 68, 69, 70, 71, 72, 73, 74, 75, 76, 77, 78, 79, 80, 81, 82, 83, 84, 85, 86, 87, 88, 89, 90, 91, 92, 93, 94] (by decide +kernel) (by decide +kernel)
set_option maxRecDepth 20000 in
theorem gX11_restore_X11_taken : GoodIn wsX11_restore (wsV RX11 302 RX11 yX11_taken wsX11_taken) := goodIn_app (goodIn_of _ (by decide +kernel)) ggX11_restore_X11_taken
theorem dX11_restore_0 : decode cX11_restore 0 = .ok (.iload_n 1, 1) := by decide +kernel
theorem dX11_restore_1 : decode cX11_restore 1 = .ok (.iconst 0, 1) := by decide +kernel
theorem dX11_restore_2 : decode cX11_restore 2 = .ok (.iconst 3, 1) := by decide +kernel
theorem dX11_restore_3 : decode cX11_restore 3 = .ok (.invokestatic 151, 3) := by decide +kernel
theorem dX11_restore_6 : decode cX11_restore 6 = .ok (.ifCond .ne 5, 3) := by decide +kernel
theorem dX11_restore_9 : decode cX11_restore 9 = .ok (.iconst (-1), 1) := by decide +kernel
theorem dX11_restore_10 : decode cX11_restore 10 = .ok (.ireturn, 1) := by decide +kernel
theorem dX11_restore_11 : decode cX11_restore 11 = .ok (.aload_n 0, 1) := by decide +kernel
theorem dX11_restore_12 : decode cX11_restore 12 = .ok (.sipush 13400, 3) := by decide +kernel
theorem dX11_restore_15 : decode cX11_restore 15 = .ok (.iload_n 1, 1) := by decide +kernel
theorem dX11_restore_16 : decode cX11_restore 16 = .ok (.imul, 1) := by decide +kernel
theorem dX11_restore_17 : decode cX11_restore 17 = .ok (.putfield 296, 3) := by decide +kernel
theorem dX11_restore_20 : decode cX11_restore 20 = .ok (.aload_n 0, 1) := by decide +kernel
theorem dX11_restore_21 : decode cX11_restore 21 = .ok (.getfield 137, 3) := by decide +kernel
theorem dX11_restore_24 : decode cX11_restore 24 = .ok (.iload_n 1, 1) := by decide +kernel
theorem dX11_restore_25 : decode cX11_restore 25 = .ok (.baload, 1) := by decide +kernel
theorem dX11_restore_26 : decode cX11_restore 26 = .ok (.ifCond .eq 37, 3) := by decide +kernel
theorem dX11_restore_29 : decode cX11_restore 29 = .ok (.aload_n 0, 1) := by decide +kernel
theorem dX11_restore_30 : decode cX11_restore 30 = .ok (.getfield 141, 3) := by decide +kernel
theorem dX11_restore_33 : decode cX11_restore 33 = .ok (.aload_n 0, 1) := by decide +kernel
theorem dX11_restore_34 : decode cX11_restore 34 = .ok (.getfield 296, 3) := by decide +kernel
theorem dX11_restore_37 : decode cX11_restore 37 = .ok (.iaload, 1) := by decide +kernel
theorem dX11_restore_38 : decode cX11_restore 38 = .ok (.aload_n 0, 1) := by decide +kernel
theorem dX11_restore_39 : decode cX11_restore 39 = .ok (.getfield 148, 3) := by decide +kernel
theorem dX11_restore_42 : decode cX11_restore 42 = .ok (.if_icmp .ne 21, 3) := by decide +kernel
theorem dX11_restore_45 : decode cX11_restore 45 = .ok (.aload_n 0, 1) := by decide +kernel
theorem dX11_restore_46 : decode cX11_restore 46 = .ok (.getfield 141, 3) := by decide +kernel
theorem dX11_restore_49 : decode cX11_restore 49 = .ok (.aload_n 0, 1) := by decide +kernel
theorem dX11_restore_50 : decode cX11_restore 50 = .ok (.getfield 296, 3) := by decide +kernel
theorem dX11_restore_53 : decode cX11_restore 53 = .ok (.iconst 1, 1) := by decide +kernel
theorem dX11_restore_54 : decode cX11_restore 54 = .ok (.iadd, 1) := by decide +kernel
theorem dX11_restore_55 : decode cX11_restore 55 = .ok (.iaload, 1) := by decide +kernel
theorem dX11_restore_56 : decode cX11_restore 56 = .ok (.aload_n 0, 1) := by decide +kernel
theorem dX11_restore_57 : decode cX11_restore 57 = .ok (.getfield 155, 3) := by decide +kernel
theorem dX11_restore_60 : decode cX11_restore 60 = .ok (.if_icmp .eq 6, 3) := by decide +kernel
theorem dX11_restore_63 : decode cX11_restore 63 = .ok (.bipush (-2), 2) := by decide +kernel
theorem dX11_restore_65 : decode cX11_restore 65 = .ok (.ireturn, 1) := by decide +kernel
theorem dX11_restore_66 : decode cX11_restore 66 = .ok (.aload_n 0, 1) := by decide +kernel
theorem dX11_restore_67 : decode cX11_restore 67 = .ok (.dup, 1) := by decide +kernel
theorem dX11_restore_68 : decode cX11_restore 68 = .ok (.getfield 296, 3) := by decide +kernel
theorem dX11_restore_71 : decode cX11_restore 71 = .ok (.iconst 2, 1) := by decide +kernel
theorem dX11_restore_72 : decode cX11_restore 72 = .ok (.iadd, 1) := by decide +kernel
theorem dX11_restore_73 : decode cX11_restore 73 = .ok (.putfield 296, 3) := by decide +kernel
theorem dX11_restore_76 : decode cX11_restore 76 = .ok (.iconst 0, 1) := by decide +kernel
theorem dX11_restore_77 : decode cX11_restore 77 = .ok (.istore_n 2, 1) := by decide +kernel
theorem dX11_restore_78 : decode cX11_restore 78 = .ok (.iload_n 2, 1) := by decide +kernel
theorem dX11_restore_79 : decode cX11_restore 79 = .ok (.sipush 128, 3) := by decide +kernel
theorem dX11_restore_82 : decode cX11_restore 82 = .ok (.if_icmp .ge 19, 3) := by decide +kernel
theorem dX11_restore_85 : decode cX11_restore 85 = .ok (.aload_n 0, 1) := by decide +kernel
theorem dX11_restore_86 : decode cX11_restore 86 = .ok (.getfield 31, 3) := by decide +kernel
