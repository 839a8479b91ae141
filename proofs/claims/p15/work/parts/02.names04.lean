theorem dX3_drawWaits_148 : decode cX3_drawWaits 148 = .ok (.iload_n 1, 1) := by decide +kernel
theorem dX3_drawWaits_149 : decode cX3_drawWaits 149 = .ok (.ireturn, 1) := by decide +kernel
set_option maxRecDepth 20000 in
theorem ggX3_lastBegunInRing_X2_close : GoodIn wsX3_lastBegunInRing wsX2_close := goodIn_r _ [8, 9, 10, 11, 12, 13, 14, 15, 45, 46, 47] (by decide +kernel) (by decide +kernel)
set_option maxRecDepth 20000 in
theorem gX3_lastBegunInRing_X2_close : GoodIn wsX3_lastBegunInRing (wsV RX3 290 RX2 yX2_close wsX2_close) := goodIn_app (goodIn_of _ (by decide +kernel)) ggX3_lastBegunInRing_X2_close
set_option maxRecDepth 20000 in
theorem ggX3_lastBegunInRing_X2_isInRing : GoodIn wsX3_lastBegunInRing wsX2_isInRing := goodIn_r _ [19, 10, 45, 46, 47] (by decide +kernel) (by decide +kernel)
set_option maxRecDepth 20000 in
theorem gX3_lastBegunInRing_X2_isInRing : GoodIn wsX3_lastBegunInRing (wsV RX3 293 RX2 yX2_isInRing wsX2_isInRing) := goodIn_app (goodIn_of _ (by decide +kernel)) ggX3_lastBegunInRing_X2_isInRing
set_option maxRecDepth 20000 in
theorem ggX3_lastBegunInRing_X3_isBegunLater : GoodIn wsX3_lastBegunInRing wsX3_isBegunLater := goodIn_r _ [24, 25, 26, 27, 28, 29, 30, 31, 32, 33, 34, 35, 36, 37, 38, 39, 40, 41, 42, 43, 44, 48, 49, 50, 51, 52, 53, 54, 55, 56, 57, 58, 59, 60, 61, 62, 63, 64, 65, 66, 67] (by decide +kernel) (by decide +kernel)
set_option maxRecDepth 20000 in
theorem gX3_lastBegunInRing_X3_isBegunLater : GoodIn wsX3_lastBegunInRing (wsV RX3 296 RX3 yX3_isBegunLater wsX3_isBegunLater) := goodIn_app (goodIn_of _ (by decide +kernel)) ggX3_lastBegunInRing_X3_isBegunLater
theorem dX3_lastBegunInRing_0 : decode cX3_lastBegunInRing 0 = .ok (.aload_n 0, 1) := by decide +kernel
theorem dX3_lastBegunInRing_1 : decode cX3_lastBegunInRing 1 = .ok (.getfield 53, 3) := by decide +kernel
theorem dX3_lastBegunInRing_4 : decode cX3_lastBegunInRing 4 = .ok (.invokevirtual 290, 3) := by decide +kernel
theorem dX3_lastBegunInRing_7 : decode cX3_lastBegunInRing 7 = .ok (.iconst (-1), 1) := by decide +kernel
theorem dX3_lastBegunInRing_8 : decode cX3_lastBegunInRing 8 = .ok (.istore_n 1, 1) := by decide +kernel
theorem dX3_lastBegunInRing_9 : decode cX3_lastBegunInRing 9 = .ok (.iconst 0, 1) := by decide +kernel
theorem dX3_lastBegunInRing_10 : decode cX3_lastBegunInRing 10 = .ok (.istore_n 2, 1) := by decide +kernel
theorem dX3_lastBegunInRing_11 : decode cX3_lastBegunInRing 11 = .ok (.iload_n 2, 1) := by decide +kernel
theorem dX3_lastBegunInRing_12 : decode cX3_lastBegunInRing 12 = .ok (.aload_n 0, 1) := by decide +kernel
theorem dX3_lastBegunInRing_13 : decode cX3_lastBegunInRing 13 = .ok (.getfield 194, 3) := by decide +kernel
theorem dX3_lastBegunInRing_16 : decode cX3_lastBegunInRing 16 = .ok (.if_icmp .ge 46, 3) := by decide +kernel
theorem dX3_lastBegunInRing_19 : decode cX3_lastBegunInRing 19 = .ok (.aload_n 0, 1) := by decide +kernel
theorem dX3_lastBegunInRing_20 : decode cX3_lastBegunInRing 20 = .ok (.getfield 53, 3) := by decide +kernel
theorem dX3_lastBegunInRing_23 : decode cX3_lastBegunInRing 23 = .ok (.iload_n 2, 1) := by decide +kernel
theorem dX3_lastBegunInRing_24 : decode cX3_lastBegunInRing 24 = .ok (.invokevirtual 293, 3) := by decide +kernel
theorem dX3_lastBegunInRing_27 : decode cX3_lastBegunInRing 27 = .ok (.ifCond .eq 29, 3) := by decide +kernel
theorem dX3_lastBegunInRing_30 : decode cX3_lastBegunInRing 30 = .ok (.iload_n 1, 1) := by decide +kernel
theorem dX3_lastBegunInRing_31 : decode cX3_lastBegunInRing 31 = .ok (.iconst (-1), 1) := by decide +kernel
theorem dX3_lastBegunInRing_32 : decode cX3_lastBegunInRing 32 = .ok (.if_icmp .eq 22, 3) := by decide +kernel
theorem dX3_lastBegunInRing_35 : decode cX3_lastBegunInRing 35 = .ok (.aload_n 0, 1) := by decide +kernel
theorem dX3_lastBegunInRing_36 : decode cX3_lastBegunInRing 36 = .ok (.aload_n 0, 1) := by decide +kernel
theorem dX3_lastBegunInRing_37 : decode cX3_lastBegunInRing 37 = .ok (.getfield 37, 3) := by decide +kernel
theorem dX3_lastBegunInRing_40 : decode cX3_lastBegunInRing 40 = .ok (.iload_n 2, 1) := by decide +kernel
theorem dX3_lastBegunInRing_41 : decode cX3_lastBegunInRing 41 = .ok (.iaload, 1) := by decide +kernel
theorem dX3_lastBegunInRing_42 : decode cX3_lastBegunInRing 42 = .ok (.aload_n 0, 1) := by decide +kernel
theorem dX3_lastBegunInRing_43 : decode cX3_lastBegunInRing 43 = .ok (.getfield 37, 3) := by decide +kernel
theorem dX3_lastBegunInRing_46 : decode cX3_lastBegunInRing 46 = .ok (.iload_n 1, 1) := by decide +kernel
theorem dX3_lastBegunInRing_47 : decode cX3_lastBegunInRing 47 = .ok (.iaload, 1) := by decide +kernel
theorem dX3_lastBegunInRing_48 : decode cX3_lastBegunInRing 48 = .ok (.invokevirtual 296, 3) := by decide +kernel
theorem dX3_lastBegunInRing_51 : decode cX3_lastBegunInRing 51 = .ok (.ifCond .eq 5, 3) := by decide +kernel
theorem dX3_lastBegunInRing_54 : decode cX3_lastBegunInRing 54 = .ok (.iload_n 2, 1) := by decide +kernel
theorem dX3_lastBegunInRing_55 : decode cX3_lastBegunInRing 55 = .ok (.istore_n 1, 1) := by decide +kernel
theorem dX3_lastBegunInRing_56 : decode cX3_lastBegunInRing 56 = .ok (.iinc 2 1, 3) := by decide +kernel
theorem dX3_lastBegunInRing_59 : decode cX3_lastBegunInRing 59 = .ok (.goto (-48), 3) := by decide +kernel
theorem dX3_lastBegunInRing_62 : decode cX3_lastBegunInRing 62 = .ok (.iload_n 1, 1) := by decide +kernel
theorem dX3_lastBegunInRing_63 : decode cX3_lastBegunInRing 63 = .ok (.ireturn, 1) := by decide +kernel
theorem dX3_isBegunLater_0 : decode cX3_isBegunLater 0 = .ok (.aload_n 0, 1) := by decide +kernel
theorem dX3_isBegunLater_1 : decode cX3_isBegunLater 1 = .ok (.getfield 27, 3) := by decide +kernel
theorem dX3_isBegunLater_4 : decode cX3_isBegunLater 4 = .ok (.iload_n 1, 1) := by decide +kernel
theorem dX3_isBegunLater_5 : decode cX3_isBegunLater 5 = .ok (.aaload, 1) := by decide +kernel
theorem dX3_isBegunLater_6 : decode cX3_isBegunLater 6 = .ok (.getfield 144, 3) := by decide +kernel
theorem dX3_isBegunLater_9 : decode cX3_isBegunLater 9 = .ok (.istore_n 3, 1) := by decide +kernel
theorem dX3_isBegunLater_10 : decode cX3_isBegunLater 10 = .ok (.aload_n 0, 1) := by decide +kernel
theorem dX3_isBegunLater_11 : decode cX3_isBegunLater 11 = .ok (.getfield 27, 3) := by decide +kernel
theorem dX3_isBegunLater_14 : decode cX3_isBegunLater 14 = .ok (.iload_n 2, 1) := by decide +kernel
theorem dX3_isBegunLater_15 : decode cX3_isBegunLater 15 = .ok (.aaload, 1) := by decide +kernel
theorem dX3_isBegunLater_16 : decode cX3_isBegunLater 16 = .ok (.getfield 144, 3) := by decide +kernel
theorem dX3_isBegunLater_19 : decode cX3_isBegunLater 19 = .ok (.istore 4, 2) := by decide +kernel
theorem dX3_isBegunLater_21 : decode cX3_isBegunLater 21 = .ok (.iload_n 3, 1) := by decide +kernel
theorem dX3_isBegunLater_22 : decode cX3_isBegunLater 22 = .ok (.iload 4, 2) := by decide +kernel
theorem dX3_isBegunLater_24 : decode cX3_isBegunLater 24 = .ok (.if_icmp .eq 17, 3) := by decide +kernel
theorem dX3_isBegunLater_27 : decode cX3_isBegunLater 27 = .ok (.iload_n 3, 1) := by decide +kernel
theorem dX3_isBegunLater_28 : decode cX3_isBegunLater 28 = .ok (.iload 4, 2) := by decide +kernel
theorem dX3_isBegunLater_30 : decode cX3_isBegunLater 30 = .ok (.if_icmp .le 7, 3) := by decide +kernel
theorem dX3_isBegunLater_33 : decode cX3_isBegunLater 33 = .ok (.iconst 1, 1) := by decide +kernel
theorem dX3_isBegunLater_34 : decode cX3_isBegunLater 34 = .ok (.goto 17, 3) := by decide +kernel
theorem dX3_isBegunLater_37 : decode cX3_isBegunLater 37 = .ok (.iconst 0, 1) := by decide +kernel
theorem dX3_isBegunLater_38 : decode cX3_isBegunLater 38 = .ok (.goto 13, 3) := by decide +kernel
theorem dX3_isBegunLater_41 : decode cX3_isBegunLater 41 = .ok (.iload_n 1, 1) := by decide +kernel
theorem dX3_isBegunLater_42 : decode cX3_isBegunLater 42 = .ok (.iload_n 2, 1) := by decide +kernel
theorem dX3_isBegunLater_43 : decode cX3_isBegunLater 43 = .ok (.if_icmp .le 7, 3) := by decide +kernel
theorem dX3_isBegunLater_46 : decode cX3_isBegunLater 46 = .ok (.iconst 1, 1) := by decide +kernel
theorem dX3_isBegunLater_47 : decode cX3_isBegunLater 47 = .ok (.goto 4, 3) := by decide +kernel
theorem dX3_isBegunLater_50 : decode cX3_isBegunLater 50 = .ok (.iconst 0, 1) := by decide +kernel
theorem dX3_isBegunLater_51 : decode cX3_isBegunLater 51 = .ok (.ireturn, 1) := by decide +kernel
set_option maxRecDepth 20000 in
theorem ggX3_undoInRing_X0_undo : GoodIn wsX3_undoInRing wsX0_undo := goodIn_r _ [9, 10, 11, 12, 13, 8, 14, 15, 16, 17, 18, 19, 20, 21, 22, 23, 24, 25, 70, 71, 72, 73, 74, 75, 76, 77, 78, 79, 80, 81, 82, 83, 84, 85, 86, 87, 88, 89] (by decide +kernel) (by decide +kernel)
set_option maxRecDepth 20000 in
theorem gX3_undoInRing_X0_undo : GoodIn wsX3_undoInRing (wsV RX3 299 RX0 yX0_undo wsX0_undo) := goodIn_app (goodIn_of _ (by decide +kernel)) ggX3_undoInRing_X0_undo
set_option maxRecDepth 20000 in
theorem ggX3_undoInRing_X1_write : GoodIn wsX3_undoInRing wsX1_write := goodIn_r _ [30, 31, 32, 33, 34, 35, 24, 36, 37, 38, 39, 40, 41, 42, 43, 44, 45, 46, 47, 48, 49, 50, 51, 90, 91, 92] (by decide +kernel) (by decide +kernel)
set_option maxRecDepth 20000 in
theorem gX3_undoInRing_X1_write : GoodIn wsX3_undoInRing (wsV RX3 245 RX1 yX1_write wsX1_write) := goodIn_app (goodIn_of _ (by decide +kernel)) ggX3_undoInRing_X1_write
theorem dX3_undoInRing_0 : decode cX3_undoInRing 0 = .ok (.aload_n 0, 1) := by decide +kernel
theorem dX3_undoInRing_1 : decode cX3_undoInRing 1 = .ok (.getfield 27, 3) := by decide +kernel
theorem dX3_undoInRing_4 : decode cX3_undoInRing 4 = .ok (.iload_n 1, 1) := by decide +kernel
theorem dX3_undoInRing_5 : decode cX3_undoInRing 5 = .ok (.aaload, 1) := by decide +kernel
theorem dX3_undoInRing_6 : decode cX3_undoInRing 6 = .ok (.invokevirtual 299, 3) := by decide +kernel
theorem dX3_undoInRing_9 : decode cX3_undoInRing 9 = .ok (.aload_n 0, 1) := by decide +kernel
theorem dX3_undoInRing_10 : decode cX3_undoInRing 10 = .ok (.getfield 46, 3) := by decide +kernel
theorem dX3_undoInRing_13 : decode cX3_undoInRing 13 = .ok (.iconst 4, 1) := by decide +kernel
theorem dX3_undoInRing_14 : decode cX3_undoInRing 14 = .ok (.iload_n 1, 1) := by decide +kernel
theorem dX3_undoInRing_15 : decode cX3_undoInRing 15 = .ok (.iconst (-1), 1) := by decide +kernel
theorem dX3_undoInRing_16 : decode cX3_undoInRing 16 = .ok (.aload_n 0, 1) := by decide +kernel
theorem dX3_undoInRing_17 : decode cX3_undoInRing 17 = .ok (.getfield 79, 3) := by decide +kernel
theorem dX3_undoInRing_20 : decode cX3_undoInRing 20 = .ok (.invokevirtual 245, 3) := by decide +kernel
theorem dX3_undoInRing_23 : decode cX3_undoInRing 23 = .ok (.pop, 1) := by decide +kernel
theorem dX3_undoInRing_24 : decode cX3_undoInRing 24 = .ok (.aload_n 0, 1) := by decide +kernel
theorem dX3_undoInRing_25 : decode cX3_undoInRing 25 = .ok (.dup, 1) := by decide +kernel
theorem dX3_undoInRing_26 : decode cX3_undoInRing 26 = .ok (.getfield 167, 3) := by decide +kernel
theorem dX3_undoInRing_29 : decode cX3_undoInRing 29 = .ok (.iconst 1, 1) := by decide +kernel
theorem dX3_undoInRing_30 : decode cX3_undoInRing 30 = .ok (.iadd, 1) := by decide +kernel
theorem dX3_undoInRing_31 : decode cX3_undoInRing 31 = .ok (.putfield 167, 3) := by decide +kernel
theorem dX3_undoInRing_34 : decode cX3_undoInRing 34 = .ok (.return_, 1) := by decide +kernel
set_option maxRecDepth 20000 in
theorem ggX3_beginWaiting_X3_countBegunOfClasses : GoodIn wsX3_beginWaiting wsX3_countBegunOfClasses := goodIn_r _ [17, 7, 1, 2, 6, 8, 18, 19, 20, 21, 61, 62, 63, 64, 65, 66, 67, 68, 69, 70, 71, 72, 73, 74, 75, 76, 77, 78, 79, 80, 81, 82, 83, 84, 85, 86, 87, 88, 89, 90, 91, 92, 93, 94, 95, 96, 97, 98] (by decide +kernel) (by decide +kernel)
set_option maxRecDepth 20000 in
theorem gX3_beginWaiting_X3_countBegunOfClasses : GoodIn wsX3_beginWaiting (wsV RX3 302 RX3 yX3_countBegunOfClasses wsX3_countBegunOfClasses) := goodIn_app (goodIn_of _ (by decide +kernel)) ggX3_beginWaiting_X3_countBegunOfClasses
set_option maxRecDepth 20000 in
theorem ggX3_beginWaiting_X0_begin : GoodIn wsX3_beginWaiting wsX0_begin := goodIn_r _ [26, 27, 28, 29, 30, 31, 32, 33, 34, 35, 36, 37, 79, 80, 81, 82, 83, 84, 85, 86, 87, 88, 89, 90, 91, 92, 93, 94, 95, 96, 97, 98] (by decide +kernel) (by decide +kernel)
set_option maxRecDepth 20000 in
theorem gX3_beginWaiting_X0_begin : GoodIn wsX3_beginWaiting (wsV RX3 305 RX0 yX0_begin wsX0_begin) := goodIn_app (goodIn_of _ (by decide +kernel)) ggX3_beginWaiting_X0_begin
set_option maxRecDepth 20000 in
theorem ggX3_beginWaiting_X1_write : GoodIn wsX3_beginWaiting wsX1_write := goodIn_r _ [42, 43, 44, 45, 46, 47, 20, 48, 49, 50, 51, 52, 53, 54, 55, 56, 57, 58, 59, 60, 30, 31, 32, 99, 100, 101] (by decide +kernel) (by decide +kernel)
set_option maxRecDepth 20000 in
theorem gX3_beginWaiting_X1_write : GoodIn wsX3_beginWaiting (wsV RX3 245 RX1 yX1_write wsX1_write) := goodIn_app (goodIn_of _ (by decide +kernel)) ggX3_beginWaiting_X1_write
theorem dX3_beginWaiting_0 : decode cX3_beginWaiting 0 = .ok (.aload_n 0, 1) := by decide +kernel
theorem dX3_beginWaiting_1 : decode cX3_beginWaiting 1 = .ok (.invokevirtual 302, 3) := by decide +kernel
theorem dX3_beginWaiting_4 : decode cX3_beginWaiting 4 = .ok (.iconst 0, 1) := by decide +kernel
theorem dX3_beginWaiting_5 : decode cX3_beginWaiting 5 = .ok (.istore_n 1, 1) := by decide +kernel
theorem dX3_beginWaiting_6 : decode cX3_beginWaiting 6 = .ok (.iload_n 1, 1) := by decide +kernel
theorem dX3_beginWaiting_7 : decode cX3_beginWaiting 7 = .ok (.aload_n 0, 1) := by decide +kernel
theorem dX3_beginWaiting_8 : decode cX3_beginWaiting 8 = .ok (.getfield 102, 3) := by decide +kernel
theorem dX3_beginWaiting_11 : decode cX3_beginWaiting 11 = .ok (.if_icmp .ge 109, 3) := by decide +kernel
theorem dX3_beginWaiting_14 : decode cX3_beginWaiting 14 = .ok (.aload_n 0, 1) := by decide +kernel
theorem dX3_beginWaiting_15 : decode cX3_beginWaiting 15 = .ok (.getfield 27, 3) := by decide +kernel
theorem dX3_beginWaiting_18 : decode cX3_beginWaiting 18 = .ok (.aload_n 0, 1) := by decide +kernel
theorem dX3_beginWaiting_19 : decode cX3_beginWaiting 19 = .ok (.getfield 31, 3) := by decide +kernel
theorem dX3_beginWaiting_22 : decode cX3_beginWaiting 22 = .ok (.iload_n 1, 1) := by decide +kernel
theorem dX3_beginWaiting_23 : decode cX3_beginWaiting 23 = .ok (.iaload, 1) := by decide +kernel
theorem dX3_beginWaiting_24 : decode cX3_beginWaiting 24 = .ok (.aaload, 1) := by decide +kernel
theorem dX3_beginWaiting_25 : decode cX3_beginWaiting 25 = .ok (.astore_n 2, 1) := by decide +kernel
theorem dX3_beginWaiting_26 : decode cX3_beginWaiting 26 = .ok (.aload_n 0, 1) := by decide +kernel
theorem dX3_beginWaiting_27 : decode cX3_beginWaiting 27 = .ok (.getfield 13, 3) := by decide +kernel
theorem dX3_beginWaiting_30 : decode cX3_beginWaiting 30 = .ok (.aload_n 2, 1) := by decide +kernel
theorem dX3_beginWaiting_31 : decode cX3_beginWaiting 31 = .ok (.getfield 120, 3) := by decide +kernel
theorem dX3_beginWaiting_34 : decode cX3_beginWaiting 34 = .ok (.iaload, 1) := by decide +kernel
theorem dX3_beginWaiting_35 : decode cX3_beginWaiting 35 = .ok (.istore_n 3, 1) := by decide +kernel
theorem dX3_beginWaiting_36 : decode cX3_beginWaiting 36 = .ok (.aload_n 2, 1) := by decide +kernel
theorem dX3_beginWaiting_37 : decode cX3_beginWaiting 37 = .ok (.getfield 117, 3) := by decide +kernel
theorem dX3_beginWaiting_40 : decode cX3_beginWaiting 40 = .ok (.ifCond .ne 74, 3) := by decide +kernel
theorem dX3_beginWaiting_43 : decode cX3_beginWaiting 43 = .ok (.iload_n 3, 1) := by decide +kernel
theorem dX3_beginWaiting_44 : decode cX3_beginWaiting 44 = .ok (.ifCond .le 70, 3) := by decide +kernel
theorem dX3_beginWaiting_47 : decode cX3_beginWaiting 47 = .ok (.aload_n 0, 1) := by decide +kernel
theorem dX3_beginWaiting_48 : decode cX3_beginWaiting 48 = .ok (.getfield 40, 3) := by decide +kernel
theorem dX3_beginWaiting_51 : decode cX3_beginWaiting 51 = .ok (.aload_n 2, 1) := by decide +kernel
theorem dX3_beginWaiting_52 : decode cX3_beginWaiting 52 = .ok (.getfield 123, 3) := by decide +kernel
theorem dX3_beginWaiting_55 : decode cX3_beginWaiting 55 = .ok (.iaload, 1) := by decide +kernel
theorem dX3_beginWaiting_56 : decode cX3_beginWaiting 56 = .ok (.aload_n 0, 1) := by decide +kernel
theorem dX3_beginWaiting_57 : decode cX3_beginWaiting 57 = .ok (.getfield 16, 3) := by decide +kernel
theorem dX3_beginWaiting_60 : decode cX3_beginWaiting 60 = .ok (.aload_n 2, 1) := by decide +kernel
theorem dX3_beginWaiting_61 : decode cX3_beginWaiting 61 = .ok (.getfield 123, 3) := by decide +kernel
theorem dX3_beginWaiting_64 : decode cX3_beginWaiting 64 = .ok (.iaload, 1) := by decide +kernel
theorem dX3_beginWaiting_65 : decode cX3_beginWaiting 65 = .ok (.if_icmp .ge 49, 3) := by decide +kernel
theorem dX3_beginWaiting_68 : decode cX3_beginWaiting 68 = .ok (.aload_n 2, 1) := by decide +kernel
theorem dX3_beginWaiting_69 : decode cX3_beginWaiting 69 = .ok (.aload_n 0, 1) := by decide +kernel
theorem dX3_beginWaiting_70 : decode cX3_beginWaiting 70 = .ok (.getfield 9, 3) := by decide +kernel
theorem dX3_beginWaiting_73 : decode cX3_beginWaiting 73 = .ok (.iload_n 3, 1) := by decide +kernel
theorem dX3_beginWaiting_74 : decode cX3_beginWaiting 74 = .ok (.aload_n 0, 1) := by decide +kernel
theorem dX3_beginWaiting_75 : decode cX3_beginWaiting 75 = .ok (.getfield 79, 3) := by decide +kernel
theorem dX3_beginWaiting_78 : decode cX3_beginWaiting 78 = .ok (.invokevirtual 305, 3) := by decide +kernel
theorem dX3_beginWaiting_81 : decode cX3_beginWaiting 81 = .ok (.aload_n 0, 1) := by decide +kernel
theorem dX3_beginWaiting_82 : decode cX3_beginWaiting 82 = .ok (.getfield 40, 3) := by decide +kernel
theorem dX3_beginWaiting_85 : decode cX3_beginWaiting 85 = .ok (.aload_n 2, 1) := by decide +kernel
theorem dX3_beginWaiting_86 : decode cX3_beginWaiting 86 = .ok (.getfield 123, 3) := by decide +kernel
theorem dX3_beginWaiting_89 : decode cX3_beginWaiting 89 = .ok (.dup2, 1) := by decide +kernel
theorem dX3_beginWaiting_90 : decode cX3_beginWaiting 90 = .ok (.iaload, 1) := by decide +kernel
theorem dX3_beginWaiting_91 : decode cX3_beginWaiting 91 = .ok (.iconst 1, 1) := by decide +kernel
theorem dX3_beginWaiting_92 : decode cX3_beginWaiting 92 = .ok (.iadd, 1) := by decide +kernel
theorem dX3_beginWaiting_93 : decode cX3_beginWaiting 93 = .ok (.iastore, 1) := by decide +kernel
theorem dX3_beginWaiting_94 : decode cX3_beginWaiting 94 = .ok (.aload_n 0, 1) := by decide +kernel
theorem dX3_beginWaiting_95 : decode cX3_beginWaiting 95 = .ok (.getfield 46, 3) := by decide +kernel
theorem dX3_beginWaiting_98 : decode cX3_beginWaiting 98 = .ok (.iconst 0, 1) := by decide +kernel
theorem dX3_beginWaiting_99 : decode cX3_beginWaiting 99 = .ok (.aload_n 0, 1) := by decide +kernel
theorem dX3_beginWaiting_100 : decode cX3_beginWaiting 100 = .ok (.getfield 31, 3) := by decide +kernel
theorem dX3_beginWaiting_103 : decode cX3_beginWaiting 103 = .ok (.iload_n 1, 1) := by decide +kernel
theorem dX3_beginWaiting_104 : decode cX3_beginWaiting 104 = .ok (.iaload, 1) := by decide +kernel
theorem dX3_beginWaiting_105 : decode cX3_beginWaiting 105 = .ok (.iconst (-1), 1) := by decide +kernel
theorem dX3_beginWaiting_106 : decode cX3_beginWaiting 106 = .ok (.aload_n 0, 1) := by decide +kernel
theorem dX3_beginWaiting_107 : decode cX3_beginWaiting 107 = .ok (.getfield 79, 3) := by decide +kernel
theorem dX3_beginWaiting_110 : decode cX3_beginWaiting 110 = .ok (.invokevirtual 245, 3) := by decide +kernel
theorem dX3_beginWaiting_113 : decode cX3_beginWaiting 113 = .ok (.pop, 1) := by decide +kernel
theorem dX3_beginWaiting_114 : decode cX3_beginWaiting 114 = .ok (.iinc 1 1, 3) := by decide +kernel
theorem dX3_beginWaiting_117 : decode cX3_beginWaiting 117 = .ok (.goto (-111), 3) := by decide +kernel
theorem dX3_beginWaiting_120 : decode cX3_beginWaiting 120 = .ok (.return_, 1) := by decide +kernel
set_option maxRecDepth 20000 in
theorem ggX3_countBegunOfClasses_J7_fill_53178 : GoodIn wsX3_countBegunOfClasses wsJ7_fill_53178 := goodIn_r _ [9] (by decide +kernel) (by decide +kernel)
set_option maxRecDepth 20000 in
theorem gX3_countBegunOfClasses_J7_fill_53178 : GoodIn wsX3_countBegunOfClasses (va_wsS RX3 57 yJ7_fill_53178 wsJ7_fill_53178) := goodIn_app (goodIn_of _ (by decide +kernel)) ggX3_countBegunOfClasses_J7_fill_53178
theorem dX3_countBegunOfClasses_0 : decode cX3_countBegunOfClasses 0 = .ok (.aload_n 0, 1) := by decide +kernel
theorem dX3_countBegunOfClasses_1 : decode cX3_countBegunOfClasses 1 = .ok (.getfield 40, 3) := by decide +kernel
theorem dX3_countBegunOfClasses_4 : decode cX3_countBegunOfClasses 4 = .ok (.iconst 0, 1) := by decide +kernel
theorem dX3_countBegunOfClasses_5 : decode cX3_countBegunOfClasses 5 = .ok (.invokestatic 57, 3) := by decide +kernel
theorem dX3_countBegunOfClasses_8 : decode cX3_countBegunOfClasses 8 = .ok (.iconst 0, 1) := by decide +kernel
theorem dX3_countBegunOfClasses_9 : decode cX3_countBegunOfClasses 9 = .ok (.istore_n 1, 1) := by decide +kernel
theorem dX3_countBegunOfClasses_10 : decode cX3_countBegunOfClasses 10 = .ok (.iload_n 1, 1) := by decide +kernel
theorem dX3_countBegunOfClasses_11 : decode cX3_countBegunOfClasses 11 = .ok (.aload_n 0, 1) := by decide +kernel
theorem dX3_countBegunOfClasses_12 : decode cX3_countBegunOfClasses 12 = .ok (.getfield 102, 3) := by decide +kernel
theorem dX3_countBegunOfClasses_15 : decode cX3_countBegunOfClasses 15 = .ok (.if_icmp .ge 40, 3) := by decide +kernel
theorem dX3_countBegunOfClasses_18 : decode cX3_countBegunOfClasses 18 = .ok (.aload_n 0, 1) := by decide +kernel
theorem dX3_countBegunOfClasses_19 : decode cX3_countBegunOfClasses 19 = .ok (.getfield 27, 3) := by decide +kernel
theorem dX3_countBegunOfClasses_22 : decode cX3_countBegunOfClasses 22 = .ok (.iload_n 1, 1) := by decide +kernel
theorem dX3_countBegunOfClasses_23 : decode cX3_countBegunOfClasses 23 = .ok (.aaload, 1) := by decide +kernel
theorem dX3_countBegunOfClasses_24 : decode cX3_countBegunOfClasses 24 = .ok (.getfield 117, 3) := by decide +kernel
theorem dX3_countBegunOfClasses_27 : decode cX3_countBegunOfClasses 27 = .ok (.iconst 1, 1) := by decide +kernel
theorem dX3_countBegunOfClasses_28 : decode cX3_countBegunOfClasses 28 = .ok (.if_icmp .ne 21, 3) := by decide +kernel
theorem dX3_countBegunOfClasses_31 : decode cX3_countBegunOfClasses 31 = .ok (.aload_n 0, 1) := by decide +kernel
theorem dX3_countBegunOfClasses_32 : decode cX3_countBegunOfClasses 32 = .ok (.getfield 40, 3) := by decide +kernel
theorem dX3_countBegunOfClasses_35 : decode cX3_countBegunOfClasses 35 = .ok (.aload_n 0, 1) := by decide +kernel
theorem dX3_countBegunOfClasses_36 : decode cX3_countBegunOfClasses 36 = .ok (.getfield 27, 3) := by decide +kernel
theorem dX3_countBegunOfClasses_39 : decode cX3_countBegunOfClasses 39 = .ok (.iload_n 1, 1) := by decide +kernel
theorem dX3_countBegunOfClasses_40 : decode cX3_countBegunOfClasses 40 = .ok (.aaload, 1) := by decide +kernel
theorem dX3_countBegunOfClasses_41 : decode cX3_countBegunOfClasses 41 = .ok (.getfield 123, 3) := by decide +kernel
theorem dX3_countBegunOfClasses_44 : decode cX3_countBegunOfClasses 44 = .ok (.dup2, 1) := by decide +kernel
theorem dX3_countBegunOfClasses_45 : decode cX3_countBegunOfClasses 45 = .ok (.iaload, 1) := by decide +kernel
theorem dX3_countBegunOfClasses_46 : decode cX3_countBegunOfClasses 46 = .ok (.iconst 1, 1) := by decide +kernel
theorem dX3_countBegunOfClasses_47 : decode cX3_countBegunOfClasses 47 = .ok (.iadd, 1) := by decide +kernel
theorem dX3_countBegunOfClasses_48 : decode cX3_countBegunOfClasses 48 = .ok (.iastore, 1) := by decide +kernel
theorem dX3_countBegunOfClasses_49 : decode cX3_countBegunOfClasses 49 = .ok (.iinc 1 1, 3) := by decide +kernel
theorem dX3_countBegunOfClasses_52 : decode cX3_countBegunOfClasses 52 = .ok (.goto (-42), 3) := by decide +kernel
theorem dX3_countBegunOfClasses_55 : decode cX3_countBegunOfClasses 55 = .ok (.return_, 1) := by decide +kernel
set_option maxRecDepth 20000 in
theorem ggX3_answerDone_X1_keepAll : GoodIn wsX3_answerDone wsX1_keepAll := goodIn_r _ [10, 11, 12, 51, 52, 53] (by decide +kernel) (by decide +kernel)
set_option maxRecDepth 20000 in
theorem gX3_answerDone_X1_keepAll : GoodIn wsX3_answerDone (wsV RX3 96 RX1 yX1_keepAll wsX1_keepAll) := goodIn_app (goodIn_of _ (by decide +kernel)) ggX3_answerDone_X1_keepAll
theorem dX3_answerDone_0 : decode cX3_answerDone 0 = .ok (.aload_n 0, 1) := by decide +kernel
theorem dX3_answerDone_1 : decode cX3_answerDone 1 = .ok (.getfield 46, 3) := by decide +kernel
theorem dX3_answerDone_4 : decode cX3_answerDone 4 = .ok (.invokevirtual 96, 3) := by decide +kernel
theorem dX3_answerDone_7 : decode cX3_answerDone 7 = .ok (.iconst 0, 1) := by decide +kernel
theorem dX3_answerDone_8 : decode cX3_answerDone 8 = .ok (.istore_n 1, 1) := by decide +kernel
theorem dX3_answerDone_9 : decode cX3_answerDone 9 = .ok (.iload_n 1, 1) := by decide +kernel
theorem dX3_answerDone_10 : decode cX3_answerDone 10 = .ok (.aload_n 0, 1) := by decide +kernel
theorem dX3_answerDone_11 : decode cX3_answerDone 11 = .ok (.getfield 154, 3) := by decide +kernel
theorem dX3_answerDone_14 : decode cX3_answerDone 14 = .ok (.if_icmp .ge 24, 3) := by decide +kernel
theorem dX3_answerDone_17 : decode cX3_answerDone 17 = .ok (.aload_n 0, 1) := by decide +kernel
theorem dX3_answerDone_18 : decode cX3_answerDone 18 = .ok (.getfield 27, 3) := by decide +kernel
theorem dX3_answerDone_21 : decode cX3_answerDone 21 = .ok (.aload_n 0, 1) := by decide +kernel
theorem dX3_answerDone_22 : decode cX3_answerDone 22 = .ok (.getfield 34, 3) := by decide +kernel
theorem dX3_answerDone_25 : decode cX3_answerDone 25 = .ok (.iload_n 1, 1) := by decide +kernel
theorem dX3_answerDone_26 : decode cX3_answerDone 26 = .ok (.iaload, 1) := by decide +kernel
theorem dX3_answerDone_27 : decode cX3_answerDone 27 = .ok (.aaload, 1) := by decide +kernel
theorem dX3_answerDone_28 : decode cX3_answerDone 28 = .ok (.iconst 3, 1) := by decide +kernel
theorem dX3_answerDone_29 : decode cX3_answerDone 29 = .ok (.putfield 117, 3) := by decide +kernel
theorem dX3_answerDone_32 : decode cX3_answerDone 32 = .ok (.iinc 1 1, 3) := by decide +kernel
theorem dX3_answerDone_35 : decode cX3_answerDone 35 = .ok (.goto (-26), 3) := by decide +kernel
theorem dX3_answerDone_38 : decode cX3_answerDone 38 = .ok (.return_, 1) := by decide +kernel
theorem dX3_isLost_0 : decode cX3_isLost 0 = .ok (.aload_n 0, 1) := by decide +kernel
theorem dX3_isLost_1 : decode cX3_isLost 1 = .ok (.getfield 27, 3) := by decide +kernel
theorem dX3_isLost_4 : decode cX3_isLost 4 = .ok (.iload_n 1, 1) := by decide +kernel
theorem dX3_isLost_5 : decode cX3_isLost 5 = .ok (.aaload, 1) := by decide +kernel
theorem dX3_isLost_6 : decode cX3_isLost 6 = .ok (.getfield 117, 3) := by decide +kernel
theorem dX3_isLost_9 : decode cX3_isLost 9 = .ok (.iconst 2, 1) := by decide +kernel
theorem dX3_isLost_10 : decode cX3_isLost 10 = .ok (.if_icmp .ne 26, 3) := by decide +kernel
theorem dX3_isLost_13 : decode cX3_isLost 13 = .ok (.aload_n 0, 1) := by decide +kernel
theorem dX3_isLost_14 : decode cX3_isLost 14 = .ok (.getfield 27, 3) := by decide +kernel
theorem dX3_isLost_17 : decode cX3_isLost 17 = .ok (.iload_n 1, 1) := by decide +kernel
theorem dX3_isLost_18 : decode cX3_isLost 18 = .ok (.aaload, 1) := by decide +kernel
theorem dX3_isLost_19 : decode cX3_isLost 19 = .ok (.getfield 258, 3) := by decide +kernel
theorem dX3_isLost_22 : decode cX3_isLost 22 = .ok (.aload_n 0, 1) := by decide +kernel
theorem dX3_isLost_23 : decode cX3_isLost 23 = .ok (.getfield 46, 3) := by decide +kernel
theorem dX3_isLost_26 : decode cX3_isLost 26 = .ok (.getfield 86, 3) := by decide +kernel
theorem dX3_isLost_29 : decode cX3_isLost 29 = .ok (.if_icmp .lt 7, 3) := by decide +kernel
theorem dX3_isLost_32 : decode cX3_isLost 32 = .ok (.iconst 1, 1) := by decide +kernel
theorem dX3_isLost_33 : decode cX3_isLost 33 = .ok (.goto 4, 3) := by decide +kernel
theorem dX3_isLost_36 : decode cX3_isLost 36 = .ok (.iconst 0, 1) := by decide +kernel
theorem dX3_isLost_37 : decode cX3_isLost 37 = .ok (.ireturn, 1) := by decide +kernel
set_option maxRecDepth 20000 in
theorem ggX3_fallAct_X3_isLost : GoodIn wsX3_fallAct wsX3_isLost := goodIn_r _ [11, 1, 3, 4, 5, 6, 34, 35, 36, 37, 38, 39, 40, 41, 42, 43, 44, 45, 46, 47, 48, 49, 50, 51, 52, 53, 54, 55, 56, 57, 58, 59, 60, 61, 62, 63, 64, 65, 66, 67, 68, 69, 70, 71, 72, 73, 74] (by decide +kernel) (by decide +kernel)
set_option maxRecDepth 20000 in
theorem gX3_fallAct_X3_isLost : GoodIn wsX3_fallAct (wsV RX3 105 RX3 yX3_isLost wsX3_isLost) := goodIn_app (goodIn_of _ (by decide +kernel)) ggX3_fallAct_X3_isLost
set_option maxRecDepth 20000 in
theorem ggX3_fallAct_X0_leave : GoodIn wsX3_fallAct wsX0_leave := goodIn_r _ [16, 17, 18, 19, 20, 21, 22, 23, 24, 25, 26, 27, 52, 53, 54, 55, 56, 57, 58, 59, 60, 61, 62, 63, 64, 65, 66, 67, 68, 69, 70, 71] (by decide +kernel) (by decide +kernel)
set_option maxRecDepth 20000 in
theorem gX3_fallAct_X0_leave : GoodIn wsX3_fallAct (wsV RX3 255 RX0 yX0_leave wsX0_leave) := goodIn_app (goodIn_of _ (by decide +kernel)) ggX3_fallAct_X0_leave
set_option maxRecDepth 20000 in
theorem ggX3_fallAct_X0_undo : GoodIn wsX3_fallAct wsX0_undo := goodIn_r _ [31, 32, 33, 13, 14, 15, 16, 17, 18, 19, 20, 21, 22, 23, 24, 25, 26, 27, 52, 53, 54, 55, 56, 57, 58, 59, 60, 61, 62, 63, 64, 65, 66, 67, 68, 69, 70, 71] (by decide +kernel) (by decide +kernel)
set_option maxRecDepth 20000 in
theorem gX3_fallAct_X0_undo : GoodIn wsX3_fallAct (wsV RX3 299 RX0 yX0_undo wsX0_undo) := goodIn_app (goodIn_of _ (by decide +kernel)) ggX3_fallAct_X0_undo
theorem dX3_fallAct_0 : decode cX3_fallAct 0 = .ok (.aload_n 0, 1) := by decide +kernel
theorem dX3_fallAct_1 : decode cX3_fallAct 1 = .ok (.getfield 27, 3) := by decide +kernel
theorem dX3_fallAct_4 : decode cX3_fallAct 4 = .ok (.iload_n 1, 1) := by decide +kernel
theorem dX3_fallAct_5 : decode cX3_fallAct 5 = .ok (.aaload, 1) := by decide +kernel
theorem dX3_fallAct_6 : decode cX3_fallAct 6 = .ok (.astore_n 2, 1) := by decide +kernel
theorem dX3_fallAct_7 : decode cX3_fallAct 7 = .ok (.aload_n 2, 1) := by decide +kernel
theorem dX3_fallAct_8 : decode cX3_fallAct 8 = .ok (.getfield 141, 3) := by decide +kernel
theorem dX3_fallAct_11 : decode cX3_fallAct 11 = .ok (.iconst (-1), 1) := by decide +kernel
theorem dX3_fallAct_12 : decode cX3_fallAct 12 = .ok (.if_icmp .eq 22, 3) := by decide +kernel
theorem dX3_fallAct_15 : decode cX3_fallAct 15 = .ok (.aload_n 0, 1) := by decide +kernel
theorem dX3_fallAct_16 : decode cX3_fallAct 16 = .ok (.aload_n 2, 1) := by decide +kernel
theorem dX3_fallAct_17 : decode cX3_fallAct 17 = .ok (.getfield 141, 3) := by decide +kernel
theorem dX3_fallAct_20 : decode cX3_fallAct 20 = .ok (.invokevirtual 105, 3) := by decide +kernel
theorem dX3_fallAct_23 : decode cX3_fallAct 23 = .ok (.ifCond .eq 11, 3) := by decide +kernel
theorem dX3_fallAct_26 : decode cX3_fallAct 26 = .ok (.aload_n 2, 1) := by decide +kernel
theorem dX3_fallAct_27 : decode cX3_fallAct 27 = .ok (.iconst 4, 1) := by decide +kernel
theorem dX3_fallAct_28 : decode cX3_fallAct 28 = .ok (.invokevirtual 255, 3) := by decide +kernel
theorem dX3_fallAct_31 : decode cX3_fallAct 31 = .ok (.goto 69, 3) := by decide +kernel
theorem dX3_fallAct_34 : decode cX3_fallAct 34 = .ok (.aload_n 2, 1) := by decide +kernel
theorem dX3_fallAct_35 : decode cX3_fallAct 35 = .ok (.getfield 117, 3) := by decide +kernel
theorem dX3_fallAct_38 : decode cX3_fallAct 38 = .ok (.iconst 1, 1) := by decide +kernel
theorem dX3_fallAct_39 : decode cX3_fallAct 39 = .ok (.if_icmp .eq 11, 3) := by decide +kernel
theorem dX3_fallAct_42 : decode cX3_fallAct 42 = .ok (.aload_n 0, 1) := by decide +kernel
theorem dX3_fallAct_43 : decode cX3_fallAct 43 = .ok (.iload_n 1, 1) := by decide +kernel
theorem dX3_fallAct_44 : decode cX3_fallAct 44 = .ok (.invokevirtual 105, 3) := by decide +kernel
theorem dX3_fallAct_47 : decode cX3_fallAct 47 = .ok (.ifCond .eq 10, 3) := by decide +kernel
theorem dX3_fallAct_50 : decode cX3_fallAct 50 = .ok (.aload_n 2, 1) := by decide +kernel
theorem dX3_fallAct_51 : decode cX3_fallAct 51 = .ok (.invokevirtual 299, 3) := by decide +kernel
theorem dX3_fallAct_54 : decode cX3_fallAct 54 = .ok (.goto 46, 3) := by decide +kernel
theorem dX3_fallAct_57 : decode cX3_fallAct 57 = .ok (.aload_n 2, 1) := by decide +kernel
theorem dX3_fallAct_58 : decode cX3_fallAct 58 = .ok (.getfield 117, 3) := by decide +kernel
theorem dX3_fallAct_61 : decode cX3_fallAct 61 = .ok (.iconst 4, 1) := by decide +kernel
theorem dX3_fallAct_62 : decode cX3_fallAct 62 = .ok (.if_icmp .ne 25, 3) := by decide +kernel
theorem dX3_fallAct_65 : decode cX3_fallAct 65 = .ok (.aload_n 2, 1) := by decide +kernel
theorem dX3_fallAct_66 : decode cX3_fallAct 66 = .ok (.getfield 258, 3) := by decide +kernel
theorem dX3_fallAct_69 : decode cX3_fallAct 69 = .ok (.aload_n 0, 1) := by decide +kernel
theorem dX3_fallAct_70 : decode cX3_fallAct 70 = .ok (.getfield 46, 3) := by decide +kernel
theorem dX3_fallAct_73 : decode cX3_fallAct 73 = .ok (.getfield 86, 3) := by decide +kernel
theorem dX3_fallAct_76 : decode cX3_fallAct 76 = .ok (.if_icmp .lt 11, 3) := by decide +kernel
theorem dX3_fallAct_79 : decode cX3_fallAct 79 = .ok (.aload_n 2, 1) := by decide +kernel
theorem dX3_fallAct_80 : decode cX3_fallAct 80 = .ok (.iconst 0, 1) := by decide +kernel
theorem dX3_fallAct_81 : decode cX3_fallAct 81 = .ok (.invokevirtual 255, 3) := by decide +kernel
theorem dX3_fallAct_84 : decode cX3_fallAct 84 = .ok (.goto 16, 3) := by decide +kernel
theorem dX3_fallAct_87 : decode cX3_fallAct 87 = .ok (.aload_n 2, 1) := by decide +kernel
theorem dX3_fallAct_88 : decode cX3_fallAct 88 = .ok (.getfield 117, 3) := by decide +kernel
theorem dX3_fallAct_91 : decode cX3_fallAct 91 = .ok (.iconst 2, 1) := by decide +kernel
theorem dX3_fallAct_92 : decode cX3_fallAct 92 = .ok (.if_icmp .ne 8, 3) := by decide +kernel
theorem dX3_fallAct_95 : decode cX3_fallAct 95 = .ok (.aload_n 2, 1) := by decide +kernel
theorem dX3_fallAct_96 : decode cX3_fallAct 96 = .ok (.iconst 3, 1) := by decide +kernel
theorem dX3_fallAct_97 : decode cX3_fallAct 97 = .ok (.putfield 117, 3) := by decide +kernel
theorem dX3_fallAct_100 : decode cX3_fallAct 100 = .ok (.return_, 1) := by decide +kernel
theorem dX3_dropUndoneFromRow_0 : decode cX3_dropUndoneFromRow 0 = .ok (.iconst 0, 1) := by decide +kernel
theorem dX3_dropUndoneFromRow_1 : decode cX3_dropUndoneFromRow 1 = .ok (.istore_n 1, 1) := by decide +kernel
theorem dX3_dropUndoneFromRow_2 : decode cX3_dropUndoneFromRow 2 = .ok (.iconst 0, 1) := by decide +kernel
theorem dX3_dropUndoneFromRow_3 : decode cX3_dropUndoneFromRow 3 = .ok (.istore_n 2, 1) := by decide +kernel
theorem dX3_dropUndoneFromRow_4 : decode cX3_dropUndoneFromRow 4 = .ok (.iload_n 2, 1) := by decide +kernel
theorem dX3_dropUndoneFromRow_5 : decode cX3_dropUndoneFromRow 5 = .ok (.aload_n 0, 1) := by decide +kernel
theorem dX3_dropUndoneFromRow_6 : decode cX3_dropUndoneFromRow 6 = .ok (.getfield 154, 3) := by decide +kernel
theorem dX3_dropUndoneFromRow_9 : decode cX3_dropUndoneFromRow 9 = .ok (.if_icmp .ge 42, 3) := by decide +kernel
theorem dX3_dropUndoneFromRow_12 : decode cX3_dropUndoneFromRow 12 = .ok (.aload_n 0, 1) := by decide +kernel
theorem dX3_dropUndoneFromRow_13 : decode cX3_dropUndoneFromRow 13 = .ok (.getfield 27, 3) := by decide +kernel
theorem dX3_dropUndoneFromRow_16 : decode cX3_dropUndoneFromRow 16 = .ok (.aload_n 0, 1) := by decide +kernel
theorem dX3_dropUndoneFromRow_17 : decode cX3_dropUndoneFromRow 17 = .ok (.getfield 34, 3) := by decide +kernel
theorem dX3_dropUndoneFromRow_20 : decode cX3_dropUndoneFromRow 20 = .ok (.iload_n 2, 1) := by decide +kernel
theorem dX3_dropUndoneFromRow_21 : decode cX3_dropUndoneFromRow 21 = .ok (.iaload, 1) := by decide +kernel
theorem dX3_dropUndoneFromRow_22 : decode cX3_dropUndoneFromRow 22 = .ok (.aaload, 1) := by decide +kernel
theorem dX3_dropUndoneFromRow_23 : decode cX3_dropUndoneFromRow 23 = .ok (.getfield 117, 3) := by decide +kernel
theorem dX3_dropUndoneFromRow_26 : decode cX3_dropUndoneFromRow 26 = .ok (.iconst 3, 1) := by decide +kernel
theorem dX3_dropUndoneFromRow_27 : decode cX3_dropUndoneFromRow 27 = .ok (.if_icmp .ne 18, 3) := by decide +kernel
theorem dX3_dropUndoneFromRow_30 : decode cX3_dropUndoneFromRow 30 = .ok (.aload_n 0, 1) := by decide +kernel
theorem dX3_dropUndoneFromRow_31 : decode cX3_dropUndoneFromRow 31 = .ok (.getfield 34, 3) := by decide +kernel
theorem dX3_dropUndoneFromRow_34 : decode cX3_dropUndoneFromRow 34 = .ok (.iload_n 1, 1) := by decide +kernel
theorem dX3_dropUndoneFromRow_35 : decode cX3_dropUndoneFromRow 35 = .ok (.aload_n 0, 1) := by decide +kernel
theorem dX3_dropUndoneFromRow_36 : decode cX3_dropUndoneFromRow 36 = .ok (.getfield 34, 3) := by decide +kernel
theorem dX3_dropUndoneFromRow_39 : decode cX3_dropUndoneFromRow 39 = .ok (.iload_n 2, 1) := by decide +kernel
theorem dX3_dropUndoneFromRow_40 : decode cX3_dropUndoneFromRow 40 = .ok (.iaload, 1) := by decide +kernel
theorem dX3_dropUndoneFromRow_41 : decode cX3_dropUndoneFromRow 41 = .ok (.iastore, 1) := by decide +kernel
theorem dX3_dropUndoneFromRow_42 : decode cX3_dropUndoneFromRow 42 = .ok (.iinc 1 1, 3) := by decide +kernel
theorem dX3_dropUndoneFromRow_45 : decode cX3_dropUndoneFromRow 45 = .ok (.iinc 2 1, 3) := by decide +kernel
theorem dX3_dropUndoneFromRow_48 : decode cX3_dropUndoneFromRow 48 = .ok (.goto (-44), 3) := by decide +kernel
theorem dX3_dropUndoneFromRow_51 : decode cX3_dropUndoneFromRow 51 = .ok (.aload_n 0, 1) := by decide +kernel
theorem dX3_dropUndoneFromRow_52 : decode cX3_dropUndoneFromRow 52 = .ok (.iload_n 1, 1) := by decide +kernel
theorem dX3_dropUndoneFromRow_53 : decode cX3_dropUndoneFromRow 53 = .ok (.putfield 154, 3) := by decide +kernel
theorem dX3_dropUndoneFromRow_56 : decode cX3_dropUndoneFromRow 56 = .ok (.return_, 1) := by decide +kernel
set_option maxRecDepth 20000 in
theorem ggX3_retellValues_J7_fill_53178 : GoodIn wsX3_retellValues wsJ7_fill_53178 := goodIn_r _ [8] (by decide +kernel) (by decide +kernel)
set_option maxRecDepth 20000 in
theorem gX3_retellValues_J7_fill_53178 : GoodIn wsX3_retellValues (va_wsS RX3 57 yJ7_fill_53178 wsJ7_fill_53178) := goodIn_app (goodIn_of _ (by decide +kernel)) ggX3_retellValues_J7_fill_53178
set_option maxRecDepth 20000 in
theorem ggX3_retellValues_X3_tellValues : GoodIn wsX3_retellValues wsX3_tellValues := goodIn_r _ [13, 1, 14, 15, 16, 17, 18, 19, 20, 21, 22, 23, 24, 25, 26, 27, 28, 29, 30, 31, 32, 33, 34, 35, 36, 37, 38, 39, 40, 41, 42, 43, 44, 45, 46, 47, 48, 49, 50, 51, 52, 53, 54, 55, 56, 57, 58, 59] (by decide +kernel) (by decide +kernel)
set_option maxRecDepth 20000 in
theorem gX3_retellValues_X3_tellValues : GoodIn wsX3_retellValues (wsV RX3 261 RX3 yX3_tellValues wsX3_tellValues) := goodIn_app (goodIn_of _ (by decide +kernel)) ggX3_retellValues_X3_tellValues
theorem dX3_retellValues_0 : decode cX3_retellValues 0 = .ok (.aload_n 0, 1) := by decide +kernel
theorem dX3_retellValues_1 : decode cX3_retellValues 1 = .ok (.getfield 22, 3) := by decide +kernel
theorem dX3_retellValues_4 : decode cX3_retellValues 4 = .ok (.iconst 0, 1) := by decide +kernel
theorem dX3_retellValues_5 : decode cX3_retellValues 5 = .ok (.invokestatic 57, 3) := by decide +kernel
theorem dX3_retellValues_8 : decode cX3_retellValues 8 = .ok (.iconst 0, 1) := by decide +kernel
theorem dX3_retellValues_9 : decode cX3_retellValues 9 = .ok (.istore_n 1, 1) := by decide +kernel
theorem dX3_retellValues_10 : decode cX3_retellValues 10 = .ok (.iload_n 1, 1) := by decide +kernel
theorem dX3_retellValues_11 : decode cX3_retellValues 11 = .ok (.aload_n 0, 1) := by decide +kernel
theorem dX3_retellValues_12 : decode cX3_retellValues 12 = .ok (.getfield 154, 3) := by decide +kernel
theorem dX3_retellValues_15 : decode cX3_retellValues 15 = .ok (.if_icmp .ge 24, 3) := by decide +kernel
theorem dX3_retellValues_18 : decode cX3_retellValues 18 = .ok (.aload_n 0, 1) := by decide +kernel
theorem dX3_retellValues_19 : decode cX3_retellValues 19 = .ok (.aload_n 0, 1) := by decide +kernel
theorem dX3_retellValues_20 : decode cX3_retellValues 20 = .ok (.getfield 27, 3) := by decide +kernel
theorem dX3_retellValues_23 : decode cX3_retellValues 23 = .ok (.aload_n 0, 1) := by decide +kernel
theorem dX3_retellValues_24 : decode cX3_retellValues 24 = .ok (.getfield 34, 3) := by decide +kernel
theorem dX3_retellValues_27 : decode cX3_retellValues 27 = .ok (.iload_n 1, 1) := by decide +kernel
theorem dX3_retellValues_28 : decode cX3_retellValues 28 = .ok (.iaload, 1) := by decide +kernel
theorem dX3_retellValues_29 : decode cX3_retellValues 29 = .ok (.aaload, 1) := by decide +kernel
theorem dX3_retellValues_30 : decode cX3_retellValues 30 = .ok (.invokevirtual 261, 3) := by decide +kernel
theorem dX3_retellValues_33 : decode cX3_retellValues 33 = .ok (.iinc 1 1, 3) := by decide +kernel
theorem dX3_retellValues_36 : decode cX3_retellValues 36 = .ok (.goto (-26), 3) := by decide +kernel
theorem dX3_retellValues_39 : decode cX3_retellValues 39 = .ok (.return_, 1) := by decide +kernel
theorem dX4_init_0 : decode cX4_init 0 = .ok (.aload_n 0, 1) := by decide +kernel
theorem dX4_init_1 : decode cX4_init 1 = .ok (.invokespecial 1, 3) := by decide +kernel
theorem dX4_init_4 : decode cX4_init 4 = .ok (.aload_n 0, 1) := by decide +kernel
theorem dX4_init_5 : decode cX4_init 5 = .ok (.bipush 24, 2) := by decide +kernel
theorem dX4_init_7 : decode cX4_init 7 = .ok (.newarray .int, 2) := by decide +kernel
theorem dX4_init_9 : decode cX4_init 9 = .ok (.putfield 9, 3) := by decide +kernel
theorem dX4_init_12 : decode cX4_init 12 = .ok (.aload_n 0, 1) := by decide +kernel
theorem dX4_init_13 : decode cX4_init 13 = .ok (.bipush 8, 2) := by decide +kernel
theorem dX4_init_15 : decode cX4_init 15 = .ok (.newarray .int, 2) := by decide +kernel
theorem dX4_init_17 : decode cX4_init 17 = .ok (.putfield 13, 3) := by decide +kernel
theorem dX4_init_20 : decode cX4_init 20 = .ok (.aload_n 0, 1) := by decide +kernel
theorem dX4_init_21 : decode cX4_init 21 = .ok (.bipush 8, 2) := by decide +kernel
theorem dX4_init_23 : decode cX4_init 23 = .ok (.newarray .int, 2) := by decide +kernel
theorem dX4_init_25 : decode cX4_init 25 = .ok (.putfield 16, 3) := by decide +kernel
theorem dX4_init_28 : decode cX4_init 28 = .ok (.aload_n 0, 1) := by decide +kernel
theorem dX4_init_29 : decode cX4_init 29 = .ok (.iconst 4, 1) := by decide +kernel
theorem dX4_init_30 : decode cX4_init 30 = .ok (.newarray .int, 2) := by decide +kernel
theorem dX4_init_32 : decode cX4_init 32 = .ok (.dup, 1) := by decide +kernel
theorem dX4_init_33 : decode cX4_init 33 = .ok (.iconst 0, 1) := by decide +kernel
theorem dX4_init_34 : decode cX4_init 34 = .ok (.iconst 3, 1) := by decide +kernel
theorem dX4_init_35 : decode cX4_init 35 = .ok (.iastore, 1) := by decide +kernel
theorem dX4_init_36 : decode cX4_init 36 = .ok (.dup, 1) := by decide +kernel
theorem dX4_init_37 : decode cX4_init 37 = .ok (.iconst 1, 1) := by decide +kernel
theorem dX4_init_38 : decode cX4_init 38 = .ok (.iconst 3, 1) := by decide +kernel
theorem dX4_init_39 : decode cX4_init 39 = .ok (.iastore, 1) := by decide +kernel
theorem dX4_init_40 : decode cX4_init 40 = .ok (.dup, 1) := by decide +kernel
theorem dX4_init_41 : decode cX4_init 41 = .ok (.iconst 2, 1) := by decide +kernel
theorem dX4_init_42 : decode cX4_init 42 = .ok (.iconst 3, 1) := by decide +kernel
theorem dX4_init_43 : decode cX4_init 43 = .ok (.iastore, 1) := by decide +kernel
theorem dX4_init_44 : decode cX4_init 44 = .ok (.dup, 1) := by decide +kernel
theorem dX4_init_45 : decode cX4_init 45 = .ok (.iconst 3, 1) := by decide +kernel
theorem dX4_init_46 : decode cX4_init 46 = .ok (.iconst 3, 1) := by decide +kernel
theorem dX4_init_47 : decode cX4_init 47 = .ok (.iastore, 1) := by decide +kernel
theorem dX4_init_48 : decode cX4_init 48 = .ok (.putfield 19, 3) := by decide +kernel
theorem dX4_init_51 : decode cX4_init 51 = .ok (.aload_n 0, 1) := by decide +kernel
theorem dX4_init_52 : decode cX4_init 52 = .ok (.bipush 8, 2) := by decide +kernel
theorem dX4_init_54 : decode cX4_init 54 = .ok (.newarray .int, 2) := by decide +kernel
theorem dX4_init_56 : decode cX4_init 56 = .ok (.putfield 22, 3) := by decide +kernel
theorem dX4_init_59 : decode cX4_init 59 = .ok (.aload_n 0, 1) := by decide +kernel
theorem dX4_init_60 : decode cX4_init 60 = .ok (.bipush 96, 2) := by decide +kernel
theorem dX4_init_62 : decode cX4_init 62 = .ok (.newarray .int, 2) := by decide +kernel
theorem dX4_init_64 : decode cX4_init 64 = .ok (.putfield 25, 3) := by decide +kernel
theorem dX4_init_67 : decode cX4_init 67 = .ok (.aload_n 0, 1) := by decide +kernel
theorem dX4_init_68 : decode cX4_init 68 = .ok (.bipush 80, 2) := by decide +kernel
theorem dX4_init_70 : decode cX4_init 70 = .ok (.newarray .int, 2) := by decide +kernel
theorem dX4_init_72 : decode cX4_init 72 = .ok (.putfield 28, 3) := by decide +kernel
theorem dX4_init_75 : decode cX4_init 75 = .ok (.aload_n 0, 1) := by decide +kernel
theorem dX4_init_76 : decode cX4_init 76 = .ok (.bipush 80, 2) := by decide +kernel
theorem dX4_init_78 : decode cX4_init 78 = .ok (.newarray .int, 2) := by decide +kernel
theorem dX4_init_80 : decode cX4_init 80 = .ok (.putfield 31, 3) := by decide +kernel
theorem dX4_init_83 : decode cX4_init 83 = .ok (.aload_n 0, 1) := by decide +kernel
theorem dX4_init_84 : decode cX4_init 84 = .ok (.bipush 80, 2) := by decide +kernel
theorem dX4_init_86 : decode cX4_init 86 = .ok (.newarray .int, 2) := by decide +kernel
theorem dX4_init_88 : decode cX4_init 88 = .ok (.putfield 34, 3) := by decide +kernel
theorem dX4_init_91 : decode cX4_init 91 = .ok (.aload_n 0, 1) := by decide +kernel
theorem dX4_init_92 : decode cX4_init 92 = .ok (.bipush 80, 2) := by decide +kernel
theorem dX4_init_94 : decode cX4_init 94 = .ok (.newarray .int, 2) := by decide +kernel
theorem dX4_init_96 : decode cX4_init 96 = .ok (.putfield 37, 3) := by decide +kernel
theorem dX4_init_99 : decode cX4_init 99 = .ok (.aload_n 0, 1) := by decide +kernel
theorem dX4_init_100 : decode cX4_init 100 = .ok (.bipush 80, 2) := by decide +kernel
theorem dX4_init_102 : decode cX4_init 102 = .ok (.newarray .int, 2) := by decide +kernel
theorem dX4_init_104 : decode cX4_init 104 = .ok (.putfield 40, 3) := by decide +kernel
theorem dX4_init_107 : decode cX4_init 107 = .ok (.aload_n 0, 1) := by decide +kernel
theorem dX4_init_108 : decode cX4_init 108 = .ok (.sipush 960, 3) := by decide +kernel
theorem dX4_init_111 : decode cX4_init 111 = .ok (.newarray .int, 2) := by decide +kernel
theorem dX4_init_113 : decode cX4_init 113 = .ok (.putfield 43, 3) := by decide +kernel
theorem dX4_init_116 : decode cX4_init 116 = .ok (.aload_n 0, 1) := by decide +kernel
theorem dX4_init_117 : decode cX4_init 117 = .ok (.bipush 80, 2) := by decide +kernel
theorem dX4_init_119 : decode cX4_init 119 = .ok (.newarray .int, 2) := by decide +kernel
theorem dX4_init_121 : decode cX4_init 121 = .ok (.putfield 46, 3) := by decide +kernel
theorem dX4_init_124 : decode cX4_init 124 = .ok (.aload_n 0, 1) := by decide +kernel
theorem dX4_init_125 : decode cX4_init 125 = .ok (.bipush 80, 2) := by decide +kernel
theorem dX4_init_127 : decode cX4_init 127 = .ok (.newarray .int, 2) := by decide +kernel
theorem dX4_init_129 : decode cX4_init 129 = .ok (.putfield 49, 3) := by decide +kernel
theorem dX4_init_132 : decode cX4_init 132 = .ok (.aload_n 0, 1) := by decide +kernel
theorem dX4_init_133 : decode cX4_init 133 = .ok (.bipush 80, 2) := by decide +kernel
theorem dX4_init_135 : decode cX4_init 135 = .ok (.newarray .boolean, 2) := by decide +kernel
theorem dX4_init_137 : decode cX4_init 137 = .ok (.putfield 52, 3) := by decide +kernel
theorem dX4_init_140 : decode cX4_init 140 = .ok (.aload_n 0, 1) := by decide +kernel
theorem dX4_init_141 : decode cX4_init 141 = .ok (.bipush 80, 2) := by decide +kernel
theorem dX4_init_143 : decode cX4_init 143 = .ok (.newarray .int, 2) := by decide +kernel
theorem dX4_init_145 : decode cX4_init 145 = .ok (.putfield 56, 3) := by decide +kernel
theorem dX4_init_148 : decode cX4_init 148 = .ok (.aload_n 0, 1) := by decide +kernel
theorem dX4_init_149 : decode cX4_init 149 = .ok (.bipush 80, 2) := by decide +kernel
theorem dX4_init_151 : decode cX4_init 151 = .ok (.newarray .int, 2) := by decide +kernel
theorem dX4_init_153 : decode cX4_init 153 = .ok (.putfield 59, 3) := by decide +kernel
theorem dX4_init_156 : decode cX4_init 156 = .ok (.aload_n 0, 1) := by decide +kernel
theorem dX4_init_157 : decode cX4_init 157 = .ok (.bipush 80, 2) := by decide +kernel
theorem dX4_init_159 : decode cX4_init 159 = .ok (.newarray .int, 2) := by decide +kernel
theorem dX4_init_161 : decode cX4_init 161 = .ok (.putfield 62, 3) := by decide +kernel
theorem dX4_init_164 : decode cX4_init 164 = .ok (.aload_n 0, 1) := by decide +kernel
theorem dX4_init_165 : decode cX4_init 165 = .ok (.bipush 80, 2) := by decide +kernel
theorem dX4_init_167 : decode cX4_init 167 = .ok (.newarray .int, 2) := by decide +kernel
theorem dX4_init_169 : decode cX4_init 169 = .ok (.putfield 65, 3) := by decide +kernel
theorem dX4_init_172 : decode cX4_init 172 = .ok (.aload_n 0, 1) := by decide +kernel
theorem dX4_init_173 : decode cX4_init 173 = .ok (.bipush 80, 2) := by decide +kernel
theorem dX4_init_175 : decode cX4_init 175 = .ok (.newarray .boolean, 2) := by decide +kernel
theorem dX4_init_177 : decode cX4_init 177 = .ok (.putfield 68, 3) := by decide +kernel
theorem dX4_init_180 : decode cX4_init 180 = .ok (.aload_n 0, 1) := by decide +kernel
theorem dX4_init_181 : decode cX4_init 181 = .ok (.bipush 80, 2) := by decide +kernel
theorem dX4_init_183 : decode cX4_init 183 = .ok (.newarray .boolean, 2) := by decide +kernel
theorem dX4_init_185 : decode cX4_init 185 = .ok (.putfield 71, 3) := by decide +kernel
theorem dX4_init_188 : decode cX4_init 188 = .ok (.aload_n 0, 1) := by decide +kernel
theorem dX4_init_189 : decode cX4_init 189 = .ok (.sipush 1920, 3) := by decide +kernel
theorem dX4_init_192 : decode cX4_init 192 = .ok (.newarray .int, 2) := by decide +kernel
theorem dX4_init_194 : decode cX4_init 194 = .ok (.putfield 74, 3) := by decide +kernel
theorem dX4_init_197 : decode cX4_init 197 = .ok (.aload_n 0, 1) := by decide +kernel
theorem dX4_init_198 : decode cX4_init 198 = .ok (.sipush 1920, 3) := by decide +kernel
theorem dX4_init_201 : decode cX4_init 201 = .ok (.newarray .int, 2) := by decide +kernel
theorem dX4_init_203 : decode cX4_init 203 = .ok (.putfield 77, 3) := by decide +kernel
theorem dX4_init_206 : decode cX4_init 206 = .ok (.aload_n 0, 1) := by decide +kernel
theorem dX4_init_207 : decode cX4_init 207 = .ok (.sipush 640, 3) := by decide +kernel
theorem dX4_init_210 : decode cX4_init 210 = .ok (.newarray .int, 2) := by decide +kernel
theorem dX4_init_212 : decode cX4_init 212 = .ok (.putfield 80, 3) := by decide +kernel
theorem dX4_init_215 : decode cX4_init 215 = .ok (.aload_n 0, 1) := by decide +kernel
theorem dX4_init_216 : decode cX4_init 216 = .ok (.sipush 640, 3) := by decide +kernel
theorem dX4_init_219 : decode cX4_init 219 = .ok (.newarray .int, 2) := by decide +kernel
theorem dX4_init_221 : decode cX4_init 221 = .ok (.putfield 83, 3) := by decide +kernel
theorem dX4_init_224 : decode cX4_init 224 = .ok (.aload_n 0, 1) := by decide +kernel
theorem dX4_init_225 : decode cX4_init 225 = .ok (.sipush 960, 3) := by decide +kernel
theorem dX4_init_228 : decode cX4_init 228 = .ok (.newarray .int, 2) := by decide +kernel
theorem dX4_init_230 : decode cX4_init 230 = .ok (.putfield 86, 3) := by decide +kernel
theorem dX4_init_233 : decode cX4_init 233 = .ok (.aload_n 0, 1) := by decide +kernel
theorem dX4_init_234 : decode cX4_init 234 = .ok (.bipush 80, 2) := by decide +kernel
theorem dX4_init_236 : decode cX4_init 236 = .ok (.newarray .int, 2) := by decide +kernel
theorem dX4_init_238 : decode cX4_init 238 = .ok (.putfield 89, 3) := by decide +kernel
theorem dX4_init_241 : decode cX4_init 241 = .ok (.aload_n 0, 1) := by decide +kernel
theorem dX4_init_242 : decode cX4_init 242 = .ok (.bipush 80, 2) := by decide +kernel
theorem dX4_init_244 : decode cX4_init 244 = .ok (.newarray .int, 2) := by decide +kernel
theorem dX4_init_246 : decode cX4_init 246 = .ok (.putfield 92, 3) := by decide +kernel
theorem dX4_init_249 : decode cX4_init 249 = .ok (.aload_n 0, 1) := by decide +kernel
theorem dX4_init_250 : decode cX4_init 250 = .ok (.sipush 4000, 3) := by decide +kernel
theorem dX4_init_253 : decode cX4_init 253 = .ok (.newarray .int, 2) := by decide +kernel
theorem dX4_init_255 : decode cX4_init 255 = .ok (.putfield 95, 3) := by decide +kernel
theorem dX4_init_258 : decode cX4_init 258 = .ok (.aload_n 0, 1) := by decide +kernel
theorem dX4_init_259 : decode cX4_init 259 = .ok (.bipush 80, 2) := by decide +kernel
theorem dX4_init_261 : decode cX4_init 261 = .ok (.newarray .int, 2) := by decide +kernel
theorem dX4_init_263 : decode cX4_init 263 = .ok (.putfield 98, 3) := by decide +kernel
theorem dX4_init_266 : decode cX4_init 266 = .ok (.aload_n 0, 1) := by decide +kernel
theorem dX4_init_267 : decode cX4_init 267 = .ok (.bipush 80, 2) := by decide +kernel
theorem dX4_init_269 : decode cX4_init 269 = .ok (.newarray .boolean, 2) := by decide +kernel
theorem dX4_init_271 : decode cX4_init 271 = .ok (.putfield 101, 3) := by decide +kernel
theorem dX4_init_274 : decode cX4_init 274 = .ok (.aload_n 0, 1) := by decide +kernel
theorem dX4_init_275 : decode cX4_init 275 = .ok (.bipush 81, 2) := by decide +kernel
theorem dX4_init_277 : decode cX4_init 277 = .ok (.newarray .int, 2) := by decide +kernel
theorem dX4_init_279 : decode cX4_init 279 = .ok (.putfield 104, 3) := by decide +kernel
theorem dX4_init_282 : decode cX4_init 282 = .ok (.return_, 1) := by decide +kernel
theorem dX4_in_0 : decode cX4_in 0 = .ok (.iload_n 0, 1) := by decide +kernel
theorem dX4_in_1 : decode cX4_in 1 = .ok (.iload_n 1, 1) := by decide +kernel
theorem dX4_in_2 : decode cX4_in 2 = .ok (.if_icmp .lt 12, 3) := by decide +kernel
theorem dX4_in_5 : decode cX4_in 5 = .ok (.iload_n 0, 1) := by decide +kernel
theorem dX4_in_6 : decode cX4_in 6 = .ok (.iload_n 2, 1) := by decide +kernel
theorem dX4_in_7 : decode cX4_in 7 = .ok (.if_icmp .gt 7, 3) := by decide +kernel
theorem dX4_in_10 : decode cX4_in 10 = .ok (.iconst 1, 1) := by decide +kernel
theorem dX4_in_11 : decode cX4_in 11 = .ok (.goto 4, 3) := by decide +kernel
theorem dX4_in_14 : decode cX4_in 14 = .ok (.iconst 0, 1) := by decide +kernel
theorem dX4_in_15 : decode cX4_in 15 = .ok (.ireturn, 1) := by decide +kernel
set_option maxRecDepth 20000 in
theorem ggX4_isProgram_X4_in : GoodIn wsX4_isProgram wsX4_in := goodIn_r _ [4] (by decide +kernel) (by decide +kernel)
set_option maxRecDepth 20000 in
theorem gX4_isProgram_X4_in : GoodIn wsX4_isProgram (va_wsS RX4 107 yX4_in wsX4_in) := goodIn_app (goodIn_of _ (by decide +kernel)) ggX4_isProgram_X4_in
theorem dX4_isProgram_0 : decode cX4_isProgram 0 = .ok (.iload_n 0, 1) := by decide +kernel
theorem dX4_isProgram_1 : decode cX4_isProgram 1 = .ok (.iconst 0, 1) := by decide +kernel
theorem dX4_isProgram_2 : decode cX4_isProgram 2 = .ok (.bipush 7, 2) := by decide +kernel
theorem dX4_isProgram_4 : decode cX4_isProgram 4 = .ok (.invokestatic 107, 3) := by decide +kernel
theorem dX4_isProgram_7 : decode cX4_isProgram 7 = .ok (.ireturn, 1) := by decide +kernel
set_option maxRecDepth 20000 in
theorem ggX4_isAct_X4_in : GoodIn wsX4_isAct wsX4_in := goodIn_r _ [5] (by decide +kernel) (by decide +kernel)
set_option maxRecDepth 20000 in
theorem gX4_isAct_X4_in : GoodIn wsX4_isAct (va_wsS RX4 107 yX4_in wsX4_in) := goodIn_app (goodIn_of _ (by decide +kernel)) ggX4_isAct_X4_in
theorem dX4_isAct_0 : decode cX4_isAct 0 = .ok (.iload_n 1, 1) := by decide +kernel
theorem dX4_isAct_1 : decode cX4_isAct 1 = .ok (.iconst 0, 1) := by decide +kernel
theorem dX4_isAct_2 : decode cX4_isAct 2 = .ok (.aload_n 0, 1) := by decide +kernel
theorem dX4_isAct_3 : decode cX4_isAct 3 = .ok (.getfield 111, 3) := by decide +kernel
theorem dX4_isAct_6 : decode cX4_isAct 6 = .ok (.iconst 1, 1) := by decide +kernel
theorem dX4_isAct_7 : decode cX4_isAct 7 = .ok (.isub, 1) := by decide +kernel
theorem dX4_isAct_8 : decode cX4_isAct 8 = .ok (.invokestatic 107, 3) := by decide +kernel
theorem dX4_isAct_11 : decode cX4_isAct 11 = .ok (.ireturn, 1) := by decide +kernel
set_option maxRecDepth 20000 in
theorem ggX4_program_X4_isProgram : GoodIn wsX4_program wsX4_isProgram := goodIn_r _ [5, 6, 7, 4, 8] (by decide +kernel) (by decide +kernel)
set_option maxRecDepth 20000 in
theorem gX4_program_X4_isProgram : GoodIn wsX4_program (va_wsS RX4 115 yX4_isProgram wsX4_isProgram) := goodIn_app (goodIn_of _ (by decide +kernel)) ggX4_program_X4_isProgram
theorem dX4_program_0 : decode cX4_program 0 = .ok (.iload_n 1, 1) := by decide +kernel
theorem dX4_program_1 : decode cX4_program 1 = .ok (.invokestatic 115, 3) := by decide +kernel
theorem dX4_program_4 : decode cX4_program 4 = .ok (.ifCond .ne 5, 3) := by decide +kernel
theorem dX4_program_7 : decode cX4_program 7 = .ok (.iconst 0, 1) := by decide +kernel
theorem dX4_program_8 : decode cX4_program 8 = .ok (.ireturn, 1) := by decide +kernel
theorem dX4_program_9 : decode cX4_program 9 = .ok (.aload_n 0, 1) := by decide +kernel
theorem dX4_program_10 : decode cX4_program 10 = .ok (.getfield 22, 3) := by decide +kernel
theorem dX4_program_13 : decode cX4_program 13 = .ok (.iload_n 1, 1) := by decide +kernel
theorem dX4_program_14 : decode cX4_program 14 = .ok (.iconst 0, 1) := by decide +kernel
theorem dX4_program_15 : decode cX4_program 15 = .ok (.iastore, 1) := by decide +kernel
theorem dX4_program_16 : decode cX4_program 16 = .ok (.iconst 1, 1) := by decide +kernel
theorem dX4_program_17 : decode cX4_program 17 = .ok (.ireturn, 1) := by decide +kernel
set_option maxRecDepth 20000 in
theorem ggX4_step_X4_isProgram : GoodIn wsX4_step wsX4_isProgram := goodIn_r _ [6, 7, 8, 5, 9] (by decide +kernel) (by decide +kernel)
set_option maxRecDepth 20000 in
theorem gX4_step_X4_isProgram : GoodIn wsX4_step (va_wsS RX4 115 yX4_isProgram wsX4_isProgram) := goodIn_app (goodIn_of _ (by decide +kernel)) ggX4_step_X4_isProgram
theorem dX4_step_0 : decode cX4_step 0 = .ok (.iload_n 1, 1) := by decide +kernel
theorem dX4_step_1 : decode cX4_step 1 = .ok (.invokestatic 115, 3) := by decide +kernel
theorem dX4_step_4 : decode cX4_step 4 = .ok (.ifCond .eq 28, 3) := by decide +kernel
theorem dX4_step_7 : decode cX4_step 7 = .ok (.aload_n 0, 1) := by decide +kernel
theorem dX4_step_8 : decode cX4_step 8 = .ok (.getfield 22, 3) := by decide +kernel
theorem dX4_step_11 : decode cX4_step 11 = .ok (.iload_n 1, 1) := by decide +kernel
theorem dX4_step_12 : decode cX4_step 12 = .ok (.iaload, 1) := by decide +kernel
theorem dX4_step_13 : decode cX4_step 13 = .ok (.bipush 12, 2) := by decide +kernel
theorem dX4_step_15 : decode cX4_step 15 = .ok (.if_icmp .eq 17, 3) := by decide +kernel
theorem dX4_step_18 : decode cX4_step 18 = .ok (.iload_n 2, 1) := by decide +kernel
theorem dX4_step_19 : decode cX4_step 19 = .ok (.ifCond .lt 13, 3) := by decide +kernel
theorem dX4_step_22 : decode cX4_step 22 = .ok (.iload_n 2, 1) := by decide +kernel
theorem dX4_step_23 : decode cX4_step 23 = .ok (.sipush 10000, 3) := by decide +kernel
theorem dX4_step_26 : decode cX4_step 26 = .ok (.idiv, 1) := by decide +kernel
theorem dX4_step_27 : decode cX4_step 27 = .ok (.bipush 8, 2) := by decide +kernel
theorem dX4_step_29 : decode cX4_step 29 = .ok (.if_icmp .le 5, 3) := by decide +kernel
theorem dX4_step_32 : decode cX4_step 32 = .ok (.iconst (-1), 1) := by decide +kernel
theorem dX4_step_33 : decode cX4_step 33 = .ok (.ireturn, 1) := by decide +kernel
theorem dX4_step_34 : decode cX4_step 34 = .ok (.iload_n 2, 1) := by decide +kernel
theorem dX4_step_35 : decode cX4_step 35 = .ok (.sipush 10000, 3) := by decide +kernel
theorem dX4_step_38 : decode cX4_step 38 = .ok (.idiv, 1) := by decide +kernel
theorem dX4_step_39 : decode cX4_step 39 = .ok (.istore_n 3, 1) := by decide +kernel
theorem dX4_step_40 : decode cX4_step 40 = .ok (.iload_n 2, 1) := by decide +kernel
theorem dX4_step_41 : decode cX4_step 41 = .ok (.bipush 100, 2) := by decide +kernel
theorem dX4_step_43 : decode cX4_step 43 = .ok (.idiv, 1) := by decide +kernel
theorem dX4_step_44 : decode cX4_step 44 = .ok (.bipush 100, 2) := by decide +kernel
theorem dX4_step_46 : decode cX4_step 46 = .ok (.irem, 1) := by decide +kernel
theorem dX4_step_47 : decode cX4_step 47 = .ok (.istore 4, 2) := by decide +kernel
theorem dX4_step_49 : decode cX4_step 49 = .ok (.iload_n 3, 1) := by decide +kernel
theorem dX4_step_50 : decode cX4_step 50 = .ok (.ifCond .eq 13, 3) := by decide +kernel
theorem dX4_step_53 : decode cX4_step 53 = .ok (.iload_n 3, 1) := by decide +kernel
theorem dX4_step_54 : decode cX4_step 54 = .ok (.iconst 3, 1) := by decide +kernel
theorem dX4_step_55 : decode cX4_step 55 = .ok (.if_icmp .eq 8, 3) := by decide +kernel
theorem dX4_step_58 : decode cX4_step 58 = .ok (.iload_n 3, 1) := by decide +kernel
theorem dX4_step_59 : decode cX4_step 59 = .ok (.iconst 4, 1) := by decide +kernel
theorem dX4_step_60 : decode cX4_step 60 = .ok (.if_icmp .ne 10, 3) := by decide +kernel
theorem dX4_step_63 : decode cX4_step 63 = .ok (.iload 4, 2) := by decide +kernel
theorem dX4_step_65 : decode cX4_step 65 = .ok (.bipush 24, 2) := by decide +kernel
theorem dX4_step_67 : decode cX4_step 67 = .ok (.if_icmp .ge 29, 3) := by decide +kernel
theorem dX4_step_70 : decode cX4_step 70 = .ok (.iload_n 3, 1) := by decide +kernel
theorem dX4_step_71 : decode cX4_step 71 = .ok (.bipush 6, 2) := by decide +kernel
theorem dX4_step_73 : decode cX4_step 73 = .ok (.if_icmp .ne 10, 3) := by decide +kernel
theorem dX4_step_76 : decode cX4_step 76 = .ok (.iload 4, 2) := by decide +kernel
theorem dX4_step_78 : decode cX4_step 78 = .ok (.bipush 8, 2) := by decide +kernel
theorem dX4_step_80 : decode cX4_step 80 = .ok (.if_icmp .ge 16, 3) := by decide +kernel
theorem dX4_step_83 : decode cX4_step 83 = .ok (.iload_n 3, 1) := by decide +kernel
theorem dX4_step_84 : decode cX4_step 84 = .ok (.bipush 7, 2) := by decide +kernel
theorem dX4_step_86 : decode cX4_step 86 = .ok (.if_icmp .ne 12, 3) := by decide +kernel
theorem dX4_step_89 : decode cX4_step 89 = .ok (.iload 4, 2) := by decide +kernel
theorem dX4_step_91 : decode cX4_step 91 = .ok (.bipush 8, 2) := by decide +kernel
theorem dX4_step_93 : decode cX4_step 93 = .ok (.if_icmp .lt 5, 3) := by decide +kernel
theorem dX4_step_96 : decode cX4_step 96 = .ok (.iconst (-1), 1) := by decide +kernel
theorem dX4_step_97 : decode cX4_step 97 = .ok (.ireturn, 1) := by decide +kernel
theorem dX4_step_98 : decode cX4_step 98 = .ok (.aload_n 0, 1) := by decide +kernel
theorem dX4_step_99 : decode cX4_step 99 = .ok (.getfield 25, 3) := by decide +kernel
theorem dX4_step_102 : decode cX4_step 102 = .ok (.bipush 12, 2) := by decide +kernel
theorem dX4_step_104 : decode cX4_step 104 = .ok (.iload_n 1, 1) := by decide +kernel
theorem dX4_step_105 : decode cX4_step 105 = .ok (.imul, 1) := by decide +kernel
theorem dX4_step_106 : decode cX4_step 106 = .ok (.aload_n 0, 1) := by decide +kernel
theorem dX4_step_107 : decode cX4_step 107 = .ok (.getfield 22, 3) := by decide +kernel
theorem dX4_step_110 : decode cX4_step 110 = .ok (.iload_n 1, 1) := by decide +kernel
theorem dX4_step_111 : decode cX4_step 111 = .ok (.iaload, 1) := by decide +kernel
theorem dX4_step_112 : decode cX4_step 112 = .ok (.iadd, 1) := by decide +kernel
theorem dX4_step_113 : decode cX4_step 113 = .ok (.iload_n 2, 1) := by decide +kernel
theorem dX4_step_114 : decode cX4_step 114 = .ok (.iastore, 1) := by decide +kernel
theorem dX4_step_115 : decode cX4_step 115 = .ok (.aload_n 0, 1) := by decide +kernel
theorem dX4_step_116 : decode cX4_step 116 = .ok (.getfield 22, 3) := by decide +kernel
theorem dX4_step_119 : decode cX4_step 119 = .ok (.iload_n 1, 1) := by decide +kernel
theorem dX4_step_120 : decode cX4_step 120 = .ok (.dup2, 1) := by decide +kernel
theorem dX4_step_121 : decode cX4_step 121 = .ok (.iaload, 1) := by decide +kernel
theorem dX4_step_122 : decode cX4_step 122 = .ok (.iconst 1, 1) := by decide +kernel
theorem dX4_step_123 : decode cX4_step 123 = .ok (.iadd, 1) := by decide +kernel
theorem dX4_step_124 : decode cX4_step 124 = .ok (.iastore, 1) := by decide +kernel
theorem dX4_step_125 : decode cX4_step 125 = .ok (.aload_n 0, 1) := by decide +kernel
theorem dX4_step_126 : decode cX4_step 126 = .ok (.getfield 22, 3) := by decide +kernel
theorem dX4_step_129 : decode cX4_step 129 = .ok (.iload_n 1, 1) := by decide +kernel
theorem dX4_step_130 : decode cX4_step 130 = .ok (.iaload, 1) := by decide +kernel
theorem dX4_step_131 : decode cX4_step 131 = .ok (.ireturn, 1) := by decide +kernel
theorem dX4_newAct_0 : decode cX4_newAct 0 = .ok (.aload_n 0, 1) := by decide +kernel
theorem dX4_newAct_1 : decode cX4_newAct 1 = .ok (.getfield 111, 3) := by decide +kernel
theorem dX4_newAct_4 : decode cX4_newAct 4 = .ok (.bipush 80, 2) := by decide +kernel
theorem dX4_newAct_6 : decode cX4_newAct 6 = .ok (.if_icmp .ne 5, 3) := by decide +kernel
theorem dX4_newAct_9 : decode cX4_newAct 9 = .ok (.iconst (-1), 1) := by decide +kernel
theorem dX4_newAct_10 : decode cX4_newAct 10 = .ok (.ireturn, 1) := by decide +kernel
theorem dX4_newAct_11 : decode cX4_newAct 11 = .ok (.aload_n 0, 1) := by decide +kernel
theorem dX4_newAct_12 : decode cX4_newAct 12 = .ok (.getfield 28, 3) := by decide +kernel
theorem dX4_newAct_15 : decode cX4_newAct 15 = .ok (.aload_n 0, 1) := by decide +kernel
theorem dX4_newAct_16 : decode cX4_newAct 16 = .ok (.getfield 111, 3) := by decide +kernel
theorem dX4_newAct_19 : decode cX4_newAct 19 = .ok (.iload_n 1, 1) := by decide +kernel
theorem dX4_newAct_20 : decode cX4_newAct 20 = .ok (.iastore, 1) := by decide +kernel
theorem dX4_newAct_21 : decode cX4_newAct 21 = .ok (.aload_n 0, 1) := by decide +kernel
theorem dX4_newAct_22 : decode cX4_newAct 22 = .ok (.getfield 31, 3) := by decide +kernel
theorem dX4_newAct_25 : decode cX4_newAct 25 = .ok (.aload_n 0, 1) := by decide +kernel
theorem dX4_newAct_26 : decode cX4_newAct 26 = .ok (.getfield 111, 3) := by decide +kernel
theorem dX4_newAct_29 : decode cX4_newAct 29 = .ok (.iload_n 2, 1) := by decide +kernel
theorem dX4_newAct_30 : decode cX4_newAct 30 = .ok (.iastore, 1) := by decide +kernel
theorem dX4_newAct_31 : decode cX4_newAct 31 = .ok (.aload_n 0, 1) := by decide +kernel
theorem dX4_newAct_32 : decode cX4_newAct 32 = .ok (.getfield 34, 3) := by decide +kernel
theorem dX4_newAct_35 : decode cX4_newAct 35 = .ok (.aload_n 0, 1) := by decide +kernel
theorem dX4_newAct_36 : decode cX4_newAct 36 = .ok (.getfield 111, 3) := by decide +kernel
theorem dX4_newAct_39 : decode cX4_newAct 39 = .ok (.iload_n 3, 1) := by decide +kernel
theorem dX4_newAct_40 : decode cX4_newAct 40 = .ok (.iastore, 1) := by decide +kernel
theorem dX4_newAct_41 : decode cX4_newAct 41 = .ok (.aload_n 0, 1) := by decide +kernel
theorem dX4_newAct_42 : decode cX4_newAct 42 = .ok (.getfield 62, 3) := by decide +kernel
theorem dX4_newAct_45 : decode cX4_newAct 45 = .ok (.aload_n 0, 1) := by decide +kernel
theorem dX4_newAct_46 : decode cX4_newAct 46 = .ok (.getfield 111, 3) := by decide +kernel
theorem dX4_newAct_49 : decode cX4_newAct 49 = .ok (.iload 4, 2) := by decide +kernel
theorem dX4_newAct_51 : decode cX4_newAct 51 = .ok (.iastore, 1) := by decide +kernel
theorem dX4_newAct_52 : decode cX4_newAct 52 = .ok (.aload_n 0, 1) := by decide +kernel
theorem dX4_newAct_53 : decode cX4_newAct 53 = .ok (.getfield 56, 3) := by decide +kernel
theorem dX4_newAct_56 : decode cX4_newAct 56 = .ok (.aload_n 0, 1) := by decide +kernel
theorem dX4_newAct_57 : decode cX4_newAct 57 = .ok (.getfield 111, 3) := by decide +kernel
theorem dX4_newAct_60 : decode cX4_newAct 60 = .ok (.iconst (-1), 1) := by decide +kernel
theorem dX4_newAct_61 : decode cX4_newAct 61 = .ok (.iastore, 1) := by decide +kernel
theorem dX4_newAct_62 : decode cX4_newAct 62 = .ok (.aload_n 0, 1) := by decide +kernel
theorem dX4_newAct_63 : decode cX4_newAct 63 = .ok (.getfield 65, 3) := by decide +kernel
theorem dX4_newAct_66 : decode cX4_newAct 66 = .ok (.aload_n 0, 1) := by decide +kernel
theorem dX4_newAct_67 : decode cX4_newAct 67 = .ok (.getfield 111, 3) := by decide +kernel
theorem dX4_newAct_70 : decode cX4_newAct 70 = .ok (.iconst (-1), 1) := by decide +kernel
theorem dX4_newAct_71 : decode cX4_newAct 71 = .ok (.iastore, 1) := by decide +kernel
theorem dX4_newAct_72 : decode cX4_newAct 72 = .ok (.aload_n 0, 1) := by decide +kernel
theorem dX4_newAct_73 : decode cX4_newAct 73 = .ok (.dup, 1) := by decide +kernel
theorem dX4_newAct_74 : decode cX4_newAct 74 = .ok (.getfield 111, 3) := by decide +kernel
theorem dX4_newAct_77 : decode cX4_newAct 77 = .ok (.iconst 1, 1) := by decide +kernel
theorem dX4_newAct_78 : decode cX4_newAct 78 = .ok (.iadd, 1) := by decide +kernel
theorem dX4_newAct_79 : decode cX4_newAct 79 = .ok (.putfield 111, 3) := by decide +kernel
theorem dX4_newAct_82 : decode cX4_newAct 82 = .ok (.aload_n 0, 1) := by decide +kernel
theorem dX4_newAct_83 : decode cX4_newAct 83 = .ok (.getfield 111, 3) := by decide +kernel
theorem dX4_newAct_86 : decode cX4_newAct 86 = .ok (.iconst 1, 1) := by decide +kernel
theorem dX4_newAct_87 : decode cX4_newAct 87 = .ok (.isub, 1) := by decide +kernel
theorem dX4_newAct_88 : decode cX4_newAct 88 = .ok (.ireturn, 1) := by decide +kernel
set_option maxRecDepth 20000 in
theorem ggX4_act_X4_isProgram : GoodIn wsX4_act wsX4_isProgram := goodIn_r _ [4, 5, 6, 3, 7] (by decide +kernel) (by decide +kernel)
set_option maxRecDepth 20000 in
theorem gX4_act_X4_isProgram : GoodIn wsX4_act (va_wsS RX4 115 yX4_isProgram wsX4_isProgram) := goodIn_app (goodIn_of _ (by decide +kernel)) ggX4_act_X4_isProgram
set_option maxRecDepth 20000 in
theorem ggX4_act_X4_in : GoodIn wsX4_act wsX4_in := goodIn_r _ [7] (by decide +kernel) (by decide +kernel)
set_option maxRecDepth 20000 in
theorem gX4_act_X4_in : GoodIn wsX4_act (va_wsS RX4 107 yX4_in wsX4_in) := goodIn_app (goodIn_of _ (by decide +kernel)) ggX4_act_X4_in
set_option maxRecDepth 20000 in
theorem ggX4_act_X4_newAct : GoodIn wsX4_act wsX4_newAct := goodIn_r _ [11, 12, 13, 14, 15, 16, 17, 18, 19, 20, 21, 22, 23, 24, 25, 26, 27, 28, 29, 30, 31, 32, 33, 34, 35, 36, 37, 38, 39, 40, 41, 42, 43, 44, 45, 46, 47, 48, 49, 50, 51, 52, 53, 54, 55, 56, 57] (by decide +kernel) (by decide +kernel)
set_option maxRecDepth 20000 in
theorem gX4_act_X4_newAct : GoodIn wsX4_act (wsV RX4 119 RX4 yX4_newAct wsX4_newAct) := goodIn_app (goodIn_of _ (by decide +kernel)) ggX4_act_X4_newAct
theorem dX4_act_0 : decode cX4_act 0 = .ok (.iload_n 1, 1) := by decide +kernel
theorem dX4_act_1 : decode cX4_act 1 = .ok (.invokestatic 115, 3) := by decide +kernel
theorem dX4_act_4 : decode cX4_act 4 = .ok (.ifCond .eq 33, 3) := by decide +kernel
theorem dX4_act_7 : decode cX4_act 7 = .ok (.iload_n 2, 1) := by decide +kernel
theorem dX4_act_8 : decode cX4_act 8 = .ok (.iconst 0, 1) := by decide +kernel
theorem dX4_act_9 : decode cX4_act 9 = .ok (.iconst 3, 1) := by decide +kernel
theorem dX4_act_10 : decode cX4_act 10 = .ok (.invokestatic 107, 3) := by decide +kernel
theorem dX4_act_13 : decode cX4_act 13 = .ok (.ifCond .eq 24, 3) := by decide +kernel
theorem dX4_act_16 : decode cX4_act 16 = .ok (.iload_n 3, 1) := by decide +kernel
theorem dX4_act_17 : decode cX4_act 17 = .ok (.iconst 0, 1) := by decide +kernel
theorem dX4_act_18 : decode cX4_act 18 = .ok (.bipush 9, 2) := by decide +kernel
theorem dX4_act_20 : decode cX4_act 20 = .ok (.invokestatic 107, 3) := by decide +kernel
theorem dX4_act_23 : decode cX4_act 23 = .ok (.ifCond .eq 14, 3) := by decide +kernel
theorem dX4_act_26 : decode cX4_act 26 = .ok (.aload_n 0, 1) := by decide +kernel
theorem dX4_act_27 : decode cX4_act 27 = .ok (.iload_n 1, 1) := by decide +kernel
theorem dX4_act_28 : decode cX4_act 28 = .ok (.iload_n 2, 1) := by decide +kernel
theorem dX4_act_29 : decode cX4_act 29 = .ok (.iload_n 3, 1) := by decide +kernel
theorem dX4_act_30 : decode cX4_act 30 = .ok (.iconst (-1), 1) := by decide +kernel
theorem dX4_act_31 : decode cX4_act 31 = .ok (.invokevirtual 119, 3) := by decide +kernel
theorem dX4_act_34 : decode cX4_act 34 = .ok (.goto 4, 3) := by decide +kernel
theorem dX4_act_37 : decode cX4_act 37 = .ok (.iconst (-1), 1) := by decide +kernel
theorem dX4_act_38 : decode cX4_act 38 = .ok (.ireturn, 1) := by decide +kernel
set_option maxRecDepth 20000 in
theorem ggX4_limit_X4_in : GoodIn wsX4_limit wsX4_in := goodIn_r _ [5] (by decide +kernel) (by decide +kernel)
set_option maxRecDepth 20000 in
theorem gX4_limit_X4_in : GoodIn wsX4_limit (va_wsS RX4 107 yX4_in wsX4_in) := goodIn_app (goodIn_of _ (by decide +kernel)) ggX4_limit_X4_in
theorem dX4_limit_0 : decode cX4_limit 0 = .ok (.iload_n 1, 1) := by decide +kernel
theorem dX4_limit_1 : decode cX4_limit 1 = .ok (.iconst 0, 1) := by decide +kernel
theorem dX4_limit_2 : decode cX4_limit 2 = .ok (.iconst 3, 1) := by decide +kernel
theorem dX4_limit_3 : decode cX4_limit 3 = .ok (.invokestatic 107, 3) := by decide +kernel
theorem dX4_limit_6 : decode cX4_limit 6 = .ok (.ifCond .eq 13, 3) := by decide +kernel
theorem dX4_limit_9 : decode cX4_limit 9 = .ok (.iload_n 2, 1) := by decide +kernel
theorem dX4_limit_10 : decode cX4_limit 10 = .ok (.iconst 0, 1) := by decide +kernel
theorem dX4_limit_11 : decode cX4_limit 11 = .ok (.bipush 9, 2) := by decide +kernel
theorem dX4_limit_13 : decode cX4_limit 13 = .ok (.invokestatic 107, 3) := by decide +kernel
theorem dX4_limit_16 : decode cX4_limit 16 = .ok (.ifCond .ne 5, 3) := by decide +kernel
theorem dX4_limit_19 : decode cX4_limit 19 = .ok (.iconst 0, 1) := by decide +kernel
theorem dX4_limit_20 : decode cX4_limit 20 = .ok (.ireturn, 1) := by decide +kernel
theorem dX4_limit_21 : decode cX4_limit 21 = .ok (.aload_n 0, 1) := by decide +kernel
theorem dX4_limit_22 : decode cX4_limit 22 = .ok (.getfield 19, 3) := by decide +kernel
theorem dX4_limit_25 : decode cX4_limit 25 = .ok (.iload_n 1, 1) := by decide +kernel
theorem dX4_limit_26 : decode cX4_limit 26 = .ok (.iload_n 2, 1) := by decide +kernel
theorem dX4_limit_27 : decode cX4_limit 27 = .ok (.iastore, 1) := by decide +kernel
theorem dX4_limit_28 : decode cX4_limit 28 = .ok (.iconst 1, 1) := by decide +kernel
theorem dX4_limit_29 : decode cX4_limit 29 = .ok (.ireturn, 1) := by decide +kernel
theorem dX4_least_0 : decode cX4_least 0 = .ok (.aload_n 0, 1) := by decide +kernel
theorem dX4_least_1 : decode cX4_least 1 = .ok (.getfield 13, 3) := by decide +kernel
theorem dX4_least_4 : decode cX4_least 4 = .ok (.iload_n 1, 1) := by decide +kernel
theorem dX4_least_5 : decode cX4_least 5 = .ok (.iaload, 1) := by decide +kernel
theorem dX4_least_6 : decode cX4_least 6 = .ok (.istore_n 2, 1) := by decide +kernel
theorem dX4_least_7 : decode cX4_least 7 = .ok (.iconst 0, 1) := by decide +kernel
theorem dX4_least_8 : decode cX4_least 8 = .ok (.istore_n 3, 1) := by decide +kernel
theorem dX4_least_9 : decode cX4_least 9 = .ok (.iload_n 3, 1) := by decide +kernel
theorem dX4_least_10 : decode cX4_least 10 = .ok (.aload_n 0, 1) := by decide +kernel
theorem dX4_least_11 : decode cX4_least 11 = .ok (.getfield 111, 3) := by decide +kernel
theorem dX4_least_14 : decode cX4_least 14 = .ok (.if_icmp .ge 37, 3) := by decide +kernel
theorem dX4_least_17 : decode cX4_least 17 = .ok (.iload_n 2, 1) := by decide +kernel
theorem dX4_least_18 : decode cX4_least 18 = .ok (.aload_n 0, 1) := by decide +kernel
theorem dX4_least_19 : decode cX4_least 19 = .ok (.getfield 37, 3) := by decide +kernel
theorem dX4_least_22 : decode cX4_least 22 = .ok (.iload_n 3, 1) := by decide +kernel
theorem dX4_least_23 : decode cX4_least 23 = .ok (.iaload, 1) := by decide +kernel
theorem dX4_least_24 : decode cX4_least 24 = .ok (.iconst 1, 1) := by decide +kernel
theorem dX4_least_25 : decode cX4_least 25 = .ok (.if_icmp .ne 17, 3) := by decide +kernel
theorem dX4_least_28 : decode cX4_least 28 = .ok (.aload_n 0, 1) := by decide +kernel
theorem dX4_least_29 : decode cX4_least 29 = .ok (.getfield 83, 3) := by decide +kernel
theorem dX4_least_32 : decode cX4_least 32 = .ok (.bipush 8, 2) := by decide +kernel
theorem dX4_least_34 : decode cX4_least 34 = .ok (.iload_n 3, 1) := by decide +kernel
theorem dX4_least_35 : decode cX4_least 35 = .ok (.imul, 1) := by decide +kernel
theorem dX4_least_36 : decode cX4_least 36 = .ok (.iload_n 1, 1) := by decide +kernel
theorem dX4_least_37 : decode cX4_least 37 = .ok (.iadd, 1) := by decide +kernel
theorem dX4_least_38 : decode cX4_least 38 = .ok (.iaload, 1) := by decide +kernel
theorem dX4_least_39 : decode cX4_least 39 = .ok (.goto 4, 3) := by decide +kernel
theorem dX4_least_42 : decode cX4_least 42 = .ok (.iconst 0, 1) := by decide +kernel
theorem dX4_least_43 : decode cX4_least 43 = .ok (.iadd, 1) := by decide +kernel
theorem dX4_least_44 : decode cX4_least 44 = .ok (.istore_n 2, 1) := by decide +kernel
theorem dX4_least_45 : decode cX4_least 45 = .ok (.iinc 3 1, 3) := by decide +kernel
theorem dX4_least_48 : decode cX4_least 48 = .ok (.goto (-39), 3) := by decide +kernel
theorem dX4_least_51 : decode cX4_least 51 = .ok (.iload_n 2, 1) := by decide +kernel
theorem dX4_least_52 : decode cX4_least 52 = .ok (.ireturn, 1) := by decide +kernel
set_option maxRecDepth 20000 in
theorem ggX4_floor_X4_in : GoodIn wsX4_floor wsX4_in := goodIn_r _ [5] (by decide +kernel) (by decide +kernel)
set_option maxRecDepth 20000 in
theorem gX4_floor_X4_in : GoodIn wsX4_floor (va_wsS RX4 107 yX4_in wsX4_in) := goodIn_app (goodIn_of _ (by decide +kernel)) ggX4_floor_X4_in
set_option maxRecDepth 20000 in
theorem ggX4_floor_X4_least : GoodIn wsX4_floor wsX4_least := goodIn_r _ [9, 10, 11, 12, 13, 14, 15, 16, 17, 18, 19, 20, 21, 22, 23, 24, 25, 26, 27, 28, 29, 30, 31, 32, 33, 34, 35, 36, 37, 38, 39, 40, 41, 42, 43, 44, 45, 46, 47, 48, 49, 50, 51, 52] (by decide +kernel) (by decide +kernel)
set_option maxRecDepth 20000 in
theorem gX4_floor_X4_least : GoodIn wsX4_floor (wsV RX4 123 RX4 yX4_least wsX4_least) := goodIn_app (goodIn_of _ (by decide +kernel)) ggX4_floor_X4_least
theorem dX4_floor_0 : decode cX4_floor 0 = .ok (.iload_n 1, 1) := by decide +kernel
theorem dX4_floor_1 : decode cX4_floor 1 = .ok (.iconst 0, 1) := by decide +kernel
theorem dX4_floor_2 : decode cX4_floor 2 = .ok (.bipush 7, 2) := by decide +kernel
theorem dX4_floor_4 : decode cX4_floor 4 = .ok (.invokestatic 107, 3) := by decide +kernel
theorem dX4_floor_7 : decode cX4_floor 7 = .ok (.ifCond .eq 23, 3) := by decide +kernel
theorem dX4_floor_10 : decode cX4_floor 10 = .ok (.iload_n 2, 1) := by decide +kernel
theorem dX4_floor_11 : decode cX4_floor 11 = .ok (.sipush (-1000), 3) := by decide +kernel
theorem dX4_floor_14 : decode cX4_floor 14 = .ok (.iconst 0, 1) := by decide +kernel
theorem dX4_floor_15 : decode cX4_floor 15 = .ok (.invokestatic 107, 3) := by decide +kernel
theorem dX4_floor_18 : decode cX4_floor 18 = .ok (.ifCond .eq 12, 3) := by decide +kernel
theorem dX4_floor_21 : decode cX4_floor 21 = .ok (.aload_n 0, 1) := by decide +kernel
theorem dX4_floor_22 : decode cX4_floor 22 = .ok (.iload_n 1, 1) := by decide +kernel
theorem dX4_floor_23 : decode cX4_floor 23 = .ok (.invokevirtual 123, 3) := by decide +kernel
theorem dX4_floor_26 : decode cX4_floor 26 = .ok (.iload_n 2, 1) := by decide +kernel
theorem dX4_floor_27 : decode cX4_floor 27 = .ok (.if_icmp .ge 5, 3) := by decide +kernel
theorem dX4_floor_30 : decode cX4_floor 30 = .ok (.iconst 0, 1) := by decide +kernel
theorem dX4_floor_31 : decode cX4_floor 31 = .ok (.ireturn, 1) := by decide +kernel
theorem dX4_floor_32 : decode cX4_floor 32 = .ok (.aload_n 0, 1) := by decide +kernel
theorem dX4_floor_33 : decode cX4_floor 33 = .ok (.getfield 16, 3) := by decide +kernel
theorem dX4_floor_36 : decode cX4_floor 36 = .ok (.iload_n 1, 1) := by decide +kernel
theorem dX4_floor_37 : decode cX4_floor 37 = .ok (.iload_n 2, 1) := by decide +kernel
theorem dX4_floor_38 : decode cX4_floor 38 = .ok (.iastore, 1) := by decide +kernel
theorem dX4_floor_39 : decode cX4_floor 39 = .ok (.iconst 1, 1) := by decide +kernel
theorem dX4_floor_40 : decode cX4_floor 40 = .ok (.ireturn, 1) := by decide +kernel
theorem dX4_logs_0 : decode cX4_logs 0 = .ok (.iconst 4, 1) := by decide +kernel
theorem dX4_logs_1 : decode cX4_logs 1 = .ok (.aload_n 0, 1) := by decide +kernel
theorem dX4_logs_2 : decode cX4_logs 2 = .ok (.getfield 127, 3) := by decide +kernel
theorem dX4_logs_5 : decode cX4_logs 5 = .ok (.iconst 1, 1) := by decide +kernel
theorem dX4_logs_6 : decode cX4_logs 6 = .ok (.iadd, 1) := by decide +kernel
theorem dX4_logs_7 : decode cX4_logs 7 = .ok (.imul, 1) := by decide +kernel
theorem dX4_logs_8 : decode cX4_logs 8 = .ok (.aload_n 0, 1) := by decide +kernel
theorem dX4_logs_9 : decode cX4_logs 9 = .ok (.getfield 95, 3) := by decide +kernel
theorem dX4_logs_12 : decode cX4_logs 12 = .ok (.arraylength, 1) := by decide +kernel
theorem dX4_logs_13 : decode cX4_logs 13 = .ok (.if_icmp .le 51, 3) := by decide +kernel
theorem dX4_logs_16 : decode cX4_logs 16 = .ok (.iconst 2, 1) := by decide +kernel
theorem dX4_logs_17 : decode cX4_logs 17 = .ok (.aload_n 0, 1) := by decide +kernel
theorem dX4_logs_18 : decode cX4_logs 18 = .ok (.getfield 95, 3) := by decide +kernel
theorem dX4_logs_21 : decode cX4_logs 21 = .ok (.arraylength, 1) := by decide +kernel
theorem dX4_logs_22 : decode cX4_logs 22 = .ok (.imul, 1) := by decide +kernel
theorem dX4_logs_23 : decode cX4_logs 23 = .ok (.newarray .int, 2) := by decide +kernel
theorem dX4_logs_25 : decode cX4_logs 25 = .ok (.astore 4, 2) := by decide +kernel
theorem dX4_logs_27 : decode cX4_logs 27 = .ok (.iconst 0, 1) := by decide +kernel
theorem dX4_logs_28 : decode cX4_logs 28 = .ok (.istore 5, 2) := by decide +kernel
theorem dX4_logs_30 : decode cX4_logs 30 = .ok (.iload 5, 2) := by decide +kernel
theorem dX4_logs_32 : decode cX4_logs 32 = .ok (.aload_n 0, 1) := by decide +kernel
theorem dX4_logs_33 : decode cX4_logs 33 = .ok (.getfield 95, 3) := by decide +kernel
theorem dX4_logs_36 : decode cX4_logs 36 = .ok (.arraylength, 1) := by decide +kernel
theorem dX4_logs_37 : decode cX4_logs 37 = .ok (.if_icmp .ge 21, 3) := by decide +kernel
theorem dX4_logs_40 : decode cX4_logs 40 = .ok (.aload 4, 2) := by decide +kernel
theorem dX4_logs_42 : decode cX4_logs 42 = .ok (.iload 5, 2) := by decide +kernel
theorem dX4_logs_44 : decode cX4_logs 44 = .ok (.aload_n 0, 1) := by decide +kernel
theorem dX4_logs_45 : decode cX4_logs 45 = .ok (.getfield 95, 3) := by decide +kernel
theorem dX4_logs_48 : decode cX4_logs 48 = .ok (.iload 5, 2) := by decide +kernel
theorem dX4_logs_50 : decode cX4_logs 50 = .ok (.iaload, 1) := by decide +kernel
theorem dX4_logs_51 : decode cX4_logs 51 = .ok (.iastore, 1) := by decide +kernel
theorem dX4_logs_52 : decode cX4_logs 52 = .ok (.iinc 5 1, 3) := by decide +kernel
theorem dX4_logs_55 : decode cX4_logs 55 = .ok (.goto (-25), 3) := by decide +kernel
theorem dX4_logs_58 : decode cX4_logs 58 = .ok (.aload_n 0, 1) := by decide +kernel
theorem dX4_logs_59 : decode cX4_logs 59 = .ok (.aload 4, 2) := by decide +kernel
theorem dX4_logs_61 : decode cX4_logs 61 = .ok (.putfield 95, 3) := by decide +kernel
theorem dX4_logs_64 : decode cX4_logs 64 = .ok (.aload_n 0, 1) := by decide +kernel
theorem dX4_logs_65 : decode cX4_logs 65 = .ok (.getfield 95, 3) := by decide +kernel
theorem dX4_logs_68 : decode cX4_logs 68 = .ok (.iconst 4, 1) := by decide +kernel
theorem dX4_logs_69 : decode cX4_logs 69 = .ok (.aload_n 0, 1) := by decide +kernel
theorem dX4_logs_70 : decode cX4_logs 70 = .ok (.getfield 127, 3) := by decide +kernel
theorem dX4_logs_73 : decode cX4_logs 73 = .ok (.imul, 1) := by decide +kernel
theorem dX4_logs_74 : decode cX4_logs 74 = .ok (.iload_n 1, 1) := by decide +kernel
theorem dX4_logs_75 : decode cX4_logs 75 = .ok (.iastore, 1) := by decide +kernel
theorem dX4_logs_76 : decode cX4_logs 76 = .ok (.aload_n 0, 1) := by decide +kernel
theorem dX4_logs_77 : decode cX4_logs 77 = .ok (.getfield 95, 3) := by decide +kernel
theorem dX4_logs_80 : decode cX4_logs 80 = .ok (.iconst 4, 1) := by decide +kernel
theorem dX4_logs_81 : decode cX4_logs 81 = .ok (.aload_n 0, 1) := by decide +kernel
theorem dX4_logs_82 : decode cX4_logs 82 = .ok (.getfield 127, 3) := by decide +kernel
theorem dX4_logs_85 : decode cX4_logs 85 = .ok (.imul, 1) := by decide +kernel
theorem dX4_logs_86 : decode cX4_logs 86 = .ok (.iconst 1, 1) := by decide +kernel
theorem dX4_logs_87 : decode cX4_logs 87 = .ok (.iadd, 1) := by decide +kernel
theorem dX4_logs_88 : decode cX4_logs 88 = .ok (.iload_n 2, 1) := by decide +kernel
theorem dX4_logs_89 : decode cX4_logs 89 = .ok (.iastore, 1) := by decide +kernel
theorem dX4_logs_90 : decode cX4_logs 90 = .ok (.aload_n 0, 1) := by decide +kernel
theorem dX4_logs_91 : decode cX4_logs 91 = .ok (.getfield 95, 3) := by decide +kernel
theorem dX4_logs_94 : decode cX4_logs 94 = .ok (.iconst 4, 1) := by decide +kernel
theorem dX4_logs_95 : decode cX4_logs 95 = .ok (.aload_n 0, 1) := by decide +kernel
theorem dX4_logs_96 : decode cX4_logs 96 = .ok (.getfield 127, 3) := by decide +kernel
theorem dX4_logs_99 : decode cX4_logs 99 = .ok (.imul, 1) := by decide +kernel
theorem dX4_logs_100 : decode cX4_logs 100 = .ok (.iconst 2, 1) := by decide +kernel
theorem dX4_logs_101 : decode cX4_logs 101 = .ok (.iadd, 1) := by decide +kernel
theorem dX4_logs_102 : decode cX4_logs 102 = .ok (.iload_n 3, 1) := by decide +kernel
theorem dX4_logs_103 : decode cX4_logs 103 = .ok (.iastore, 1) := by decide +kernel
theorem dX4_logs_104 : decode cX4_logs 104 = .ok (.aload_n 0, 1) := by decide +kernel
theorem dX4_logs_105 : decode cX4_logs 105 = .ok (.getfield 95, 3) := by decide +kernel
theorem dX4_logs_108 : decode cX4_logs 108 = .ok (.iconst 4, 1) := by decide +kernel
theorem dX4_logs_109 : decode cX4_logs 109 = .ok (.aload_n 0, 1) := by decide +kernel
theorem dX4_logs_110 : decode cX4_logs 110 = .ok (.getfield 127, 3) := by decide +kernel
theorem dX4_logs_113 : decode cX4_logs 113 = .ok (.imul, 1) := by decide +kernel
theorem dX4_logs_114 : decode cX4_logs 114 = .ok (.iconst 3, 1) := by decide +kernel
theorem dX4_logs_115 : decode cX4_logs 115 = .ok (.iadd, 1) := by decide +kernel
theorem dX4_logs_116 : decode cX4_logs 116 = .ok (.aload_n 0, 1) := by decide +kernel
theorem dX4_logs_117 : decode cX4_logs 117 = .ok (.getfield 130, 3) := by decide +kernel
theorem dX4_logs_120 : decode cX4_logs 120 = .ok (.iastore, 1) := by decide +kernel
theorem dX4_logs_121 : decode cX4_logs 121 = .ok (.aload_n 0, 1) := by decide +kernel
theorem dX4_logs_122 : decode cX4_logs 122 = .ok (.dup, 1) := by decide +kernel
theorem dX4_logs_123 : decode cX4_logs 123 = .ok (.getfield 127, 3) := by decide +kernel
theorem dX4_logs_126 : decode cX4_logs 126 = .ok (.iconst 1, 1) := by decide +kernel
theorem dX4_logs_127 : decode cX4_logs 127 = .ok (.iadd, 1) := by decide +kernel
theorem dX4_logs_128 : decode cX4_logs 128 = .ok (.putfield 127, 3) := by decide +kernel
theorem dX4_logs_131 : decode cX4_logs 131 = .ok (.return_, 1) := by decide +kernel
theorem dX4_clears_0 : decode cX4_clears 0 = .ok (.iconst 0, 1) := by decide +kernel
theorem dX4_clears_1 : decode cX4_clears 1 = .ok (.istore_n 2, 1) := by decide +kernel
theorem dX4_clears_2 : decode cX4_clears 2 = .ok (.iload_n 2, 1) := by decide +kernel
theorem dX4_clears_3 : decode cX4_clears 3 = .ok (.bipush 24, 2) := by decide +kernel
theorem dX4_clears_5 : decode cX4_clears 5 = .ok (.if_icmp .ge 21, 3) := by decide +kernel
theorem dX4_clears_8 : decode cX4_clears 8 = .ok (.aload_n 0, 1) := by decide +kernel
theorem dX4_clears_9 : decode cX4_clears 9 = .ok (.getfield 74, 3) := by decide +kernel
theorem dX4_clears_12 : decode cX4_clears 12 = .ok (.bipush 24, 2) := by decide +kernel
theorem dX4_clears_14 : decode cX4_clears 14 = .ok (.iload_n 1, 1) := by decide +kernel
theorem dX4_clears_15 : decode cX4_clears 15 = .ok (.imul, 1) := by decide +kernel
theorem dX4_clears_16 : decode cX4_clears 16 = .ok (.iload_n 2, 1) := by decide +kernel
theorem dX4_clears_17 : decode cX4_clears 17 = .ok (.iadd, 1) := by decide +kernel
theorem dX4_clears_18 : decode cX4_clears 18 = .ok (.iconst 0, 1) := by decide +kernel
theorem dX4_clears_19 : decode cX4_clears 19 = .ok (.iastore, 1) := by decide +kernel
theorem dX4_clears_20 : decode cX4_clears 20 = .ok (.iinc 2 1, 3) := by decide +kernel
theorem dX4_clears_23 : decode cX4_clears 23 = .ok (.goto (-21), 3) := by decide +kernel
theorem dX4_clears_26 : decode cX4_clears 26 = .ok (.iconst 0, 1) := by decide +kernel
theorem dX4_clears_27 : decode cX4_clears 27 = .ok (.istore_n 2, 1) := by decide +kernel
theorem dX4_clears_28 : decode cX4_clears 28 = .ok (.iload_n 2, 1) := by decide +kernel
theorem dX4_clears_29 : decode cX4_clears 29 = .ok (.bipush 8, 2) := by decide +kernel
