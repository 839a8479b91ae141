theorem dX4_clears_31 : decode cX4_clears 31 = .ok (.if_icmp .ge 33, 3) := by decide +kernel
theorem dX4_clears_34 : decode cX4_clears 34 = .ok (.aload_n 0, 1) := by decide +kernel
theorem dX4_clears_35 : decode cX4_clears 35 = .ok (.getfield 80, 3) := by decide +kernel
theorem dX4_clears_38 : decode cX4_clears 38 = .ok (.bipush 8, 2) := by decide +kernel
theorem dX4_clears_40 : decode cX4_clears 40 = .ok (.iload_n 1, 1) := by decide +kernel
theorem dX4_clears_41 : decode cX4_clears 41 = .ok (.imul, 1) := by decide +kernel
theorem dX4_clears_42 : decode cX4_clears 42 = .ok (.iload_n 2, 1) := by decide +kernel
theorem dX4_clears_43 : decode cX4_clears 43 = .ok (.iadd, 1) := by decide +kernel
theorem dX4_clears_44 : decode cX4_clears 44 = .ok (.iconst 0, 1) := by decide +kernel
theorem dX4_clears_45 : decode cX4_clears 45 = .ok (.iastore, 1) := by decide +kernel
theorem dX4_clears_46 : decode cX4_clears 46 = .ok (.aload_n 0, 1) := by decide +kernel
theorem dX4_clears_47 : decode cX4_clears 47 = .ok (.getfield 83, 3) := by decide +kernel
theorem dX4_clears_50 : decode cX4_clears 50 = .ok (.bipush 8, 2) := by decide +kernel
theorem dX4_clears_52 : decode cX4_clears 52 = .ok (.iload_n 1, 1) := by decide +kernel
theorem dX4_clears_53 : decode cX4_clears 53 = .ok (.imul, 1) := by decide +kernel
theorem dX4_clears_54 : decode cX4_clears 54 = .ok (.iload_n 2, 1) := by decide +kernel
theorem dX4_clears_55 : decode cX4_clears 55 = .ok (.iadd, 1) := by decide +kernel
theorem dX4_clears_56 : decode cX4_clears 56 = .ok (.iconst 0, 1) := by decide +kernel
theorem dX4_clears_57 : decode cX4_clears 57 = .ok (.iastore, 1) := by decide +kernel
theorem dX4_clears_58 : decode cX4_clears 58 = .ok (.iinc 2 1, 3) := by decide +kernel
theorem dX4_clears_61 : decode cX4_clears 61 = .ok (.goto (-33), 3) := by decide +kernel
theorem dX4_clears_64 : decode cX4_clears 64 = .ok (.aload_n 0, 1) := by decide +kernel
theorem dX4_clears_65 : decode cX4_clears 65 = .ok (.getfield 89, 3) := by decide +kernel
theorem dX4_clears_68 : decode cX4_clears 68 = .ok (.iload_n 1, 1) := by decide +kernel
theorem dX4_clears_69 : decode cX4_clears 69 = .ok (.iconst 0, 1) := by decide +kernel
theorem dX4_clears_70 : decode cX4_clears 70 = .ok (.iastore, 1) := by decide +kernel
theorem dX4_clears_71 : decode cX4_clears 71 = .ok (.aload_n 0, 1) := by decide +kernel
theorem dX4_clears_72 : decode cX4_clears 72 = .ok (.getfield 49, 3) := by decide +kernel
theorem dX4_clears_75 : decode cX4_clears 75 = .ok (.iload_n 1, 1) := by decide +kernel
theorem dX4_clears_76 : decode cX4_clears 76 = .ok (.iconst 0, 1) := by decide +kernel
theorem dX4_clears_77 : decode cX4_clears 77 = .ok (.iastore, 1) := by decide +kernel
theorem dX4_clears_78 : decode cX4_clears 78 = .ok (.aload_n 0, 1) := by decide +kernel
theorem dX4_clears_79 : decode cX4_clears 79 = .ok (.getfield 46, 3) := by decide +kernel
theorem dX4_clears_82 : decode cX4_clears 82 = .ok (.iload_n 1, 1) := by decide +kernel
theorem dX4_clears_83 : decode cX4_clears 83 = .ok (.iconst 0, 1) := by decide +kernel
theorem dX4_clears_84 : decode cX4_clears 84 = .ok (.iastore, 1) := by decide +kernel
theorem dX4_clears_85 : decode cX4_clears 85 = .ok (.aload_n 0, 1) := by decide +kernel
theorem dX4_clears_86 : decode cX4_clears 86 = .ok (.getfield 52, 3) := by decide +kernel
theorem dX4_clears_89 : decode cX4_clears 89 = .ok (.iload_n 1, 1) := by decide +kernel
theorem dX4_clears_90 : decode cX4_clears 90 = .ok (.iconst 0, 1) := by decide +kernel
theorem dX4_clears_91 : decode cX4_clears 91 = .ok (.bastore, 1) := by decide +kernel
theorem dX4_clears_92 : decode cX4_clears 92 = .ok (.return_, 1) := by decide +kernel
theorem dX4_lets_0 : decode cX4_lets 0 = .ok (.iconst 0, 1) := by decide +kernel
theorem dX4_lets_1 : decode cX4_lets 1 = .ok (.istore_n 2, 1) := by decide +kernel
theorem dX4_lets_2 : decode cX4_lets 2 = .ok (.iload_n 2, 1) := by decide +kernel
theorem dX4_lets_3 : decode cX4_lets 3 = .ok (.bipush 24, 2) := by decide +kernel
theorem dX4_lets_5 : decode cX4_lets 5 = .ok (.if_icmp .ge 40, 3) := by decide +kernel
theorem dX4_lets_8 : decode cX4_lets 8 = .ok (.aload_n 0, 1) := by decide +kernel
theorem dX4_lets_9 : decode cX4_lets 9 = .ok (.getfield 74, 3) := by decide +kernel
theorem dX4_lets_12 : decode cX4_lets 12 = .ok (.bipush 24, 2) := by decide +kernel
theorem dX4_lets_14 : decode cX4_lets 14 = .ok (.iload_n 1, 1) := by decide +kernel
theorem dX4_lets_15 : decode cX4_lets 15 = .ok (.imul, 1) := by decide +kernel
theorem dX4_lets_16 : decode cX4_lets 16 = .ok (.iload_n 2, 1) := by decide +kernel
theorem dX4_lets_17 : decode cX4_lets 17 = .ok (.iadd, 1) := by decide +kernel
theorem dX4_lets_18 : decode cX4_lets 18 = .ok (.aload_n 0, 1) := by decide +kernel
theorem dX4_lets_19 : decode cX4_lets 19 = .ok (.getfield 74, 3) := by decide +kernel
theorem dX4_lets_22 : decode cX4_lets 22 = .ok (.bipush 24, 2) := by decide +kernel
theorem dX4_lets_24 : decode cX4_lets 24 = .ok (.iload_n 1, 1) := by decide +kernel
theorem dX4_lets_25 : decode cX4_lets 25 = .ok (.imul, 1) := by decide +kernel
theorem dX4_lets_26 : decode cX4_lets 26 = .ok (.iload_n 2, 1) := by decide +kernel
theorem dX4_lets_27 : decode cX4_lets 27 = .ok (.iadd, 1) := by decide +kernel
theorem dX4_lets_28 : decode cX4_lets 28 = .ok (.iaload, 1) := by decide +kernel
theorem dX4_lets_29 : decode cX4_lets 29 = .ok (.iconst 2, 1) := by decide +kernel
theorem dX4_lets_30 : decode cX4_lets 30 = .ok (.if_icmp .ne 7, 3) := by decide +kernel
theorem dX4_lets_33 : decode cX4_lets 33 = .ok (.iconst 3, 1) := by decide +kernel
theorem dX4_lets_34 : decode cX4_lets 34 = .ok (.goto 4, 3) := by decide +kernel
theorem dX4_lets_37 : decode cX4_lets 37 = .ok (.iconst 0, 1) := by decide +kernel
theorem dX4_lets_38 : decode cX4_lets 38 = .ok (.iastore, 1) := by decide +kernel
theorem dX4_lets_39 : decode cX4_lets 39 = .ok (.iinc 2 1, 3) := by decide +kernel
theorem dX4_lets_42 : decode cX4_lets 42 = .ok (.goto (-40), 3) := by decide +kernel
theorem dX4_lets_45 : decode cX4_lets 45 = .ok (.aload_n 0, 1) := by decide +kernel
theorem dX4_lets_46 : decode cX4_lets 46 = .ok (.getfield 52, 3) := by decide +kernel
theorem dX4_lets_49 : decode cX4_lets 49 = .ok (.iload_n 1, 1) := by decide +kernel
theorem dX4_lets_50 : decode cX4_lets 50 = .ok (.iconst 0, 1) := by decide +kernel
theorem dX4_lets_51 : decode cX4_lets 51 = .ok (.bastore, 1) := by decide +kernel
theorem dX4_lets_52 : decode cX4_lets 52 = .ok (.return_, 1) := by decide +kernel
theorem dX4_bars_0 : decode cX4_bars 0 = .ok (.iload_n 1, 1) := by decide +kernel
theorem dX4_bars_1 : decode cX4_bars 1 = .ok (.iload_n 2, 1) := by decide +kernel
theorem dX4_bars_2 : decode cX4_bars 2 = .ok (.if_icmp .eq 13, 3) := by decide +kernel
theorem dX4_bars_5 : decode cX4_bars 5 = .ok (.aload_n 0, 1) := by decide +kernel
theorem dX4_bars_6 : decode cX4_bars 6 = .ok (.getfield 37, 3) := by decide +kernel
theorem dX4_bars_9 : decode cX4_bars 9 = .ok (.iload_n 1, 1) := by decide +kernel
theorem dX4_bars_10 : decode cX4_bars 10 = .ok (.iaload, 1) := by decide +kernel
theorem dX4_bars_11 : decode cX4_bars 11 = .ok (.iconst 1, 1) := by decide +kernel
theorem dX4_bars_12 : decode cX4_bars 12 = .ok (.if_icmp .eq 5, 3) := by decide +kernel
theorem dX4_bars_15 : decode cX4_bars 15 = .ok (.iconst 0, 1) := by decide +kernel
theorem dX4_bars_16 : decode cX4_bars 16 = .ok (.ireturn, 1) := by decide +kernel
theorem dX4_bars_17 : decode cX4_bars 17 = .ok (.aload_n 0, 1) := by decide +kernel
theorem dX4_bars_18 : decode cX4_bars 18 = .ok (.getfield 74, 3) := by decide +kernel
theorem dX4_bars_21 : decode cX4_bars 21 = .ok (.bipush 24, 2) := by decide +kernel
theorem dX4_bars_23 : decode cX4_bars 23 = .ok (.iload_n 1, 1) := by decide +kernel
theorem dX4_bars_24 : decode cX4_bars 24 = .ok (.imul, 1) := by decide +kernel
theorem dX4_bars_25 : decode cX4_bars 25 = .ok (.iload_n 3, 1) := by decide +kernel
theorem dX4_bars_26 : decode cX4_bars 26 = .ok (.iadd, 1) := by decide +kernel
theorem dX4_bars_27 : decode cX4_bars 27 = .ok (.iaload, 1) := by decide +kernel
theorem dX4_bars_28 : decode cX4_bars 28 = .ok (.istore 5, 2) := by decide +kernel
theorem dX4_bars_30 : decode cX4_bars 30 = .ok (.iload 4, 2) := by decide +kernel
theorem dX4_bars_32 : decode cX4_bars 32 = .ok (.ifCond .eq 16, 3) := by decide +kernel
theorem dX4_bars_35 : decode cX4_bars 35 = .ok (.iload 5, 2) := by decide +kernel
theorem dX4_bars_37 : decode cX4_bars 37 = .ok (.ifCond .le 7, 3) := by decide +kernel
theorem dX4_bars_40 : decode cX4_bars 40 = .ok (.iconst 1, 1) := by decide +kernel
theorem dX4_bars_41 : decode cX4_bars 41 = .ok (.goto 18, 3) := by decide +kernel
theorem dX4_bars_44 : decode cX4_bars 44 = .ok (.iconst 0, 1) := by decide +kernel
theorem dX4_bars_45 : decode cX4_bars 45 = .ok (.goto 14, 3) := by decide +kernel
theorem dX4_bars_48 : decode cX4_bars 48 = .ok (.iload 5, 2) := by decide +kernel
theorem dX4_bars_50 : decode cX4_bars 50 = .ok (.iconst 2, 1) := by decide +kernel
theorem dX4_bars_51 : decode cX4_bars 51 = .ok (.if_icmp .ne 7, 3) := by decide +kernel
theorem dX4_bars_54 : decode cX4_bars 54 = .ok (.iconst 1, 1) := by decide +kernel
theorem dX4_bars_55 : decode cX4_bars 55 = .ok (.goto 4, 3) := by decide +kernel
theorem dX4_bars_58 : decode cX4_bars 58 = .ok (.iconst 0, 1) := by decide +kernel
theorem dX4_bars_59 : decode cX4_bars 59 = .ok (.ireturn, 1) := by decide +kernel
set_option maxRecDepth 20000 in
theorem ggX4_isFree_X4_bars : GoodIn wsX4_isFree wsX4_bars := goodIn_r _ [6, 7, 8, 9, 10, 11, 12, 13, 14, 15, 16, 17, 18, 19, 20, 21, 22, 23, 24, 25, 26, 27, 28, 29, 30, 31, 32, 33, 34, 35, 36, 37, 38, 39, 40, 41, 42, 43, 44, 45, 46, 47] (by decide +kernel) (by decide +kernel)
set_option maxRecDepth 20000 in
theorem gX4_isFree_X4_bars : GoodIn wsX4_isFree (wsV RX4 133 RX4 yX4_bars wsX4_bars) := goodIn_app (goodIn_of _ (by decide +kernel)) ggX4_isFree_X4_bars
theorem dX4_isFree_0 : decode cX4_isFree 0 = .ok (.iconst 0, 1) := by decide +kernel
theorem dX4_isFree_1 : decode cX4_isFree 1 = .ok (.istore 4, 2) := by decide +kernel
theorem dX4_isFree_3 : decode cX4_isFree 3 = .ok (.iload 4, 2) := by decide +kernel
theorem dX4_isFree_5 : decode cX4_isFree 5 = .ok (.aload_n 0, 1) := by decide +kernel
theorem dX4_isFree_6 : decode cX4_isFree 6 = .ok (.getfield 111, 3) := by decide +kernel
theorem dX4_isFree_9 : decode cX4_isFree 9 = .ok (.if_icmp .ge 23, 3) := by decide +kernel
theorem dX4_isFree_12 : decode cX4_isFree 12 = .ok (.aload_n 0, 1) := by decide +kernel
theorem dX4_isFree_13 : decode cX4_isFree 13 = .ok (.iload 4, 2) := by decide +kernel
theorem dX4_isFree_15 : decode cX4_isFree 15 = .ok (.iload_n 1, 1) := by decide +kernel
theorem dX4_isFree_16 : decode cX4_isFree 16 = .ok (.iload_n 2, 1) := by decide +kernel
theorem dX4_isFree_17 : decode cX4_isFree 17 = .ok (.iload_n 3, 1) := by decide +kernel
theorem dX4_isFree_18 : decode cX4_isFree 18 = .ok (.invokevirtual 133, 3) := by decide +kernel
theorem dX4_isFree_21 : decode cX4_isFree 21 = .ok (.ifCond .eq 5, 3) := by decide +kernel
theorem dX4_isFree_24 : decode cX4_isFree 24 = .ok (.iconst 0, 1) := by decide +kernel
theorem dX4_isFree_25 : decode cX4_isFree 25 = .ok (.ireturn, 1) := by decide +kernel
theorem dX4_isFree_26 : decode cX4_isFree 26 = .ok (.iinc 4 1, 3) := by decide +kernel
theorem dX4_isFree_29 : decode cX4_isFree 29 = .ok (.goto (-26), 3) := by decide +kernel
theorem dX4_isFree_32 : decode cX4_isFree 32 = .ok (.iconst 1, 1) := by decide +kernel
theorem dX4_isFree_33 : decode cX4_isFree 33 = .ok (.ireturn, 1) := by decide +kernel
theorem dX4_seen_0 : decode cX4_seen 0 = .ok (.aload_n 0, 1) := by decide +kernel
theorem dX4_seen_1 : decode cX4_seen 1 = .ok (.getfield 74, 3) := by decide +kernel
theorem dX4_seen_4 : decode cX4_seen 4 = .ok (.bipush 24, 2) := by decide +kernel
theorem dX4_seen_6 : decode cX4_seen 6 = .ok (.iload_n 1, 1) := by decide +kernel
theorem dX4_seen_7 : decode cX4_seen 7 = .ok (.imul, 1) := by decide +kernel
theorem dX4_seen_8 : decode cX4_seen 8 = .ok (.iload_n 2, 1) := by decide +kernel
theorem dX4_seen_9 : decode cX4_seen 9 = .ok (.iadd, 1) := by decide +kernel
theorem dX4_seen_10 : decode cX4_seen 10 = .ok (.iaload, 1) := by decide +kernel
theorem dX4_seen_11 : decode cX4_seen 11 = .ok (.iconst 2, 1) := by decide +kernel
theorem dX4_seen_12 : decode cX4_seen 12 = .ok (.if_icmp .ne 17, 3) := by decide +kernel
theorem dX4_seen_15 : decode cX4_seen 15 = .ok (.aload_n 0, 1) := by decide +kernel
theorem dX4_seen_16 : decode cX4_seen 16 = .ok (.getfield 77, 3) := by decide +kernel
theorem dX4_seen_19 : decode cX4_seen 19 = .ok (.bipush 24, 2) := by decide +kernel
theorem dX4_seen_21 : decode cX4_seen 21 = .ok (.iload_n 1, 1) := by decide +kernel
theorem dX4_seen_22 : decode cX4_seen 22 = .ok (.imul, 1) := by decide +kernel
theorem dX4_seen_23 : decode cX4_seen 23 = .ok (.iload_n 2, 1) := by decide +kernel
theorem dX4_seen_24 : decode cX4_seen 24 = .ok (.iadd, 1) := by decide +kernel
theorem dX4_seen_25 : decode cX4_seen 25 = .ok (.iaload, 1) := by decide +kernel
theorem dX4_seen_26 : decode cX4_seen 26 = .ok (.goto 9, 3) := by decide +kernel
theorem dX4_seen_29 : decode cX4_seen 29 = .ok (.aload_n 0, 1) := by decide +kernel
theorem dX4_seen_30 : decode cX4_seen 30 = .ok (.getfield 9, 3) := by decide +kernel
theorem dX4_seen_33 : decode cX4_seen 33 = .ok (.iload_n 2, 1) := by decide +kernel
theorem dX4_seen_34 : decode cX4_seen 34 = .ok (.iaload, 1) := by decide +kernel
theorem dX4_seen_35 : decode cX4_seen 35 = .ok (.ireturn, 1) := by decide +kernel
theorem dX4_stepOf_0 : decode cX4_stepOf 0 = .ok (.aload_n 0, 1) := by decide +kernel
theorem dX4_stepOf_1 : decode cX4_stepOf 1 = .ok (.getfield 43, 3) := by decide +kernel
theorem dX4_stepOf_4 : decode cX4_stepOf 4 = .ok (.bipush 12, 2) := by decide +kernel
theorem dX4_stepOf_6 : decode cX4_stepOf 6 = .ok (.iload_n 1, 1) := by decide +kernel
theorem dX4_stepOf_7 : decode cX4_stepOf 7 = .ok (.imul, 1) := by decide +kernel
theorem dX4_stepOf_8 : decode cX4_stepOf 8 = .ok (.aload_n 0, 1) := by decide +kernel
theorem dX4_stepOf_9 : decode cX4_stepOf 9 = .ok (.getfield 46, 3) := by decide +kernel
theorem dX4_stepOf_12 : decode cX4_stepOf 12 = .ok (.iload_n 1, 1) := by decide +kernel
theorem dX4_stepOf_13 : decode cX4_stepOf 13 = .ok (.iaload, 1) := by decide +kernel
theorem dX4_stepOf_14 : decode cX4_stepOf 14 = .ok (.iadd, 1) := by decide +kernel
theorem dX4_stepOf_15 : decode cX4_stepOf 15 = .ok (.iaload, 1) := by decide +kernel
theorem dX4_stepOf_16 : decode cX4_stepOf 16 = .ok (.ireturn, 1) := by decide +kernel
set_option maxRecDepth 20000 in
theorem ggX4_does_X4_stepOf : GoodIn wsX4_does wsX4_stepOf := goodIn_r _ [18, 19, 12, 83, 84, 85, 86, 87, 88, 89, 90, 91, 92, 93, 94, 95, 96, 97, 98, 99, 100, 101, 102, 103, 104, 105, 106, 107, 108, 109, 110, 111, 112, 113, 114, 115, 116, 117, 118, 119, 120, 121] (by decide +kernel) (by decide +kernel)
set_option maxRecDepth 20000 in
theorem gX4_does_X4_stepOf : GoodIn wsX4_does (wsV RX4 137 RX4 yX4_stepOf wsX4_stepOf) := goodIn_app (goodIn_of _ (by decide +kernel)) ggX4_does_X4_stepOf
set_option maxRecDepth 20000 in
theorem ggX4_does_X4_canDo : GoodIn wsX4_does wsX4_canDo := goodIn_r _ [23, 24, 25, 26, 27, 17, 28, 29, 30, 31, 32, 33, 11, 3, 34, 35, 36, 37, 38, 6, 83, 84, 85, 86, 87, 88, 89, 90, 91, 92, 93, 94, 95, 96, 97, 98, 99, 100, 101, 102, 103, 104, 105, 106, 107, 108, 109, 110, 111, 112, 113, 114, 115, 116, 117, 118, 119, 120, 121] (by decide +kernel) (by decide +kernel)
set_option maxRecDepth 20000 in
theorem gX4_does_X4_canDo : GoodIn wsX4_does (wsV RX4 140 RX4 yX4_canDo wsX4_canDo) := goodIn_app (goodIn_of _ (by decide +kernel)) ggX4_does_X4_canDo
set_option maxRecDepth 20000 in
theorem ggX4_does_X4_seen : GoodIn wsX4_does wsX4_seen := goodIn_r _ [42, 3, 4, 43, 83, 84, 85, 86, 87, 88, 89, 90, 91, 92, 93, 94, 95, 96, 97, 98, 99, 100, 101, 102, 103, 104, 105, 106, 107, 108, 109, 110, 111, 112, 113, 114, 115, 116, 117, 118, 119, 120, 121] (by decide +kernel) (by decide +kernel)
set_option maxRecDepth 20000 in
theorem gX4_does_X4_seen : GoodIn wsX4_does (wsV RX4 144 RX4 yX4_seen wsX4_seen) := goodIn_app (goodIn_of _ (by decide +kernel)) ggX4_does_X4_seen
set_option maxRecDepth 20000 in
theorem ggX4_does_X4_logs : GoodIn wsX4_does wsX4_logs := goodIn_r _ [47, 48, 49, 50, 51, 83, 84, 85, 86, 87, 88, 89, 90, 91, 92, 93, 94, 95, 96, 97, 98, 99, 100, 101, 102, 103, 104, 105, 106, 107, 108, 109, 110, 111, 112, 113, 114, 115, 116, 117, 118, 119, 120, 121] (by decide +kernel) (by decide +kernel)
set_option maxRecDepth 20000 in
theorem gX4_does_X4_logs : GoodIn wsX4_does (wsV RX4 148 RX4 yX4_logs wsX4_logs) := goodIn_app (goodIn_of _ (by decide +kernel)) ggX4_does_X4_logs
set_option maxRecDepth 20000 in
theorem ggX4_does_X4_in : GoodIn wsX4_does wsX4_in := goodIn_r _ [54] (by decide +kernel) (by decide +kernel)
set_option maxRecDepth 20000 in
theorem gX4_does_X4_in : GoodIn wsX4_does (va_wsS RX4 107 yX4_in wsX4_in) := goodIn_app (goodIn_of _ (by decide +kernel)) ggX4_does_X4_in
set_option maxRecDepth 20000 in
theorem ggX4_does_X4_clears : GoodIn wsX4_does wsX4_clears := goodIn_r _ [58, 3, 5, 6, 8, 2, 12, 1, 83, 84, 85, 86, 87, 88, 89, 90, 91, 92, 93, 94, 95, 96, 97, 98, 99, 100, 101, 102, 103, 104, 105, 106, 107, 108, 109, 110, 111, 112, 113, 114, 115, 116, 117, 118, 119, 120, 121] (by decide +kernel) (by decide +kernel)
set_option maxRecDepth 20000 in
theorem gX4_does_X4_clears : GoodIn wsX4_does (wsV RX4 154 RX4 yX4_clears wsX4_clears) := goodIn_app (goodIn_of _ (by decide +kernel)) ggX4_does_X4_clears
set_option maxRecDepth 20000 in
theorem ggX4_does_X4_isDone : GoodIn wsX4_does wsX4_isDone := goodIn_r _ [62, 11, 63, 51, 64, 65, 8, 7, 66, 67, 68, 69, 70, 17, 71, 3, 1, 44, 45, 46, 47, 48, 49, 50, 72, 73, 74, 75, 43, 4, 38, 5, 76, 77, 78, 79, 29, 80, 81, 82, 83, 84, 85, 86, 87, 88, 89, 90, 91, 92, 93, 94, 95, 96, 97, 98, 99, 100, 101, 102, 103, 104, 105, 106, 107, 108, 109, 110, 111, 112, 113, 114, 115, 116, 117, 118, 119, 120, 121] (by decide +kernel) (by decide +kernel)
set_option maxRecDepth 20000 in
theorem gX4_does_X4_isDone : GoodIn wsX4_does (wsV RX4 158 RX4 yX4_isDone wsX4_isDone) := goodIn_app (goodIn_of _ (by decide +kernel)) ggX4_does_X4_isDone
theorem dX4_does_0 : decode cX4_does 0 = .ok (.aload_n 0, 1) := by decide +kernel
theorem dX4_does_1 : decode cX4_does 1 = .ok (.iload_n 1, 1) := by decide +kernel
theorem dX4_does_2 : decode cX4_does 2 = .ok (.invokevirtual 137, 3) := by decide +kernel
theorem dX4_does_5 : decode cX4_does 5 = .ok (.istore_n 2, 1) := by decide +kernel
theorem dX4_does_6 : decode cX4_does 6 = .ok (.iload_n 2, 1) := by decide +kernel
theorem dX4_does_7 : decode cX4_does 7 = .ok (.sipush 10000, 3) := by decide +kernel
theorem dX4_does_10 : decode cX4_does 10 = .ok (.idiv, 1) := by decide +kernel
theorem dX4_does_11 : decode cX4_does 11 = .ok (.istore_n 3, 1) := by decide +kernel
theorem dX4_does_12 : decode cX4_does 12 = .ok (.iload_n 2, 1) := by decide +kernel
theorem dX4_does_13 : decode cX4_does 13 = .ok (.bipush 100, 2) := by decide +kernel
theorem dX4_does_15 : decode cX4_does 15 = .ok (.idiv, 1) := by decide +kernel
theorem dX4_does_16 : decode cX4_does 16 = .ok (.bipush 100, 2) := by decide +kernel
theorem dX4_does_18 : decode cX4_does 18 = .ok (.irem, 1) := by decide +kernel
theorem dX4_does_19 : decode cX4_does 19 = .ok (.istore 4, 2) := by decide +kernel
theorem dX4_does_21 : decode cX4_does 21 = .ok (.iload_n 2, 1) := by decide +kernel
theorem dX4_does_22 : decode cX4_does 22 = .ok (.bipush 100, 2) := by decide +kernel
theorem dX4_does_24 : decode cX4_does 24 = .ok (.irem, 1) := by decide +kernel
theorem dX4_does_25 : decode cX4_does 25 = .ok (.istore 5, 2) := by decide +kernel
theorem dX4_does_27 : decode cX4_does 27 = .ok (.aload_n 0, 1) := by decide +kernel
theorem dX4_does_28 : decode cX4_does 28 = .ok (.getfield 52, 3) := by decide +kernel
theorem dX4_does_31 : decode cX4_does 31 = .ok (.iload_n 1, 1) := by decide +kernel
theorem dX4_does_32 : decode cX4_does 32 = .ok (.aload_n 0, 1) := by decide +kernel
theorem dX4_does_33 : decode cX4_does 33 = .ok (.iload_n 1, 1) := by decide +kernel
theorem dX4_does_34 : decode cX4_does 34 = .ok (.iload_n 3, 1) := by decide +kernel
theorem dX4_does_35 : decode cX4_does 35 = .ok (.iload 4, 2) := by decide +kernel
theorem dX4_does_37 : decode cX4_does 37 = .ok (.iload 5, 2) := by decide +kernel
theorem dX4_does_39 : decode cX4_does 39 = .ok (.invokevirtual 140, 3) := by decide +kernel
theorem dX4_does_42 : decode cX4_does 42 = .ok (.ifCond .ne 7, 3) := by decide +kernel
theorem dX4_does_45 : decode cX4_does 45 = .ok (.iconst 1, 1) := by decide +kernel
theorem dX4_does_46 : decode cX4_does 46 = .ok (.goto 4, 3) := by decide +kernel
theorem dX4_does_49 : decode cX4_does 49 = .ok (.iconst 0, 1) := by decide +kernel
theorem dX4_does_50 : decode cX4_does 50 = .ok (.bastore, 1) := by decide +kernel
theorem dX4_does_51 : decode cX4_does 51 = .ok (.aload_n 0, 1) := by decide +kernel
theorem dX4_does_52 : decode cX4_does 52 = .ok (.getfield 52, 3) := by decide +kernel
theorem dX4_does_55 : decode cX4_does 55 = .ok (.iload_n 1, 1) := by decide +kernel
theorem dX4_does_56 : decode cX4_does 56 = .ok (.baload, 1) := by decide +kernel
theorem dX4_does_57 : decode cX4_does 57 = .ok (.ifCond .eq 4, 3) := by decide +kernel
theorem dX4_does_60 : decode cX4_does 60 = .ok (.return_, 1) := by decide +kernel
theorem dX4_does_61 : decode cX4_does 61 = .ok (.iconst 0, 1) := by decide +kernel
theorem dX4_does_62 : decode cX4_does 62 = .ok (.istore 6, 2) := by decide +kernel
theorem dX4_does_64 : decode cX4_does 64 = .ok (.iload_n 3, 1) := by decide +kernel
theorem dX4_does_65 : decode cX4_does 65 = .ok (.ifCond .eq 8, 3) := by decide +kernel
theorem dX4_does_68 : decode cX4_does 68 = .ok (.iload_n 3, 1) := by decide +kernel
theorem dX4_does_69 : decode cX4_does 69 = .ok (.iconst 4, 1) := by decide +kernel
theorem dX4_does_70 : decode cX4_does 70 = .ok (.if_icmp .ne 63, 3) := by decide +kernel
theorem dX4_does_73 : decode cX4_does 73 = .ok (.aload_n 0, 1) := by decide +kernel
theorem dX4_does_74 : decode cX4_does 74 = .ok (.getfield 49, 3) := by decide +kernel
theorem dX4_does_77 : decode cX4_does 77 = .ok (.iload_n 1, 1) := by decide +kernel
theorem dX4_does_78 : decode cX4_does 78 = .ok (.aload_n 0, 1) := by decide +kernel
theorem dX4_does_79 : decode cX4_does 79 = .ok (.iload_n 1, 1) := by decide +kernel
theorem dX4_does_80 : decode cX4_does 80 = .ok (.iload 4, 2) := by decide +kernel
theorem dX4_does_82 : decode cX4_does 82 = .ok (.invokevirtual 144, 3) := by decide +kernel
theorem dX4_does_85 : decode cX4_does 85 = .ok (.iload_n 3, 1) := by decide +kernel
theorem dX4_does_86 : decode cX4_does 86 = .ok (.iconst 4, 1) := by decide +kernel
theorem dX4_does_87 : decode cX4_does 87 = .ok (.if_icmp .ne 12, 3) := by decide +kernel
theorem dX4_does_90 : decode cX4_does 90 = .ok (.aload_n 0, 1) := by decide +kernel
theorem dX4_does_91 : decode cX4_does 91 = .ok (.getfield 49, 3) := by decide +kernel
theorem dX4_does_94 : decode cX4_does 94 = .ok (.iload_n 1, 1) := by decide +kernel
theorem dX4_does_95 : decode cX4_does 95 = .ok (.iaload, 1) := by decide +kernel
theorem dX4_does_96 : decode cX4_does 96 = .ok (.goto 4, 3) := by decide +kernel
theorem dX4_does_99 : decode cX4_does 99 = .ok (.iconst 0, 1) := by decide +kernel
theorem dX4_does_100 : decode cX4_does 100 = .ok (.iadd, 1) := by decide +kernel
theorem dX4_does_101 : decode cX4_does 101 = .ok (.iastore, 1) := by decide +kernel
theorem dX4_does_102 : decode cX4_does 102 = .ok (.aload_n 0, 1) := by decide +kernel
theorem dX4_does_103 : decode cX4_does 103 = .ok (.getfield 74, 3) := by decide +kernel
theorem dX4_does_106 : decode cX4_does 106 = .ok (.bipush 24, 2) := by decide +kernel
theorem dX4_does_108 : decode cX4_does 108 = .ok (.iload_n 1, 1) := by decide +kernel
theorem dX4_does_109 : decode cX4_does 109 = .ok (.imul, 1) := by decide +kernel
theorem dX4_does_110 : decode cX4_does 110 = .ok (.iload 4, 2) := by decide +kernel
theorem dX4_does_112 : decode cX4_does 112 = .ok (.iadd, 1) := by decide +kernel
theorem dX4_does_113 : decode cX4_does 113 = .ok (.iaload, 1) := by decide +kernel
theorem dX4_does_114 : decode cX4_does 114 = .ok (.ifCond .ne 227, 3) := by decide +kernel
theorem dX4_does_117 : decode cX4_does 117 = .ok (.aload_n 0, 1) := by decide +kernel
theorem dX4_does_118 : decode cX4_does 118 = .ok (.getfield 74, 3) := by decide +kernel
theorem dX4_does_121 : decode cX4_does 121 = .ok (.bipush 24, 2) := by decide +kernel
theorem dX4_does_123 : decode cX4_does 123 = .ok (.iload_n 1, 1) := by decide +kernel
theorem dX4_does_124 : decode cX4_does 124 = .ok (.imul, 1) := by decide +kernel
theorem dX4_does_125 : decode cX4_does 125 = .ok (.iload 4, 2) := by decide +kernel
theorem dX4_does_127 : decode cX4_does 127 = .ok (.iadd, 1) := by decide +kernel
theorem dX4_does_128 : decode cX4_does 128 = .ok (.iconst 1, 1) := by decide +kernel
theorem dX4_does_129 : decode cX4_does 129 = .ok (.iastore, 1) := by decide +kernel
theorem dX4_does_130 : decode cX4_does 130 = .ok (.goto 211, 3) := by decide +kernel
theorem dX4_does_133 : decode cX4_does 133 = .ok (.iload_n 3, 1) := by decide +kernel
theorem dX4_does_134 : decode cX4_does 134 = .ok (.iconst 1, 1) := by decide +kernel
theorem dX4_does_135 : decode cX4_does 135 = .ok (.if_icmp .ne 17, 3) := by decide +kernel
theorem dX4_does_138 : decode cX4_does 138 = .ok (.aload_n 0, 1) := by decide +kernel
theorem dX4_does_139 : decode cX4_does 139 = .ok (.getfield 49, 3) := by decide +kernel
theorem dX4_does_142 : decode cX4_does 142 = .ok (.iload_n 1, 1) := by decide +kernel
theorem dX4_does_143 : decode cX4_does 143 = .ok (.iload 5, 2) := by decide +kernel
theorem dX4_does_145 : decode cX4_does 145 = .ok (.bipush 50, 2) := by decide +kernel
theorem dX4_does_147 : decode cX4_does 147 = .ok (.isub, 1) := by decide +kernel
theorem dX4_does_148 : decode cX4_does 148 = .ok (.iastore, 1) := by decide +kernel
theorem dX4_does_149 : decode cX4_does 149 = .ok (.goto 192, 3) := by decide +kernel
theorem dX4_does_152 : decode cX4_does 152 = .ok (.iload_n 3, 1) := by decide +kernel
theorem dX4_does_153 : decode cX4_does 153 = .ok (.iconst 2, 1) := by decide +kernel
theorem dX4_does_154 : decode cX4_does 154 = .ok (.if_icmp .ne 20, 3) := by decide +kernel
theorem dX4_does_157 : decode cX4_does 157 = .ok (.aload_n 0, 1) := by decide +kernel
theorem dX4_does_158 : decode cX4_does 158 = .ok (.getfield 49, 3) := by decide +kernel
theorem dX4_does_161 : decode cX4_does 161 = .ok (.iload_n 1, 1) := by decide +kernel
theorem dX4_does_162 : decode cX4_does 162 = .ok (.dup2, 1) := by decide +kernel
theorem dX4_does_163 : decode cX4_does 163 = .ok (.iaload, 1) := by decide +kernel
theorem dX4_does_164 : decode cX4_does 164 = .ok (.iload 5, 2) := by decide +kernel
theorem dX4_does_166 : decode cX4_does 166 = .ok (.bipush 50, 2) := by decide +kernel
theorem dX4_does_168 : decode cX4_does 168 = .ok (.isub, 1) := by decide +kernel
theorem dX4_does_169 : decode cX4_does 169 = .ok (.iadd, 1) := by decide +kernel
theorem dX4_does_170 : decode cX4_does 170 = .ok (.iastore, 1) := by decide +kernel
theorem dX4_does_171 : decode cX4_does 171 = .ok (.goto 170, 3) := by decide +kernel
theorem dX4_does_174 : decode cX4_does 174 = .ok (.iload_n 3, 1) := by decide +kernel
theorem dX4_does_175 : decode cX4_does 175 = .ok (.iconst 3, 1) := by decide +kernel
theorem dX4_does_176 : decode cX4_does 176 = .ok (.if_icmp .ne 45, 3) := by decide +kernel
theorem dX4_does_179 : decode cX4_does 179 = .ok (.aload_n 0, 1) := by decide +kernel
theorem dX4_does_180 : decode cX4_does 180 = .ok (.getfield 74, 3) := by decide +kernel
theorem dX4_does_183 : decode cX4_does 183 = .ok (.bipush 24, 2) := by decide +kernel
theorem dX4_does_185 : decode cX4_does 185 = .ok (.iload_n 1, 1) := by decide +kernel
theorem dX4_does_186 : decode cX4_does 186 = .ok (.imul, 1) := by decide +kernel
theorem dX4_does_187 : decode cX4_does 187 = .ok (.iload 4, 2) := by decide +kernel
theorem dX4_does_189 : decode cX4_does 189 = .ok (.iadd, 1) := by decide +kernel
theorem dX4_does_190 : decode cX4_does 190 = .ok (.iconst 2, 1) := by decide +kernel
theorem dX4_does_191 : decode cX4_does 191 = .ok (.iastore, 1) := by decide +kernel
theorem dX4_does_192 : decode cX4_does 192 = .ok (.aload_n 0, 1) := by decide +kernel
theorem dX4_does_193 : decode cX4_does 193 = .ok (.getfield 77, 3) := by decide +kernel
theorem dX4_does_196 : decode cX4_does 196 = .ok (.bipush 24, 2) := by decide +kernel
theorem dX4_does_198 : decode cX4_does 198 = .ok (.iload_n 1, 1) := by decide +kernel
theorem dX4_does_199 : decode cX4_does 199 = .ok (.imul, 1) := by decide +kernel
theorem dX4_does_200 : decode cX4_does 200 = .ok (.iload 4, 2) := by decide +kernel
theorem dX4_does_202 : decode cX4_does 202 = .ok (.iadd, 1) := by decide +kernel
theorem dX4_does_203 : decode cX4_does 203 = .ok (.aload_n 0, 1) := by decide +kernel
theorem dX4_does_204 : decode cX4_does 204 = .ok (.getfield 49, 3) := by decide +kernel
theorem dX4_does_207 : decode cX4_does 207 = .ok (.iload_n 1, 1) := by decide +kernel
theorem dX4_does_208 : decode cX4_does 208 = .ok (.iaload, 1) := by decide +kernel
theorem dX4_does_209 : decode cX4_does 209 = .ok (.iastore, 1) := by decide +kernel
theorem dX4_does_210 : decode cX4_does 210 = .ok (.aload_n 0, 1) := by decide +kernel
theorem dX4_does_211 : decode cX4_does 211 = .ok (.iconst 1, 1) := by decide +kernel
theorem dX4_does_212 : decode cX4_does 212 = .ok (.iload_n 1, 1) := by decide +kernel
theorem dX4_does_213 : decode cX4_does 213 = .ok (.iload 4, 2) := by decide +kernel
theorem dX4_does_215 : decode cX4_does 215 = .ok (.invokevirtual 148, 3) := by decide +kernel
theorem dX4_does_218 : decode cX4_does 218 = .ok (.goto 123, 3) := by decide +kernel
theorem dX4_does_221 : decode cX4_does 221 = .ok (.iload_n 3, 1) := by decide +kernel
theorem dX4_does_222 : decode cX4_does 222 = .ok (.bipush 6, 2) := by decide +kernel
theorem dX4_does_224 : decode cX4_does 224 = .ok (.if_icmp .ne 57, 3) := by decide +kernel
theorem dX4_does_227 : decode cX4_does 227 = .ok (.aload_n 0, 1) := by decide +kernel
theorem dX4_does_228 : decode cX4_does 228 = .ok (.getfield 80, 3) := by decide +kernel
theorem dX4_does_231 : decode cX4_does 231 = .ok (.bipush 8, 2) := by decide +kernel
theorem dX4_does_233 : decode cX4_does 233 = .ok (.iload_n 1, 1) := by decide +kernel
theorem dX4_does_234 : decode cX4_does 234 = .ok (.imul, 1) := by decide +kernel
theorem dX4_does_235 : decode cX4_does 235 = .ok (.iload 4, 2) := by decide +kernel
theorem dX4_does_237 : decode cX4_does 237 = .ok (.iadd, 1) := by decide +kernel
theorem dX4_does_238 : decode cX4_does 238 = .ok (.dup2, 1) := by decide +kernel
theorem dX4_does_239 : decode cX4_does 239 = .ok (.iaload, 1) := by decide +kernel
theorem dX4_does_240 : decode cX4_does 240 = .ok (.iload 5, 2) := by decide +kernel
theorem dX4_does_242 : decode cX4_does 242 = .ok (.bipush 50, 2) := by decide +kernel
theorem dX4_does_244 : decode cX4_does 244 = .ok (.isub, 1) := by decide +kernel
theorem dX4_does_245 : decode cX4_does 245 = .ok (.iadd, 1) := by decide +kernel
theorem dX4_does_246 : decode cX4_does 246 = .ok (.iastore, 1) := by decide +kernel
theorem dX4_does_247 : decode cX4_does 247 = .ok (.aload_n 0, 1) := by decide +kernel
theorem dX4_does_248 : decode cX4_does 248 = .ok (.getfield 83, 3) := by decide +kernel
theorem dX4_does_251 : decode cX4_does 251 = .ok (.bipush 8, 2) := by decide +kernel
theorem dX4_does_253 : decode cX4_does 253 = .ok (.iload_n 1, 1) := by decide +kernel
theorem dX4_does_254 : decode cX4_does 254 = .ok (.imul, 1) := by decide +kernel
theorem dX4_does_255 : decode cX4_does 255 = .ok (.iload 4, 2) := by decide +kernel
theorem dX4_does_257 : decode cX4_does 257 = .ok (.iadd, 1) := by decide +kernel
theorem dX4_does_258 : decode cX4_does 258 = .ok (.dup2, 1) := by decide +kernel
theorem dX4_does_259 : decode cX4_does 259 = .ok (.iaload, 1) := by decide +kernel
theorem dX4_does_260 : decode cX4_does 260 = .ok (.iload 5, 2) := by decide +kernel
theorem dX4_does_262 : decode cX4_does 262 = .ok (.bipush 50, 2) := by decide +kernel
theorem dX4_does_264 : decode cX4_does 264 = .ok (.if_icmp .ge 11, 3) := by decide +kernel
theorem dX4_does_267 : decode cX4_does 267 = .ok (.iload 5, 2) := by decide +kernel
theorem dX4_does_269 : decode cX4_does 269 = .ok (.bipush 50, 2) := by decide +kernel
theorem dX4_does_271 : decode cX4_does 271 = .ok (.isub, 1) := by decide +kernel
theorem dX4_does_272 : decode cX4_does 272 = .ok (.goto 4, 3) := by decide +kernel
theorem dX4_does_275 : decode cX4_does 275 = .ok (.iconst 0, 1) := by decide +kernel
theorem dX4_does_276 : decode cX4_does 276 = .ok (.iadd, 1) := by decide +kernel
theorem dX4_does_277 : decode cX4_does 277 = .ok (.iastore, 1) := by decide +kernel
theorem dX4_does_278 : decode cX4_does 278 = .ok (.goto 63, 3) := by decide +kernel
theorem dX4_does_281 : decode cX4_does 281 = .ok (.iload_n 3, 1) := by decide +kernel
theorem dX4_does_282 : decode cX4_does 282 = .ok (.bipush 7, 2) := by decide +kernel
theorem dX4_does_284 : decode cX4_does 284 = .ok (.if_icmp .ne 34, 3) := by decide +kernel
theorem dX4_does_287 : decode cX4_does 287 = .ok (.aload_n 0, 1) := by decide +kernel
theorem dX4_does_288 : decode cX4_does 288 = .ok (.getfield 86, 3) := by decide +kernel
theorem dX4_does_291 : decode cX4_does 291 = .ok (.bipush 12, 2) := by decide +kernel
theorem dX4_does_293 : decode cX4_does 293 = .ok (.iload_n 1, 1) := by decide +kernel
theorem dX4_does_294 : decode cX4_does 294 = .ok (.imul, 1) := by decide +kernel
theorem dX4_does_295 : decode cX4_does 295 = .ok (.aload_n 0, 1) := by decide +kernel
theorem dX4_does_296 : decode cX4_does 296 = .ok (.getfield 89, 3) := by decide +kernel
theorem dX4_does_299 : decode cX4_does 299 = .ok (.iload_n 1, 1) := by decide +kernel
theorem dX4_does_300 : decode cX4_does 300 = .ok (.iaload, 1) := by decide +kernel
theorem dX4_does_301 : decode cX4_does 301 = .ok (.iadd, 1) := by decide +kernel
theorem dX4_does_302 : decode cX4_does 302 = .ok (.iload 4, 2) := by decide +kernel
theorem dX4_does_304 : decode cX4_does 304 = .ok (.iastore, 1) := by decide +kernel
theorem dX4_does_305 : decode cX4_does 305 = .ok (.aload_n 0, 1) := by decide +kernel
theorem dX4_does_306 : decode cX4_does 306 = .ok (.getfield 89, 3) := by decide +kernel
theorem dX4_does_309 : decode cX4_does 309 = .ok (.iload_n 1, 1) := by decide +kernel
theorem dX4_does_310 : decode cX4_does 310 = .ok (.dup2, 1) := by decide +kernel
theorem dX4_does_311 : decode cX4_does 311 = .ok (.iaload, 1) := by decide +kernel
theorem dX4_does_312 : decode cX4_does 312 = .ok (.iconst 1, 1) := by decide +kernel
theorem dX4_does_313 : decode cX4_does 313 = .ok (.iadd, 1) := by decide +kernel
theorem dX4_does_314 : decode cX4_does 314 = .ok (.iastore, 1) := by decide +kernel
theorem dX4_does_315 : decode cX4_does 315 = .ok (.goto 26, 3) := by decide +kernel
theorem dX4_does_318 : decode cX4_does 318 = .ok (.iload_n 3, 1) := by decide +kernel
theorem dX4_does_319 : decode cX4_does 319 = .ok (.bipush 7, 2) := by decide +kernel
theorem dX4_does_321 : decode cX4_does 321 = .ok (.if_icmp .le 20, 3) := by decide +kernel
theorem dX4_does_324 : decode cX4_does 324 = .ok (.aload_n 0, 1) := by decide +kernel
theorem dX4_does_325 : decode cX4_does 325 = .ok (.getfield 49, 3) := by decide +kernel
theorem dX4_does_328 : decode cX4_does 328 = .ok (.iload_n 1, 1) := by decide +kernel
theorem dX4_does_329 : decode cX4_does 329 = .ok (.iaload, 1) := by decide +kernel
theorem dX4_does_330 : decode cX4_does 330 = .ok (.ifCond .ge 8, 3) := by decide +kernel
theorem dX4_does_333 : decode cX4_does 333 = .ok (.iload 5, 2) := by decide +kernel
theorem dX4_does_335 : decode cX4_does 335 = .ok (.goto 4, 3) := by decide +kernel
theorem dX4_does_338 : decode cX4_does 338 = .ok (.iconst 0, 1) := by decide +kernel
theorem dX4_does_339 : decode cX4_does 339 = .ok (.istore 6, 2) := by decide +kernel
theorem dX4_does_341 : decode cX4_does 341 = .ok (.iload_n 3, 1) := by decide +kernel
theorem dX4_does_342 : decode cX4_does 342 = .ok (.iconst 5, 1) := by decide +kernel
theorem dX4_does_343 : decode cX4_does 343 = .ok (.if_icmp .ne 12, 3) := by decide +kernel
theorem dX4_does_346 : decode cX4_does 346 = .ok (.aload_n 0, 1) := by decide +kernel
theorem dX4_does_347 : decode cX4_does 347 = .ok (.getfield 49, 3) := by decide +kernel
theorem dX4_does_350 : decode cX4_does 350 = .ok (.iload_n 1, 1) := by decide +kernel
theorem dX4_does_351 : decode cX4_does 351 = .ok (.iaload, 1) := by decide +kernel
theorem dX4_does_352 : decode cX4_does 352 = .ok (.ifCond .lt 19, 3) := by decide +kernel
theorem dX4_does_355 : decode cX4_does 355 = .ok (.aload_n 0, 1) := by decide +kernel
theorem dX4_does_356 : decode cX4_does 356 = .ok (.getfield 49, 3) := by decide +kernel
theorem dX4_does_359 : decode cX4_does 359 = .ok (.iload_n 1, 1) := by decide +kernel
theorem dX4_does_360 : decode cX4_does 360 = .ok (.iaload, 1) := by decide +kernel
theorem dX4_does_361 : decode cX4_does 361 = .ok (.ldc 152, 2) := by decide +kernel
theorem dX4_does_363 : decode cX4_does 363 = .ok (.ldc 153, 2) := by decide +kernel
theorem dX4_does_365 : decode cX4_does 365 = .ok (.invokestatic 107, 3) := by decide +kernel
theorem dX4_does_368 : decode cX4_does 368 = .ok (.ifCond .ne 23, 3) := by decide +kernel
theorem dX4_does_371 : decode cX4_does 371 = .ok (.aload_n 0, 1) := by decide +kernel
theorem dX4_does_372 : decode cX4_does 372 = .ok (.iconst 3, 1) := by decide +kernel
theorem dX4_does_373 : decode cX4_does 373 = .ok (.iload_n 1, 1) := by decide +kernel
theorem dX4_does_374 : decode cX4_does 374 = .ok (.iconst (-1), 1) := by decide +kernel
theorem dX4_does_375 : decode cX4_does 375 = .ok (.invokevirtual 148, 3) := by decide +kernel
theorem dX4_does_378 : decode cX4_does 378 = .ok (.aload_n 0, 1) := by decide +kernel
theorem dX4_does_379 : decode cX4_does 379 = .ok (.iload_n 1, 1) := by decide +kernel
theorem dX4_does_380 : decode cX4_does 380 = .ok (.invokevirtual 154, 3) := by decide +kernel
theorem dX4_does_383 : decode cX4_does 383 = .ok (.aload_n 0, 1) := by decide +kernel
theorem dX4_does_384 : decode cX4_does 384 = .ok (.getfield 37, 3) := by decide +kernel
theorem dX4_does_387 : decode cX4_does 387 = .ok (.iload_n 1, 1) := by decide +kernel
theorem dX4_does_388 : decode cX4_does 388 = .ok (.iconst 4, 1) := by decide +kernel
theorem dX4_does_389 : decode cX4_does 389 = .ok (.iastore, 1) := by decide +kernel
theorem dX4_does_390 : decode cX4_does 390 = .ok (.return_, 1) := by decide +kernel
theorem dX4_does_391 : decode cX4_does 391 = .ok (.aload_n 0, 1) := by decide +kernel
theorem dX4_does_392 : decode cX4_does 392 = .ok (.getfield 46, 3) := by decide +kernel
theorem dX4_does_395 : decode cX4_does 395 = .ok (.iload_n 1, 1) := by decide +kernel
theorem dX4_does_396 : decode cX4_does 396 = .ok (.dup2, 1) := by decide +kernel
theorem dX4_does_397 : decode cX4_does 397 = .ok (.iaload, 1) := by decide +kernel
theorem dX4_does_398 : decode cX4_does 398 = .ok (.iconst 1, 1) := by decide +kernel
theorem dX4_does_399 : decode cX4_does 399 = .ok (.iload 6, 2) := by decide +kernel
theorem dX4_does_401 : decode cX4_does 401 = .ok (.iadd, 1) := by decide +kernel
theorem dX4_does_402 : decode cX4_does 402 = .ok (.iadd, 1) := by decide +kernel
theorem dX4_does_403 : decode cX4_does 403 = .ok (.iastore, 1) := by decide +kernel
theorem dX4_does_404 : decode cX4_does 404 = .ok (.aload_n 0, 1) := by decide +kernel
theorem dX4_does_405 : decode cX4_does 405 = .ok (.getfield 46, 3) := by decide +kernel
theorem dX4_does_408 : decode cX4_does 408 = .ok (.iload_n 1, 1) := by decide +kernel
theorem dX4_does_409 : decode cX4_does 409 = .ok (.iaload, 1) := by decide +kernel
theorem dX4_does_410 : decode cX4_does 410 = .ok (.aload_n 0, 1) := by decide +kernel
theorem dX4_does_411 : decode cX4_does 411 = .ok (.getfield 40, 3) := by decide +kernel
theorem dX4_does_414 : decode cX4_does 414 = .ok (.iload_n 1, 1) := by decide +kernel
theorem dX4_does_415 : decode cX4_does 415 = .ok (.iaload, 1) := by decide +kernel
theorem dX4_does_416 : decode cX4_does 416 = .ok (.if_icmp .lt 8, 3) := by decide +kernel
theorem dX4_does_419 : decode cX4_does 419 = .ok (.aload_n 0, 1) := by decide +kernel
theorem dX4_does_420 : decode cX4_does 420 = .ok (.iload_n 1, 1) := by decide +kernel
theorem dX4_does_421 : decode cX4_does 421 = .ok (.invokevirtual 158, 3) := by decide +kernel
theorem dX4_does_424 : decode cX4_does 424 = .ok (.return_, 1) := by decide +kernel
set_option maxRecDepth 20000 in
theorem ggX4_canDo_X4_isFree : GoodIn wsX4_canDo wsX4_isFree := goodIn_r _ [6, 7, 8, 9, 10, 5, 11, 12, 13, 20, 21, 22, 23, 24, 25, 26, 27, 28, 29, 30, 31, 32, 33, 34, 35, 36, 37, 38, 39, 40, 41, 42, 43, 44, 45, 46, 47, 48, 49, 50, 51, 52, 53, 54, 55, 56, 57, 58] (by decide +kernel) (by decide +kernel)
set_option maxRecDepth 20000 in
theorem gX4_canDo_X4_isFree : GoodIn wsX4_canDo (wsV RX4 161 RX4 yX4_isFree wsX4_isFree) := goodIn_app (goodIn_of _ (by decide +kernel)) ggX4_canDo_X4_isFree
set_option maxRecDepth 20000 in
theorem ggX4_canDo_X4_least : GoodIn wsX4_canDo wsX4_least := goodIn_r _ [17, 18, 7, 12, 19, 20, 21, 22, 23, 24, 25, 26, 27, 28, 29, 30, 31, 32, 33, 34, 35, 36, 37, 38, 39, 40, 41, 42, 43, 44, 45, 46, 47, 48, 49, 50, 51, 52, 53, 54, 55, 56, 57, 58] (by decide +kernel) (by decide +kernel)
set_option maxRecDepth 20000 in
theorem gX4_canDo_X4_least : GoodIn wsX4_canDo (wsV RX4 123 RX4 yX4_least wsX4_least) := goodIn_app (goodIn_of _ (by decide +kernel)) ggX4_canDo_X4_least
theorem dX4_canDo_0 : decode cX4_canDo 0 = .ok (.iload_n 2, 1) := by decide +kernel
theorem dX4_canDo_1 : decode cX4_canDo 1 = .ok (.ifCond .eq 8, 3) := by decide +kernel
theorem dX4_canDo_4 : decode cX4_canDo 4 = .ok (.iload_n 2, 1) := by decide +kernel
theorem dX4_canDo_5 : decode cX4_canDo 5 = .ok (.iconst 4, 1) := by decide +kernel
theorem dX4_canDo_6 : decode cX4_canDo 6 = .ok (.if_icmp .ne 11, 3) := by decide +kernel
theorem dX4_canDo_9 : decode cX4_canDo 9 = .ok (.aload_n 0, 1) := by decide +kernel
theorem dX4_canDo_10 : decode cX4_canDo 10 = .ok (.iload_n 1, 1) := by decide +kernel
theorem dX4_canDo_11 : decode cX4_canDo 11 = .ok (.iload_n 3, 1) := by decide +kernel
theorem dX4_canDo_12 : decode cX4_canDo 12 = .ok (.iconst 0, 1) := by decide +kernel
theorem dX4_canDo_13 : decode cX4_canDo 13 = .ok (.invokevirtual 161, 3) := by decide +kernel
theorem dX4_canDo_16 : decode cX4_canDo 16 = .ok (.ireturn, 1) := by decide +kernel
theorem dX4_canDo_17 : decode cX4_canDo 17 = .ok (.iload_n 2, 1) := by decide +kernel
theorem dX4_canDo_18 : decode cX4_canDo 18 = .ok (.iconst 3, 1) := by decide +kernel
theorem dX4_canDo_19 : decode cX4_canDo 19 = .ok (.if_icmp .ne 11, 3) := by decide +kernel
theorem dX4_canDo_22 : decode cX4_canDo 22 = .ok (.aload_n 0, 1) := by decide +kernel
theorem dX4_canDo_23 : decode cX4_canDo 23 = .ok (.iload_n 1, 1) := by decide +kernel
theorem dX4_canDo_24 : decode cX4_canDo 24 = .ok (.iload_n 3, 1) := by decide +kernel
theorem dX4_canDo_25 : decode cX4_canDo 25 = .ok (.iconst 1, 1) := by decide +kernel
theorem dX4_canDo_26 : decode cX4_canDo 26 = .ok (.invokevirtual 161, 3) := by decide +kernel
theorem dX4_canDo_29 : decode cX4_canDo 29 = .ok (.ireturn, 1) := by decide +kernel
theorem dX4_canDo_30 : decode cX4_canDo 30 = .ok (.iload_n 2, 1) := by decide +kernel
theorem dX4_canDo_31 : decode cX4_canDo 31 = .ok (.bipush 6, 2) := by decide +kernel
theorem dX4_canDo_33 : decode cX4_canDo 33 = .ok (.if_icmp .ne 30, 3) := by decide +kernel
theorem dX4_canDo_36 : decode cX4_canDo 36 = .ok (.iload 4, 2) := by decide +kernel
theorem dX4_canDo_38 : decode cX4_canDo 38 = .ok (.bipush 50, 2) := by decide +kernel
theorem dX4_canDo_40 : decode cX4_canDo 40 = .ok (.if_icmp .ge 23, 3) := by decide +kernel
theorem dX4_canDo_43 : decode cX4_canDo 43 = .ok (.aload_n 0, 1) := by decide +kernel
theorem dX4_canDo_44 : decode cX4_canDo 44 = .ok (.iload_n 3, 1) := by decide +kernel
theorem dX4_canDo_45 : decode cX4_canDo 45 = .ok (.invokevirtual 123, 3) := by decide +kernel
theorem dX4_canDo_48 : decode cX4_canDo 48 = .ok (.iload 4, 2) := by decide +kernel
theorem dX4_canDo_50 : decode cX4_canDo 50 = .ok (.iadd, 1) := by decide +kernel
theorem dX4_canDo_51 : decode cX4_canDo 51 = .ok (.bipush 50, 2) := by decide +kernel
theorem dX4_canDo_53 : decode cX4_canDo 53 = .ok (.isub, 1) := by decide +kernel
theorem dX4_canDo_54 : decode cX4_canDo 54 = .ok (.aload_n 0, 1) := by decide +kernel
theorem dX4_canDo_55 : decode cX4_canDo 55 = .ok (.getfield 16, 3) := by decide +kernel
theorem dX4_canDo_58 : decode cX4_canDo 58 = .ok (.iload_n 3, 1) := by decide +kernel
theorem dX4_canDo_59 : decode cX4_canDo 59 = .ok (.iaload, 1) := by decide +kernel
theorem dX4_canDo_60 : decode cX4_canDo 60 = .ok (.if_icmp .lt 7, 3) := by decide +kernel
theorem dX4_canDo_63 : decode cX4_canDo 63 = .ok (.iconst 1, 1) := by decide +kernel
theorem dX4_canDo_64 : decode cX4_canDo 64 = .ok (.goto 4, 3) := by decide +kernel
theorem dX4_canDo_67 : decode cX4_canDo 67 = .ok (.iconst 0, 1) := by decide +kernel
theorem dX4_canDo_68 : decode cX4_canDo 68 = .ok (.ireturn, 1) := by decide +kernel
set_option maxRecDepth 20000 in
theorem ggX4_isDone_X4_lets : GoodIn wsX4_isDone wsX4_lets := goodIn_r _ [14, 15, 16, 40, 41, 42, 43, 44, 45, 46, 47, 48, 49, 50, 51, 52, 53, 54, 55, 56, 57, 58, 59, 60, 61, 62, 63, 64, 65, 66, 67, 68, 69, 70, 71, 72, 73, 74, 75, 76, 77, 78] (by decide +kernel) (by decide +kernel)
set_option maxRecDepth 20000 in
theorem gX4_isDone_X4_lets : GoodIn wsX4_isDone (wsV RX4 165 RX4 yX4_lets wsX4_lets) := goodIn_app (goodIn_of _ (by decide +kernel)) ggX4_isDone_X4_lets
set_option maxRecDepth 20000 in
theorem ggX4_isDone_X4_logs : GoodIn wsX4_isDone wsX4_logs := goodIn_r _ [20, 21, 22, 23, 3, 40, 41, 42, 43, 44, 45, 46, 47, 48, 49, 50, 51, 52, 53, 54, 55, 56, 57, 58, 59, 60, 61, 62, 63, 64, 65, 66, 67, 68, 69, 70, 71, 72, 73, 74, 75, 76, 77, 78] (by decide +kernel) (by decide +kernel)
set_option maxRecDepth 20000 in
theorem gX4_isDone_X4_logs : GoodIn wsX4_isDone (wsV RX4 148 RX4 yX4_logs wsX4_logs) := goodIn_app (goodIn_of _ (by decide +kernel)) ggX4_isDone_X4_logs
set_option maxRecDepth 20000 in
theorem ggX4_isDone_X4_gets : GoodIn wsX4_isDone wsX4_gets := goodIn_r _ [27, 15, 28, 29, 30, 31, 40, 41, 42, 43, 44, 45, 46, 47, 48, 49, 50, 51, 52, 53, 54, 55, 56, 57, 58, 59, 60, 61, 62, 63, 64, 65, 66, 67, 68, 69, 70, 71, 72, 73, 74, 75, 76, 77, 78] (by decide +kernel) (by decide +kernel)
set_option maxRecDepth 20000 in
theorem gX4_isDone_X4_gets : GoodIn wsX4_isDone (wsV RX4 171 RX4 yX4_gets wsX4_gets) := goodIn_app (goodIn_of _ (by decide +kernel)) ggX4_isDone_X4_gets
set_option maxRecDepth 20000 in
theorem ggX4_isDone_X4_newAct : GoodIn wsX4_isDone wsX4_newAct := goodIn_r _ [35, 36, 37, 8, 9, 38, 2, 39, 40, 41, 42, 43, 44, 45, 46, 47, 48, 49, 50, 51, 52, 53, 54, 55, 56, 57, 58, 59, 60, 61, 62, 63, 64, 65, 66, 67, 68, 69, 70, 71, 72, 73, 74, 75, 76, 77, 78] (by decide +kernel) (by decide +kernel)
set_option maxRecDepth 20000 in
theorem gX4_isDone_X4_newAct : GoodIn wsX4_isDone (wsV RX4 119 RX4 yX4_newAct wsX4_newAct) := goodIn_app (goodIn_of _ (by decide +kernel)) ggX4_isDone_X4_newAct
theorem dX4_isDone_0 : decode cX4_isDone 0 = .ok (.aload_n 0, 1) := by decide +kernel
theorem dX4_isDone_1 : decode cX4_isDone 1 = .ok (.iload_n 1, 1) := by decide +kernel
theorem dX4_isDone_2 : decode cX4_isDone 2 = .ok (.invokevirtual 165, 3) := by decide +kernel
theorem dX4_isDone_5 : decode cX4_isDone 5 = .ok (.aload_n 0, 1) := by decide +kernel
theorem dX4_isDone_6 : decode cX4_isDone 6 = .ok (.getfield 37, 3) := by decide +kernel
theorem dX4_isDone_9 : decode cX4_isDone 9 = .ok (.iload_n 1, 1) := by decide +kernel
theorem dX4_isDone_10 : decode cX4_isDone 10 = .ok (.iconst 2, 1) := by decide +kernel
theorem dX4_isDone_11 : decode cX4_isDone 11 = .ok (.iastore, 1) := by decide +kernel
theorem dX4_isDone_12 : decode cX4_isDone 12 = .ok (.aload_n 0, 1) := by decide +kernel
theorem dX4_isDone_13 : decode cX4_isDone 13 = .ok (.getfield 56, 3) := by decide +kernel
theorem dX4_isDone_16 : decode cX4_isDone 16 = .ok (.iload_n 1, 1) := by decide +kernel
theorem dX4_isDone_17 : decode cX4_isDone 17 = .ok (.aload_n 0, 1) := by decide +kernel
theorem dX4_isDone_18 : decode cX4_isDone 18 = .ok (.getfield 130, 3) := by decide +kernel
theorem dX4_isDone_21 : decode cX4_isDone 21 = .ok (.iastore, 1) := by decide +kernel
theorem dX4_isDone_22 : decode cX4_isDone 22 = .ok (.aload_n 0, 1) := by decide +kernel
theorem dX4_isDone_23 : decode cX4_isDone 23 = .ok (.iconst 2, 1) := by decide +kernel
theorem dX4_isDone_24 : decode cX4_isDone 24 = .ok (.iload_n 1, 1) := by decide +kernel
theorem dX4_isDone_25 : decode cX4_isDone 25 = .ok (.iconst (-1), 1) := by decide +kernel
theorem dX4_isDone_26 : decode cX4_isDone 26 = .ok (.invokevirtual 148, 3) := by decide +kernel
theorem dX4_isDone_29 : decode cX4_isDone 29 = .ok (.aload_n 0, 1) := by decide +kernel
theorem dX4_isDone_30 : decode cX4_isDone 30 = .ok (.getfield 92, 3) := by decide +kernel
theorem dX4_isDone_33 : decode cX4_isDone 33 = .ok (.aload_n 0, 1) := by decide +kernel
theorem dX4_isDone_34 : decode cX4_isDone 34 = .ok (.getfield 168, 3) := by decide +kernel
theorem dX4_isDone_37 : decode cX4_isDone 37 = .ok (.iload_n 1, 1) := by decide +kernel
theorem dX4_isDone_38 : decode cX4_isDone 38 = .ok (.iastore, 1) := by decide +kernel
theorem dX4_isDone_39 : decode cX4_isDone 39 = .ok (.aload_n 0, 1) := by decide +kernel
theorem dX4_isDone_40 : decode cX4_isDone 40 = .ok (.dup, 1) := by decide +kernel
theorem dX4_isDone_41 : decode cX4_isDone 41 = .ok (.getfield 168, 3) := by decide +kernel
theorem dX4_isDone_44 : decode cX4_isDone 44 = .ok (.iconst 1, 1) := by decide +kernel
theorem dX4_isDone_45 : decode cX4_isDone 45 = .ok (.iadd, 1) := by decide +kernel
theorem dX4_isDone_46 : decode cX4_isDone 46 = .ok (.putfield 168, 3) := by decide +kernel
theorem dX4_isDone_49 : decode cX4_isDone 49 = .ok (.aload_n 0, 1) := by decide +kernel
theorem dX4_isDone_50 : decode cX4_isDone 50 = .ok (.iload_n 1, 1) := by decide +kernel
theorem dX4_isDone_51 : decode cX4_isDone 51 = .ok (.invokevirtual 171, 3) := by decide +kernel
theorem dX4_isDone_54 : decode cX4_isDone 54 = .ok (.iconst 0, 1) := by decide +kernel
theorem dX4_isDone_55 : decode cX4_isDone 55 = .ok (.istore_n 2, 1) := by decide +kernel
theorem dX4_isDone_56 : decode cX4_isDone 56 = .ok (.iload_n 2, 1) := by decide +kernel
theorem dX4_isDone_57 : decode cX4_isDone 57 = .ok (.aload_n 0, 1) := by decide +kernel
theorem dX4_isDone_58 : decode cX4_isDone 58 = .ok (.getfield 89, 3) := by decide +kernel
theorem dX4_isDone_61 : decode cX4_isDone 61 = .ok (.iload_n 1, 1) := by decide +kernel
theorem dX4_isDone_62 : decode cX4_isDone 62 = .ok (.iaload, 1) := by decide +kernel
theorem dX4_isDone_63 : decode cX4_isDone 63 = .ok (.if_icmp .ge 38, 3) := by decide +kernel
theorem dX4_isDone_66 : decode cX4_isDone 66 = .ok (.aload_n 0, 1) := by decide +kernel
theorem dX4_isDone_67 : decode cX4_isDone 67 = .ok (.aload_n 0, 1) := by decide +kernel
theorem dX4_isDone_68 : decode cX4_isDone 68 = .ok (.getfield 86, 3) := by decide +kernel
theorem dX4_isDone_71 : decode cX4_isDone 71 = .ok (.bipush 12, 2) := by decide +kernel
theorem dX4_isDone_73 : decode cX4_isDone 73 = .ok (.iload_n 1, 1) := by decide +kernel
theorem dX4_isDone_74 : decode cX4_isDone 74 = .ok (.imul, 1) := by decide +kernel
theorem dX4_isDone_75 : decode cX4_isDone 75 = .ok (.iload_n 2, 1) := by decide +kernel
theorem dX4_isDone_76 : decode cX4_isDone 76 = .ok (.iadd, 1) := by decide +kernel
theorem dX4_isDone_77 : decode cX4_isDone 77 = .ok (.iaload, 1) := by decide +kernel
theorem dX4_isDone_78 : decode cX4_isDone 78 = .ok (.aload_n 0, 1) := by decide +kernel
theorem dX4_isDone_79 : decode cX4_isDone 79 = .ok (.getfield 31, 3) := by decide +kernel
theorem dX4_isDone_82 : decode cX4_isDone 82 = .ok (.iload_n 1, 1) := by decide +kernel
theorem dX4_isDone_83 : decode cX4_isDone 83 = .ok (.iaload, 1) := by decide +kernel
theorem dX4_isDone_84 : decode cX4_isDone 84 = .ok (.aload_n 0, 1) := by decide +kernel
theorem dX4_isDone_85 : decode cX4_isDone 85 = .ok (.getfield 34, 3) := by decide +kernel
theorem dX4_isDone_88 : decode cX4_isDone 88 = .ok (.iload_n 1, 1) := by decide +kernel
theorem dX4_isDone_89 : decode cX4_isDone 89 = .ok (.iaload, 1) := by decide +kernel
theorem dX4_isDone_90 : decode cX4_isDone 90 = .ok (.iload_n 1, 1) := by decide +kernel
theorem dX4_isDone_91 : decode cX4_isDone 91 = .ok (.invokevirtual 119, 3) := by decide +kernel
theorem dX4_isDone_94 : decode cX4_isDone 94 = .ok (.pop, 1) := by decide +kernel
theorem dX4_isDone_95 : decode cX4_isDone 95 = .ok (.iinc 2 1, 3) := by decide +kernel
theorem dX4_isDone_98 : decode cX4_isDone 98 = .ok (.goto (-42), 3) := by decide +kernel
theorem dX4_isDone_101 : decode cX4_isDone 101 = .ok (.return_, 1) := by decide +kernel
theorem dX4_gets_0 : decode cX4_gets 0 = .ok (.iconst 0, 1) := by decide +kernel
theorem dX4_gets_1 : decode cX4_gets 1 = .ok (.istore_n 2, 1) := by decide +kernel
theorem dX4_gets_2 : decode cX4_gets 2 = .ok (.iload_n 2, 1) := by decide +kernel
theorem dX4_gets_3 : decode cX4_gets 3 = .ok (.bipush 24, 2) := by decide +kernel
theorem dX4_gets_5 : decode cX4_gets 5 = .ok (.if_icmp .ge 41, 3) := by decide +kernel
theorem dX4_gets_8 : decode cX4_gets 8 = .ok (.aload_n 0, 1) := by decide +kernel
theorem dX4_gets_9 : decode cX4_gets 9 = .ok (.getfield 74, 3) := by decide +kernel
theorem dX4_gets_12 : decode cX4_gets 12 = .ok (.bipush 24, 2) := by decide +kernel
theorem dX4_gets_14 : decode cX4_gets 14 = .ok (.iload_n 1, 1) := by decide +kernel
theorem dX4_gets_15 : decode cX4_gets 15 = .ok (.imul, 1) := by decide +kernel
theorem dX4_gets_16 : decode cX4_gets 16 = .ok (.iload_n 2, 1) := by decide +kernel
theorem dX4_gets_17 : decode cX4_gets 17 = .ok (.iadd, 1) := by decide +kernel
theorem dX4_gets_18 : decode cX4_gets 18 = .ok (.iaload, 1) := by decide +kernel
theorem dX4_gets_19 : decode cX4_gets 19 = .ok (.iconst 3, 1) := by decide +kernel
theorem dX4_gets_20 : decode cX4_gets 20 = .ok (.if_icmp .ne 20, 3) := by decide +kernel
theorem dX4_gets_23 : decode cX4_gets 23 = .ok (.aload_n 0, 1) := by decide +kernel
theorem dX4_gets_24 : decode cX4_gets 24 = .ok (.getfield 9, 3) := by decide +kernel
theorem dX4_gets_27 : decode cX4_gets 27 = .ok (.iload_n 2, 1) := by decide +kernel
theorem dX4_gets_28 : decode cX4_gets 28 = .ok (.aload_n 0, 1) := by decide +kernel
theorem dX4_gets_29 : decode cX4_gets 29 = .ok (.getfield 77, 3) := by decide +kernel
theorem dX4_gets_32 : decode cX4_gets 32 = .ok (.bipush 24, 2) := by decide +kernel
theorem dX4_gets_34 : decode cX4_gets 34 = .ok (.iload_n 1, 1) := by decide +kernel
theorem dX4_gets_35 : decode cX4_gets 35 = .ok (.imul, 1) := by decide +kernel
theorem dX4_gets_36 : decode cX4_gets 36 = .ok (.iload_n 2, 1) := by decide +kernel
theorem dX4_gets_37 : decode cX4_gets 37 = .ok (.iadd, 1) := by decide +kernel
theorem dX4_gets_38 : decode cX4_gets 38 = .ok (.iaload, 1) := by decide +kernel
theorem dX4_gets_39 : decode cX4_gets 39 = .ok (.iastore, 1) := by decide +kernel
theorem dX4_gets_40 : decode cX4_gets 40 = .ok (.iinc 2 1, 3) := by decide +kernel
theorem dX4_gets_43 : decode cX4_gets 43 = .ok (.goto (-41), 3) := by decide +kernel
theorem dX4_gets_46 : decode cX4_gets 46 = .ok (.iconst 0, 1) := by decide +kernel
theorem dX4_gets_47 : decode cX4_gets 47 = .ok (.istore_n 2, 1) := by decide +kernel
theorem dX4_gets_48 : decode cX4_gets 48 = .ok (.iload_n 2, 1) := by decide +kernel
theorem dX4_gets_49 : decode cX4_gets 49 = .ok (.bipush 8, 2) := by decide +kernel
theorem dX4_gets_51 : decode cX4_gets 51 = .ok (.if_icmp .ge 29, 3) := by decide +kernel
theorem dX4_gets_54 : decode cX4_gets 54 = .ok (.aload_n 0, 1) := by decide +kernel
theorem dX4_gets_55 : decode cX4_gets 55 = .ok (.getfield 13, 3) := by decide +kernel
theorem dX4_gets_58 : decode cX4_gets 58 = .ok (.iload_n 2, 1) := by decide +kernel
theorem dX4_gets_59 : decode cX4_gets 59 = .ok (.dup2, 1) := by decide +kernel
theorem dX4_gets_60 : decode cX4_gets 60 = .ok (.iaload, 1) := by decide +kernel
theorem dX4_gets_61 : decode cX4_gets 61 = .ok (.aload_n 0, 1) := by decide +kernel
theorem dX4_gets_62 : decode cX4_gets 62 = .ok (.getfield 80, 3) := by decide +kernel
theorem dX4_gets_65 : decode cX4_gets 65 = .ok (.bipush 8, 2) := by decide +kernel
theorem dX4_gets_67 : decode cX4_gets 67 = .ok (.iload_n 1, 1) := by decide +kernel
theorem dX4_gets_68 : decode cX4_gets 68 = .ok (.imul, 1) := by decide +kernel
theorem dX4_gets_69 : decode cX4_gets 69 = .ok (.iload_n 2, 1) := by decide +kernel
theorem dX4_gets_70 : decode cX4_gets 70 = .ok (.iadd, 1) := by decide +kernel
theorem dX4_gets_71 : decode cX4_gets 71 = .ok (.iaload, 1) := by decide +kernel
theorem dX4_gets_72 : decode cX4_gets 72 = .ok (.iadd, 1) := by decide +kernel
theorem dX4_gets_73 : decode cX4_gets 73 = .ok (.iastore, 1) := by decide +kernel
theorem dX4_gets_74 : decode cX4_gets 74 = .ok (.iinc 2 1, 3) := by decide +kernel
theorem dX4_gets_77 : decode cX4_gets 77 = .ok (.goto (-29), 3) := by decide +kernel
theorem dX4_gets_80 : decode cX4_gets 80 = .ok (.return_, 1) := by decide +kernel
theorem dX4_isAhead_0 : decode cX4_isAhead 0 = .ok (.aload_n 0, 1) := by decide +kernel
theorem dX4_isAhead_1 : decode cX4_isAhead 1 = .ok (.getfield 34, 3) := by decide +kernel
theorem dX4_isAhead_4 : decode cX4_isAhead 4 = .ok (.iload_n 1, 1) := by decide +kernel
theorem dX4_isAhead_5 : decode cX4_isAhead 5 = .ok (.iaload, 1) := by decide +kernel
theorem dX4_isAhead_6 : decode cX4_isAhead 6 = .ok (.aload_n 0, 1) := by decide +kernel
theorem dX4_isAhead_7 : decode cX4_isAhead 7 = .ok (.getfield 34, 3) := by decide +kernel
theorem dX4_isAhead_10 : decode cX4_isAhead 10 = .ok (.iload_n 2, 1) := by decide +kernel
theorem dX4_isAhead_11 : decode cX4_isAhead 11 = .ok (.iaload, 1) := by decide +kernel
theorem dX4_isAhead_12 : decode cX4_isAhead 12 = .ok (.if_icmp .lt 23, 3) := by decide +kernel
theorem dX4_isAhead_15 : decode cX4_isAhead 15 = .ok (.aload_n 0, 1) := by decide +kernel
theorem dX4_isAhead_16 : decode cX4_isAhead 16 = .ok (.getfield 34, 3) := by decide +kernel
theorem dX4_isAhead_19 : decode cX4_isAhead 19 = .ok (.iload_n 1, 1) := by decide +kernel
theorem dX4_isAhead_20 : decode cX4_isAhead 20 = .ok (.iaload, 1) := by decide +kernel
theorem dX4_isAhead_21 : decode cX4_isAhead 21 = .ok (.aload_n 0, 1) := by decide +kernel
theorem dX4_isAhead_22 : decode cX4_isAhead 22 = .ok (.getfield 34, 3) := by decide +kernel
theorem dX4_isAhead_25 : decode cX4_isAhead 25 = .ok (.iload_n 2, 1) := by decide +kernel
theorem dX4_isAhead_26 : decode cX4_isAhead 26 = .ok (.iaload, 1) := by decide +kernel
theorem dX4_isAhead_27 : decode cX4_isAhead 27 = .ok (.if_icmp .ne 12, 3) := by decide +kernel
theorem dX4_isAhead_30 : decode cX4_isAhead 30 = .ok (.iload_n 1, 1) := by decide +kernel
theorem dX4_isAhead_31 : decode cX4_isAhead 31 = .ok (.iload_n 2, 1) := by decide +kernel
theorem dX4_isAhead_32 : decode cX4_isAhead 32 = .ok (.if_icmp .ge 7, 3) := by decide +kernel
theorem dX4_isAhead_35 : decode cX4_isAhead 35 = .ok (.iconst 1, 1) := by decide +kernel
theorem dX4_isAhead_36 : decode cX4_isAhead 36 = .ok (.goto 4, 3) := by decide +kernel
theorem dX4_isAhead_39 : decode cX4_isAhead 39 = .ok (.iconst 0, 1) := by decide +kernel
theorem dX4_isAhead_40 : decode cX4_isAhead 40 = .ok (.ireturn, 1) := by decide +kernel
set_option maxRecDepth 20000 in
theorem ggX4_sorts_X4_isAhead : GoodIn wsX4_sorts wsX4_isAhead := goodIn_r _ [8, 9, 10, 11, 12, 13, 14, 15, 16, 17, 18, 19, 20, 21, 22, 23, 24, 25, 26, 27, 28, 29, 30, 31, 32, 33, 34, 35, 36, 37, 38, 39, 40, 41, 42, 43, 44, 45, 46, 47, 48] (by decide +kernel) (by decide +kernel)
set_option maxRecDepth 20000 in
theorem gX4_sorts_X4_isAhead : GoodIn wsX4_sorts (wsV RX4 174 RX4 yX4_isAhead wsX4_isAhead) := goodIn_app (goodIn_of _ (by decide +kernel)) ggX4_sorts_X4_isAhead
theorem dX4_sorts_0 : decode cX4_sorts 0 = .ok (.iconst 0, 1) := by decide +kernel
theorem dX4_sorts_1 : decode cX4_sorts 1 = .ok (.istore_n 2, 1) := by decide +kernel
theorem dX4_sorts_2 : decode cX4_sorts 2 = .ok (.iconst 0, 1) := by decide +kernel
theorem dX4_sorts_3 : decode cX4_sorts 3 = .ok (.istore_n 3, 1) := by decide +kernel
theorem dX4_sorts_4 : decode cX4_sorts 4 = .ok (.iload_n 3, 1) := by decide +kernel
theorem dX4_sorts_5 : decode cX4_sorts 5 = .ok (.aload_n 0, 1) := by decide +kernel
theorem dX4_sorts_6 : decode cX4_sorts 6 = .ok (.getfield 111, 3) := by decide +kernel
theorem dX4_sorts_9 : decode cX4_sorts 9 = .ok (.if_icmp .ge 80, 3) := by decide +kernel
theorem dX4_sorts_12 : decode cX4_sorts 12 = .ok (.aload_n 0, 1) := by decide +kernel
theorem dX4_sorts_13 : decode cX4_sorts 13 = .ok (.getfield 37, 3) := by decide +kernel
theorem dX4_sorts_16 : decode cX4_sorts 16 = .ok (.iload_n 3, 1) := by decide +kernel
theorem dX4_sorts_17 : decode cX4_sorts 17 = .ok (.iaload, 1) := by decide +kernel
theorem dX4_sorts_18 : decode cX4_sorts 18 = .ok (.iload_n 1, 1) := by decide +kernel
theorem dX4_sorts_19 : decode cX4_sorts 19 = .ok (.if_icmp .eq 6, 3) := by decide +kernel
theorem dX4_sorts_22 : decode cX4_sorts 22 = .ok (.goto 61, 3) := by decide +kernel
theorem dX4_sorts_25 : decode cX4_sorts 25 = .ok (.iload_n 2, 1) := by decide +kernel
theorem dX4_sorts_26 : decode cX4_sorts 26 = .ok (.istore 4, 2) := by decide +kernel
theorem dX4_sorts_28 : decode cX4_sorts 28 = .ok (.iload 4, 2) := by decide +kernel
theorem dX4_sorts_30 : decode cX4_sorts 30 = .ok (.ifCond .le 42, 3) := by decide +kernel
theorem dX4_sorts_33 : decode cX4_sorts 33 = .ok (.aload_n 0, 1) := by decide +kernel
theorem dX4_sorts_34 : decode cX4_sorts 34 = .ok (.iload_n 3, 1) := by decide +kernel
theorem dX4_sorts_35 : decode cX4_sorts 35 = .ok (.aload_n 0, 1) := by decide +kernel
theorem dX4_sorts_36 : decode cX4_sorts 36 = .ok (.getfield 98, 3) := by decide +kernel
theorem dX4_sorts_39 : decode cX4_sorts 39 = .ok (.iload 4, 2) := by decide +kernel
theorem dX4_sorts_41 : decode cX4_sorts 41 = .ok (.iconst 1, 1) := by decide +kernel
theorem dX4_sorts_42 : decode cX4_sorts 42 = .ok (.isub, 1) := by decide +kernel
theorem dX4_sorts_43 : decode cX4_sorts 43 = .ok (.iaload, 1) := by decide +kernel
theorem dX4_sorts_44 : decode cX4_sorts 44 = .ok (.invokevirtual 174, 3) := by decide +kernel
theorem dX4_sorts_47 : decode cX4_sorts 47 = .ok (.ifCond .eq 25, 3) := by decide +kernel
theorem dX4_sorts_50 : decode cX4_sorts 50 = .ok (.aload_n 0, 1) := by decide +kernel
theorem dX4_sorts_51 : decode cX4_sorts 51 = .ok (.getfield 98, 3) := by decide +kernel
theorem dX4_sorts_54 : decode cX4_sorts 54 = .ok (.iload 4, 2) := by decide +kernel
theorem dX4_sorts_56 : decode cX4_sorts 56 = .ok (.aload_n 0, 1) := by decide +kernel
theorem dX4_sorts_57 : decode cX4_sorts 57 = .ok (.getfield 98, 3) := by decide +kernel
theorem dX4_sorts_60 : decode cX4_sorts 60 = .ok (.iload 4, 2) := by decide +kernel
theorem dX4_sorts_62 : decode cX4_sorts 62 = .ok (.iconst 1, 1) := by decide +kernel
theorem dX4_sorts_63 : decode cX4_sorts 63 = .ok (.isub, 1) := by decide +kernel
theorem dX4_sorts_64 : decode cX4_sorts 64 = .ok (.iaload, 1) := by decide +kernel
theorem dX4_sorts_65 : decode cX4_sorts 65 = .ok (.iastore, 1) := by decide +kernel
theorem dX4_sorts_66 : decode cX4_sorts 66 = .ok (.iinc 4 (-1), 3) := by decide +kernel
theorem dX4_sorts_69 : decode cX4_sorts 69 = .ok (.goto (-41), 3) := by decide +kernel
theorem dX4_sorts_72 : decode cX4_sorts 72 = .ok (.aload_n 0, 1) := by decide +kernel
theorem dX4_sorts_73 : decode cX4_sorts 73 = .ok (.getfield 98, 3) := by decide +kernel
theorem dX4_sorts_76 : decode cX4_sorts 76 = .ok (.iload 4, 2) := by decide +kernel
theorem dX4_sorts_78 : decode cX4_sorts 78 = .ok (.iload_n 3, 1) := by decide +kernel
theorem dX4_sorts_79 : decode cX4_sorts 79 = .ok (.iastore, 1) := by decide +kernel
theorem dX4_sorts_80 : decode cX4_sorts 80 = .ok (.iinc 2 1, 3) := by decide +kernel
theorem dX4_sorts_83 : decode cX4_sorts 83 = .ok (.iinc 3 1, 3) := by decide +kernel
theorem dX4_sorts_86 : decode cX4_sorts 86 = .ok (.goto (-82), 3) := by decide +kernel
theorem dX4_sorts_89 : decode cX4_sorts 89 = .ok (.iload_n 2, 1) := by decide +kernel
theorem dX4_sorts_90 : decode cX4_sorts 90 = .ok (.ireturn, 1) := by decide +kernel
set_option maxRecDepth 20000 in
theorem ggX4_waitsFor_X4_stepOf : GoodIn wsX4_waitsFor wsX4_stepOf := goodIn_r _ [7, 8, 9, 15, 16, 17, 18, 19, 20, 21, 22, 23, 24, 25, 26, 27, 28, 29, 30, 31, 32, 33, 34, 35, 36, 37, 38, 39, 40, 41, 42, 43, 44, 45, 46, 47, 48, 49, 50, 51, 52, 53] (by decide +kernel) (by decide +kernel)
set_option maxRecDepth 20000 in
theorem gX4_waitsFor_X4_stepOf : GoodIn wsX4_waitsFor (wsV RX4 137 RX4 yX4_stepOf wsX4_stepOf) := goodIn_app (goodIn_of _ (by decide +kernel)) ggX4_waitsFor_X4_stepOf
set_option maxRecDepth 20000 in
theorem ggX4_waitsFor_X4_bars : GoodIn wsX4_waitsFor wsX4_bars := goodIn_r _ [13, 1, 14, 15, 16, 17, 18, 19, 20, 21, 22, 23, 24, 25, 26, 27, 28, 29, 30, 31, 32, 33, 34, 35, 36, 37, 38, 39, 40, 41, 42, 43, 44, 45, 46, 47, 48, 49, 50, 51, 52, 53] (by decide +kernel) (by decide +kernel)
set_option maxRecDepth 20000 in
theorem gX4_waitsFor_X4_bars : GoodIn wsX4_waitsFor (wsV RX4 133 RX4 yX4_bars wsX4_bars) := goodIn_app (goodIn_of _ (by decide +kernel)) ggX4_waitsFor_X4_bars
theorem dX4_waitsFor_0 : decode cX4_waitsFor 0 = .ok (.aload_n 0, 1) := by decide +kernel
theorem dX4_waitsFor_1 : decode cX4_waitsFor 1 = .ok (.getfield 37, 3) := by decide +kernel
theorem dX4_waitsFor_4 : decode cX4_waitsFor 4 = .ok (.iload_n 1, 1) := by decide +kernel
theorem dX4_waitsFor_5 : decode cX4_waitsFor 5 = .ok (.iaload, 1) := by decide +kernel
theorem dX4_waitsFor_6 : decode cX4_waitsFor 6 = .ok (.iconst 1, 1) := by decide +kernel
theorem dX4_waitsFor_7 : decode cX4_waitsFor 7 = .ok (.if_icmp .ne 12, 3) := by decide +kernel
theorem dX4_waitsFor_10 : decode cX4_waitsFor 10 = .ok (.aload_n 0, 1) := by decide +kernel
theorem dX4_waitsFor_11 : decode cX4_waitsFor 11 = .ok (.getfield 52, 3) := by decide +kernel
theorem dX4_waitsFor_14 : decode cX4_waitsFor 14 = .ok (.iload_n 1, 1) := by decide +kernel
theorem dX4_waitsFor_15 : decode cX4_waitsFor 15 = .ok (.baload, 1) := by decide +kernel
theorem dX4_waitsFor_16 : decode cX4_waitsFor 16 = .ok (.ifCond .ne 5, 3) := by decide +kernel
theorem dX4_waitsFor_19 : decode cX4_waitsFor 19 = .ok (.iconst 0, 1) := by decide +kernel
theorem dX4_waitsFor_20 : decode cX4_waitsFor 20 = .ok (.ireturn, 1) := by decide +kernel
theorem dX4_waitsFor_21 : decode cX4_waitsFor 21 = .ok (.aload_n 0, 1) := by decide +kernel
theorem dX4_waitsFor_22 : decode cX4_waitsFor 22 = .ok (.iload_n 1, 1) := by decide +kernel
theorem dX4_waitsFor_23 : decode cX4_waitsFor 23 = .ok (.invokevirtual 137, 3) := by decide +kernel
theorem dX4_waitsFor_26 : decode cX4_waitsFor 26 = .ok (.sipush 10000, 3) := by decide +kernel
theorem dX4_waitsFor_29 : decode cX4_waitsFor 29 = .ok (.idiv, 1) := by decide +kernel
theorem dX4_waitsFor_30 : decode cX4_waitsFor 30 = .ok (.istore_n 3, 1) := by decide +kernel
theorem dX4_waitsFor_31 : decode cX4_waitsFor 31 = .ok (.aload_n 0, 1) := by decide +kernel
theorem dX4_waitsFor_32 : decode cX4_waitsFor 32 = .ok (.iload_n 1, 1) := by decide +kernel
theorem dX4_waitsFor_33 : decode cX4_waitsFor 33 = .ok (.invokevirtual 137, 3) := by decide +kernel
theorem dX4_waitsFor_36 : decode cX4_waitsFor 36 = .ok (.bipush 100, 2) := by decide +kernel
theorem dX4_waitsFor_38 : decode cX4_waitsFor 38 = .ok (.idiv, 1) := by decide +kernel
theorem dX4_waitsFor_39 : decode cX4_waitsFor 39 = .ok (.bipush 100, 2) := by decide +kernel
theorem dX4_waitsFor_41 : decode cX4_waitsFor 41 = .ok (.irem, 1) := by decide +kernel
theorem dX4_waitsFor_42 : decode cX4_waitsFor 42 = .ok (.istore 4, 2) := by decide +kernel
theorem dX4_waitsFor_44 : decode cX4_waitsFor 44 = .ok (.iload_n 3, 1) := by decide +kernel
theorem dX4_waitsFor_45 : decode cX4_waitsFor 45 = .ok (.bipush 6, 2) := by decide +kernel
theorem dX4_waitsFor_47 : decode cX4_waitsFor 47 = .ok (.if_icmp .eq 28, 3) := by decide +kernel
theorem dX4_waitsFor_50 : decode cX4_waitsFor 50 = .ok (.aload_n 0, 1) := by decide +kernel
theorem dX4_waitsFor_51 : decode cX4_waitsFor 51 = .ok (.iload_n 2, 1) := by decide +kernel
theorem dX4_waitsFor_52 : decode cX4_waitsFor 52 = .ok (.iload_n 1, 1) := by decide +kernel
theorem dX4_waitsFor_53 : decode cX4_waitsFor 53 = .ok (.iload 4, 2) := by decide +kernel
theorem dX4_waitsFor_55 : decode cX4_waitsFor 55 = .ok (.iload_n 3, 1) := by decide +kernel
theorem dX4_waitsFor_56 : decode cX4_waitsFor 56 = .ok (.iconst 3, 1) := by decide +kernel
theorem dX4_waitsFor_57 : decode cX4_waitsFor 57 = .ok (.if_icmp .ne 7, 3) := by decide +kernel
theorem dX4_waitsFor_60 : decode cX4_waitsFor 60 = .ok (.iconst 1, 1) := by decide +kernel
theorem dX4_waitsFor_61 : decode cX4_waitsFor 61 = .ok (.goto 4, 3) := by decide +kernel
theorem dX4_waitsFor_64 : decode cX4_waitsFor 64 = .ok (.iconst 0, 1) := by decide +kernel
theorem dX4_waitsFor_65 : decode cX4_waitsFor 65 = .ok (.invokevirtual 133, 3) := by decide +kernel
theorem dX4_waitsFor_68 : decode cX4_waitsFor 68 = .ok (.ifCond .eq 7, 3) := by decide +kernel
theorem dX4_waitsFor_71 : decode cX4_waitsFor 71 = .ok (.iconst 1, 1) := by decide +kernel
theorem dX4_waitsFor_72 : decode cX4_waitsFor 72 = .ok (.goto 4, 3) := by decide +kernel
theorem dX4_waitsFor_75 : decode cX4_waitsFor 75 = .ok (.iconst 0, 1) := by decide +kernel
theorem dX4_waitsFor_76 : decode cX4_waitsFor 76 = .ok (.ireturn, 1) := by decide +kernel
set_option maxRecDepth 20000 in
theorem ggX4_isInRing_X4_waitsFor : GoodIn wsX4_isInRing wsX4_waitsFor := goodIn_r _ [9, 10, 4, 11, 12, 13, 8, 14, 15, 16, 17, 18, 19, 20, 21, 22, 23, 24, 25, 26, 27, 28, 29, 30, 31, 32, 33, 34, 35, 36, 37, 38, 39, 40, 41, 42, 43, 44, 45, 46, 47, 48, 49, 50, 51, 52, 53, 54, 55, 56, 57, 58, 59, 60] (by decide +kernel) (by decide +kernel)
set_option maxRecDepth 20000 in
theorem gX4_isInRing_X4_waitsFor : GoodIn wsX4_isInRing (wsV RX4 178 RX4 yX4_waitsFor wsX4_waitsFor) := goodIn_app (goodIn_of _ (by decide +kernel)) ggX4_isInRing_X4_waitsFor
theorem dX4_isInRing_0 : decode cX4_isInRing 0 = .ok (.iconst 0, 1) := by decide +kernel
theorem dX4_isInRing_1 : decode cX4_isInRing 1 = .ok (.istore_n 2, 1) := by decide +kernel
theorem dX4_isInRing_2 : decode cX4_isInRing 2 = .ok (.iload_n 2, 1) := by decide +kernel
theorem dX4_isInRing_3 : decode cX4_isInRing 3 = .ok (.aload_n 0, 1) := by decide +kernel
theorem dX4_isInRing_4 : decode cX4_isInRing 4 = .ok (.getfield 111, 3) := by decide +kernel
theorem dX4_isInRing_7 : decode cX4_isInRing 7 = .ok (.if_icmp .ge 16, 3) := by decide +kernel
theorem dX4_isInRing_10 : decode cX4_isInRing 10 = .ok (.aload_n 0, 1) := by decide +kernel
theorem dX4_isInRing_11 : decode cX4_isInRing 11 = .ok (.getfield 101, 3) := by decide +kernel
theorem dX4_isInRing_14 : decode cX4_isInRing 14 = .ok (.iload_n 2, 1) := by decide +kernel
theorem dX4_isInRing_15 : decode cX4_isInRing 15 = .ok (.iconst 0, 1) := by decide +kernel
theorem dX4_isInRing_16 : decode cX4_isInRing 16 = .ok (.bastore, 1) := by decide +kernel
theorem dX4_isInRing_17 : decode cX4_isInRing 17 = .ok (.iinc 2 1, 3) := by decide +kernel
theorem dX4_isInRing_20 : decode cX4_isInRing 20 = .ok (.goto (-18), 3) := by decide +kernel
theorem dX4_isInRing_23 : decode cX4_isInRing 23 = .ok (.aload_n 0, 1) := by decide +kernel
theorem dX4_isInRing_24 : decode cX4_isInRing 24 = .ok (.getfield 104, 3) := by decide +kernel
theorem dX4_isInRing_27 : decode cX4_isInRing 27 = .ok (.iconst 0, 1) := by decide +kernel
theorem dX4_isInRing_28 : decode cX4_isInRing 28 = .ok (.iload_n 1, 1) := by decide +kernel
theorem dX4_isInRing_29 : decode cX4_isInRing 29 = .ok (.iastore, 1) := by decide +kernel
theorem dX4_isInRing_30 : decode cX4_isInRing 30 = .ok (.iconst 1, 1) := by decide +kernel
theorem dX4_isInRing_31 : decode cX4_isInRing 31 = .ok (.istore_n 2, 1) := by decide +kernel
theorem dX4_isInRing_32 : decode cX4_isInRing 32 = .ok (.iconst 0, 1) := by decide +kernel
theorem dX4_isInRing_33 : decode cX4_isInRing 33 = .ok (.istore_n 3, 1) := by decide +kernel
theorem dX4_isInRing_34 : decode cX4_isInRing 34 = .ok (.iload_n 3, 1) := by decide +kernel
theorem dX4_isInRing_35 : decode cX4_isInRing 35 = .ok (.iload_n 2, 1) := by decide +kernel
theorem dX4_isInRing_36 : decode cX4_isInRing 36 = .ok (.if_icmp .ge 88, 3) := by decide +kernel
theorem dX4_isInRing_39 : decode cX4_isInRing 39 = .ok (.iconst 0, 1) := by decide +kernel
theorem dX4_isInRing_40 : decode cX4_isInRing 40 = .ok (.istore 4, 2) := by decide +kernel
theorem dX4_isInRing_42 : decode cX4_isInRing 42 = .ok (.iload 4, 2) := by decide +kernel
theorem dX4_isInRing_44 : decode cX4_isInRing 44 = .ok (.aload_n 0, 1) := by decide +kernel
theorem dX4_isInRing_45 : decode cX4_isInRing 45 = .ok (.getfield 111, 3) := by decide +kernel
theorem dX4_isInRing_48 : decode cX4_isInRing 48 = .ok (.if_icmp .ge 70, 3) := by decide +kernel
theorem dX4_isInRing_51 : decode cX4_isInRing 51 = .ok (.aload_n 0, 1) := by decide +kernel
theorem dX4_isInRing_52 : decode cX4_isInRing 52 = .ok (.getfield 52, 3) := by decide +kernel
theorem dX4_isInRing_55 : decode cX4_isInRing 55 = .ok (.aload_n 0, 1) := by decide +kernel
theorem dX4_isInRing_56 : decode cX4_isInRing 56 = .ok (.getfield 104, 3) := by decide +kernel
theorem dX4_isInRing_59 : decode cX4_isInRing 59 = .ok (.iload_n 3, 1) := by decide +kernel
theorem dX4_isInRing_60 : decode cX4_isInRing 60 = .ok (.iaload, 1) := by decide +kernel
theorem dX4_isInRing_61 : decode cX4_isInRing 61 = .ok (.baload, 1) := by decide +kernel
theorem dX4_isInRing_62 : decode cX4_isInRing 62 = .ok (.ifCond .eq 56, 3) := by decide +kernel
theorem dX4_isInRing_65 : decode cX4_isInRing 65 = .ok (.aload_n 0, 1) := by decide +kernel
theorem dX4_isInRing_66 : decode cX4_isInRing 66 = .ok (.getfield 101, 3) := by decide +kernel
theorem dX4_isInRing_69 : decode cX4_isInRing 69 = .ok (.iload 4, 2) := by decide +kernel
theorem dX4_isInRing_71 : decode cX4_isInRing 71 = .ok (.baload, 1) := by decide +kernel
theorem dX4_isInRing_72 : decode cX4_isInRing 72 = .ok (.ifCond .ne 40, 3) := by decide +kernel
theorem dX4_isInRing_75 : decode cX4_isInRing 75 = .ok (.aload_n 0, 1) := by decide +kernel
theorem dX4_isInRing_76 : decode cX4_isInRing 76 = .ok (.aload_n 0, 1) := by decide +kernel
theorem dX4_isInRing_77 : decode cX4_isInRing 77 = .ok (.getfield 104, 3) := by decide +kernel
theorem dX4_isInRing_80 : decode cX4_isInRing 80 = .ok (.iload_n 3, 1) := by decide +kernel
theorem dX4_isInRing_81 : decode cX4_isInRing 81 = .ok (.iaload, 1) := by decide +kernel
theorem dX4_isInRing_82 : decode cX4_isInRing 82 = .ok (.iload 4, 2) := by decide +kernel
theorem dX4_isInRing_84 : decode cX4_isInRing 84 = .ok (.invokevirtual 178, 3) := by decide +kernel
theorem dX4_isInRing_87 : decode cX4_isInRing 87 = .ok (.ifCond .ne 6, 3) := by decide +kernel
theorem dX4_isInRing_90 : decode cX4_isInRing 90 = .ok (.goto 22, 3) := by decide +kernel
theorem dX4_isInRing_93 : decode cX4_isInRing 93 = .ok (.aload_n 0, 1) := by decide +kernel
theorem dX4_isInRing_94 : decode cX4_isInRing 94 = .ok (.getfield 101, 3) := by decide +kernel
theorem dX4_isInRing_97 : decode cX4_isInRing 97 = .ok (.iload 4, 2) := by decide +kernel
theorem dX4_isInRing_99 : decode cX4_isInRing 99 = .ok (.iconst 1, 1) := by decide +kernel
theorem dX4_isInRing_100 : decode cX4_isInRing 100 = .ok (.bastore, 1) := by decide +kernel
theorem dX4_isInRing_101 : decode cX4_isInRing 101 = .ok (.aload_n 0, 1) := by decide +kernel
theorem dX4_isInRing_102 : decode cX4_isInRing 102 = .ok (.getfield 104, 3) := by decide +kernel
theorem dX4_isInRing_105 : decode cX4_isInRing 105 = .ok (.iload_n 2, 1) := by decide +kernel
theorem dX4_isInRing_106 : decode cX4_isInRing 106 = .ok (.iload 4, 2) := by decide +kernel
theorem dX4_isInRing_108 : decode cX4_isInRing 108 = .ok (.iastore, 1) := by decide +kernel
theorem dX4_isInRing_109 : decode cX4_isInRing 109 = .ok (.iinc 2 1, 3) := by decide +kernel
theorem dX4_isInRing_112 : decode cX4_isInRing 112 = .ok (.iinc 4 1, 3) := by decide +kernel
theorem dX4_isInRing_115 : decode cX4_isInRing 115 = .ok (.goto (-73), 3) := by decide +kernel
theorem dX4_isInRing_118 : decode cX4_isInRing 118 = .ok (.iinc 3 1, 3) := by decide +kernel
theorem dX4_isInRing_121 : decode cX4_isInRing 121 = .ok (.goto (-87), 3) := by decide +kernel
theorem dX4_isInRing_124 : decode cX4_isInRing 124 = .ok (.aload_n 0, 1) := by decide +kernel
theorem dX4_isInRing_125 : decode cX4_isInRing 125 = .ok (.getfield 101, 3) := by decide +kernel
theorem dX4_isInRing_128 : decode cX4_isInRing 128 = .ok (.iload_n 1, 1) := by decide +kernel
theorem dX4_isInRing_129 : decode cX4_isInRing 129 = .ok (.baload, 1) := by decide +kernel
theorem dX4_isInRing_130 : decode cX4_isInRing 130 = .ok (.ireturn, 1) := by decide +kernel
set_option maxRecDepth 20000 in
theorem ggX4_breaks_X4_isInRing : GoodIn wsX4_breaks wsX4_isInRing := goodIn_r _ [11, 1, 12, 13, 3, 14, 15, 16, 10, 17, 2, 18, 19, 20, 21, 22, 23, 24, 25, 26, 27, 28, 45, 46, 47, 48, 49, 50, 51, 52, 53, 54, 55, 56, 57, 58, 59, 60, 61, 62, 63, 64, 65, 66, 67, 68, 69, 70, 71, 72, 73, 74, 75, 76, 77, 78, 79, 80, 81, 82, 83] (by decide +kernel) (by decide +kernel)
set_option maxRecDepth 20000 in
theorem gX4_breaks_X4_isInRing : GoodIn wsX4_breaks (wsV RX4 181 RX4 yX4_isInRing wsX4_isInRing) := goodIn_app (goodIn_of _ (by decide +kernel)) ggX4_breaks_X4_isInRing
set_option maxRecDepth 20000 in
theorem ggX4_breaks_X4_logs : GoodIn wsX4_breaks wsX4_logs := goodIn_r _ [32, 33, 34, 35, 36, 45, 46, 47, 48, 49, 50, 51, 52, 53, 54, 55, 56, 57, 58, 59, 60, 61, 62, 63, 64, 65, 66, 67, 68, 69, 70, 71, 72, 73, 74, 75, 76, 77, 78, 79, 80, 81, 82, 83] (by decide +kernel) (by decide +kernel)
set_option maxRecDepth 20000 in
theorem gX4_breaks_X4_logs : GoodIn wsX4_breaks (wsV RX4 148 RX4 yX4_logs wsX4_logs) := goodIn_app (goodIn_of _ (by decide +kernel)) ggX4_breaks_X4_logs
set_option maxRecDepth 20000 in
theorem ggX4_breaks_X4_clears : GoodIn wsX4_breaks wsX4_clears := goodIn_r _ [40, 28, 41, 42, 43, 44, 23, 3, 45, 46, 47, 48, 49, 50, 51, 52, 53, 54, 55, 56, 57, 58, 59, 60, 61, 62, 63, 64, 65, 66, 67, 68, 69, 70, 71, 72, 73, 74, 75, 76, 77, 78, 79, 80, 81, 82, 83] (by decide +kernel) (by decide +kernel)
set_option maxRecDepth 20000 in
theorem gX4_breaks_X4_clears : GoodIn wsX4_breaks (wsV RX4 154 RX4 yX4_clears wsX4_clears) := goodIn_app (goodIn_of _ (by decide +kernel)) ggX4_breaks_X4_clears
theorem dX4_breaks_0 : decode cX4_breaks 0 = .ok (.iconst 0, 1) := by decide +kernel
theorem dX4_breaks_1 : decode cX4_breaks 1 = .ok (.istore_n 1, 1) := by decide +kernel
theorem dX4_breaks_2 : decode cX4_breaks 2 = .ok (.iload_n 1, 1) := by decide +kernel
theorem dX4_breaks_3 : decode cX4_breaks 3 = .ok (.iconst (-1), 1) := by decide +kernel
theorem dX4_breaks_4 : decode cX4_breaks 4 = .ok (.if_icmp .eq 120, 3) := by decide +kernel
theorem dX4_breaks_7 : decode cX4_breaks 7 = .ok (.iconst (-1), 1) := by decide +kernel
theorem dX4_breaks_8 : decode cX4_breaks 8 = .ok (.istore_n 1, 1) := by decide +kernel
theorem dX4_breaks_9 : decode cX4_breaks 9 = .ok (.iconst 0, 1) := by decide +kernel
theorem dX4_breaks_10 : decode cX4_breaks 10 = .ok (.istore_n 2, 1) := by decide +kernel
theorem dX4_breaks_11 : decode cX4_breaks 11 = .ok (.iload_n 2, 1) := by decide +kernel
theorem dX4_breaks_12 : decode cX4_breaks 12 = .ok (.aload_n 0, 1) := by decide +kernel
theorem dX4_breaks_13 : decode cX4_breaks 13 = .ok (.getfield 111, 3) := by decide +kernel
theorem dX4_breaks_16 : decode cX4_breaks 16 = .ok (.if_icmp .ge 58, 3) := by decide +kernel
theorem dX4_breaks_19 : decode cX4_breaks 19 = .ok (.aload_n 0, 1) := by decide +kernel
theorem dX4_breaks_20 : decode cX4_breaks 20 = .ok (.getfield 37, 3) := by decide +kernel
theorem dX4_breaks_23 : decode cX4_breaks 23 = .ok (.iload_n 2, 1) := by decide +kernel
theorem dX4_breaks_24 : decode cX4_breaks 24 = .ok (.iaload, 1) := by decide +kernel
theorem dX4_breaks_25 : decode cX4_breaks 25 = .ok (.iconst 1, 1) := by decide +kernel
theorem dX4_breaks_26 : decode cX4_breaks 26 = .ok (.if_icmp .ne 42, 3) := by decide +kernel
theorem dX4_breaks_29 : decode cX4_breaks 29 = .ok (.aload_n 0, 1) := by decide +kernel
theorem dX4_breaks_30 : decode cX4_breaks 30 = .ok (.getfield 52, 3) := by decide +kernel
theorem dX4_breaks_33 : decode cX4_breaks 33 = .ok (.iload_n 2, 1) := by decide +kernel
theorem dX4_breaks_34 : decode cX4_breaks 34 = .ok (.baload, 1) := by decide +kernel
theorem dX4_breaks_35 : decode cX4_breaks 35 = .ok (.ifCond .eq 33, 3) := by decide +kernel
theorem dX4_breaks_38 : decode cX4_breaks 38 = .ok (.aload_n 0, 1) := by decide +kernel
theorem dX4_breaks_39 : decode cX4_breaks 39 = .ok (.iload_n 2, 1) := by decide +kernel
theorem dX4_breaks_40 : decode cX4_breaks 40 = .ok (.invokevirtual 181, 3) := by decide +kernel
theorem dX4_breaks_43 : decode cX4_breaks 43 = .ok (.ifCond .eq 25, 3) := by decide +kernel
theorem dX4_breaks_46 : decode cX4_breaks 46 = .ok (.iload_n 1, 1) := by decide +kernel
theorem dX4_breaks_47 : decode cX4_breaks 47 = .ok (.iconst (-1), 1) := by decide +kernel
theorem dX4_breaks_48 : decode cX4_breaks 48 = .ok (.if_icmp .eq 18, 3) := by decide +kernel
theorem dX4_breaks_51 : decode cX4_breaks 51 = .ok (.aload_n 0, 1) := by decide +kernel
theorem dX4_breaks_52 : decode cX4_breaks 52 = .ok (.getfield 65, 3) := by decide +kernel
theorem dX4_breaks_55 : decode cX4_breaks 55 = .ok (.iload_n 2, 1) := by decide +kernel
theorem dX4_breaks_56 : decode cX4_breaks 56 = .ok (.iaload, 1) := by decide +kernel
theorem dX4_breaks_57 : decode cX4_breaks 57 = .ok (.aload_n 0, 1) := by decide +kernel
theorem dX4_breaks_58 : decode cX4_breaks 58 = .ok (.getfield 65, 3) := by decide +kernel
theorem dX4_breaks_61 : decode cX4_breaks 61 = .ok (.iload_n 1, 1) := by decide +kernel
theorem dX4_breaks_62 : decode cX4_breaks 62 = .ok (.iaload, 1) := by decide +kernel
theorem dX4_breaks_63 : decode cX4_breaks 63 = .ok (.if_icmp .lt 5, 3) := by decide +kernel
theorem dX4_breaks_66 : decode cX4_breaks 66 = .ok (.iload_n 2, 1) := by decide +kernel
theorem dX4_breaks_67 : decode cX4_breaks 67 = .ok (.istore_n 1, 1) := by decide +kernel
theorem dX4_breaks_68 : decode cX4_breaks 68 = .ok (.iinc 2 1, 3) := by decide +kernel
theorem dX4_breaks_71 : decode cX4_breaks 71 = .ok (.goto (-60), 3) := by decide +kernel
theorem dX4_breaks_74 : decode cX4_breaks 74 = .ok (.iload_n 1, 1) := by decide +kernel
theorem dX4_breaks_75 : decode cX4_breaks 75 = .ok (.iconst (-1), 1) := by decide +kernel
theorem dX4_breaks_76 : decode cX4_breaks 76 = .ok (.if_icmp .ne 6, 3) := by decide +kernel
theorem dX4_breaks_79 : decode cX4_breaks 79 = .ok (.goto (-77), 3) := by decide +kernel
theorem dX4_breaks_82 : decode cX4_breaks 82 = .ok (.aload_n 0, 1) := by decide +kernel
theorem dX4_breaks_83 : decode cX4_breaks 83 = .ok (.iconst 4, 1) := by decide +kernel
theorem dX4_breaks_84 : decode cX4_breaks 84 = .ok (.iload_n 1, 1) := by decide +kernel
theorem dX4_breaks_85 : decode cX4_breaks 85 = .ok (.iconst (-1), 1) := by decide +kernel
theorem dX4_breaks_86 : decode cX4_breaks 86 = .ok (.invokevirtual 148, 3) := by decide +kernel
theorem dX4_breaks_89 : decode cX4_breaks 89 = .ok (.aload_n 0, 1) := by decide +kernel
theorem dX4_breaks_90 : decode cX4_breaks 90 = .ok (.iload_n 1, 1) := by decide +kernel
theorem dX4_breaks_91 : decode cX4_breaks 91 = .ok (.invokevirtual 154, 3) := by decide +kernel
theorem dX4_breaks_94 : decode cX4_breaks 94 = .ok (.aload_n 0, 1) := by decide +kernel
theorem dX4_breaks_95 : decode cX4_breaks 95 = .ok (.getfield 37, 3) := by decide +kernel
theorem dX4_breaks_98 : decode cX4_breaks 98 = .ok (.iload_n 1, 1) := by decide +kernel
theorem dX4_breaks_99 : decode cX4_breaks 99 = .ok (.iconst 0, 1) := by decide +kernel
theorem dX4_breaks_100 : decode cX4_breaks 100 = .ok (.iastore, 1) := by decide +kernel
theorem dX4_breaks_101 : decode cX4_breaks 101 = .ok (.aload_n 0, 1) := by decide +kernel
theorem dX4_breaks_102 : decode cX4_breaks 102 = .ok (.getfield 59, 3) := by decide +kernel
theorem dX4_breaks_105 : decode cX4_breaks 105 = .ok (.iload_n 1, 1) := by decide +kernel
theorem dX4_breaks_106 : decode cX4_breaks 106 = .ok (.dup2, 1) := by decide +kernel
theorem dX4_breaks_107 : decode cX4_breaks 107 = .ok (.iaload, 1) := by decide +kernel
theorem dX4_breaks_108 : decode cX4_breaks 108 = .ok (.iconst 1, 1) := by decide +kernel
theorem dX4_breaks_109 : decode cX4_breaks 109 = .ok (.iadd, 1) := by decide +kernel
theorem dX4_breaks_110 : decode cX4_breaks 110 = .ok (.iastore, 1) := by decide +kernel
theorem dX4_breaks_111 : decode cX4_breaks 111 = .ok (.aload_n 0, 1) := by decide +kernel
theorem dX4_breaks_112 : decode cX4_breaks 112 = .ok (.dup, 1) := by decide +kernel
theorem dX4_breaks_113 : decode cX4_breaks 113 = .ok (.getfield 184, 3) := by decide +kernel
theorem dX4_breaks_116 : decode cX4_breaks 116 = .ok (.iconst 1, 1) := by decide +kernel
theorem dX4_breaks_117 : decode cX4_breaks 117 = .ok (.iadd, 1) := by decide +kernel
theorem dX4_breaks_118 : decode cX4_breaks 118 = .ok (.putfield 184, 3) := by decide +kernel
