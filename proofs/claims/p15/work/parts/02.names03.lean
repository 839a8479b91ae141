theorem dX3_value_46 : decode cX3_value 46 = .ok (.aload_n 0, 1) := by decide +kernel
theorem dX3_value_47 : decode cX3_value 47 = .ok (.getfield 154, 3) := by decide +kernel
theorem dX3_value_50 : decode cX3_value 50 = .ok (.if_icmp .ge 40, 3) := by decide +kernel
theorem dX3_value_53 : decode cX3_value 53 = .ok (.aload_n 0, 1) := by decide +kernel
theorem dX3_value_54 : decode cX3_value 54 = .ok (.getfield 27, 3) := by decide +kernel
theorem dX3_value_57 : decode cX3_value 57 = .ok (.aload_n 0, 1) := by decide +kernel
theorem dX3_value_58 : decode cX3_value 58 = .ok (.getfield 34, 3) := by decide +kernel
theorem dX3_value_61 : decode cX3_value 61 = .ok (.iload 4, 2) := by decide +kernel
theorem dX3_value_63 : decode cX3_value 63 = .ok (.iaload, 1) := by decide +kernel
theorem dX3_value_64 : decode cX3_value 64 = .ok (.aaload, 1) := by decide +kernel
theorem dX3_value_65 : decode cX3_value 65 = .ok (.astore 5, 2) := by decide +kernel
theorem dX3_value_67 : decode cX3_value 67 = .ok (.aload 5, 2) := by decide +kernel
theorem dX3_value_69 : decode cX3_value 69 = .ok (.getfield 135, 3) := by decide +kernel
theorem dX3_value_72 : decode cX3_value 72 = .ok (.iload_n 2, 1) := by decide +kernel
theorem dX3_value_73 : decode cX3_value 73 = .ok (.if_icmp .gt 11, 3) := by decide +kernel
theorem dX3_value_76 : decode cX3_value 76 = .ok (.aload 5, 2) := by decide +kernel
theorem dX3_value_78 : decode cX3_value 78 = .ok (.iload_n 1, 1) := by decide +kernel
theorem dX3_value_79 : decode cX3_value 79 = .ok (.iload_n 3, 1) := by decide +kernel
theorem dX3_value_80 : decode cX3_value 80 = .ok (.invokevirtual 157, 3) := by decide +kernel
theorem dX3_value_83 : decode cX3_value 83 = .ok (.istore_n 3, 1) := by decide +kernel
theorem dX3_value_84 : decode cX3_value 84 = .ok (.iinc 4 1, 3) := by decide +kernel
theorem dX3_value_87 : decode cX3_value 87 = .ok (.goto (-43), 3) := by decide +kernel
theorem dX3_value_90 : decode cX3_value 90 = .ok (.iload_n 3, 1) := by decide +kernel
theorem dX3_value_91 : decode cX3_value 91 = .ok (.ireturn, 1) := by decide +kernel
set_option maxRecDepth 20000 in
theorem ggX3_done_X3_isBelow : GoodIn wsX3_done wsX3_isBelow := goodIn_r _ [6] (by decide +kernel) (by decide +kernel)
set_option maxRecDepth 20000 in
theorem gX3_done_X3_isBelow : GoodIn wsX3_done (va_wsS RX3 63 yX3_isBelow wsX3_isBelow) := goodIn_app (goodIn_of _ (by decide +kernel)) ggX3_done_X3_isBelow
theorem dX3_done_0 : decode cX3_done 0 = .ok (.iload_n 1, 1) := by decide +kernel
theorem dX3_done_1 : decode cX3_done 1 = .ok (.aload_n 0, 1) := by decide +kernel
theorem dX3_done_2 : decode cX3_done 2 = .ok (.getfield 154, 3) := by decide +kernel
theorem dX3_done_5 : decode cX3_done 5 = .ok (.invokestatic 63, 3) := by decide +kernel
theorem dX3_done_8 : decode cX3_done 8 = .ok (.ifCond .eq 12, 3) := by decide +kernel
theorem dX3_done_11 : decode cX3_done 11 = .ok (.aload_n 0, 1) := by decide +kernel
theorem dX3_done_12 : decode cX3_done 12 = .ok (.getfield 34, 3) := by decide +kernel
theorem dX3_done_15 : decode cX3_done 15 = .ok (.iload_n 1, 1) := by decide +kernel
theorem dX3_done_16 : decode cX3_done 16 = .ok (.iaload, 1) := by decide +kernel
theorem dX3_done_17 : decode cX3_done 17 = .ok (.goto 4, 3) := by decide +kernel
theorem dX3_done_20 : decode cX3_done 20 = .ok (.iconst (-1), 1) := by decide +kernel
theorem dX3_done_21 : decode cX3_done 21 = .ok (.ireturn, 1) := by decide +kernel
set_option maxRecDepth 20000 in
theorem ggX3_log_X1_tell : GoodIn wsX3_log wsX1_tell := goodIn_r _ [6, 7, 8, 27, 28, 29] (by decide +kernel) (by decide +kernel)
set_option maxRecDepth 20000 in
theorem gX3_log_X1_tell : GoodIn wsX3_log (wsV RX3 161 RX1 yX1_tell wsX1_tell) := goodIn_app (goodIn_of _ (by decide +kernel)) ggX3_log_X1_tell
theorem dX3_log_0 : decode cX3_log 0 = .ok (.aload_n 0, 1) := by decide +kernel
theorem dX3_log_1 : decode cX3_log 1 = .ok (.getfield 46, 3) := by decide +kernel
theorem dX3_log_4 : decode cX3_log 4 = .ok (.iload_n 1, 1) := by decide +kernel
theorem dX3_log_5 : decode cX3_log 5 = .ok (.iload_n 2, 1) := by decide +kernel
theorem dX3_log_6 : decode cX3_log 6 = .ok (.invokevirtual 161, 3) := by decide +kernel
theorem dX3_log_9 : decode cX3_log 9 = .ok (.ireturn, 1) := by decide +kernel
set_option maxRecDepth 20000 in
theorem ggX3_count_X3_countState : GoodIn wsX3_count wsX3_countState := goodIn_r _ [13, 2, 14, 15, 16, 17, 18, 19, 20, 21, 22, 23, 24, 25, 26, 27, 28, 29, 30, 31, 32, 33, 37, 38, 39, 40, 41, 42, 43, 44, 45, 46, 47, 48, 49, 50, 51, 52, 53, 54, 55, 56] (by decide +kernel) (by decide +kernel)
set_option maxRecDepth 20000 in
theorem gX3_count_X3_countState : GoodIn wsX3_count (wsV RX3 164 RX3 yX3_countState wsX3_countState) := goodIn_app (goodIn_of _ (by decide +kernel)) ggX3_count_X3_countState
theorem dX3_count_0 : decode cX3_count 0 = .ok (.iload_n 1, 1) := by decide +kernel
theorem dX3_count_1 : decode cX3_count 1 = .ok (.tableswitch 104 0 8 #[51, 56, 61, 69, 77, 83, 89, 94, 99], 51) := by decide +kernel
theorem dX3_count_52 : decode cX3_count 52 = .ok (.aload_n 0, 1) := by decide +kernel
theorem dX3_count_53 : decode cX3_count 53 = .ok (.getfield 79, 3) := by decide +kernel
theorem dX3_count_56 : decode cX3_count 56 = .ok (.ireturn, 1) := by decide +kernel
theorem dX3_count_57 : decode cX3_count 57 = .ok (.aload_n 0, 1) := by decide +kernel
theorem dX3_count_58 : decode cX3_count 58 = .ok (.getfield 102, 3) := by decide +kernel
theorem dX3_count_61 : decode cX3_count 61 = .ok (.ireturn, 1) := by decide +kernel
theorem dX3_count_62 : decode cX3_count 62 = .ok (.aload_n 0, 1) := by decide +kernel
theorem dX3_count_63 : decode cX3_count 63 = .ok (.getfield 46, 3) := by decide +kernel
theorem dX3_count_66 : decode cX3_count 66 = .ok (.getfield 86, 3) := by decide +kernel
theorem dX3_count_69 : decode cX3_count 69 = .ok (.ireturn, 1) := by decide +kernel
theorem dX3_count_70 : decode cX3_count 70 = .ok (.aload_n 0, 1) := by decide +kernel
theorem dX3_count_71 : decode cX3_count 71 = .ok (.getfield 46, 3) := by decide +kernel
theorem dX3_count_74 : decode cX3_count 74 = .ok (.getfield 89, 3) := by decide +kernel
theorem dX3_count_77 : decode cX3_count 77 = .ok (.ireturn, 1) := by decide +kernel
theorem dX3_count_78 : decode cX3_count 78 = .ok (.aload_n 0, 1) := by decide +kernel
theorem dX3_count_79 : decode cX3_count 79 = .ok (.iconst 0, 1) := by decide +kernel
theorem dX3_count_80 : decode cX3_count 80 = .ok (.invokevirtual 164, 3) := by decide +kernel
theorem dX3_count_83 : decode cX3_count 83 = .ok (.ireturn, 1) := by decide +kernel
theorem dX3_count_84 : decode cX3_count 84 = .ok (.aload_n 0, 1) := by decide +kernel
theorem dX3_count_85 : decode cX3_count 85 = .ok (.iconst 1, 1) := by decide +kernel
theorem dX3_count_86 : decode cX3_count 86 = .ok (.invokevirtual 164, 3) := by decide +kernel
theorem dX3_count_89 : decode cX3_count 89 = .ok (.ireturn, 1) := by decide +kernel
theorem dX3_count_90 : decode cX3_count 90 = .ok (.aload_n 0, 1) := by decide +kernel
theorem dX3_count_91 : decode cX3_count 91 = .ok (.getfield 154, 3) := by decide +kernel
theorem dX3_count_94 : decode cX3_count 94 = .ok (.ireturn, 1) := by decide +kernel
theorem dX3_count_95 : decode cX3_count 95 = .ok (.aload_n 0, 1) := by decide +kernel
theorem dX3_count_96 : decode cX3_count 96 = .ok (.getfield 167, 3) := by decide +kernel
theorem dX3_count_99 : decode cX3_count 99 = .ok (.ireturn, 1) := by decide +kernel
theorem dX3_count_100 : decode cX3_count 100 = .ok (.aload_n 0, 1) := by decide +kernel
theorem dX3_count_101 : decode cX3_count 101 = .ok (.getfield 99, 3) := by decide +kernel
theorem dX3_count_104 : decode cX3_count 104 = .ok (.ireturn, 1) := by decide +kernel
theorem dX3_count_105 : decode cX3_count 105 = .ok (.iconst (-1), 1) := by decide +kernel
theorem dX3_count_106 : decode cX3_count 106 = .ok (.ireturn, 1) := by decide +kernel
theorem dX3_isBelow_0 : decode cX3_isBelow 0 = .ok (.iload_n 0, 1) := by decide +kernel
theorem dX3_isBelow_1 : decode cX3_isBelow 1 = .ok (.ifCond .lt 12, 3) := by decide +kernel
theorem dX3_isBelow_4 : decode cX3_isBelow 4 = .ok (.iload_n 0, 1) := by decide +kernel
theorem dX3_isBelow_5 : decode cX3_isBelow 5 = .ok (.iload_n 1, 1) := by decide +kernel
theorem dX3_isBelow_6 : decode cX3_isBelow 6 = .ok (.if_icmp .ge 7, 3) := by decide +kernel
theorem dX3_isBelow_9 : decode cX3_isBelow 9 = .ok (.iconst 1, 1) := by decide +kernel
theorem dX3_isBelow_10 : decode cX3_isBelow 10 = .ok (.goto 4, 3) := by decide +kernel
theorem dX3_isBelow_13 : decode cX3_isBelow 13 = .ok (.iconst 0, 1) := by decide +kernel
theorem dX3_isBelow_14 : decode cX3_isBelow 14 = .ok (.ireturn, 1) := by decide +kernel
theorem dX3_opOf_0 : decode cX3_opOf 0 = .ok (.iload_n 0, 1) := by decide +kernel
theorem dX3_opOf_1 : decode cX3_opOf 1 = .ok (.sipush 10000, 3) := by decide +kernel
theorem dX3_opOf_4 : decode cX3_opOf 4 = .ok (.idiv, 1) := by decide +kernel
theorem dX3_opOf_5 : decode cX3_opOf 5 = .ok (.ireturn, 1) := by decide +kernel
theorem dX3_aOf_0 : decode cX3_aOf 0 = .ok (.iload_n 0, 1) := by decide +kernel
theorem dX3_aOf_1 : decode cX3_aOf 1 = .ok (.bipush 100, 2) := by decide +kernel
theorem dX3_aOf_3 : decode cX3_aOf 3 = .ok (.idiv, 1) := by decide +kernel
theorem dX3_aOf_4 : decode cX3_aOf 4 = .ok (.bipush 100, 2) := by decide +kernel
theorem dX3_aOf_6 : decode cX3_aOf 6 = .ok (.irem, 1) := by decide +kernel
theorem dX3_aOf_7 : decode cX3_aOf 7 = .ok (.ireturn, 1) := by decide +kernel
theorem dX3_bOf_0 : decode cX3_bOf 0 = .ok (.iload_n 0, 1) := by decide +kernel
theorem dX3_bOf_1 : decode cX3_bOf 1 = .ok (.bipush 100, 2) := by decide +kernel
theorem dX3_bOf_3 : decode cX3_bOf 3 = .ok (.irem, 1) := by decide +kernel
theorem dX3_bOf_4 : decode cX3_bOf 4 = .ok (.ireturn, 1) := by decide +kernel
set_option maxRecDepth 20000 in
theorem ggX3_isStep_X3_opOf : GoodIn wsX3_isStep wsX3_opOf := goodIn_r _ [4] (by decide +kernel) (by decide +kernel)
set_option maxRecDepth 20000 in
theorem gX3_isStep_X3_opOf : GoodIn wsX3_isStep (va_wsS RX3 170 yX3_opOf wsX3_opOf) := goodIn_app (goodIn_of _ (by decide +kernel)) ggX3_isStep_X3_opOf
set_option maxRecDepth 20000 in
theorem ggX3_isStep_X3_aOf : GoodIn wsX3_isStep wsX3_aOf := goodIn_r _ [7] (by decide +kernel) (by decide +kernel)
set_option maxRecDepth 20000 in
theorem gX3_isStep_X3_aOf : GoodIn wsX3_isStep (va_wsS RX3 173 yX3_aOf wsX3_aOf) := goodIn_app (goodIn_of _ (by decide +kernel)) ggX3_isStep_X3_aOf
theorem dX3_isStep_0 : decode cX3_isStep 0 = .ok (.iload_n 0, 1) := by decide +kernel
theorem dX3_isStep_1 : decode cX3_isStep 1 = .ok (.ifCond .lt 12, 3) := by decide +kernel
theorem dX3_isStep_4 : decode cX3_isStep 4 = .ok (.iload_n 0, 1) := by decide +kernel
theorem dX3_isStep_5 : decode cX3_isStep 5 = .ok (.invokestatic 170, 3) := by decide +kernel
theorem dX3_isStep_8 : decode cX3_isStep 8 = .ok (.bipush 8, 2) := by decide +kernel
theorem dX3_isStep_10 : decode cX3_isStep 10 = .ok (.if_icmp .le 5, 3) := by decide +kernel
theorem dX3_isStep_13 : decode cX3_isStep 13 = .ok (.iconst 0, 1) := by decide +kernel
theorem dX3_isStep_14 : decode cX3_isStep 14 = .ok (.ireturn, 1) := by decide +kernel
theorem dX3_isStep_15 : decode cX3_isStep 15 = .ok (.iload_n 0, 1) := by decide +kernel
theorem dX3_isStep_16 : decode cX3_isStep 16 = .ok (.invokestatic 170, 3) := by decide +kernel
theorem dX3_isStep_19 : decode cX3_isStep 19 = .ok (.tableswitch 90 0 7 #[45, 90, 90, 45, 45, 90, 60, 75], 45) := by decide +kernel
theorem dX3_isStep_64 : decode cX3_isStep 64 = .ok (.iload_n 0, 1) := by decide +kernel
theorem dX3_isStep_65 : decode cX3_isStep 65 = .ok (.invokestatic 173, 3) := by decide +kernel
theorem dX3_isStep_68 : decode cX3_isStep 68 = .ok (.bipush 24, 2) := by decide +kernel
theorem dX3_isStep_70 : decode cX3_isStep 70 = .ok (.if_icmp .ge 7, 3) := by decide +kernel
theorem dX3_isStep_73 : decode cX3_isStep 73 = .ok (.iconst 1, 1) := by decide +kernel
theorem dX3_isStep_74 : decode cX3_isStep 74 = .ok (.goto 4, 3) := by decide +kernel
theorem dX3_isStep_77 : decode cX3_isStep 77 = .ok (.iconst 0, 1) := by decide +kernel
theorem dX3_isStep_78 : decode cX3_isStep 78 = .ok (.ireturn, 1) := by decide +kernel
theorem dX3_isStep_79 : decode cX3_isStep 79 = .ok (.iload_n 0, 1) := by decide +kernel
theorem dX3_isStep_80 : decode cX3_isStep 80 = .ok (.invokestatic 173, 3) := by decide +kernel
theorem dX3_isStep_83 : decode cX3_isStep 83 = .ok (.bipush 8, 2) := by decide +kernel
theorem dX3_isStep_85 : decode cX3_isStep 85 = .ok (.if_icmp .ge 7, 3) := by decide +kernel
theorem dX3_isStep_88 : decode cX3_isStep 88 = .ok (.iconst 1, 1) := by decide +kernel
theorem dX3_isStep_89 : decode cX3_isStep 89 = .ok (.goto 4, 3) := by decide +kernel
theorem dX3_isStep_92 : decode cX3_isStep 92 = .ok (.iconst 0, 1) := by decide +kernel
theorem dX3_isStep_93 : decode cX3_isStep 93 = .ok (.ireturn, 1) := by decide +kernel
theorem dX3_isStep_94 : decode cX3_isStep 94 = .ok (.iload_n 0, 1) := by decide +kernel
theorem dX3_isStep_95 : decode cX3_isStep 95 = .ok (.invokestatic 173, 3) := by decide +kernel
theorem dX3_isStep_98 : decode cX3_isStep 98 = .ok (.bipush 8, 2) := by decide +kernel
theorem dX3_isStep_100 : decode cX3_isStep 100 = .ok (.if_icmp .ge 7, 3) := by decide +kernel
theorem dX3_isStep_103 : decode cX3_isStep 103 = .ok (.iconst 1, 1) := by decide +kernel
theorem dX3_isStep_104 : decode cX3_isStep 104 = .ok (.goto 4, 3) := by decide +kernel
theorem dX3_isStep_107 : decode cX3_isStep 107 = .ok (.iconst 0, 1) := by decide +kernel
theorem dX3_isStep_108 : decode cX3_isStep 108 = .ok (.ireturn, 1) := by decide +kernel
theorem dX3_isStep_109 : decode cX3_isStep 109 = .ok (.iconst 1, 1) := by decide +kernel
theorem dX3_isStep_110 : decode cX3_isStep 110 = .ok (.ireturn, 1) := by decide +kernel
set_option maxRecDepth 20000 in
theorem ggX3_usesCell_X3_opOf : GoodIn wsX3_usesCell wsX3_opOf := goodIn_r _ [4] (by decide +kernel) (by decide +kernel)
set_option maxRecDepth 20000 in
theorem gX3_usesCell_X3_opOf : GoodIn wsX3_usesCell (va_wsS RX3 170 yX3_opOf wsX3_opOf) := goodIn_app (goodIn_of _ (by decide +kernel)) ggX3_usesCell_X3_opOf
theorem dX3_usesCell_0 : decode cX3_usesCell 0 = .ok (.iload_n 0, 1) := by decide +kernel
theorem dX3_usesCell_1 : decode cX3_usesCell 1 = .ok (.invokestatic 170, 3) := by decide +kernel
theorem dX3_usesCell_4 : decode cX3_usesCell 4 = .ok (.istore_n 1, 1) := by decide +kernel
theorem dX3_usesCell_5 : decode cX3_usesCell 5 = .ok (.iload_n 1, 1) := by decide +kernel
theorem dX3_usesCell_6 : decode cX3_usesCell 6 = .ok (.ifCond .eq 13, 3) := by decide +kernel
theorem dX3_usesCell_9 : decode cX3_usesCell 9 = .ok (.iload_n 1, 1) := by decide +kernel
theorem dX3_usesCell_10 : decode cX3_usesCell 10 = .ok (.iconst 3, 1) := by decide +kernel
theorem dX3_usesCell_11 : decode cX3_usesCell 11 = .ok (.if_icmp .eq 8, 3) := by decide +kernel
theorem dX3_usesCell_14 : decode cX3_usesCell 14 = .ok (.iload_n 1, 1) := by decide +kernel
theorem dX3_usesCell_15 : decode cX3_usesCell 15 = .ok (.iconst 4, 1) := by decide +kernel
theorem dX3_usesCell_16 : decode cX3_usesCell 16 = .ok (.if_icmp .ne 7, 3) := by decide +kernel
theorem dX3_usesCell_19 : decode cX3_usesCell 19 = .ok (.iconst 1, 1) := by decide +kernel
theorem dX3_usesCell_20 : decode cX3_usesCell 20 = .ok (.goto 4, 3) := by decide +kernel
theorem dX3_usesCell_23 : decode cX3_usesCell 23 = .ok (.iconst 0, 1) := by decide +kernel
theorem dX3_usesCell_24 : decode cX3_usesCell 24 = .ok (.ireturn, 1) := by decide +kernel
theorem dX3_countState_0 : decode cX3_countState 0 = .ok (.iconst 0, 1) := by decide +kernel
theorem dX3_countState_1 : decode cX3_countState 1 = .ok (.istore_n 2, 1) := by decide +kernel
theorem dX3_countState_2 : decode cX3_countState 2 = .ok (.iconst 0, 1) := by decide +kernel
theorem dX3_countState_3 : decode cX3_countState 3 = .ok (.istore_n 3, 1) := by decide +kernel
theorem dX3_countState_4 : decode cX3_countState 4 = .ok (.iload_n 3, 1) := by decide +kernel
theorem dX3_countState_5 : decode cX3_countState 5 = .ok (.aload_n 0, 1) := by decide +kernel
theorem dX3_countState_6 : decode cX3_countState 6 = .ok (.getfield 102, 3) := by decide +kernel
theorem dX3_countState_9 : decode cX3_countState 9 = .ok (.if_icmp .ge 25, 3) := by decide +kernel
theorem dX3_countState_12 : decode cX3_countState 12 = .ok (.aload_n 0, 1) := by decide +kernel
theorem dX3_countState_13 : decode cX3_countState 13 = .ok (.getfield 27, 3) := by decide +kernel
theorem dX3_countState_16 : decode cX3_countState 16 = .ok (.iload_n 3, 1) := by decide +kernel
theorem dX3_countState_17 : decode cX3_countState 17 = .ok (.aaload, 1) := by decide +kernel
theorem dX3_countState_18 : decode cX3_countState 18 = .ok (.getfield 117, 3) := by decide +kernel
theorem dX3_countState_21 : decode cX3_countState 21 = .ok (.iload_n 1, 1) := by decide +kernel
theorem dX3_countState_22 : decode cX3_countState 22 = .ok (.if_icmp .ne 6, 3) := by decide +kernel
theorem dX3_countState_25 : decode cX3_countState 25 = .ok (.iinc 2 1, 3) := by decide +kernel
theorem dX3_countState_28 : decode cX3_countState 28 = .ok (.iinc 3 1, 3) := by decide +kernel
theorem dX3_countState_31 : decode cX3_countState 31 = .ok (.goto (-27), 3) := by decide +kernel
theorem dX3_countState_34 : decode cX3_countState 34 = .ok (.iload_n 2, 1) := by decide +kernel
theorem dX3_countState_35 : decode cX3_countState 35 = .ok (.ireturn, 1) := by decide +kernel
set_option maxRecDepth 20000 in
theorem ggX3_admit_X0_init : GoodIn wsX3_admit wsX0_init := goodIn_r _ [10, 11, 12, 13, 14, 15, 16, 17, 18, 19, 20, 21, 22, 23, 24, 25, 26, 27, 28, 29, 48, 49, 50, 51, 52, 53, 54, 55, 56, 57, 58, 59, 60, 61, 62, 63, 64, 65, 66, 67] (by decide +kernel) (by decide +kernel)
set_option maxRecDepth 20000 in
theorem gX3_admit_X0_init : GoodIn wsX3_admit (wsX0_init) := ggX3_admit_X0_init
theorem dX3_admit_0 : decode cX3_admit 0 = .ok (.aload_n 0, 1) := by decide +kernel
theorem dX3_admit_1 : decode cX3_admit 1 = .ok (.getfield 102, 3) := by decide +kernel
theorem dX3_admit_4 : decode cX3_admit 4 = .ok (.bipush 80, 2) := by decide +kernel
theorem dX3_admit_6 : decode cX3_admit 6 = .ok (.if_icmp .lt 5, 3) := by decide +kernel
theorem dX3_admit_9 : decode cX3_admit 9 = .ok (.iconst (-1), 1) := by decide +kernel
theorem dX3_admit_10 : decode cX3_admit 10 = .ok (.ireturn, 1) := by decide +kernel
theorem dX3_admit_11 : decode cX3_admit 11 = .ok (.aload_n 0, 1) := by decide +kernel
theorem dX3_admit_12 : decode cX3_admit 12 = .ok (.getfield 102, 3) := by decide +kernel
theorem dX3_admit_15 : decode cX3_admit 15 = .ok (.istore 5, 2) := by decide +kernel
theorem dX3_admit_17 : decode cX3_admit 17 = .ok (.aload_n 0, 1) := by decide +kernel
theorem dX3_admit_18 : decode cX3_admit 18 = .ok (.getfield 27, 3) := by decide +kernel
theorem dX3_admit_21 : decode cX3_admit 21 = .ok (.iload 5, 2) := by decide +kernel
theorem dX3_admit_23 : decode cX3_admit 23 = .ok (.new 25, 3) := by decide +kernel
theorem dX3_admit_26 : decode cX3_admit 26 = .ok (.dup, 1) := by decide +kernel
theorem dX3_admit_27 : decode cX3_admit 27 = .ok (.iload_n 1, 1) := by decide +kernel
theorem dX3_admit_28 : decode cX3_admit 28 = .ok (.iload_n 2, 1) := by decide +kernel
theorem dX3_admit_29 : decode cX3_admit 29 = .ok (.iload_n 3, 1) := by decide +kernel
theorem dX3_admit_30 : decode cX3_admit 30 = .ok (.iload 4, 2) := by decide +kernel
theorem dX3_admit_32 : decode cX3_admit 32 = .ok (.invokespecial 176, 3) := by decide +kernel
theorem dX3_admit_35 : decode cX3_admit 35 = .ok (.aastore, 1) := by decide +kernel
theorem dX3_admit_36 : decode cX3_admit 36 = .ok (.iload 5, 2) := by decide +kernel
theorem dX3_admit_38 : decode cX3_admit 38 = .ok (.istore 6, 2) := by decide +kernel
theorem dX3_admit_40 : decode cX3_admit 40 = .ok (.iload 6, 2) := by decide +kernel
theorem dX3_admit_42 : decode cX3_admit 42 = .ok (.ifCond .le 46, 3) := by decide +kernel
theorem dX3_admit_45 : decode cX3_admit 45 = .ok (.aload_n 0, 1) := by decide +kernel
theorem dX3_admit_46 : decode cX3_admit 46 = .ok (.getfield 27, 3) := by decide +kernel
theorem dX3_admit_49 : decode cX3_admit 49 = .ok (.aload_n 0, 1) := by decide +kernel
theorem dX3_admit_50 : decode cX3_admit 50 = .ok (.getfield 31, 3) := by decide +kernel
theorem dX3_admit_53 : decode cX3_admit 53 = .ok (.iload 6, 2) := by decide +kernel
theorem dX3_admit_55 : decode cX3_admit 55 = .ok (.iconst 1, 1) := by decide +kernel
theorem dX3_admit_56 : decode cX3_admit 56 = .ok (.isub, 1) := by decide +kernel
theorem dX3_admit_57 : decode cX3_admit 57 = .ok (.iaload, 1) := by decide +kernel
theorem dX3_admit_58 : decode cX3_admit 58 = .ok (.aaload, 1) := by decide +kernel
theorem dX3_admit_59 : decode cX3_admit 59 = .ok (.getfield 126, 3) := by decide +kernel
theorem dX3_admit_62 : decode cX3_admit 62 = .ok (.iload_n 3, 1) := by decide +kernel
theorem dX3_admit_63 : decode cX3_admit 63 = .ok (.if_icmp .le 25, 3) := by decide +kernel
theorem dX3_admit_66 : decode cX3_admit 66 = .ok (.aload_n 0, 1) := by decide +kernel
theorem dX3_admit_67 : decode cX3_admit 67 = .ok (.getfield 31, 3) := by decide +kernel
theorem dX3_admit_70 : decode cX3_admit 70 = .ok (.iload 6, 2) := by decide +kernel
theorem dX3_admit_72 : decode cX3_admit 72 = .ok (.aload_n 0, 1) := by decide +kernel
theorem dX3_admit_73 : decode cX3_admit 73 = .ok (.getfield 31, 3) := by decide +kernel
theorem dX3_admit_76 : decode cX3_admit 76 = .ok (.iload 6, 2) := by decide +kernel
theorem dX3_admit_78 : decode cX3_admit 78 = .ok (.iconst 1, 1) := by decide +kernel
theorem dX3_admit_79 : decode cX3_admit 79 = .ok (.isub, 1) := by decide +kernel
theorem dX3_admit_80 : decode cX3_admit 80 = .ok (.iaload, 1) := by decide +kernel
theorem dX3_admit_81 : decode cX3_admit 81 = .ok (.iastore, 1) := by decide +kernel
theorem dX3_admit_82 : decode cX3_admit 82 = .ok (.iinc 6 (-1), 3) := by decide +kernel
theorem dX3_admit_85 : decode cX3_admit 85 = .ok (.goto (-45), 3) := by decide +kernel
theorem dX3_admit_88 : decode cX3_admit 88 = .ok (.aload_n 0, 1) := by decide +kernel
theorem dX3_admit_89 : decode cX3_admit 89 = .ok (.getfield 31, 3) := by decide +kernel
theorem dX3_admit_92 : decode cX3_admit 92 = .ok (.iload 6, 2) := by decide +kernel
theorem dX3_admit_94 : decode cX3_admit 94 = .ok (.iload 5, 2) := by decide +kernel
theorem dX3_admit_96 : decode cX3_admit 96 = .ok (.iastore, 1) := by decide +kernel
theorem dX3_admit_97 : decode cX3_admit 97 = .ok (.aload_n 0, 1) := by decide +kernel
theorem dX3_admit_98 : decode cX3_admit 98 = .ok (.dup, 1) := by decide +kernel
theorem dX3_admit_99 : decode cX3_admit 99 = .ok (.getfield 102, 3) := by decide +kernel
theorem dX3_admit_102 : decode cX3_admit 102 = .ok (.iconst 1, 1) := by decide +kernel
theorem dX3_admit_103 : decode cX3_admit 103 = .ok (.iadd, 1) := by decide +kernel
theorem dX3_admit_104 : decode cX3_admit 104 = .ok (.putfield 102, 3) := by decide +kernel
theorem dX3_admit_107 : decode cX3_admit 107 = .ok (.iload 5, 2) := by decide +kernel
theorem dX3_admit_109 : decode cX3_admit 109 = .ok (.ireturn, 1) := by decide +kernel
set_option maxRecDepth 20000 in
theorem ggX3_passTick_X3_stepBegun : GoodIn wsX3_passTick wsX3_stepBegun := goodIn_r _ [6, 7, 8, 9, 10, 11, 5, 12, 13, 14, 15, 16, 17, 18, 19, 20, 21, 22, 1, 23, 24, 25, 26, 27, 28, 29, 30, 31, 32, 33, 34, 35, 36, 37, 38, 39, 40, 41, 42, 43, 44, 45, 46, 47, 48, 49, 50, 51, 52, 53, 54, 55, 56, 57, 58, 59, 60, 61, 62, 63, 64, 65, 66, 67, 68, 69, 70, 71, 72, 73, 74, 75, 76, 77, 78, 79, 80, 81, 82, 83, 84, 85, 86, 87, 88, 89, 90, 91, 92, 93, 94, 95, 96, 97, 98, 99, 100, 101, 102, 103, 104, 105, 106, 107, 108, 109, 110, 111, 112, 113, 114, 115, 116, 117, 118, 119, 120, 121, 122, 123, 124, 125, 126, 127, 128, 129, 130, 131, 132, 133, 134, 135, 136, 137, 138, 139, 140, 141, 142, 143, 144, 145, 146, 147, 148, 149, 150, 151, 152, 153, 154, 155, 156, 157, 158, 159, 160, 161, 162, 163, 164, 165, 166, 167, 168, 169, 170, 171, 172, 173, 174, 175, 176, 177, 264, 265, 266, 267, 268, 269, 270, 271, 272, 273, 274, 275, 276, 277, 278, 279, 280, 281, 282, 283, 284, 285, 286, 287, 288, 289, 290, 291, 292, 293, 294, 295, 296, 297, 298, 299, 300, 301, 302, 303, 304] (by decide +kernel) (by decide +kernel)
set_option maxRecDepth 20000 in
theorem gX3_passTick_X3_stepBegun : GoodIn wsX3_passTick (wsV RX3 179 RX3 yX3_stepBegun wsX3_stepBegun) := goodIn_app (goodIn_of _ (by decide +kernel)) ggX3_passTick_X3_stepBegun
set_option maxRecDepth 20000 in
theorem ggX3_passTick_X3_breakRings : GoodIn wsX3_passTick wsX3_breakRings := goodIn_r _ [181, 7, 8, 182, 183, 184, 185, 5, 186, 14, 16, 23, 1, 21, 22, 187, 188, 189, 190, 191, 192, 110, 111, 112, 193, 194, 195, 196, 100, 197, 24, 25, 26, 27, 28, 29, 30, 51, 52, 53, 36, 37, 38, 54, 55, 56, 57, 39, 40, 41, 198, 199, 200, 201, 202, 203, 204, 205, 206, 207, 208, 209, 210, 211, 114, 115, 116, 212, 213, 214, 215, 216, 217, 218, 219, 220, 221, 222, 223, 224, 63, 225, 226, 227, 228, 229, 230, 231, 135, 136, 137, 138, 139, 140, 127, 68, 78, 121, 141, 142, 143, 90, 91, 92, 93, 94, 95, 96, 97, 98, 99, 101, 102, 103, 104, 105, 106, 107, 108, 109, 113, 232, 233, 234, 235, 264, 265, 266, 267, 268, 269, 270, 271, 272, 273, 274, 275, 276, 277, 278, 279, 280, 281, 282, 283, 284, 285, 286, 287, 288, 289, 290, 291, 292, 293, 294, 295, 296, 297, 298, 299, 300, 301, 305, 306, 307, 302, 303, 304] (by decide +kernel) (by decide +kernel)
set_option maxRecDepth 20000 in
theorem gX3_passTick_X3_breakRings : GoodIn wsX3_passTick (wsV RX3 182 RX3 yX3_breakRings wsX3_breakRings) := goodIn_app (goodIn_of _ (by decide +kernel)) ggX3_passTick_X3_breakRings
set_option maxRecDepth 20000 in
theorem ggX3_passTick_X3_beginWaiting : GoodIn wsX3_passTick wsX3_beginWaiting := goodIn_r _ [239, 13, 14, 15, 240, 241, 16, 242, 153, 243, 244, 1, 63, 245, 246, 247, 5, 248, 249, 142, 100, 143, 250, 251, 252, 27, 253, 174, 171, 254, 114, 115, 116, 30, 138, 85, 29, 173, 90, 91, 92, 93, 94, 95, 96, 97, 98, 99, 101, 102, 103, 104, 105, 106, 107, 108, 109, 110, 111, 112, 113, 264, 265, 266, 267, 268, 269, 270, 271, 272, 273, 274, 275, 276, 277, 278, 279, 280, 281, 282, 283, 284, 285, 286, 287, 288, 289, 290, 291, 292, 293, 294, 295, 296, 297, 298, 299, 300, 301, 302, 303, 304] (by decide +kernel) (by decide +kernel)
set_option maxRecDepth 20000 in
theorem gX3_passTick_X3_beginWaiting : GoodIn wsX3_passTick (wsV RX3 185 RX3 yX3_beginWaiting wsX3_beginWaiting) := goodIn_app (goodIn_of _ (by decide +kernel)) ggX3_passTick_X3_beginWaiting
set_option maxRecDepth 20000 in
theorem ggX3_passTick_X3_answerDone : GoodIn wsX3_passTick wsX3_answerDone := goodIn_r _ [258, 63, 149, 14, 150, 16, 259, 260, 261, 93, 262, 95, 263, 264, 265, 266, 267, 268, 269, 270, 271, 272, 273, 274, 275, 276, 277, 278, 279, 280, 281, 282, 283, 284, 285, 286, 287, 288, 289, 290, 291, 292, 293, 294, 295, 296, 297, 298, 299, 300, 301, 302, 303, 304] (by decide +kernel) (by decide +kernel)
set_option maxRecDepth 20000 in
theorem gX3_passTick_X3_answerDone : GoodIn wsX3_passTick (wsV RX3 188 RX3 yX3_answerDone wsX3_answerDone) := goodIn_app (goodIn_of _ (by decide +kernel)) ggX3_passTick_X3_answerDone
theorem dX3_passTick_0 : decode cX3_passTick 0 = .ok (.aload_n 0, 1) := by decide +kernel
theorem dX3_passTick_1 : decode cX3_passTick 1 = .ok (.invokevirtual 179, 3) := by decide +kernel
theorem dX3_passTick_4 : decode cX3_passTick 4 = .ok (.aload_n 0, 1) := by decide +kernel
theorem dX3_passTick_5 : decode cX3_passTick 5 = .ok (.invokevirtual 182, 3) := by decide +kernel
theorem dX3_passTick_8 : decode cX3_passTick 8 = .ok (.aload_n 0, 1) := by decide +kernel
theorem dX3_passTick_9 : decode cX3_passTick 9 = .ok (.invokevirtual 185, 3) := by decide +kernel
theorem dX3_passTick_12 : decode cX3_passTick 12 = .ok (.aload_n 0, 1) := by decide +kernel
theorem dX3_passTick_13 : decode cX3_passTick 13 = .ok (.getfield 79, 3) := by decide +kernel
theorem dX3_passTick_16 : decode cX3_passTick 16 = .ok (.iconst 4, 1) := by decide +kernel
theorem dX3_passTick_17 : decode cX3_passTick 17 = .ok (.irem, 1) := by decide +kernel
theorem dX3_passTick_18 : decode cX3_passTick 18 = .ok (.iconst 3, 1) := by decide +kernel
theorem dX3_passTick_19 : decode cX3_passTick 19 = .ok (.if_icmp .ne 7, 3) := by decide +kernel
theorem dX3_passTick_22 : decode cX3_passTick 22 = .ok (.aload_n 0, 1) := by decide +kernel
theorem dX3_passTick_23 : decode cX3_passTick 23 = .ok (.invokevirtual 188, 3) := by decide +kernel
theorem dX3_passTick_26 : decode cX3_passTick 26 = .ok (.aload_n 0, 1) := by decide +kernel
theorem dX3_passTick_27 : decode cX3_passTick 27 = .ok (.dup, 1) := by decide +kernel
theorem dX3_passTick_28 : decode cX3_passTick 28 = .ok (.getfield 79, 3) := by decide +kernel
theorem dX3_passTick_31 : decode cX3_passTick 31 = .ok (.iconst 1, 1) := by decide +kernel
theorem dX3_passTick_32 : decode cX3_passTick 32 = .ok (.iadd, 1) := by decide +kernel
theorem dX3_passTick_33 : decode cX3_passTick 33 = .ok (.putfield 79, 3) := by decide +kernel
theorem dX3_passTick_36 : decode cX3_passTick 36 = .ok (.return_, 1) := by decide +kernel
set_option maxRecDepth 20000 in
theorem ggX3_stepBegun_X3_gatherRunning : GoodIn wsX3_stepBegun wsX3_gatherRunning := goodIn_r _ [7, 1, 8, 9, 10, 11, 2, 174, 175, 176, 177, 178, 179, 180, 181, 182, 183, 184, 185, 186, 187, 188, 189, 190, 191, 192, 193, 194, 195, 196, 197, 198, 199, 200, 201, 202, 203, 204, 205, 206, 207, 208, 209, 210, 211] (by decide +kernel) (by decide +kernel)
set_option maxRecDepth 20000 in
theorem gX3_stepBegun_X3_gatherRunning : GoodIn wsX3_stepBegun (wsV RX3 191 RX3 yX3_gatherRunning wsX3_gatherRunning) := goodIn_app (goodIn_of _ (by decide +kernel)) ggX3_stepBegun_X3_gatherRunning
set_option maxRecDepth 20000 in
theorem ggX3_stepBegun_X3_takeStep : GoodIn wsX3_stepBegun wsX3_takeStep := goodIn_r _ [15, 9, 16, 17, 18, 19, 20, 21, 22, 23, 24, 25, 26, 27, 28, 29, 6, 30, 31, 1, 2, 32, 33, 34, 35, 36, 37, 38, 39, 40, 41, 42, 43, 44, 45, 8, 11, 46, 47, 48, 49, 50, 51, 52, 53, 54, 55, 56, 57, 58, 59, 60, 61, 62, 63, 64, 65, 66, 67, 68, 69, 70, 71, 72, 73, 74, 75, 76, 77, 78, 79, 80, 81, 82, 83, 84, 85, 86, 87, 88, 89, 90, 91, 92, 93, 94, 95, 96, 97, 98, 99, 100, 101, 102, 103, 104, 105, 106, 107, 108, 109, 110, 111, 112, 113, 114, 115, 116, 117, 118, 119, 120, 121, 122, 123, 124, 125, 126, 127, 128, 129, 130, 131, 132, 133, 134, 135, 136, 137, 138, 139, 140, 141, 142, 143, 144, 145, 146, 147, 148, 149, 150, 151, 152, 153, 154, 155, 156, 157, 158, 159, 160, 10, 161, 162, 163, 164, 165, 166, 167, 168, 169, 170, 171, 172, 173, 174, 175, 176, 177, 178, 179, 180, 181, 182, 183, 184, 185, 186, 187, 188, 189, 190, 191, 192, 193, 194, 195, 196, 197, 198, 199, 200, 201, 202, 203, 204, 205, 206, 207, 208, 209, 210, 211, 212, 213, 214] (by decide +kernel) (by decide +kernel)
set_option maxRecDepth 20000 in
theorem gX3_stepBegun_X3_takeStep : GoodIn wsX3_stepBegun (wsV RX3 197 RX3 yX3_takeStep wsX3_takeStep) := goodIn_app (goodIn_of _ (by decide +kernel)) ggX3_stepBegun_X3_takeStep
theorem dX3_stepBegun_0 : decode cX3_stepBegun 0 = .ok (.aload_n 0, 1) := by decide +kernel
theorem dX3_stepBegun_1 : decode cX3_stepBegun 1 = .ok (.invokevirtual 191, 3) := by decide +kernel
theorem dX3_stepBegun_4 : decode cX3_stepBegun 4 = .ok (.iconst 0, 1) := by decide +kernel
theorem dX3_stepBegun_5 : decode cX3_stepBegun 5 = .ok (.istore_n 1, 1) := by decide +kernel
theorem dX3_stepBegun_6 : decode cX3_stepBegun 6 = .ok (.iload_n 1, 1) := by decide +kernel
theorem dX3_stepBegun_7 : decode cX3_stepBegun 7 = .ok (.aload_n 0, 1) := by decide +kernel
theorem dX3_stepBegun_8 : decode cX3_stepBegun 8 = .ok (.getfield 194, 3) := by decide +kernel
theorem dX3_stepBegun_11 : decode cX3_stepBegun 11 = .ok (.if_icmp .ge 19, 3) := by decide +kernel
theorem dX3_stepBegun_14 : decode cX3_stepBegun 14 = .ok (.aload_n 0, 1) := by decide +kernel
theorem dX3_stepBegun_15 : decode cX3_stepBegun 15 = .ok (.aload_n 0, 1) := by decide +kernel
theorem dX3_stepBegun_16 : decode cX3_stepBegun 16 = .ok (.getfield 37, 3) := by decide +kernel
theorem dX3_stepBegun_19 : decode cX3_stepBegun 19 = .ok (.iload_n 1, 1) := by decide +kernel
theorem dX3_stepBegun_20 : decode cX3_stepBegun 20 = .ok (.iaload, 1) := by decide +kernel
theorem dX3_stepBegun_21 : decode cX3_stepBegun 21 = .ok (.invokevirtual 197, 3) := by decide +kernel
theorem dX3_stepBegun_24 : decode cX3_stepBegun 24 = .ok (.iinc 1 1, 3) := by decide +kernel
theorem dX3_stepBegun_27 : decode cX3_stepBegun 27 = .ok (.goto (-21), 3) := by decide +kernel
theorem dX3_stepBegun_30 : decode cX3_stepBegun 30 = .ok (.return_, 1) := by decide +kernel
theorem dX3_gatherRunning_0 : decode cX3_gatherRunning 0 = .ok (.aload_n 0, 1) := by decide +kernel
theorem dX3_gatherRunning_1 : decode cX3_gatherRunning 1 = .ok (.iconst 0, 1) := by decide +kernel
theorem dX3_gatherRunning_2 : decode cX3_gatherRunning 2 = .ok (.putfield 194, 3) := by decide +kernel
theorem dX3_gatherRunning_5 : decode cX3_gatherRunning 5 = .ok (.iconst 0, 1) := by decide +kernel
theorem dX3_gatherRunning_6 : decode cX3_gatherRunning 6 = .ok (.istore_n 1, 1) := by decide +kernel
theorem dX3_gatherRunning_7 : decode cX3_gatherRunning 7 = .ok (.iload_n 1, 1) := by decide +kernel
theorem dX3_gatherRunning_8 : decode cX3_gatherRunning 8 = .ok (.aload_n 0, 1) := by decide +kernel
theorem dX3_gatherRunning_9 : decode cX3_gatherRunning 9 = .ok (.getfield 102, 3) := by decide +kernel
theorem dX3_gatherRunning_12 : decode cX3_gatherRunning 12 = .ok (.if_icmp .ge 61, 3) := by decide +kernel
theorem dX3_gatherRunning_15 : decode cX3_gatherRunning 15 = .ok (.aload_n 0, 1) := by decide +kernel
theorem dX3_gatherRunning_16 : decode cX3_gatherRunning 16 = .ok (.getfield 194, 3) := by decide +kernel
theorem dX3_gatherRunning_19 : decode cX3_gatherRunning 19 = .ok (.bipush 36, 2) := by decide +kernel
theorem dX3_gatherRunning_21 : decode cX3_gatherRunning 21 = .ok (.if_icmp .ge 52, 3) := by decide +kernel
theorem dX3_gatherRunning_24 : decode cX3_gatherRunning 24 = .ok (.aload_n 0, 1) := by decide +kernel
theorem dX3_gatherRunning_25 : decode cX3_gatherRunning 25 = .ok (.getfield 27, 3) := by decide +kernel
theorem dX3_gatherRunning_28 : decode cX3_gatherRunning 28 = .ok (.aload_n 0, 1) := by decide +kernel
theorem dX3_gatherRunning_29 : decode cX3_gatherRunning 29 = .ok (.getfield 31, 3) := by decide +kernel
theorem dX3_gatherRunning_32 : decode cX3_gatherRunning 32 = .ok (.iload_n 1, 1) := by decide +kernel
theorem dX3_gatherRunning_33 : decode cX3_gatherRunning 33 = .ok (.iaload, 1) := by decide +kernel
theorem dX3_gatherRunning_34 : decode cX3_gatherRunning 34 = .ok (.aaload, 1) := by decide +kernel
theorem dX3_gatherRunning_35 : decode cX3_gatherRunning 35 = .ok (.getfield 117, 3) := by decide +kernel
theorem dX3_gatherRunning_38 : decode cX3_gatherRunning 38 = .ok (.iconst 1, 1) := by decide +kernel
theorem dX3_gatherRunning_39 : decode cX3_gatherRunning 39 = .ok (.if_icmp .ne 28, 3) := by decide +kernel
theorem dX3_gatherRunning_42 : decode cX3_gatherRunning 42 = .ok (.aload_n 0, 1) := by decide +kernel
theorem dX3_gatherRunning_43 : decode cX3_gatherRunning 43 = .ok (.getfield 37, 3) := by decide +kernel
theorem dX3_gatherRunning_46 : decode cX3_gatherRunning 46 = .ok (.aload_n 0, 1) := by decide +kernel
theorem dX3_gatherRunning_47 : decode cX3_gatherRunning 47 = .ok (.getfield 194, 3) := by decide +kernel
theorem dX3_gatherRunning_50 : decode cX3_gatherRunning 50 = .ok (.aload_n 0, 1) := by decide +kernel
theorem dX3_gatherRunning_51 : decode cX3_gatherRunning 51 = .ok (.getfield 31, 3) := by decide +kernel
theorem dX3_gatherRunning_54 : decode cX3_gatherRunning 54 = .ok (.iload_n 1, 1) := by decide +kernel
theorem dX3_gatherRunning_55 : decode cX3_gatherRunning 55 = .ok (.iaload, 1) := by decide +kernel
theorem dX3_gatherRunning_56 : decode cX3_gatherRunning 56 = .ok (.iastore, 1) := by decide +kernel
theorem dX3_gatherRunning_57 : decode cX3_gatherRunning 57 = .ok (.aload_n 0, 1) := by decide +kernel
theorem dX3_gatherRunning_58 : decode cX3_gatherRunning 58 = .ok (.dup, 1) := by decide +kernel
theorem dX3_gatherRunning_59 : decode cX3_gatherRunning 59 = .ok (.getfield 194, 3) := by decide +kernel
theorem dX3_gatherRunning_62 : decode cX3_gatherRunning 62 = .ok (.iconst 1, 1) := by decide +kernel
theorem dX3_gatherRunning_63 : decode cX3_gatherRunning 63 = .ok (.iadd, 1) := by decide +kernel
theorem dX3_gatherRunning_64 : decode cX3_gatherRunning 64 = .ok (.putfield 194, 3) := by decide +kernel
theorem dX3_gatherRunning_67 : decode cX3_gatherRunning 67 = .ok (.iinc 1 1, 3) := by decide +kernel
theorem dX3_gatherRunning_70 : decode cX3_gatherRunning 70 = .ok (.goto (-63), 3) := by decide +kernel
theorem dX3_gatherRunning_73 : decode cX3_gatherRunning 73 = .ok (.return_, 1) := by decide +kernel
set_option maxRecDepth 20000 in
theorem ggX3_takeStep_X0_hasStep : GoodIn wsX3_takeStep wsX0_hasStep := goodIn_r _ [10, 11, 12, 184, 185, 186, 187, 188, 189, 190, 191, 192, 193, 194, 195, 196, 197, 198, 199, 200, 201, 202, 203] (by decide +kernel) (by decide +kernel)
set_option maxRecDepth 20000 in
theorem gX3_takeStep_X0_hasStep : GoodIn wsX3_takeStep (wsV RX3 200 RX0 yX0_hasStep wsX0_hasStep) := goodIn_app (goodIn_of _ (by decide +kernel)) ggX3_takeStep_X0_hasStep
set_option maxRecDepth 20000 in
theorem ggX3_takeStep_X3_canBe : GoodIn wsX3_takeStep wsX3_canBe := goodIn_r _ [17, 18, 19, 20, 1, 21, 22, 16, 23, 24, 25, 26, 27, 28, 29, 30, 31, 32, 33, 34, 35, 36, 37, 38, 39, 40, 41, 42, 43, 44, 166, 167, 168, 169, 170, 171, 172, 173, 174, 175, 176, 177, 178, 179, 180, 181, 182, 183, 184, 185, 186, 187, 188, 189, 190, 191, 192, 193, 194, 195, 196, 197, 198, 199, 200, 201, 202, 203] (by decide +kernel) (by decide +kernel)
set_option maxRecDepth 20000 in
theorem gX3_takeStep_X3_canBe : GoodIn wsX3_takeStep (wsV RX3 207 RX3 yX3_canBe wsX3_canBe) := goodIn_app (goodIn_of _ (by decide +kernel)) ggX3_takeStep_X3_canBe
set_option maxRecDepth 20000 in
theorem ggX3_takeStep_X3_perform : GoodIn wsX3_takeStep wsX3_perform := goodIn_r _ [48, 1, 49, 50, 4, 3, 24, 25, 16, 26, 27, 28, 29, 21, 22, 23, 51, 52, 53, 9, 54, 55, 56, 57, 58, 59, 34, 60, 61, 62, 63, 64, 65, 66, 67, 68, 69, 70, 71, 72, 73, 74, 75, 76, 77, 78, 79, 80, 81, 82, 83, 84, 85, 86, 87, 88, 89, 90, 91, 92, 93, 94, 95, 96, 97, 98, 99, 100, 101, 102, 103, 104, 105, 106, 107, 108, 109, 110, 111, 112, 113, 114, 115, 166, 167, 168, 169, 170, 171, 172, 173, 174, 175, 176, 177, 178, 179, 180, 181, 182, 183, 184, 185, 186, 187, 188, 189, 190, 191, 192, 193, 194, 195, 196, 197, 198, 199, 200, 201, 202, 203, 204, 205, 206] (by decide +kernel) (by decide +kernel)
set_option maxRecDepth 20000 in
theorem gX3_takeStep_X3_perform : GoodIn wsX3_takeStep (wsV RX3 210 RX3 yX3_perform wsX3_perform) := goodIn_app (goodIn_of _ (by decide +kernel)) ggX3_takeStep_X3_perform
set_option maxRecDepth 20000 in
theorem ggX3_takeStep_X3_stopAct : GoodIn wsX3_takeStep wsX3_stopAct := goodIn_r _ [119, 1, 50, 4, 120, 121, 122, 123, 9, 124, 125, 126, 127, 114, 55, 65, 108, 128, 129, 87, 130, 77, 78, 79, 80, 81, 82, 83, 84, 85, 86, 88, 89, 90, 91, 92, 93, 94, 95, 96, 97, 98, 99, 100, 101, 102, 103, 166, 167, 168, 169, 170, 171, 172, 173, 174, 175, 176, 177, 178, 179, 180, 181, 182, 183, 184, 185, 186, 187, 188, 189, 190, 191, 192, 193, 194, 195, 196, 197, 198, 199, 200, 201, 202, 203, 204, 205, 206] (by decide +kernel) (by decide +kernel)
set_option maxRecDepth 20000 in
theorem gX3_takeStep_X3_stopAct : GoodIn wsX3_takeStep (wsV RX3 213 RX3 yX3_stopAct wsX3_stopAct) := goodIn_app (goodIn_of _ (by decide +kernel)) ggX3_takeStep_X3_stopAct
set_option maxRecDepth 20000 in
theorem ggX3_takeStep_X3_finishAct : GoodIn wsX3_takeStep wsX3_finishAct := goodIn_r _ [134, 1, 36, 4, 135, 50, 120, 136, 137, 138, 139, 140, 141, 77, 78, 79, 80, 81, 82, 83, 84, 85, 86, 87, 88, 89, 90, 91, 92, 93, 94, 95, 96, 97, 98, 99, 100, 101, 102, 103, 142, 143, 144, 16, 145, 34, 60, 61, 62, 9, 63, 55, 64, 65, 146, 147, 148, 149, 35, 150, 151, 152, 153, 154, 155, 156, 157, 158, 159, 108, 115, 125, 160, 161, 126, 127, 162, 163, 164, 165, 166, 167, 168, 169, 170, 171, 172, 173, 174, 175, 176, 177, 178, 179, 180, 181, 182, 183, 184, 185, 186, 187, 188, 189, 190, 191, 192, 193, 194, 195, 196, 197, 198, 199, 200, 201, 202, 203, 204, 205, 206] (by decide +kernel) (by decide +kernel)
set_option maxRecDepth 20000 in
theorem gX3_takeStep_X3_finishAct : GoodIn wsX3_takeStep (wsV RX3 216 RX3 yX3_finishAct wsX3_finishAct) := goodIn_app (goodIn_of _ (by decide +kernel)) ggX3_takeStep_X3_finishAct
theorem dX3_takeStep_0 : decode cX3_takeStep 0 = .ok (.aload_n 0, 1) := by decide +kernel
theorem dX3_takeStep_1 : decode cX3_takeStep 1 = .ok (.getfield 27, 3) := by decide +kernel
theorem dX3_takeStep_4 : decode cX3_takeStep 4 = .ok (.iload_n 1, 1) := by decide +kernel
theorem dX3_takeStep_5 : decode cX3_takeStep 5 = .ok (.aaload, 1) := by decide +kernel
theorem dX3_takeStep_6 : decode cX3_takeStep 6 = .ok (.astore_n 2, 1) := by decide +kernel
theorem dX3_takeStep_7 : decode cX3_takeStep 7 = .ok (.aload_n 2, 1) := by decide +kernel
theorem dX3_takeStep_8 : decode cX3_takeStep 8 = .ok (.invokevirtual 200, 3) := by decide +kernel
theorem dX3_takeStep_11 : decode cX3_takeStep 11 = .ok (.ifCond .eq 56, 3) := by decide +kernel
theorem dX3_takeStep_14 : decode cX3_takeStep 14 = .ok (.aload_n 2, 1) := by decide +kernel
theorem dX3_takeStep_15 : decode cX3_takeStep 15 = .ok (.getfield 204, 3) := by decide +kernel
theorem dX3_takeStep_18 : decode cX3_takeStep 18 = .ok (.aload_n 2, 1) := by decide +kernel
theorem dX3_takeStep_19 : decode cX3_takeStep 19 = .ok (.getfield 129, 3) := by decide +kernel
theorem dX3_takeStep_22 : decode cX3_takeStep 22 = .ok (.iaload, 1) := by decide +kernel
theorem dX3_takeStep_23 : decode cX3_takeStep 23 = .ok (.istore_n 3, 1) := by decide +kernel
theorem dX3_takeStep_24 : decode cX3_takeStep 24 = .ok (.aload_n 0, 1) := by decide +kernel
theorem dX3_takeStep_25 : decode cX3_takeStep 25 = .ok (.iload_n 1, 1) := by decide +kernel
theorem dX3_takeStep_26 : decode cX3_takeStep 26 = .ok (.iload_n 3, 1) := by decide +kernel
theorem dX3_takeStep_27 : decode cX3_takeStep 27 = .ok (.invokevirtual 207, 3) := by decide +kernel
theorem dX3_takeStep_30 : decode cX3_takeStep 30 = .ok (.ifCond .ne 12, 3) := by decide +kernel
theorem dX3_takeStep_33 : decode cX3_takeStep 33 = .ok (.aload_n 2, 1) := by decide +kernel
theorem dX3_takeStep_34 : decode cX3_takeStep 34 = .ok (.aload_n 0, 1) := by decide +kernel
theorem dX3_takeStep_35 : decode cX3_takeStep 35 = .ok (.getfield 79, 3) := by decide +kernel
theorem dX3_takeStep_38 : decode cX3_takeStep 38 = .ok (.putfield 132, 3) := by decide +kernel
theorem dX3_takeStep_41 : decode cX3_takeStep 41 = .ok (.return_, 1) := by decide +kernel
theorem dX3_takeStep_42 : decode cX3_takeStep 42 = .ok (.aload_n 2, 1) := by decide +kernel
theorem dX3_takeStep_43 : decode cX3_takeStep 43 = .ok (.dup, 1) := by decide +kernel
theorem dX3_takeStep_44 : decode cX3_takeStep 44 = .ok (.getfield 129, 3) := by decide +kernel
theorem dX3_takeStep_47 : decode cX3_takeStep 47 = .ok (.iconst 1, 1) := by decide +kernel
theorem dX3_takeStep_48 : decode cX3_takeStep 48 = .ok (.iadd, 1) := by decide +kernel
theorem dX3_takeStep_49 : decode cX3_takeStep 49 = .ok (.putfield 129, 3) := by decide +kernel
theorem dX3_takeStep_52 : decode cX3_takeStep 52 = .ok (.aload_n 0, 1) := by decide +kernel
theorem dX3_takeStep_53 : decode cX3_takeStep 53 = .ok (.iload_n 1, 1) := by decide +kernel
theorem dX3_takeStep_54 : decode cX3_takeStep 54 = .ok (.iload_n 3, 1) := by decide +kernel
theorem dX3_takeStep_55 : decode cX3_takeStep 55 = .ok (.invokevirtual 210, 3) := by decide +kernel
theorem dX3_takeStep_58 : decode cX3_takeStep 58 = .ok (.ifCond .ne 9, 3) := by decide +kernel
theorem dX3_takeStep_61 : decode cX3_takeStep 61 = .ok (.aload_n 0, 1) := by decide +kernel
theorem dX3_takeStep_62 : decode cX3_takeStep 62 = .ok (.iload_n 1, 1) := by decide +kernel
theorem dX3_takeStep_63 : decode cX3_takeStep 63 = .ok (.invokevirtual 213, 3) := by decide +kernel
theorem dX3_takeStep_66 : decode cX3_takeStep 66 = .ok (.return_, 1) := by decide +kernel
theorem dX3_takeStep_67 : decode cX3_takeStep 67 = .ok (.aload_n 2, 1) := by decide +kernel
theorem dX3_takeStep_68 : decode cX3_takeStep 68 = .ok (.invokevirtual 200, 3) := by decide +kernel
theorem dX3_takeStep_71 : decode cX3_takeStep 71 = .ok (.ifCond .ne 8, 3) := by decide +kernel
theorem dX3_takeStep_74 : decode cX3_takeStep 74 = .ok (.aload_n 0, 1) := by decide +kernel
theorem dX3_takeStep_75 : decode cX3_takeStep 75 = .ok (.iload_n 1, 1) := by decide +kernel
theorem dX3_takeStep_76 : decode cX3_takeStep 76 = .ok (.invokevirtual 216, 3) := by decide +kernel
theorem dX3_takeStep_79 : decode cX3_takeStep 79 = .ok (.return_, 1) := by decide +kernel
set_option maxRecDepth 20000 in
theorem ggX3_canBe_X3_opOf : GoodIn wsX3_canBe wsX3_opOf := goodIn_r _ [8] (by decide +kernel) (by decide +kernel)
set_option maxRecDepth 20000 in
theorem gX3_canBe_X3_opOf : GoodIn wsX3_canBe (va_wsS RX3 170 yX3_opOf wsX3_opOf) := goodIn_app (goodIn_of _ (by decide +kernel)) ggX3_canBe_X3_opOf
set_option maxRecDepth 20000 in
theorem ggX3_canBe_X3_aOf : GoodIn wsX3_canBe wsX3_aOf := goodIn_r _ [11] (by decide +kernel) (by decide +kernel)
set_option maxRecDepth 20000 in
theorem gX3_canBe_X3_aOf : GoodIn wsX3_canBe (va_wsS RX3 173 yX3_aOf wsX3_aOf) := goodIn_app (goodIn_of _ (by decide +kernel)) ggX3_canBe_X3_aOf
set_option maxRecDepth 20000 in
theorem ggX3_canBe_X3_bOf : GoodIn wsX3_canBe wsX3_bOf := goodIn_r _ [14] (by decide +kernel) (by decide +kernel)
set_option maxRecDepth 20000 in
theorem gX3_canBe_X3_bOf : GoodIn wsX3_canBe (va_wsS RX3 219 yX3_bOf wsX3_bOf) := goodIn_app (goodIn_of _ (by decide +kernel)) ggX3_canBe_X3_bOf
set_option maxRecDepth 20000 in
theorem ggX3_canBe_X3_leastToCome : GoodIn wsX3_canBe wsX3_leastToCome := goodIn_r _ [18, 19, 20, 4, 21, 22, 30, 31, 32, 33, 34, 35, 36, 37, 38, 39, 40, 41, 42, 43, 44, 45, 46, 47, 48, 49, 50, 51, 52, 53, 54, 55, 56, 57, 58, 59, 60, 61, 62, 63, 64, 65, 66, 67] (by decide +kernel) (by decide +kernel)
set_option maxRecDepth 20000 in
theorem gX3_canBe_X3_leastToCome : GoodIn wsX3_canBe (wsV RX3 75 RX3 yX3_leastToCome wsX3_leastToCome) := goodIn_app (goodIn_of _ (by decide +kernel)) ggX3_canBe_X3_leastToCome
set_option maxRecDepth 20000 in
theorem ggX3_canBe_X3_usesCell : GoodIn wsX3_canBe wsX3_usesCell := goodIn_r _ [25, 5, 6, 7, 8] (by decide +kernel) (by decide +kernel)
set_option maxRecDepth 20000 in
theorem gX3_canBe_X3_usesCell : GoodIn wsX3_canBe (va_wsS RX3 222 yX3_usesCell wsX3_usesCell) := goodIn_app (goodIn_of _ (by decide +kernel)) ggX3_canBe_X3_usesCell
set_option maxRecDepth 20000 in
theorem ggX3_canBe_X3_blocks : GoodIn wsX3_canBe wsX3_blocks := goodIn_r _ [28, 21, 29, 9, 10, 7, 11, 5, 6, 8, 48, 49, 50, 51, 52, 53, 54, 55, 56, 57, 58, 59, 60, 61, 62, 63, 64, 65, 66, 67] (by decide +kernel) (by decide +kernel)
set_option maxRecDepth 20000 in
theorem gX3_canBe_X3_blocks : GoodIn wsX3_canBe (va_wsS RX3 225 yX3_blocks wsX3_blocks) := goodIn_app (goodIn_of _ (by decide +kernel)) ggX3_canBe_X3_blocks
theorem dX3_canBe_0 : decode cX3_canBe 0 = .ok (.iload_n 2, 1) := by decide +kernel
theorem dX3_canBe_1 : decode cX3_canBe 1 = .ok (.invokestatic 170, 3) := by decide +kernel
theorem dX3_canBe_4 : decode cX3_canBe 4 = .ok (.bipush 6, 2) := by decide +kernel
theorem dX3_canBe_6 : decode cX3_canBe 6 = .ok (.if_icmp .ne 45, 3) := by decide +kernel
theorem dX3_canBe_9 : decode cX3_canBe 9 = .ok (.iload_n 2, 1) := by decide +kernel
theorem dX3_canBe_10 : decode cX3_canBe 10 = .ok (.invokestatic 173, 3) := by decide +kernel
theorem dX3_canBe_13 : decode cX3_canBe 13 = .ok (.istore_n 3, 1) := by decide +kernel
theorem dX3_canBe_14 : decode cX3_canBe 14 = .ok (.iload_n 2, 1) := by decide +kernel
theorem dX3_canBe_15 : decode cX3_canBe 15 = .ok (.invokestatic 219, 3) := by decide +kernel
theorem dX3_canBe_18 : decode cX3_canBe 18 = .ok (.bipush 50, 2) := by decide +kernel
theorem dX3_canBe_20 : decode cX3_canBe 20 = .ok (.isub, 1) := by decide +kernel
theorem dX3_canBe_21 : decode cX3_canBe 21 = .ok (.istore 4, 2) := by decide +kernel
theorem dX3_canBe_23 : decode cX3_canBe 23 = .ok (.iload 4, 2) := by decide +kernel
theorem dX3_canBe_25 : decode cX3_canBe 25 = .ok (.ifCond .ge 20, 3) := by decide +kernel
theorem dX3_canBe_28 : decode cX3_canBe 28 = .ok (.aload_n 0, 1) := by decide +kernel
theorem dX3_canBe_29 : decode cX3_canBe 29 = .ok (.iload_n 3, 1) := by decide +kernel
theorem dX3_canBe_30 : decode cX3_canBe 30 = .ok (.invokevirtual 75, 3) := by decide +kernel
theorem dX3_canBe_33 : decode cX3_canBe 33 = .ok (.iload 4, 2) := by decide +kernel
theorem dX3_canBe_35 : decode cX3_canBe 35 = .ok (.iadd, 1) := by decide +kernel
theorem dX3_canBe_36 : decode cX3_canBe 36 = .ok (.aload_n 0, 1) := by decide +kernel
theorem dX3_canBe_37 : decode cX3_canBe 37 = .ok (.getfield 19, 3) := by decide +kernel
theorem dX3_canBe_40 : decode cX3_canBe 40 = .ok (.iload_n 3, 1) := by decide +kernel
theorem dX3_canBe_41 : decode cX3_canBe 41 = .ok (.iaload, 1) := by decide +kernel
theorem dX3_canBe_42 : decode cX3_canBe 42 = .ok (.if_icmp .lt 7, 3) := by decide +kernel
theorem dX3_canBe_45 : decode cX3_canBe 45 = .ok (.iconst 1, 1) := by decide +kernel
theorem dX3_canBe_46 : decode cX3_canBe 46 = .ok (.goto 4, 3) := by decide +kernel
theorem dX3_canBe_49 : decode cX3_canBe 49 = .ok (.iconst 0, 1) := by decide +kernel
theorem dX3_canBe_50 : decode cX3_canBe 50 = .ok (.ireturn, 1) := by decide +kernel
theorem dX3_canBe_51 : decode cX3_canBe 51 = .ok (.iload_n 2, 1) := by decide +kernel
theorem dX3_canBe_52 : decode cX3_canBe 52 = .ok (.invokestatic 222, 3) := by decide +kernel
theorem dX3_canBe_55 : decode cX3_canBe 55 = .ok (.ifCond .ne 5, 3) := by decide +kernel
theorem dX3_canBe_58 : decode cX3_canBe 58 = .ok (.iconst 1, 1) := by decide +kernel
theorem dX3_canBe_59 : decode cX3_canBe 59 = .ok (.ireturn, 1) := by decide +kernel
theorem dX3_canBe_60 : decode cX3_canBe 60 = .ok (.iconst 0, 1) := by decide +kernel
theorem dX3_canBe_61 : decode cX3_canBe 61 = .ok (.istore_n 3, 1) := by decide +kernel
theorem dX3_canBe_62 : decode cX3_canBe 62 = .ok (.iload_n 3, 1) := by decide +kernel
theorem dX3_canBe_63 : decode cX3_canBe 63 = .ok (.aload_n 0, 1) := by decide +kernel
theorem dX3_canBe_64 : decode cX3_canBe 64 = .ok (.getfield 194, 3) := by decide +kernel
theorem dX3_canBe_67 : decode cX3_canBe 67 = .ok (.if_icmp .ge 39, 3) := by decide +kernel
theorem dX3_canBe_70 : decode cX3_canBe 70 = .ok (.aload_n 0, 1) := by decide +kernel
theorem dX3_canBe_71 : decode cX3_canBe 71 = .ok (.getfield 37, 3) := by decide +kernel
theorem dX3_canBe_74 : decode cX3_canBe 74 = .ok (.iload_n 3, 1) := by decide +kernel
theorem dX3_canBe_75 : decode cX3_canBe 75 = .ok (.iaload, 1) := by decide +kernel
theorem dX3_canBe_76 : decode cX3_canBe 76 = .ok (.iload_n 1, 1) := by decide +kernel
theorem dX3_canBe_77 : decode cX3_canBe 77 = .ok (.if_icmp .eq 23, 3) := by decide +kernel
theorem dX3_canBe_80 : decode cX3_canBe 80 = .ok (.aload_n 0, 1) := by decide +kernel
theorem dX3_canBe_81 : decode cX3_canBe 81 = .ok (.getfield 27, 3) := by decide +kernel
theorem dX3_canBe_84 : decode cX3_canBe 84 = .ok (.aload_n 0, 1) := by decide +kernel
theorem dX3_canBe_85 : decode cX3_canBe 85 = .ok (.getfield 37, 3) := by decide +kernel
theorem dX3_canBe_88 : decode cX3_canBe 88 = .ok (.iload_n 3, 1) := by decide +kernel
theorem dX3_canBe_89 : decode cX3_canBe 89 = .ok (.iaload, 1) := by decide +kernel
theorem dX3_canBe_90 : decode cX3_canBe 90 = .ok (.aaload, 1) := by decide +kernel
theorem dX3_canBe_91 : decode cX3_canBe 91 = .ok (.iload_n 2, 1) := by decide +kernel
theorem dX3_canBe_92 : decode cX3_canBe 92 = .ok (.invokestatic 225, 3) := by decide +kernel
theorem dX3_canBe_95 : decode cX3_canBe 95 = .ok (.ifCond .eq 5, 3) := by decide +kernel
theorem dX3_canBe_98 : decode cX3_canBe 98 = .ok (.iconst 0, 1) := by decide +kernel
theorem dX3_canBe_99 : decode cX3_canBe 99 = .ok (.ireturn, 1) := by decide +kernel
theorem dX3_canBe_100 : decode cX3_canBe 100 = .ok (.iinc 3 1, 3) := by decide +kernel
theorem dX3_canBe_103 : decode cX3_canBe 103 = .ok (.goto (-41), 3) := by decide +kernel
theorem dX3_canBe_106 : decode cX3_canBe 106 = .ok (.iconst 1, 1) := by decide +kernel
theorem dX3_canBe_107 : decode cX3_canBe 107 = .ok (.ireturn, 1) := by decide +kernel
set_option maxRecDepth 20000 in
theorem ggX3_blocks_X3_aOf : GoodIn wsX3_blocks wsX3_aOf := goodIn_r _ [6] (by decide +kernel) (by decide +kernel)
set_option maxRecDepth 20000 in
theorem gX3_blocks_X3_aOf : GoodIn wsX3_blocks (va_wsS RX3 173 yX3_aOf wsX3_aOf) := goodIn_app (goodIn_of _ (by decide +kernel)) ggX3_blocks_X3_aOf
set_option maxRecDepth 20000 in
theorem ggX3_blocks_X3_opOf : GoodIn wsX3_blocks wsX3_opOf := goodIn_r _ [9] (by decide +kernel) (by decide +kernel)
set_option maxRecDepth 20000 in
theorem gX3_blocks_X3_opOf : GoodIn wsX3_blocks (va_wsS RX3 170 yX3_opOf wsX3_opOf) := goodIn_app (goodIn_of _ (by decide +kernel)) ggX3_blocks_X3_opOf
theorem dX3_blocks_0 : decode cX3_blocks 0 = .ok (.aload_n 0, 1) := by decide +kernel
theorem dX3_blocks_1 : decode cX3_blocks 1 = .ok (.getfield 117, 3) := by decide +kernel
theorem dX3_blocks_4 : decode cX3_blocks 4 = .ok (.iconst 1, 1) := by decide +kernel
theorem dX3_blocks_5 : decode cX3_blocks 5 = .ok (.if_icmp .eq 5, 3) := by decide +kernel
theorem dX3_blocks_8 : decode cX3_blocks 8 = .ok (.iconst 0, 1) := by decide +kernel
theorem dX3_blocks_9 : decode cX3_blocks 9 = .ok (.ireturn, 1) := by decide +kernel
theorem dX3_blocks_10 : decode cX3_blocks 10 = .ok (.aload_n 0, 1) := by decide +kernel
theorem dX3_blocks_11 : decode cX3_blocks 11 = .ok (.getfield 151, 3) := by decide +kernel
theorem dX3_blocks_14 : decode cX3_blocks 14 = .ok (.iload_n 1, 1) := by decide +kernel
theorem dX3_blocks_15 : decode cX3_blocks 15 = .ok (.invokestatic 173, 3) := by decide +kernel
theorem dX3_blocks_18 : decode cX3_blocks 18 = .ok (.iaload, 1) := by decide +kernel
theorem dX3_blocks_19 : decode cX3_blocks 19 = .ok (.istore_n 2, 1) := by decide +kernel
theorem dX3_blocks_20 : decode cX3_blocks 20 = .ok (.iload_n 1, 1) := by decide +kernel
theorem dX3_blocks_21 : decode cX3_blocks 21 = .ok (.invokestatic 170, 3) := by decide +kernel
theorem dX3_blocks_24 : decode cX3_blocks 24 = .ok (.iconst 3, 1) := by decide +kernel
theorem dX3_blocks_25 : decode cX3_blocks 25 = .ok (.if_icmp .ne 15, 3) := by decide +kernel
theorem dX3_blocks_28 : decode cX3_blocks 28 = .ok (.iload_n 2, 1) := by decide +kernel
theorem dX3_blocks_29 : decode cX3_blocks 29 = .ok (.ifCond .eq 7, 3) := by decide +kernel
theorem dX3_blocks_32 : decode cX3_blocks 32 = .ok (.iconst 1, 1) := by decide +kernel
theorem dX3_blocks_33 : decode cX3_blocks 33 = .ok (.goto 17, 3) := by decide +kernel
theorem dX3_blocks_36 : decode cX3_blocks 36 = .ok (.iconst 0, 1) := by decide +kernel
theorem dX3_blocks_37 : decode cX3_blocks 37 = .ok (.goto 13, 3) := by decide +kernel
theorem dX3_blocks_40 : decode cX3_blocks 40 = .ok (.iload_n 2, 1) := by decide +kernel
theorem dX3_blocks_41 : decode cX3_blocks 41 = .ok (.iconst 2, 1) := by decide +kernel
theorem dX3_blocks_42 : decode cX3_blocks 42 = .ok (.if_icmp .ne 7, 3) := by decide +kernel
theorem dX3_blocks_45 : decode cX3_blocks 45 = .ok (.iconst 1, 1) := by decide +kernel
theorem dX3_blocks_46 : decode cX3_blocks 46 = .ok (.goto 4, 3) := by decide +kernel
theorem dX3_blocks_49 : decode cX3_blocks 49 = .ok (.iconst 0, 1) := by decide +kernel
theorem dX3_blocks_50 : decode cX3_blocks 50 = .ok (.ireturn, 1) := by decide +kernel
theorem dX3_leastToCome_0 : decode cX3_leastToCome 0 = .ok (.aload_n 0, 1) := by decide +kernel
theorem dX3_leastToCome_1 : decode cX3_leastToCome 1 = .ok (.getfield 22, 3) := by decide +kernel
theorem dX3_leastToCome_4 : decode cX3_leastToCome 4 = .ok (.bipush 24, 2) := by decide +kernel
theorem dX3_leastToCome_6 : decode cX3_leastToCome 6 = .ok (.iload_n 1, 1) := by decide +kernel
theorem dX3_leastToCome_7 : decode cX3_leastToCome 7 = .ok (.iadd, 1) := by decide +kernel
theorem dX3_leastToCome_8 : decode cX3_leastToCome 8 = .ok (.iaload, 1) := by decide +kernel
theorem dX3_leastToCome_9 : decode cX3_leastToCome 9 = .ok (.istore_n 2, 1) := by decide +kernel
theorem dX3_leastToCome_10 : decode cX3_leastToCome 10 = .ok (.iconst 0, 1) := by decide +kernel
theorem dX3_leastToCome_11 : decode cX3_leastToCome 11 = .ok (.istore_n 3, 1) := by decide +kernel
theorem dX3_leastToCome_12 : decode cX3_leastToCome 12 = .ok (.iload_n 3, 1) := by decide +kernel
theorem dX3_leastToCome_13 : decode cX3_leastToCome 13 = .ok (.aload_n 0, 1) := by decide +kernel
theorem dX3_leastToCome_14 : decode cX3_leastToCome 14 = .ok (.getfield 102, 3) := by decide +kernel
theorem dX3_leastToCome_17 : decode cX3_leastToCome 17 = .ok (.if_icmp .ge 36, 3) := by decide +kernel
theorem dX3_leastToCome_20 : decode cX3_leastToCome 20 = .ok (.aload_n 0, 1) := by decide +kernel
theorem dX3_leastToCome_21 : decode cX3_leastToCome 21 = .ok (.getfield 27, 3) := by decide +kernel
theorem dX3_leastToCome_24 : decode cX3_leastToCome 24 = .ok (.iload_n 3, 1) := by decide +kernel
theorem dX3_leastToCome_25 : decode cX3_leastToCome 25 = .ok (.aaload, 1) := by decide +kernel
theorem dX3_leastToCome_26 : decode cX3_leastToCome 26 = .ok (.getfield 117, 3) := by decide +kernel
theorem dX3_leastToCome_29 : decode cX3_leastToCome 29 = .ok (.iconst 1, 1) := by decide +kernel
theorem dX3_leastToCome_30 : decode cX3_leastToCome 30 = .ok (.if_icmp .ne 17, 3) := by decide +kernel
theorem dX3_leastToCome_33 : decode cX3_leastToCome 33 = .ok (.iload_n 2, 1) := by decide +kernel
theorem dX3_leastToCome_34 : decode cX3_leastToCome 34 = .ok (.aload_n 0, 1) := by decide +kernel
theorem dX3_leastToCome_35 : decode cX3_leastToCome 35 = .ok (.getfield 27, 3) := by decide +kernel
theorem dX3_leastToCome_38 : decode cX3_leastToCome 38 = .ok (.iload_n 3, 1) := by decide +kernel
theorem dX3_leastToCome_39 : decode cX3_leastToCome 39 = .ok (.aaload, 1) := by decide +kernel
theorem dX3_leastToCome_40 : decode cX3_leastToCome 40 = .ok (.getfield 229, 3) := by decide +kernel
theorem dX3_leastToCome_43 : decode cX3_leastToCome 43 = .ok (.iload_n 1, 1) := by decide +kernel
theorem dX3_leastToCome_44 : decode cX3_leastToCome 44 = .ok (.iaload, 1) := by decide +kernel
theorem dX3_leastToCome_45 : decode cX3_leastToCome 45 = .ok (.iadd, 1) := by decide +kernel
theorem dX3_leastToCome_46 : decode cX3_leastToCome 46 = .ok (.istore_n 2, 1) := by decide +kernel
theorem dX3_leastToCome_47 : decode cX3_leastToCome 47 = .ok (.iinc 3 1, 3) := by decide +kernel
theorem dX3_leastToCome_50 : decode cX3_leastToCome 50 = .ok (.goto (-38), 3) := by decide +kernel
theorem dX3_leastToCome_53 : decode cX3_leastToCome 53 = .ok (.iload_n 2, 1) := by decide +kernel
theorem dX3_leastToCome_54 : decode cX3_leastToCome 54 = .ok (.ireturn, 1) := by decide +kernel
set_option maxRecDepth 20000 in
theorem ggX3_perform_X3_aOf : GoodIn wsX3_perform wsX3_aOf := goodIn_r _ [9] (by decide +kernel) (by decide +kernel)
set_option maxRecDepth 20000 in
theorem gX3_perform_X3_aOf : GoodIn wsX3_perform (va_wsS RX3 173 yX3_aOf wsX3_aOf) := goodIn_app (goodIn_of _ (by decide +kernel)) ggX3_perform_X3_aOf
set_option maxRecDepth 20000 in
theorem ggX3_perform_X3_bOf : GoodIn wsX3_perform wsX3_bOf := goodIn_r _ [12] (by decide +kernel) (by decide +kernel)
set_option maxRecDepth 20000 in
theorem gX3_perform_X3_bOf : GoodIn wsX3_perform (va_wsS RX3 219 yX3_bOf wsX3_bOf) := goodIn_app (goodIn_of _ (by decide +kernel)) ggX3_perform_X3_bOf
set_option maxRecDepth 20000 in
theorem ggX3_perform_X3_opOf : GoodIn wsX3_perform wsX3_opOf := goodIn_r _ [15] (by decide +kernel) (by decide +kernel)
set_option maxRecDepth 20000 in
theorem gX3_perform_X3_opOf : GoodIn wsX3_perform (va_wsS RX3 170 yX3_opOf wsX3_opOf) := goodIn_app (goodIn_of _ (by decide +kernel)) ggX3_perform_X3_opOf
set_option maxRecDepth 20000 in
theorem ggX3_perform_X0_lockToRead : GoodIn wsX3_perform wsX0_lockToRead := goodIn_r _ [20, 21, 101, 102, 103, 104, 105, 106, 107, 108, 109, 110, 111, 112, 113, 114, 115, 116, 117, 118, 119, 120] (by decide +kernel) (by decide +kernel)
set_option maxRecDepth 20000 in
theorem gX3_perform_X0_lockToRead : GoodIn wsX3_perform (wsV RX3 232 RX0 yX0_lockToRead wsX0_lockToRead) := goodIn_app (goodIn_of _ (by decide +kernel)) ggX3_perform_X0_lockToRead
set_option maxRecDepth 20000 in
theorem ggX3_perform_X3_seenBy : GoodIn wsX3_perform wsX3_seenBy := goodIn_r _ [25, 26, 27, 28, 29, 19, 30, 21, 31, 32, 83, 84, 85, 86, 87, 88, 89, 90, 91, 92, 93, 94, 95, 96, 97, 98, 99, 100, 101, 102, 103, 104, 105, 106, 107, 108, 109, 110, 111, 112, 113, 114, 115, 116, 117, 118, 119, 120] (by decide +kernel) (by decide +kernel)
set_option maxRecDepth 20000 in
theorem gX3_perform_X3_seenBy : GoodIn wsX3_perform (wsV RX3 235 RX3 yX3_seenBy wsX3_seenBy) := goodIn_app (goodIn_of _ (by decide +kernel)) ggX3_perform_X3_seenBy
set_option maxRecDepth 20000 in
theorem ggX3_perform_X0_load : GoodIn wsX3_perform wsX0_load := goodIn_r _ [36, 37, 38, 39, 101, 102, 103, 104, 105, 106, 107, 108, 109, 110, 111, 112, 113, 114, 115, 116, 117, 118, 119, 120] (by decide +kernel) (by decide +kernel)
set_option maxRecDepth 20000 in
theorem gX3_perform_X0_load : GoodIn wsX3_perform (wsV RX3 239 RX0 yX0_load wsX0_load) := goodIn_app (goodIn_of _ (by decide +kernel)) ggX3_perform_X0_load
set_option maxRecDepth 20000 in
theorem ggX3_perform_X0_put : GoodIn wsX3_perform wsX0_put := goodIn_r _ [43, 21, 31, 39, 101, 102, 103, 104, 105, 106, 107, 108, 109, 110, 111, 112, 113, 114, 115, 116, 117, 118, 119, 120] (by decide +kernel) (by decide +kernel)
set_option maxRecDepth 20000 in
theorem gX3_perform_X0_put : GoodIn wsX3_perform (wsV RX3 242 RX0 yX0_put wsX0_put) := goodIn_app (goodIn_of _ (by decide +kernel)) ggX3_perform_X0_put
set_option maxRecDepth 20000 in
theorem ggX3_perform_X1_write : GoodIn wsX3_perform wsX1_write := goodIn_r _ [48, 49, 50, 51, 52, 53, 54, 55, 56, 57, 58, 59, 60, 61, 62, 63, 64, 65, 66, 67, 68, 69, 70, 121, 122, 123] (by decide +kernel) (by decide +kernel)
set_option maxRecDepth 20000 in
theorem gX3_perform_X1_write : GoodIn wsX3_perform (wsV RX3 245 RX1 yX1_write wsX1_write) := goodIn_app (goodIn_of _ (by decide +kernel)) ggX3_perform_X1_write
set_option maxRecDepth 20000 in
theorem ggX3_perform_X0_give : GoodIn wsX3_perform wsX0_give := goodIn_r _ [74, 32, 75, 76, 64, 65, 66, 101, 102, 103, 104, 105, 106, 107, 108, 109, 110, 111, 112, 113, 114, 115, 116, 117, 118, 119, 120] (by decide +kernel) (by decide +kernel)
set_option maxRecDepth 20000 in
theorem gX3_perform_X0_give : GoodIn wsX3_perform (wsV RX3 248 RX0 yX0_give wsX0_give) := goodIn_app (goodIn_of _ (by decide +kernel)) ggX3_perform_X0_give
set_option maxRecDepth 20000 in
theorem ggX3_perform_X0_enqueue : GoodIn wsX3_perform wsX0_enqueue := goodIn_r _ [80, 81, 82, 101, 102, 103, 104, 105, 106, 107, 108, 109, 110, 111, 112, 113, 114, 115, 116, 117, 118, 119, 120] (by decide +kernel) (by decide +kernel)
set_option maxRecDepth 20000 in
theorem gX3_perform_X0_enqueue : GoodIn wsX3_perform (wsV RX3 252 RX0 yX0_enqueue wsX0_enqueue) := goodIn_app (goodIn_of _ (by decide +kernel)) ggX3_perform_X0_enqueue
theorem dX3_perform_0 : decode cX3_perform 0 = .ok (.aload_n 0, 1) := by decide +kernel
theorem dX3_perform_1 : decode cX3_perform 1 = .ok (.getfield 27, 3) := by decide +kernel
theorem dX3_perform_4 : decode cX3_perform 4 = .ok (.iload_n 1, 1) := by decide +kernel
theorem dX3_perform_5 : decode cX3_perform 5 = .ok (.aaload, 1) := by decide +kernel
theorem dX3_perform_6 : decode cX3_perform 6 = .ok (.astore_n 3, 1) := by decide +kernel
theorem dX3_perform_7 : decode cX3_perform 7 = .ok (.iload_n 2, 1) := by decide +kernel
theorem dX3_perform_8 : decode cX3_perform 8 = .ok (.invokestatic 173, 3) := by decide +kernel
theorem dX3_perform_11 : decode cX3_perform 11 = .ok (.istore 4, 2) := by decide +kernel
theorem dX3_perform_13 : decode cX3_perform 13 = .ok (.iload_n 2, 1) := by decide +kernel
theorem dX3_perform_14 : decode cX3_perform 14 = .ok (.invokestatic 219, 3) := by decide +kernel
theorem dX3_perform_17 : decode cX3_perform 17 = .ok (.istore 5, 2) := by decide +kernel
theorem dX3_perform_19 : decode cX3_perform 19 = .ok (.iload_n 2, 1) := by decide +kernel
theorem dX3_perform_20 : decode cX3_perform 20 = .ok (.invokestatic 170, 3) := by decide +kernel
theorem dX3_perform_23 : decode cX3_perform 23 = .ok (.tableswitch 197 0 8 #[49, 67, 77, 92, 116, 139, 152, 165, 173], 49) := by decide +kernel
theorem dX3_perform_72 : decode cX3_perform 72 = .ok (.aload_n 3, 1) := by decide +kernel
theorem dX3_perform_73 : decode cX3_perform 73 = .ok (.iload 4, 2) := by decide +kernel
theorem dX3_perform_75 : decode cX3_perform 75 = .ok (.invokevirtual 232, 3) := by decide +kernel
theorem dX3_perform_78 : decode cX3_perform 78 = .ok (.aload_n 3, 1) := by decide +kernel
theorem dX3_perform_79 : decode cX3_perform 79 = .ok (.aload_n 0, 1) := by decide +kernel
theorem dX3_perform_80 : decode cX3_perform 80 = .ok (.aload_n 3, 1) := by decide +kernel
theorem dX3_perform_81 : decode cX3_perform 81 = .ok (.iload 4, 2) := by decide +kernel
theorem dX3_perform_83 : decode cX3_perform 83 = .ok (.invokevirtual 235, 3) := by decide +kernel
theorem dX3_perform_86 : decode cX3_perform 86 = .ok (.invokevirtual 239, 3) := by decide +kernel
theorem dX3_perform_89 : decode cX3_perform 89 = .ok (.ireturn, 1) := by decide +kernel
theorem dX3_perform_90 : decode cX3_perform 90 = .ok (.aload_n 3, 1) := by decide +kernel
theorem dX3_perform_91 : decode cX3_perform 91 = .ok (.iload 5, 2) := by decide +kernel
theorem dX3_perform_93 : decode cX3_perform 93 = .ok (.bipush 50, 2) := by decide +kernel
theorem dX3_perform_95 : decode cX3_perform 95 = .ok (.isub, 1) := by decide +kernel
theorem dX3_perform_96 : decode cX3_perform 96 = .ok (.invokevirtual 239, 3) := by decide +kernel
theorem dX3_perform_99 : decode cX3_perform 99 = .ok (.ireturn, 1) := by decide +kernel
theorem dX3_perform_100 : decode cX3_perform 100 = .ok (.aload_n 3, 1) := by decide +kernel
theorem dX3_perform_101 : decode cX3_perform 101 = .ok (.aload_n 3, 1) := by decide +kernel
theorem dX3_perform_102 : decode cX3_perform 102 = .ok (.getfield 148, 3) := by decide +kernel
theorem dX3_perform_105 : decode cX3_perform 105 = .ok (.iload 5, 2) := by decide +kernel
theorem dX3_perform_107 : decode cX3_perform 107 = .ok (.iadd, 1) := by decide +kernel
theorem dX3_perform_108 : decode cX3_perform 108 = .ok (.bipush 50, 2) := by decide +kernel
theorem dX3_perform_110 : decode cX3_perform 110 = .ok (.isub, 1) := by decide +kernel
theorem dX3_perform_111 : decode cX3_perform 111 = .ok (.invokevirtual 239, 3) := by decide +kernel
theorem dX3_perform_114 : decode cX3_perform 114 = .ok (.ireturn, 1) := by decide +kernel
theorem dX3_perform_115 : decode cX3_perform 115 = .ok (.aload_n 3, 1) := by decide +kernel
theorem dX3_perform_116 : decode cX3_perform 116 = .ok (.iload 4, 2) := by decide +kernel
theorem dX3_perform_118 : decode cX3_perform 118 = .ok (.invokevirtual 242, 3) := by decide +kernel
theorem dX3_perform_121 : decode cX3_perform 121 = .ok (.aload_n 0, 1) := by decide +kernel
theorem dX3_perform_122 : decode cX3_perform 122 = .ok (.getfield 46, 3) := by decide +kernel
theorem dX3_perform_125 : decode cX3_perform 125 = .ok (.iconst 1, 1) := by decide +kernel
theorem dX3_perform_126 : decode cX3_perform 126 = .ok (.iload_n 1, 1) := by decide +kernel
theorem dX3_perform_127 : decode cX3_perform 127 = .ok (.iload 4, 2) := by decide +kernel
theorem dX3_perform_129 : decode cX3_perform 129 = .ok (.aload_n 0, 1) := by decide +kernel
theorem dX3_perform_130 : decode cX3_perform 130 = .ok (.getfield 79, 3) := by decide +kernel
theorem dX3_perform_133 : decode cX3_perform 133 = .ok (.invokevirtual 245, 3) := by decide +kernel
theorem dX3_perform_136 : decode cX3_perform 136 = .ok (.pop, 1) := by decide +kernel
theorem dX3_perform_137 : decode cX3_perform 137 = .ok (.iconst 1, 1) := by decide +kernel
theorem dX3_perform_138 : decode cX3_perform 138 = .ok (.ireturn, 1) := by decide +kernel
theorem dX3_perform_139 : decode cX3_perform 139 = .ok (.aload_n 3, 1) := by decide +kernel
theorem dX3_perform_140 : decode cX3_perform 140 = .ok (.iload 4, 2) := by decide +kernel
theorem dX3_perform_142 : decode cX3_perform 142 = .ok (.invokevirtual 232, 3) := by decide +kernel
theorem dX3_perform_145 : decode cX3_perform 145 = .ok (.aload_n 3, 1) := by decide +kernel
theorem dX3_perform_146 : decode cX3_perform 146 = .ok (.aload_n 3, 1) := by decide +kernel
theorem dX3_perform_147 : decode cX3_perform 147 = .ok (.getfield 148, 3) := by decide +kernel
theorem dX3_perform_150 : decode cX3_perform 150 = .ok (.aload_n 0, 1) := by decide +kernel
theorem dX3_perform_151 : decode cX3_perform 151 = .ok (.aload_n 3, 1) := by decide +kernel
theorem dX3_perform_152 : decode cX3_perform 152 = .ok (.iload 4, 2) := by decide +kernel
theorem dX3_perform_154 : decode cX3_perform 154 = .ok (.invokevirtual 235, 3) := by decide +kernel
theorem dX3_perform_157 : decode cX3_perform 157 = .ok (.iadd, 1) := by decide +kernel
theorem dX3_perform_158 : decode cX3_perform 158 = .ok (.invokevirtual 239, 3) := by decide +kernel
theorem dX3_perform_161 : decode cX3_perform 161 = .ok (.ireturn, 1) := by decide +kernel
theorem dX3_perform_162 : decode cX3_perform 162 = .ok (.aload_n 3, 1) := by decide +kernel
theorem dX3_perform_163 : decode cX3_perform 163 = .ok (.getfield 148, 3) := by decide +kernel
theorem dX3_perform_166 : decode cX3_perform 166 = .ok (.ifCond .lt 7, 3) := by decide +kernel
theorem dX3_perform_169 : decode cX3_perform 169 = .ok (.iconst 1, 1) := by decide +kernel
theorem dX3_perform_170 : decode cX3_perform 170 = .ok (.goto 4, 3) := by decide +kernel
theorem dX3_perform_173 : decode cX3_perform 173 = .ok (.iconst 0, 1) := by decide +kernel
theorem dX3_perform_174 : decode cX3_perform 174 = .ok (.ireturn, 1) := by decide +kernel
theorem dX3_perform_175 : decode cX3_perform 175 = .ok (.aload_n 3, 1) := by decide +kernel
theorem dX3_perform_176 : decode cX3_perform 176 = .ok (.iload 4, 2) := by decide +kernel
theorem dX3_perform_178 : decode cX3_perform 178 = .ok (.iload 5, 2) := by decide +kernel
theorem dX3_perform_180 : decode cX3_perform 180 = .ok (.bipush 50, 2) := by decide +kernel
theorem dX3_perform_182 : decode cX3_perform 182 = .ok (.isub, 1) := by decide +kernel
theorem dX3_perform_183 : decode cX3_perform 183 = .ok (.invokevirtual 248, 3) := by decide +kernel
theorem dX3_perform_186 : decode cX3_perform 186 = .ok (.iconst 1, 1) := by decide +kernel
theorem dX3_perform_187 : decode cX3_perform 187 = .ok (.ireturn, 1) := by decide +kernel
theorem dX3_perform_188 : decode cX3_perform 188 = .ok (.aload_n 3, 1) := by decide +kernel
theorem dX3_perform_189 : decode cX3_perform 189 = .ok (.iload 4, 2) := by decide +kernel
theorem dX3_perform_191 : decode cX3_perform 191 = .ok (.invokevirtual 252, 3) := by decide +kernel
theorem dX3_perform_194 : decode cX3_perform 194 = .ok (.iconst 1, 1) := by decide +kernel
theorem dX3_perform_195 : decode cX3_perform 195 = .ok (.ireturn, 1) := by decide +kernel
theorem dX3_perform_196 : decode cX3_perform 196 = .ok (.aload_n 3, 1) := by decide +kernel
theorem dX3_perform_197 : decode cX3_perform 197 = .ok (.dup, 1) := by decide +kernel
theorem dX3_perform_198 : decode cX3_perform 198 = .ok (.getfield 129, 3) := by decide +kernel
theorem dX3_perform_201 : decode cX3_perform 201 = .ok (.aload_n 3, 1) := by decide +kernel
theorem dX3_perform_202 : decode cX3_perform 202 = .ok (.getfield 148, 3) := by decide +kernel
theorem dX3_perform_205 : decode cX3_perform 205 = .ok (.ifCond .ge 8, 3) := by decide +kernel
theorem dX3_perform_208 : decode cX3_perform 208 = .ok (.iload 5, 2) := by decide +kernel
theorem dX3_perform_210 : decode cX3_perform 210 = .ok (.goto 4, 3) := by decide +kernel
theorem dX3_perform_213 : decode cX3_perform 213 = .ok (.iconst 0, 1) := by decide +kernel
theorem dX3_perform_214 : decode cX3_perform 214 = .ok (.iadd, 1) := by decide +kernel
theorem dX3_perform_215 : decode cX3_perform 215 = .ok (.putfield 129, 3) := by decide +kernel
theorem dX3_perform_218 : decode cX3_perform 218 = .ok (.iconst 1, 1) := by decide +kernel
theorem dX3_perform_219 : decode cX3_perform 219 = .ok (.ireturn, 1) := by decide +kernel
theorem dX3_perform_220 : decode cX3_perform 220 = .ok (.iconst 1, 1) := by decide +kernel
theorem dX3_perform_221 : decode cX3_perform 221 = .ok (.ireturn, 1) := by decide +kernel
set_option maxRecDepth 20000 in
theorem ggX3_seenBy_X0_valueAfter : GoodIn wsX3_seenBy wsX0_valueAfter := goodIn_r _ [6, 7, 8, 9, 28, 29, 30, 31, 32, 33, 34, 35, 36, 37, 38, 39, 40, 41, 42, 43, 44, 45, 46, 47] (by decide +kernel) (by decide +kernel)
set_option maxRecDepth 20000 in
theorem gX3_seenBy_X0_valueAfter : GoodIn wsX3_seenBy (wsV RX3 157 RX0 yX0_valueAfter wsX0_valueAfter) := goodIn_app (goodIn_of _ (by decide +kernel)) ggX3_seenBy_X0_valueAfter
theorem dX3_seenBy_0 : decode cX3_seenBy 0 = .ok (.aload_n 1, 1) := by decide +kernel
theorem dX3_seenBy_1 : decode cX3_seenBy 1 = .ok (.iload_n 2, 1) := by decide +kernel
theorem dX3_seenBy_2 : decode cX3_seenBy 2 = .ok (.aload_n 0, 1) := by decide +kernel
theorem dX3_seenBy_3 : decode cX3_seenBy 3 = .ok (.getfield 22, 3) := by decide +kernel
theorem dX3_seenBy_6 : decode cX3_seenBy 6 = .ok (.iload_n 2, 1) := by decide +kernel
theorem dX3_seenBy_7 : decode cX3_seenBy 7 = .ok (.iaload, 1) := by decide +kernel
theorem dX3_seenBy_8 : decode cX3_seenBy 8 = .ok (.invokevirtual 157, 3) := by decide +kernel
theorem dX3_seenBy_11 : decode cX3_seenBy 11 = .ok (.ireturn, 1) := by decide +kernel
set_option maxRecDepth 20000 in
theorem ggX3_stopAct_X0_leave : GoodIn wsX3_stopAct wsX0_leave := goodIn_r _ [9, 10, 11, 12, 13, 14, 15, 16, 17, 18, 19, 20, 65, 66, 67, 68, 69, 70, 71, 72, 73, 74, 75, 76, 77, 78, 79, 80, 81, 82, 83, 84] (by decide +kernel) (by decide +kernel)
set_option maxRecDepth 20000 in
theorem gX3_stopAct_X0_leave : GoodIn wsX3_stopAct (wsV RX3 255 RX0 yX0_leave wsX0_leave) := goodIn_app (goodIn_of _ (by decide +kernel)) ggX3_stopAct_X0_leave
set_option maxRecDepth 20000 in
theorem ggX3_stopAct_X1_write : GoodIn wsX3_stopAct wsX1_write := goodIn_r _ [25, 26, 27, 28, 29, 30, 19, 31, 32, 33, 34, 35, 36, 37, 38, 39, 40, 41, 42, 43, 44, 45, 46, 85, 86, 87] (by decide +kernel) (by decide +kernel)
set_option maxRecDepth 20000 in
theorem gX3_stopAct_X1_write : GoodIn wsX3_stopAct (wsV RX3 245 RX1 yX1_write wsX1_write) := goodIn_app (goodIn_of _ (by decide +kernel)) ggX3_stopAct_X1_write
theorem dX3_stopAct_0 : decode cX3_stopAct 0 = .ok (.aload_n 0, 1) := by decide +kernel
theorem dX3_stopAct_1 : decode cX3_stopAct 1 = .ok (.getfield 27, 3) := by decide +kernel
theorem dX3_stopAct_4 : decode cX3_stopAct 4 = .ok (.iload_n 1, 1) := by decide +kernel
theorem dX3_stopAct_5 : decode cX3_stopAct 5 = .ok (.aaload, 1) := by decide +kernel
theorem dX3_stopAct_6 : decode cX3_stopAct 6 = .ok (.astore_n 2, 1) := by decide +kernel
theorem dX3_stopAct_7 : decode cX3_stopAct 7 = .ok (.aload_n 2, 1) := by decide +kernel
theorem dX3_stopAct_8 : decode cX3_stopAct 8 = .ok (.iconst 4, 1) := by decide +kernel
theorem dX3_stopAct_9 : decode cX3_stopAct 9 = .ok (.invokevirtual 255, 3) := by decide +kernel
theorem dX3_stopAct_12 : decode cX3_stopAct 12 = .ok (.aload_n 2, 1) := by decide +kernel
theorem dX3_stopAct_13 : decode cX3_stopAct 13 = .ok (.aload_n 0, 1) := by decide +kernel
theorem dX3_stopAct_14 : decode cX3_stopAct 14 = .ok (.getfield 46, 3) := by decide +kernel
theorem dX3_stopAct_17 : decode cX3_stopAct 17 = .ok (.iconst 3, 1) := by decide +kernel
theorem dX3_stopAct_18 : decode cX3_stopAct 18 = .ok (.iload_n 1, 1) := by decide +kernel
theorem dX3_stopAct_19 : decode cX3_stopAct 19 = .ok (.iconst (-1), 1) := by decide +kernel
theorem dX3_stopAct_20 : decode cX3_stopAct 20 = .ok (.aload_n 0, 1) := by decide +kernel
theorem dX3_stopAct_21 : decode cX3_stopAct 21 = .ok (.getfield 79, 3) := by decide +kernel
theorem dX3_stopAct_24 : decode cX3_stopAct 24 = .ok (.invokevirtual 245, 3) := by decide +kernel
theorem dX3_stopAct_27 : decode cX3_stopAct 27 = .ok (.putfield 258, 3) := by decide +kernel
theorem dX3_stopAct_30 : decode cX3_stopAct 30 = .ok (.return_, 1) := by decide +kernel
set_option maxRecDepth 20000 in
theorem ggX3_finishAct_X1_write : GoodIn wsX3_finishAct wsX1_write := goodIn_r _ [17, 18, 19, 20, 21, 22, 23, 24, 25, 26, 27, 28, 29, 30, 31, 32, 33, 34, 35, 36, 37, 38, 39, 118, 119, 120] (by decide +kernel) (by decide +kernel)
set_option maxRecDepth 20000 in
theorem gX3_finishAct_X1_write : GoodIn wsX3_finishAct (wsV RX3 245 RX1 yX1_write wsX1_write) := goodIn_app (goodIn_of _ (by decide +kernel)) ggX3_finishAct_X1_write
set_option maxRecDepth 20000 in
theorem ggX3_finishAct_X3_tellValues : GoodIn wsX3_finishAct wsX3_tellValues := goodIn_r _ [44, 45, 46, 47, 48, 49, 50, 51, 52, 53, 80, 81, 82, 83, 84, 85, 86, 87, 88, 89, 90, 91, 92, 93, 94, 95, 96, 97, 98, 99, 100, 101, 102, 103, 104, 105, 106, 107, 108, 109, 110, 111, 112, 113, 114, 115, 116, 117] (by decide +kernel) (by decide +kernel)
set_option maxRecDepth 20000 in
theorem gX3_finishAct_X3_tellValues : GoodIn wsX3_finishAct (wsV RX3 261 RX3 yX3_tellValues wsX3_tellValues) := goodIn_app (goodIn_of _ (by decide +kernel)) ggX3_finishAct_X3_tellValues
set_option maxRecDepth 20000 in
theorem ggX3_finishAct_X3_admit : GoodIn wsX3_finishAct wsX3_admit := goodIn_r _ [57, 58, 1, 59, 60, 49, 61, 12, 62, 63, 64, 65, 66, 67, 31, 68, 51, 52, 53, 69, 70, 71, 72, 73, 74, 75, 76, 77, 78, 79, 80, 81, 82, 83, 84, 85, 86, 87, 88, 89, 90, 91, 92, 93, 94, 95, 96, 97, 98, 99, 100, 101, 102, 103, 104, 105, 106, 107, 108, 109, 110, 111, 112, 113, 114, 115, 116, 117] (by decide +kernel) (by decide +kernel)
set_option maxRecDepth 20000 in
theorem gX3_finishAct_X3_admit : GoodIn wsX3_finishAct (wsV RX3 71 RX3 yX3_admit wsX3_admit) := goodIn_app (goodIn_of _ (by decide +kernel)) ggX3_finishAct_X3_admit
theorem dX3_finishAct_0 : decode cX3_finishAct 0 = .ok (.aload_n 0, 1) := by decide +kernel
theorem dX3_finishAct_1 : decode cX3_finishAct 1 = .ok (.getfield 27, 3) := by decide +kernel
theorem dX3_finishAct_4 : decode cX3_finishAct 4 = .ok (.iload_n 1, 1) := by decide +kernel
theorem dX3_finishAct_5 : decode cX3_finishAct 5 = .ok (.aaload, 1) := by decide +kernel
theorem dX3_finishAct_6 : decode cX3_finishAct 6 = .ok (.astore_n 2, 1) := by decide +kernel
theorem dX3_finishAct_7 : decode cX3_finishAct 7 = .ok (.aload_n 2, 1) := by decide +kernel
theorem dX3_finishAct_8 : decode cX3_finishAct 8 = .ok (.iconst 2, 1) := by decide +kernel
theorem dX3_finishAct_9 : decode cX3_finishAct 9 = .ok (.putfield 117, 3) := by decide +kernel
theorem dX3_finishAct_12 : decode cX3_finishAct 12 = .ok (.aload_n 2, 1) := by decide +kernel
theorem dX3_finishAct_13 : decode cX3_finishAct 13 = .ok (.aload_n 0, 1) := by decide +kernel
theorem dX3_finishAct_14 : decode cX3_finishAct 14 = .ok (.getfield 79, 3) := by decide +kernel
theorem dX3_finishAct_17 : decode cX3_finishAct 17 = .ok (.putfield 135, 3) := by decide +kernel
theorem dX3_finishAct_20 : decode cX3_finishAct 20 = .ok (.aload_n 2, 1) := by decide +kernel
theorem dX3_finishAct_21 : decode cX3_finishAct 21 = .ok (.aload_n 0, 1) := by decide +kernel
theorem dX3_finishAct_22 : decode cX3_finishAct 22 = .ok (.getfield 46, 3) := by decide +kernel
theorem dX3_finishAct_25 : decode cX3_finishAct 25 = .ok (.iconst 2, 1) := by decide +kernel
theorem dX3_finishAct_26 : decode cX3_finishAct 26 = .ok (.iload_n 1, 1) := by decide +kernel
theorem dX3_finishAct_27 : decode cX3_finishAct 27 = .ok (.iconst (-1), 1) := by decide +kernel
theorem dX3_finishAct_28 : decode cX3_finishAct 28 = .ok (.aload_n 0, 1) := by decide +kernel
theorem dX3_finishAct_29 : decode cX3_finishAct 29 = .ok (.getfield 79, 3) := by decide +kernel
theorem dX3_finishAct_32 : decode cX3_finishAct 32 = .ok (.invokevirtual 245, 3) := by decide +kernel
theorem dX3_finishAct_35 : decode cX3_finishAct 35 = .ok (.putfield 258, 3) := by decide +kernel
theorem dX3_finishAct_38 : decode cX3_finishAct 38 = .ok (.aload_n 0, 1) := by decide +kernel
theorem dX3_finishAct_39 : decode cX3_finishAct 39 = .ok (.getfield 154, 3) := by decide +kernel
theorem dX3_finishAct_42 : decode cX3_finishAct 42 = .ok (.bipush 80, 2) := by decide +kernel
theorem dX3_finishAct_44 : decode cX3_finishAct 44 = .ok (.if_icmp .ge 23, 3) := by decide +kernel
theorem dX3_finishAct_47 : decode cX3_finishAct 47 = .ok (.aload_n 0, 1) := by decide +kernel
theorem dX3_finishAct_48 : decode cX3_finishAct 48 = .ok (.getfield 34, 3) := by decide +kernel
theorem dX3_finishAct_51 : decode cX3_finishAct 51 = .ok (.aload_n 0, 1) := by decide +kernel
theorem dX3_finishAct_52 : decode cX3_finishAct 52 = .ok (.getfield 154, 3) := by decide +kernel
theorem dX3_finishAct_55 : decode cX3_finishAct 55 = .ok (.iload_n 1, 1) := by decide +kernel
theorem dX3_finishAct_56 : decode cX3_finishAct 56 = .ok (.iastore, 1) := by decide +kernel
theorem dX3_finishAct_57 : decode cX3_finishAct 57 = .ok (.aload_n 0, 1) := by decide +kernel
theorem dX3_finishAct_58 : decode cX3_finishAct 58 = .ok (.dup, 1) := by decide +kernel
theorem dX3_finishAct_59 : decode cX3_finishAct 59 = .ok (.getfield 154, 3) := by decide +kernel
theorem dX3_finishAct_62 : decode cX3_finishAct 62 = .ok (.iconst 1, 1) := by decide +kernel
theorem dX3_finishAct_63 : decode cX3_finishAct 63 = .ok (.iadd, 1) := by decide +kernel
theorem dX3_finishAct_64 : decode cX3_finishAct 64 = .ok (.putfield 154, 3) := by decide +kernel
theorem dX3_finishAct_67 : decode cX3_finishAct 67 = .ok (.aload_n 0, 1) := by decide +kernel
theorem dX3_finishAct_68 : decode cX3_finishAct 68 = .ok (.aload_n 2, 1) := by decide +kernel
theorem dX3_finishAct_69 : decode cX3_finishAct 69 = .ok (.invokevirtual 261, 3) := by decide +kernel
theorem dX3_finishAct_72 : decode cX3_finishAct 72 = .ok (.iconst 0, 1) := by decide +kernel
theorem dX3_finishAct_73 : decode cX3_finishAct 73 = .ok (.istore_n 3, 1) := by decide +kernel
theorem dX3_finishAct_74 : decode cX3_finishAct 74 = .ok (.iload_n 3, 1) := by decide +kernel
theorem dX3_finishAct_75 : decode cX3_finishAct 75 = .ok (.aload_n 2, 1) := by decide +kernel
theorem dX3_finishAct_76 : decode cX3_finishAct 76 = .ok (.getfield 265, 3) := by decide +kernel
theorem dX3_finishAct_79 : decode cX3_finishAct 79 = .ok (.if_icmp .ge 29, 3) := by decide +kernel
theorem dX3_finishAct_82 : decode cX3_finishAct 82 = .ok (.aload_n 0, 1) := by decide +kernel
theorem dX3_finishAct_83 : decode cX3_finishAct 83 = .ok (.aload_n 2, 1) := by decide +kernel
theorem dX3_finishAct_84 : decode cX3_finishAct 84 = .ok (.getfield 268, 3) := by decide +kernel
theorem dX3_finishAct_87 : decode cX3_finishAct 87 = .ok (.iload_n 3, 1) := by decide +kernel
theorem dX3_finishAct_88 : decode cX3_finishAct 88 = .ok (.iaload, 1) := by decide +kernel
theorem dX3_finishAct_89 : decode cX3_finishAct 89 = .ok (.aload_n 2, 1) := by decide +kernel
theorem dX3_finishAct_90 : decode cX3_finishAct 90 = .ok (.getfield 123, 3) := by decide +kernel
theorem dX3_finishAct_93 : decode cX3_finishAct 93 = .ok (.aload_n 2, 1) := by decide +kernel
theorem dX3_finishAct_94 : decode cX3_finishAct 94 = .ok (.getfield 126, 3) := by decide +kernel
theorem dX3_finishAct_97 : decode cX3_finishAct 97 = .ok (.iload_n 1, 1) := by decide +kernel
theorem dX3_finishAct_98 : decode cX3_finishAct 98 = .ok (.invokevirtual 71, 3) := by decide +kernel
theorem dX3_finishAct_101 : decode cX3_finishAct 101 = .ok (.pop, 1) := by decide +kernel
theorem dX3_finishAct_102 : decode cX3_finishAct 102 = .ok (.iinc 3 1, 3) := by decide +kernel
theorem dX3_finishAct_105 : decode cX3_finishAct 105 = .ok (.goto (-31), 3) := by decide +kernel
theorem dX3_finishAct_108 : decode cX3_finishAct 108 = .ok (.return_, 1) := by decide +kernel
set_option maxRecDepth 20000 in
theorem ggX3_tellValues_X0_valueAfter : GoodIn wsX3_tellValues wsX0_valueAfter := goodIn_r _ [6, 7, 8, 9, 28, 29, 30, 31, 32, 33, 34, 35, 36, 37, 38, 39, 40, 41, 42, 43, 44, 45, 46, 47] (by decide +kernel) (by decide +kernel)
set_option maxRecDepth 20000 in
theorem gX3_tellValues_X0_valueAfter : GoodIn wsX3_tellValues (wsV RX3 157 RX0 yX0_valueAfter wsX0_valueAfter) := goodIn_app (goodIn_of _ (by decide +kernel)) ggX3_tellValues_X0_valueAfter
theorem dX3_tellValues_0 : decode cX3_tellValues 0 = .ok (.iconst 0, 1) := by decide +kernel
theorem dX3_tellValues_1 : decode cX3_tellValues 1 = .ok (.istore_n 2, 1) := by decide +kernel
theorem dX3_tellValues_2 : decode cX3_tellValues 2 = .ok (.iload_n 2, 1) := by decide +kernel
theorem dX3_tellValues_3 : decode cX3_tellValues 3 = .ok (.bipush 32, 2) := by decide +kernel
theorem dX3_tellValues_5 : decode cX3_tellValues 5 = .ok (.if_icmp .ge 26, 3) := by decide +kernel
theorem dX3_tellValues_8 : decode cX3_tellValues 8 = .ok (.aload_n 0, 1) := by decide +kernel
theorem dX3_tellValues_9 : decode cX3_tellValues 9 = .ok (.getfield 22, 3) := by decide +kernel
theorem dX3_tellValues_12 : decode cX3_tellValues 12 = .ok (.iload_n 2, 1) := by decide +kernel
theorem dX3_tellValues_13 : decode cX3_tellValues 13 = .ok (.aload_n 1, 1) := by decide +kernel
theorem dX3_tellValues_14 : decode cX3_tellValues 14 = .ok (.iload_n 2, 1) := by decide +kernel
theorem dX3_tellValues_15 : decode cX3_tellValues 15 = .ok (.aload_n 0, 1) := by decide +kernel
theorem dX3_tellValues_16 : decode cX3_tellValues 16 = .ok (.getfield 22, 3) := by decide +kernel
theorem dX3_tellValues_19 : decode cX3_tellValues 19 = .ok (.iload_n 2, 1) := by decide +kernel
theorem dX3_tellValues_20 : decode cX3_tellValues 20 = .ok (.iaload, 1) := by decide +kernel
theorem dX3_tellValues_21 : decode cX3_tellValues 21 = .ok (.invokevirtual 157, 3) := by decide +kernel
theorem dX3_tellValues_24 : decode cX3_tellValues 24 = .ok (.iastore, 1) := by decide +kernel
theorem dX3_tellValues_25 : decode cX3_tellValues 25 = .ok (.iinc 2 1, 3) := by decide +kernel
theorem dX3_tellValues_28 : decode cX3_tellValues 28 = .ok (.goto (-26), 3) := by decide +kernel
theorem dX3_tellValues_31 : decode cX3_tellValues 31 = .ok (.return_, 1) := by decide +kernel
set_option maxRecDepth 20000 in
theorem ggX3_breakRings_X3_drawWaits : GoodIn wsX3_breakRings wsX3_drawWaits := goodIn_r _ [8, 3, 1, 9, 2, 10, 11, 12, 13, 14, 15, 16, 17, 18, 19, 20, 21, 22, 23, 24, 25, 26, 27, 28, 29, 30, 31, 32, 33, 34, 35, 36, 37, 38, 7, 39, 40, 41, 42, 43, 44, 45, 46, 47, 48, 49, 50, 51, 52, 53, 125, 126, 127, 128, 129, 130, 131, 132, 133, 134, 135, 136, 137, 138, 139, 140, 141, 142, 143, 144, 145, 146, 147, 148, 149, 150, 151, 152, 153, 154, 155, 156, 157, 158, 159, 160, 161, 162, 163, 164, 165] (by decide +kernel) (by decide +kernel)
set_option maxRecDepth 20000 in
theorem gX3_breakRings_X3_drawWaits : GoodIn wsX3_breakRings (wsV RX3 271 RX3 yX3_drawWaits wsX3_drawWaits) := goodIn_app (goodIn_of _ (by decide +kernel)) ggX3_breakRings_X3_drawWaits
set_option maxRecDepth 20000 in
theorem ggX3_breakRings_X3_lastBegunInRing : GoodIn wsX3_breakRings wsX3_lastBegunInRing := goodIn_r _ [57, 3, 1, 2, 58, 59, 60, 18, 61, 25, 62, 24, 63, 64, 65, 66, 67, 68, 69, 70, 71, 72, 73, 7, 74, 9, 75, 125, 126, 127, 128, 129, 130, 131, 132, 133, 134, 135, 136, 137, 138, 139, 140, 141, 142, 163, 164, 165, 143, 144, 145, 146, 147, 148, 149, 150, 151, 152, 153, 154, 155, 156, 157, 158, 159, 160, 161, 162] (by decide +kernel) (by decide +kernel)
set_option maxRecDepth 20000 in
theorem gX3_breakRings_X3_lastBegunInRing : GoodIn wsX3_breakRings (wsV RX3 274 RX3 yX3_lastBegunInRing wsX3_lastBegunInRing) := goodIn_app (goodIn_of _ (by decide +kernel)) ggX3_breakRings_X3_lastBegunInRing
set_option maxRecDepth 20000 in
theorem ggX3_breakRings_X3_undoInRing : GoodIn wsX3_breakRings wsX3_undoInRing := goodIn_r _ [79, 9, 80, 12, 81, 82, 83, 84, 33, 85, 86, 87, 88, 89, 90, 91, 92, 93, 94, 95, 96, 97, 98, 99, 28, 100, 101, 102, 103, 104, 105, 106, 107, 108, 109, 110, 111, 112, 113, 114, 115, 116, 117, 118, 119, 21, 22, 23, 120, 64, 65, 66, 125, 126, 127, 128, 129, 130, 131, 132, 133, 134, 135, 136, 137, 138, 139, 140, 141, 142, 143, 144, 145, 146, 147, 148, 149, 150, 151, 152, 153, 154, 155, 156, 157, 158, 159, 160, 161, 162, 166, 167, 168] (by decide +kernel) (by decide +kernel)
set_option maxRecDepth 20000 in
theorem gX3_breakRings_X3_undoInRing : GoodIn wsX3_breakRings (wsV RX3 278 RX3 yX3_undoInRing wsX3_undoInRing) := goodIn_app (goodIn_of _ (by decide +kernel)) ggX3_breakRings_X3_undoInRing
set_option maxRecDepth 20000 in
theorem ggX3_breakRings_X2_remove : GoodIn wsX3_breakRings wsX2_remove := goodIn_r _ [124, 25, 163, 164, 165] (by decide +kernel) (by decide +kernel)
set_option maxRecDepth 20000 in
theorem gX3_breakRings_X2_remove : GoodIn wsX3_breakRings (wsV RX3 281 RX2 yX2_remove wsX2_remove) := goodIn_app (goodIn_of _ (by decide +kernel)) ggX3_breakRings_X2_remove
theorem dX3_breakRings_0 : decode cX3_breakRings 0 = .ok (.aload_n 0, 1) := by decide +kernel
theorem dX3_breakRings_1 : decode cX3_breakRings 1 = .ok (.invokevirtual 271, 3) := by decide +kernel
theorem dX3_breakRings_4 : decode cX3_breakRings 4 = .ok (.ifCond .ne 4, 3) := by decide +kernel
theorem dX3_breakRings_7 : decode cX3_breakRings 7 = .ok (.return_, 1) := by decide +kernel
theorem dX3_breakRings_8 : decode cX3_breakRings 8 = .ok (.iconst 0, 1) := by decide +kernel
theorem dX3_breakRings_9 : decode cX3_breakRings 9 = .ok (.istore_n 1, 1) := by decide +kernel
theorem dX3_breakRings_10 : decode cX3_breakRings 10 = .ok (.iload_n 1, 1) := by decide +kernel
theorem dX3_breakRings_11 : decode cX3_breakRings 11 = .ok (.aload_n 0, 1) := by decide +kernel
theorem dX3_breakRings_12 : decode cX3_breakRings 12 = .ok (.getfield 194, 3) := by decide +kernel
theorem dX3_breakRings_15 : decode cX3_breakRings 15 = .ok (.if_icmp .ge 38, 3) := by decide +kernel
theorem dX3_breakRings_18 : decode cX3_breakRings 18 = .ok (.aload_n 0, 1) := by decide +kernel
theorem dX3_breakRings_19 : decode cX3_breakRings 19 = .ok (.invokevirtual 274, 3) := by decide +kernel
theorem dX3_breakRings_22 : decode cX3_breakRings 22 = .ok (.istore_n 2, 1) := by decide +kernel
theorem dX3_breakRings_23 : decode cX3_breakRings 23 = .ok (.iload_n 2, 1) := by decide +kernel
theorem dX3_breakRings_24 : decode cX3_breakRings 24 = .ok (.iconst (-1), 1) := by decide +kernel
theorem dX3_breakRings_25 : decode cX3_breakRings 25 = .ok (.if_icmp .ne 4, 3) := by decide +kernel
theorem dX3_breakRings_28 : decode cX3_breakRings 28 = .ok (.return_, 1) := by decide +kernel
theorem dX3_breakRings_29 : decode cX3_breakRings 29 = .ok (.aload_n 0, 1) := by decide +kernel
theorem dX3_breakRings_30 : decode cX3_breakRings 30 = .ok (.aload_n 0, 1) := by decide +kernel
theorem dX3_breakRings_31 : decode cX3_breakRings 31 = .ok (.getfield 37, 3) := by decide +kernel
theorem dX3_breakRings_34 : decode cX3_breakRings 34 = .ok (.iload_n 2, 1) := by decide +kernel
theorem dX3_breakRings_35 : decode cX3_breakRings 35 = .ok (.iaload, 1) := by decide +kernel
theorem dX3_breakRings_36 : decode cX3_breakRings 36 = .ok (.invokevirtual 278, 3) := by decide +kernel
theorem dX3_breakRings_39 : decode cX3_breakRings 39 = .ok (.aload_n 0, 1) := by decide +kernel
theorem dX3_breakRings_40 : decode cX3_breakRings 40 = .ok (.getfield 53, 3) := by decide +kernel
theorem dX3_breakRings_43 : decode cX3_breakRings 43 = .ok (.iload_n 2, 1) := by decide +kernel
theorem dX3_breakRings_44 : decode cX3_breakRings 44 = .ok (.invokevirtual 281, 3) := by decide +kernel
theorem dX3_breakRings_47 : decode cX3_breakRings 47 = .ok (.iinc 1 1, 3) := by decide +kernel
theorem dX3_breakRings_50 : decode cX3_breakRings 50 = .ok (.goto (-40), 3) := by decide +kernel
theorem dX3_breakRings_53 : decode cX3_breakRings 53 = .ok (.return_, 1) := by decide +kernel
set_option maxRecDepth 20000 in
theorem ggX3_drawWaits_X2_clear : GoodIn wsX3_drawWaits wsX2_clear := goodIn_r _ [14, 15, 16, 17, 18, 19, 20, 21, 22, 23, 24, 88, 89, 90] (by decide +kernel) (by decide +kernel)
set_option maxRecDepth 20000 in
theorem gX3_drawWaits_X2_clear : GoodIn wsX3_drawWaits (wsV RX3 284 RX2 yX2_clear wsX2_clear) := goodIn_app (goodIn_of _ (by decide +kernel)) ggX3_drawWaits_X2_clear
set_option maxRecDepth 20000 in
theorem ggX3_drawWaits_X0_hasStep : GoodIn wsX3_drawWaits wsX0_hasStep := goodIn_r _ [29, 30, 31, 68, 69, 70, 71, 72, 73, 74, 75, 76, 77, 78, 79, 80, 81, 82, 83, 84, 85, 86, 87] (by decide +kernel) (by decide +kernel)
set_option maxRecDepth 20000 in
theorem gX3_drawWaits_X0_hasStep : GoodIn wsX3_drawWaits (wsV RX3 200 RX0 yX0_hasStep wsX0_hasStep) := goodIn_app (goodIn_of _ (by decide +kernel)) ggX3_drawWaits_X0_hasStep
set_option maxRecDepth 20000 in
theorem ggX3_drawWaits_X3_usesCell : GoodIn wsX3_drawWaits wsX3_usesCell := goodIn_r _ [35, 36, 37, 34, 38] (by decide +kernel) (by decide +kernel)
set_option maxRecDepth 20000 in
theorem gX3_drawWaits_X3_usesCell : GoodIn wsX3_drawWaits (va_wsS RX3 222 yX3_usesCell wsX3_usesCell) := goodIn_app (goodIn_of _ (by decide +kernel)) ggX3_drawWaits_X3_usesCell
set_option maxRecDepth 20000 in
theorem ggX3_drawWaits_X3_blocks : GoodIn wsX3_drawWaits wsX3_blocks := goodIn_r _ [41, 5, 42, 43, 44, 34, 45, 36, 37, 38, 68, 69, 70, 71, 72, 73, 74, 75, 76, 77, 78, 79, 80, 81, 82, 83, 84, 85, 86, 87] (by decide +kernel) (by decide +kernel)
set_option maxRecDepth 20000 in
theorem gX3_drawWaits_X3_blocks : GoodIn wsX3_drawWaits (va_wsS RX3 225 yX3_blocks wsX3_blocks) := goodIn_app (goodIn_of _ (by decide +kernel)) ggX3_drawWaits_X3_blocks
set_option maxRecDepth 20000 in
theorem ggX3_drawWaits_X2_add : GoodIn wsX3_drawWaits wsX2_add := goodIn_r _ [49, 20, 88, 89, 90] (by decide +kernel) (by decide +kernel)
set_option maxRecDepth 20000 in
theorem gX3_drawWaits_X2_add : GoodIn wsX3_drawWaits (wsV RX3 287 RX2 yX2_add wsX2_add) := goodIn_app (goodIn_of _ (by decide +kernel)) ggX3_drawWaits_X2_add
theorem dX3_drawWaits_0 : decode cX3_drawWaits 0 = .ok (.aload_n 0, 1) := by decide +kernel
theorem dX3_drawWaits_1 : decode cX3_drawWaits 1 = .ok (.getfield 53, 3) := by decide +kernel
theorem dX3_drawWaits_4 : decode cX3_drawWaits 4 = .ok (.aload_n 0, 1) := by decide +kernel
theorem dX3_drawWaits_5 : decode cX3_drawWaits 5 = .ok (.getfield 194, 3) := by decide +kernel
theorem dX3_drawWaits_8 : decode cX3_drawWaits 8 = .ok (.invokevirtual 284, 3) := by decide +kernel
theorem dX3_drawWaits_11 : decode cX3_drawWaits 11 = .ok (.iconst 0, 1) := by decide +kernel
theorem dX3_drawWaits_12 : decode cX3_drawWaits 12 = .ok (.istore_n 1, 1) := by decide +kernel
theorem dX3_drawWaits_13 : decode cX3_drawWaits 13 = .ok (.iconst 0, 1) := by decide +kernel
theorem dX3_drawWaits_14 : decode cX3_drawWaits 14 = .ok (.istore_n 2, 1) := by decide +kernel
theorem dX3_drawWaits_15 : decode cX3_drawWaits 15 = .ok (.iload_n 2, 1) := by decide +kernel
theorem dX3_drawWaits_16 : decode cX3_drawWaits 16 = .ok (.aload_n 0, 1) := by decide +kernel
theorem dX3_drawWaits_17 : decode cX3_drawWaits 17 = .ok (.getfield 194, 3) := by decide +kernel
theorem dX3_drawWaits_20 : decode cX3_drawWaits 20 = .ok (.if_icmp .ge 128, 3) := by decide +kernel
theorem dX3_drawWaits_23 : decode cX3_drawWaits 23 = .ok (.aload_n 0, 1) := by decide +kernel
theorem dX3_drawWaits_24 : decode cX3_drawWaits 24 = .ok (.getfield 27, 3) := by decide +kernel
theorem dX3_drawWaits_27 : decode cX3_drawWaits 27 = .ok (.aload_n 0, 1) := by decide +kernel
theorem dX3_drawWaits_28 : decode cX3_drawWaits 28 = .ok (.getfield 37, 3) := by decide +kernel
theorem dX3_drawWaits_31 : decode cX3_drawWaits 31 = .ok (.iload_n 2, 1) := by decide +kernel
theorem dX3_drawWaits_32 : decode cX3_drawWaits 32 = .ok (.iaload, 1) := by decide +kernel
theorem dX3_drawWaits_33 : decode cX3_drawWaits 33 = .ok (.aaload, 1) := by decide +kernel
theorem dX3_drawWaits_34 : decode cX3_drawWaits 34 = .ok (.astore_n 3, 1) := by decide +kernel
theorem dX3_drawWaits_35 : decode cX3_drawWaits 35 = .ok (.aload_n 3, 1) := by decide +kernel
theorem dX3_drawWaits_36 : decode cX3_drawWaits 36 = .ok (.getfield 117, 3) := by decide +kernel
theorem dX3_drawWaits_39 : decode cX3_drawWaits 39 = .ok (.iconst 1, 1) := by decide +kernel
theorem dX3_drawWaits_40 : decode cX3_drawWaits 40 = .ok (.if_icmp .ne 102, 3) := by decide +kernel
theorem dX3_drawWaits_43 : decode cX3_drawWaits 43 = .ok (.aload_n 3, 1) := by decide +kernel
theorem dX3_drawWaits_44 : decode cX3_drawWaits 44 = .ok (.getfield 132, 3) := by decide +kernel
theorem dX3_drawWaits_47 : decode cX3_drawWaits 47 = .ok (.aload_n 0, 1) := by decide +kernel
theorem dX3_drawWaits_48 : decode cX3_drawWaits 48 = .ok (.getfield 79, 3) := by decide +kernel
theorem dX3_drawWaits_51 : decode cX3_drawWaits 51 = .ok (.if_icmp .ne 91, 3) := by decide +kernel
theorem dX3_drawWaits_54 : decode cX3_drawWaits 54 = .ok (.aload_n 3, 1) := by decide +kernel
theorem dX3_drawWaits_55 : decode cX3_drawWaits 55 = .ok (.invokevirtual 200, 3) := by decide +kernel
theorem dX3_drawWaits_58 : decode cX3_drawWaits 58 = .ok (.ifCond .eq 84, 3) := by decide +kernel
theorem dX3_drawWaits_61 : decode cX3_drawWaits 61 = .ok (.aload_n 3, 1) := by decide +kernel
theorem dX3_drawWaits_62 : decode cX3_drawWaits 62 = .ok (.getfield 204, 3) := by decide +kernel
theorem dX3_drawWaits_65 : decode cX3_drawWaits 65 = .ok (.aload_n 3, 1) := by decide +kernel
theorem dX3_drawWaits_66 : decode cX3_drawWaits 66 = .ok (.getfield 129, 3) := by decide +kernel
theorem dX3_drawWaits_69 : decode cX3_drawWaits 69 = .ok (.iaload, 1) := by decide +kernel
theorem dX3_drawWaits_70 : decode cX3_drawWaits 70 = .ok (.invokestatic 222, 3) := by decide +kernel
theorem dX3_drawWaits_73 : decode cX3_drawWaits 73 = .ok (.ifCond .ne 6, 3) := by decide +kernel
theorem dX3_drawWaits_76 : decode cX3_drawWaits 76 = .ok (.goto 66, 3) := by decide +kernel
theorem dX3_drawWaits_79 : decode cX3_drawWaits 79 = .ok (.iconst 0, 1) := by decide +kernel
theorem dX3_drawWaits_80 : decode cX3_drawWaits 80 = .ok (.istore 4, 2) := by decide +kernel
theorem dX3_drawWaits_82 : decode cX3_drawWaits 82 = .ok (.iload 4, 2) := by decide +kernel
theorem dX3_drawWaits_84 : decode cX3_drawWaits 84 = .ok (.aload_n 0, 1) := by decide +kernel
theorem dX3_drawWaits_85 : decode cX3_drawWaits 85 = .ok (.getfield 194, 3) := by decide +kernel
theorem dX3_drawWaits_88 : decode cX3_drawWaits 88 = .ok (.if_icmp .ge 54, 3) := by decide +kernel
theorem dX3_drawWaits_91 : decode cX3_drawWaits 91 = .ok (.iload 4, 2) := by decide +kernel
theorem dX3_drawWaits_93 : decode cX3_drawWaits 93 = .ok (.iload_n 2, 1) := by decide +kernel
theorem dX3_drawWaits_94 : decode cX3_drawWaits 94 = .ok (.if_icmp .eq 42, 3) := by decide +kernel
theorem dX3_drawWaits_97 : decode cX3_drawWaits 97 = .ok (.aload_n 0, 1) := by decide +kernel
theorem dX3_drawWaits_98 : decode cX3_drawWaits 98 = .ok (.getfield 27, 3) := by decide +kernel
theorem dX3_drawWaits_101 : decode cX3_drawWaits 101 = .ok (.aload_n 0, 1) := by decide +kernel
theorem dX3_drawWaits_102 : decode cX3_drawWaits 102 = .ok (.getfield 37, 3) := by decide +kernel
theorem dX3_drawWaits_105 : decode cX3_drawWaits 105 = .ok (.iload 4, 2) := by decide +kernel
theorem dX3_drawWaits_107 : decode cX3_drawWaits 107 = .ok (.iaload, 1) := by decide +kernel
theorem dX3_drawWaits_108 : decode cX3_drawWaits 108 = .ok (.aaload, 1) := by decide +kernel
theorem dX3_drawWaits_109 : decode cX3_drawWaits 109 = .ok (.aload_n 3, 1) := by decide +kernel
theorem dX3_drawWaits_110 : decode cX3_drawWaits 110 = .ok (.getfield 204, 3) := by decide +kernel
theorem dX3_drawWaits_113 : decode cX3_drawWaits 113 = .ok (.aload_n 3, 1) := by decide +kernel
theorem dX3_drawWaits_114 : decode cX3_drawWaits 114 = .ok (.getfield 129, 3) := by decide +kernel
theorem dX3_drawWaits_117 : decode cX3_drawWaits 117 = .ok (.iaload, 1) := by decide +kernel
theorem dX3_drawWaits_118 : decode cX3_drawWaits 118 = .ok (.invokestatic 225, 3) := by decide +kernel
theorem dX3_drawWaits_121 : decode cX3_drawWaits 121 = .ok (.ifCond .eq 15, 3) := by decide +kernel
theorem dX3_drawWaits_124 : decode cX3_drawWaits 124 = .ok (.aload_n 0, 1) := by decide +kernel
theorem dX3_drawWaits_125 : decode cX3_drawWaits 125 = .ok (.getfield 53, 3) := by decide +kernel
theorem dX3_drawWaits_128 : decode cX3_drawWaits 128 = .ok (.iload_n 2, 1) := by decide +kernel
theorem dX3_drawWaits_129 : decode cX3_drawWaits 129 = .ok (.iload 4, 2) := by decide +kernel
theorem dX3_drawWaits_131 : decode cX3_drawWaits 131 = .ok (.invokevirtual 287, 3) := by decide +kernel
theorem dX3_drawWaits_134 : decode cX3_drawWaits 134 = .ok (.iconst 1, 1) := by decide +kernel
theorem dX3_drawWaits_135 : decode cX3_drawWaits 135 = .ok (.istore_n 1, 1) := by decide +kernel
theorem dX3_drawWaits_136 : decode cX3_drawWaits 136 = .ok (.iinc 4 1, 3) := by decide +kernel
theorem dX3_drawWaits_139 : decode cX3_drawWaits 139 = .ok (.goto (-57), 3) := by decide +kernel
theorem dX3_drawWaits_142 : decode cX3_drawWaits 142 = .ok (.iinc 2 1, 3) := by decide +kernel
theorem dX3_drawWaits_145 : decode cX3_drawWaits 145 = .ok (.goto (-130), 3) := by decide +kernel
