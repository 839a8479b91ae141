theorem inlX0 : ∀ w ∈ wsX00, w ∈ wsL_law := fun _ h => List.mem_append_left _ (List.mem_append_right _ h)
theorem inX0 : ∀ w ∈ wsX00, w ∈ lw_tbl := fun w h => wsL_law_in w (inlX0 w h)
theorem inlX1 : ∀ w ∈ wsX10, w ∈ wsL_law := fun _ h => List.mem_append_left _ (List.mem_append_left _ (List.mem_append_left _ (List.mem_append_right _ h)))
theorem inX1 : ∀ w ∈ wsX10, w ∈ lw_tbl := fun w h => wsL_law_in w (inlX1 w h)
theorem inlX2 : ∀ w ∈ wsX20, w ∈ wsL_law := fun _ h => List.mem_append_left _ (List.mem_append_left _ (List.mem_append_right _ h))
theorem inX2 : ∀ w ∈ wsX20, w ∈ lw_tbl := fun w h => wsL_law_in w (inlX2 w h)
theorem inlX3 : ∀ w ∈ wsX30, w ∈ wsL_law := fun _ h => List.mem_append_left _ (List.mem_append_left _ (List.mem_append_left _ (List.mem_append_left _ (List.mem_append_left _ (List.mem_append_right _ h)))))
theorem inX3 : ∀ w ∈ wsX30, w ∈ lw_tbl := fun w h => wsL_law_in w (inlX3 w h)
theorem inlX4 : ∀ w ∈ wsX40, w ∈ wsL_law := fun _ h => List.mem_append_left _ (List.mem_append_left _ (List.mem_append_left _ (List.mem_append_left _ (List.mem_append_right _ h))))
theorem inX4 : ∀ w ∈ wsX40, w ∈ lw_tbl := fun w h => wsL_law_in w (inlX4 w h)
theorem inJx8e188 : ∀ w ∈ wsJx8e1880, w ∈ lw_tbl := by decide +kernel
theorem inJ9 : ∀ w ∈ wsJ90, w ∈ lw_tbl := by decide +kernel
theorem inJ10 : ∀ w ∈ wsJ100, w ∈ lw_tbl := by decide +kernel
theorem inJ7 : ∀ w ∈ wsJ70, w ∈ lw_tbl := by decide +kernel
theorem dX0_init_0 : decode cX0_init 0 = .ok (.aload_n 0, 1) := by decide +kernel
theorem dX0_init_1 : decode cX0_init 1 = .ok (.invokespecial 3, 3) := by decide +kernel
theorem dX0_init_4 : decode cX0_init 4 = .ok (.aload_n 0, 1) := by decide +kernel
theorem dX0_init_5 : decode cX0_init 5 = .ok (.bipush 12, 2) := by decide +kernel
theorem dX0_init_7 : decode cX0_init 7 = .ok (.newarray .int, 2) := by decide +kernel
theorem dX0_init_9 : decode cX0_init 9 = .ok (.putfield 9, 3) := by decide +kernel
theorem dX0_init_12 : decode cX0_init 12 = .ok (.aload_n 0, 1) := by decide +kernel
theorem dX0_init_13 : decode cX0_init 13 = .ok (.bipush 24, 2) := by decide +kernel
theorem dX0_init_15 : decode cX0_init 15 = .ok (.newarray .int, 2) := by decide +kernel
theorem dX0_init_17 : decode cX0_init 17 = .ok (.putfield 15, 3) := by decide +kernel
theorem dX0_init_20 : decode cX0_init 20 = .ok (.aload_n 0, 1) := by decide +kernel
theorem dX0_init_21 : decode cX0_init 21 = .ok (.bipush 24, 2) := by decide +kernel
theorem dX0_init_23 : decode cX0_init 23 = .ok (.newarray .int, 2) := by decide +kernel
theorem dX0_init_25 : decode cX0_init 25 = .ok (.putfield 18, 3) := by decide +kernel
theorem dX0_init_28 : decode cX0_init 28 = .ok (.aload_n 0, 1) := by decide +kernel
theorem dX0_init_29 : decode cX0_init 29 = .ok (.bipush 8, 2) := by decide +kernel
theorem dX0_init_31 : decode cX0_init 31 = .ok (.newarray .int, 2) := by decide +kernel
theorem dX0_init_33 : decode cX0_init 33 = .ok (.putfield 21, 3) := by decide +kernel
theorem dX0_init_36 : decode cX0_init 36 = .ok (.aload_n 0, 1) := by decide +kernel
theorem dX0_init_37 : decode cX0_init 37 = .ok (.bipush 8, 2) := by decide +kernel
theorem dX0_init_39 : decode cX0_init 39 = .ok (.newarray .int, 2) := by decide +kernel
theorem dX0_init_41 : decode cX0_init 41 = .ok (.putfield 24, 3) := by decide +kernel
theorem dX0_init_44 : decode cX0_init 44 = .ok (.aload_n 0, 1) := by decide +kernel
theorem dX0_init_45 : decode cX0_init 45 = .ok (.bipush 12, 2) := by decide +kernel
theorem dX0_init_47 : decode cX0_init 47 = .ok (.newarray .int, 2) := by decide +kernel
theorem dX0_init_49 : decode cX0_init 49 = .ok (.putfield 27, 3) := by decide +kernel
theorem dX0_init_52 : decode cX0_init 52 = .ok (.aload_n 0, 1) := by decide +kernel
theorem dX0_init_53 : decode cX0_init 53 = .ok (.iconst 0, 1) := by decide +kernel
theorem dX0_init_54 : decode cX0_init 54 = .ok (.putfield 30, 3) := by decide +kernel
theorem dX0_init_57 : decode cX0_init 57 = .ok (.aload_n 0, 1) := by decide +kernel
theorem dX0_init_58 : decode cX0_init 58 = .ok (.iconst (-1), 1) := by decide +kernel
theorem dX0_init_59 : decode cX0_init 59 = .ok (.putfield 34, 3) := by decide +kernel
theorem dX0_init_62 : decode cX0_init 62 = .ok (.aload_n 0, 1) := by decide +kernel
theorem dX0_init_63 : decode cX0_init 63 = .ok (.iconst (-1), 1) := by decide +kernel
theorem dX0_init_64 : decode cX0_init 64 = .ok (.putfield 37, 3) := by decide +kernel
theorem dX0_init_67 : decode cX0_init 67 = .ok (.aload_n 0, 1) := by decide +kernel
theorem dX0_init_68 : decode cX0_init 68 = .ok (.iconst (-1), 1) := by decide +kernel
theorem dX0_init_69 : decode cX0_init 69 = .ok (.putfield 40, 3) := by decide +kernel
theorem dX0_init_72 : decode cX0_init 72 = .ok (.aload_n 0, 1) := by decide +kernel
theorem dX0_init_73 : decode cX0_init 73 = .ok (.iconst (-1), 1) := by decide +kernel
theorem dX0_init_74 : decode cX0_init 74 = .ok (.putfield 43, 3) := by decide +kernel
theorem dX0_init_77 : decode cX0_init 77 = .ok (.aload_n 0, 1) := by decide +kernel
theorem dX0_init_78 : decode cX0_init 78 = .ok (.iload_n 1, 1) := by decide +kernel
theorem dX0_init_79 : decode cX0_init 79 = .ok (.putfield 46, 3) := by decide +kernel
theorem dX0_init_82 : decode cX0_init 82 = .ok (.aload_n 0, 1) := by decide +kernel
theorem dX0_init_83 : decode cX0_init 83 = .ok (.iload_n 2, 1) := by decide +kernel
theorem dX0_init_84 : decode cX0_init 84 = .ok (.putfield 49, 3) := by decide +kernel
theorem dX0_init_87 : decode cX0_init 87 = .ok (.aload_n 0, 1) := by decide +kernel
theorem dX0_init_88 : decode cX0_init 88 = .ok (.iload_n 3, 1) := by decide +kernel
theorem dX0_init_89 : decode cX0_init 89 = .ok (.putfield 52, 3) := by decide +kernel
theorem dX0_init_92 : decode cX0_init 92 = .ok (.aload_n 0, 1) := by decide +kernel
theorem dX0_init_93 : decode cX0_init 93 = .ok (.iload 4, 2) := by decide +kernel
theorem dX0_init_95 : decode cX0_init 95 = .ok (.putfield 55, 3) := by decide +kernel
theorem dX0_init_98 : decode cX0_init 98 = .ok (.return_, 1) := by decide +kernel
theorem dX0_begin_0 : decode cX0_begin 0 = .ok (.aload_n 1, 1) := by decide +kernel
theorem dX0_begin_1 : decode cX0_begin 1 = .ok (.aload_n 0, 1) := by decide +kernel
theorem dX0_begin_2 : decode cX0_begin 2 = .ok (.getfield 46, 3) := by decide +kernel
theorem dX0_begin_5 : decode cX0_begin 5 = .ok (.bipush 12, 2) := by decide +kernel
theorem dX0_begin_7 : decode cX0_begin 7 = .ok (.imul, 1) := by decide +kernel
theorem dX0_begin_8 : decode cX0_begin 8 = .ok (.aload_n 0, 1) := by decide +kernel
theorem dX0_begin_9 : decode cX0_begin 9 = .ok (.getfield 9, 3) := by decide +kernel
theorem dX0_begin_12 : decode cX0_begin 12 = .ok (.iconst 0, 1) := by decide +kernel
theorem dX0_begin_13 : decode cX0_begin 13 = .ok (.iload_n 2, 1) := by decide +kernel
theorem dX0_begin_14 : decode cX0_begin 14 = .ok (.invokestatic 58, 3) := by decide +kernel
theorem dX0_begin_17 : decode cX0_begin 17 = .ok (.aload_n 0, 1) := by decide +kernel
theorem dX0_begin_18 : decode cX0_begin 18 = .ok (.iload_n 2, 1) := by decide +kernel
theorem dX0_begin_19 : decode cX0_begin 19 = .ok (.putfield 64, 3) := by decide +kernel
theorem dX0_begin_22 : decode cX0_begin 22 = .ok (.aload_n 0, 1) := by decide +kernel
theorem dX0_begin_23 : decode cX0_begin 23 = .ok (.iconst 1, 1) := by decide +kernel
theorem dX0_begin_24 : decode cX0_begin 24 = .ok (.putfield 30, 3) := by decide +kernel
theorem dX0_begin_27 : decode cX0_begin 27 = .ok (.aload_n 0, 1) := by decide +kernel
theorem dX0_begin_28 : decode cX0_begin 28 = .ok (.iconst 0, 1) := by decide +kernel
theorem dX0_begin_29 : decode cX0_begin 29 = .ok (.putfield 67, 3) := by decide +kernel
theorem dX0_begin_32 : decode cX0_begin 32 = .ok (.aload_n 0, 1) := by decide +kernel
theorem dX0_begin_33 : decode cX0_begin 33 = .ok (.iconst 0, 1) := by decide +kernel
theorem dX0_begin_34 : decode cX0_begin 34 = .ok (.putfield 70, 3) := by decide +kernel
theorem dX0_begin_37 : decode cX0_begin 37 = .ok (.aload_n 0, 1) := by decide +kernel
theorem dX0_begin_38 : decode cX0_begin 38 = .ok (.iload_n 3, 1) := by decide +kernel
theorem dX0_begin_39 : decode cX0_begin 39 = .ok (.putfield 37, 3) := by decide +kernel
theorem dX0_begin_42 : decode cX0_begin 42 = .ok (.return_, 1) := by decide +kernel
theorem dX0_hasStep_0 : decode cX0_hasStep 0 = .ok (.aload_n 0, 1) := by decide +kernel
theorem dX0_hasStep_1 : decode cX0_hasStep 1 = .ok (.getfield 70, 3) := by decide +kernel
theorem dX0_hasStep_4 : decode cX0_hasStep 4 = .ok (.ifCond .lt 18, 3) := by decide +kernel
theorem dX0_hasStep_7 : decode cX0_hasStep 7 = .ok (.aload_n 0, 1) := by decide +kernel
theorem dX0_hasStep_8 : decode cX0_hasStep 8 = .ok (.getfield 70, 3) := by decide +kernel
theorem dX0_hasStep_11 : decode cX0_hasStep 11 = .ok (.aload_n 0, 1) := by decide +kernel
theorem dX0_hasStep_12 : decode cX0_hasStep 12 = .ok (.getfield 64, 3) := by decide +kernel
theorem dX0_hasStep_15 : decode cX0_hasStep 15 = .ok (.if_icmp .ge 7, 3) := by decide +kernel
theorem dX0_hasStep_18 : decode cX0_hasStep 18 = .ok (.iconst 1, 1) := by decide +kernel
theorem dX0_hasStep_19 : decode cX0_hasStep 19 = .ok (.goto 4, 3) := by decide +kernel
theorem dX0_hasStep_22 : decode cX0_hasStep 22 = .ok (.iconst 0, 1) := by decide +kernel
theorem dX0_hasStep_23 : decode cX0_hasStep 23 = .ok (.ireturn, 1) := by decide +kernel
theorem dX0_load_0 : decode cX0_load 0 = .ok (.iload_n 1, 1) := by decide +kernel
theorem dX0_load_1 : decode cX0_load 1 = .ok (.ldc 73, 2) := by decide +kernel
theorem dX0_load_3 : decode cX0_load 3 = .ok (.if_icmp .gt 9, 3) := by decide +kernel
theorem dX0_load_6 : decode cX0_load 6 = .ok (.iload_n 1, 1) := by decide +kernel
theorem dX0_load_7 : decode cX0_load 7 = .ok (.ldc 74, 2) := by decide +kernel
theorem dX0_load_9 : decode cX0_load 9 = .ok (.if_icmp .ge 5, 3) := by decide +kernel
theorem dX0_load_12 : decode cX0_load 12 = .ok (.iconst 0, 1) := by decide +kernel
theorem dX0_load_13 : decode cX0_load 13 = .ok (.ireturn, 1) := by decide +kernel
theorem dX0_load_14 : decode cX0_load 14 = .ok (.aload_n 0, 1) := by decide +kernel
theorem dX0_load_15 : decode cX0_load 15 = .ok (.iload_n 1, 1) := by decide +kernel
theorem dX0_load_16 : decode cX0_load 16 = .ok (.putfield 67, 3) := by decide +kernel
theorem dX0_load_19 : decode cX0_load 19 = .ok (.iconst 1, 1) := by decide +kernel
theorem dX0_load_20 : decode cX0_load 20 = .ok (.ireturn, 1) := by decide +kernel
theorem dX0_lockToRead_0 : decode cX0_lockToRead 0 = .ok (.aload_n 0, 1) := by decide +kernel
theorem dX0_lockToRead_1 : decode cX0_lockToRead 1 = .ok (.getfield 15, 3) := by decide +kernel
theorem dX0_lockToRead_4 : decode cX0_lockToRead 4 = .ok (.iload_n 1, 1) := by decide +kernel
theorem dX0_lockToRead_5 : decode cX0_lockToRead 5 = .ok (.iaload, 1) := by decide +kernel
theorem dX0_lockToRead_6 : decode cX0_lockToRead 6 = .ok (.ifCond .ne 10, 3) := by decide +kernel
theorem dX0_lockToRead_9 : decode cX0_lockToRead 9 = .ok (.aload_n 0, 1) := by decide +kernel
theorem dX0_lockToRead_10 : decode cX0_lockToRead 10 = .ok (.getfield 15, 3) := by decide +kernel
theorem dX0_lockToRead_13 : decode cX0_lockToRead 13 = .ok (.iload_n 1, 1) := by decide +kernel
theorem dX0_lockToRead_14 : decode cX0_lockToRead 14 = .ok (.iconst 1, 1) := by decide +kernel
theorem dX0_lockToRead_15 : decode cX0_lockToRead 15 = .ok (.iastore, 1) := by decide +kernel
theorem dX0_lockToRead_16 : decode cX0_lockToRead 16 = .ok (.return_, 1) := by decide +kernel
theorem dX0_put_0 : decode cX0_put 0 = .ok (.aload_n 0, 1) := by decide +kernel
theorem dX0_put_1 : decode cX0_put 1 = .ok (.getfield 15, 3) := by decide +kernel
theorem dX0_put_4 : decode cX0_put 4 = .ok (.iload_n 1, 1) := by decide +kernel
theorem dX0_put_5 : decode cX0_put 5 = .ok (.iconst 2, 1) := by decide +kernel
theorem dX0_put_6 : decode cX0_put 6 = .ok (.iastore, 1) := by decide +kernel
theorem dX0_put_7 : decode cX0_put 7 = .ok (.aload_n 0, 1) := by decide +kernel
theorem dX0_put_8 : decode cX0_put 8 = .ok (.getfield 18, 3) := by decide +kernel
theorem dX0_put_11 : decode cX0_put 11 = .ok (.iload_n 1, 1) := by decide +kernel
theorem dX0_put_12 : decode cX0_put 12 = .ok (.aload_n 0, 1) := by decide +kernel
theorem dX0_put_13 : decode cX0_put 13 = .ok (.getfield 67, 3) := by decide +kernel
theorem dX0_put_16 : decode cX0_put 16 = .ok (.iastore, 1) := by decide +kernel
theorem dX0_put_17 : decode cX0_put 17 = .ok (.return_, 1) := by decide +kernel
theorem dX0_give_0 : decode cX0_give 0 = .ok (.aload_n 0, 1) := by decide +kernel
theorem dX0_give_1 : decode cX0_give 1 = .ok (.getfield 21, 3) := by decide +kernel
theorem dX0_give_4 : decode cX0_give 4 = .ok (.iload_n 1, 1) := by decide +kernel
theorem dX0_give_5 : decode cX0_give 5 = .ok (.dup2, 1) := by decide +kernel
theorem dX0_give_6 : decode cX0_give 6 = .ok (.iaload, 1) := by decide +kernel
theorem dX0_give_7 : decode cX0_give 7 = .ok (.iload_n 2, 1) := by decide +kernel
theorem dX0_give_8 : decode cX0_give 8 = .ok (.iadd, 1) := by decide +kernel
theorem dX0_give_9 : decode cX0_give 9 = .ok (.iastore, 1) := by decide +kernel
theorem dX0_give_10 : decode cX0_give 10 = .ok (.aload_n 0, 1) := by decide +kernel
theorem dX0_give_11 : decode cX0_give 11 = .ok (.getfield 24, 3) := by decide +kernel
theorem dX0_give_14 : decode cX0_give 14 = .ok (.iload_n 1, 1) := by decide +kernel
theorem dX0_give_15 : decode cX0_give 15 = .ok (.dup2, 1) := by decide +kernel
theorem dX0_give_16 : decode cX0_give 16 = .ok (.iaload, 1) := by decide +kernel
theorem dX0_give_17 : decode cX0_give 17 = .ok (.iload_n 2, 1) := by decide +kernel
theorem dX0_give_18 : decode cX0_give 18 = .ok (.iconst 0, 1) := by decide +kernel
theorem dX0_give_19 : decode cX0_give 19 = .ok (.invokestatic 75, 3) := by decide +kernel
theorem dX0_give_22 : decode cX0_give 22 = .ok (.iadd, 1) := by decide +kernel
theorem dX0_give_23 : decode cX0_give 23 = .ok (.iastore, 1) := by decide +kernel
theorem dX0_give_24 : decode cX0_give 24 = .ok (.return_, 1) := by decide +kernel
theorem dX0_enqueue_0 : decode cX0_enqueue 0 = .ok (.aload_n 0, 1) := by decide +kernel
theorem dX0_enqueue_1 : decode cX0_enqueue 1 = .ok (.getfield 81, 3) := by decide +kernel
theorem dX0_enqueue_4 : decode cX0_enqueue 4 = .ok (.bipush 12, 2) := by decide +kernel
theorem dX0_enqueue_6 : decode cX0_enqueue 6 = .ok (.if_icmp .ge 23, 3) := by decide +kernel
theorem dX0_enqueue_9 : decode cX0_enqueue 9 = .ok (.aload_n 0, 1) := by decide +kernel
theorem dX0_enqueue_10 : decode cX0_enqueue 10 = .ok (.getfield 27, 3) := by decide +kernel
theorem dX0_enqueue_13 : decode cX0_enqueue 13 = .ok (.aload_n 0, 1) := by decide +kernel
theorem dX0_enqueue_14 : decode cX0_enqueue 14 = .ok (.getfield 81, 3) := by decide +kernel
theorem dX0_enqueue_17 : decode cX0_enqueue 17 = .ok (.iload_n 1, 1) := by decide +kernel
theorem dX0_enqueue_18 : decode cX0_enqueue 18 = .ok (.iastore, 1) := by decide +kernel
theorem dX0_enqueue_19 : decode cX0_enqueue 19 = .ok (.aload_n 0, 1) := by decide +kernel
theorem dX0_enqueue_20 : decode cX0_enqueue 20 = .ok (.dup, 1) := by decide +kernel
theorem dX0_enqueue_21 : decode cX0_enqueue 21 = .ok (.getfield 81, 3) := by decide +kernel
theorem dX0_enqueue_24 : decode cX0_enqueue 24 = .ok (.iconst 1, 1) := by decide +kernel
theorem dX0_enqueue_25 : decode cX0_enqueue 25 = .ok (.iadd, 1) := by decide +kernel
theorem dX0_enqueue_26 : decode cX0_enqueue 26 = .ok (.putfield 81, 3) := by decide +kernel
theorem dX0_enqueue_29 : decode cX0_enqueue 29 = .ok (.return_, 1) := by decide +kernel
theorem dX0_valueAfter_0 : decode cX0_valueAfter 0 = .ok (.iload_n 1, 1) := by decide +kernel
theorem dX0_valueAfter_1 : decode cX0_valueAfter 1 = .ok (.bipush 24, 2) := by decide +kernel
theorem dX0_valueAfter_3 : decode cX0_valueAfter 3 = .ok (.if_icmp .ge 24, 3) := by decide +kernel
theorem dX0_valueAfter_6 : decode cX0_valueAfter 6 = .ok (.aload_n 0, 1) := by decide +kernel
theorem dX0_valueAfter_7 : decode cX0_valueAfter 7 = .ok (.getfield 15, 3) := by decide +kernel
theorem dX0_valueAfter_10 : decode cX0_valueAfter 10 = .ok (.iload_n 1, 1) := by decide +kernel
theorem dX0_valueAfter_11 : decode cX0_valueAfter 11 = .ok (.iaload, 1) := by decide +kernel
theorem dX0_valueAfter_12 : decode cX0_valueAfter 12 = .ok (.iconst 2, 1) := by decide +kernel
theorem dX0_valueAfter_13 : decode cX0_valueAfter 13 = .ok (.if_icmp .ne 12, 3) := by decide +kernel
theorem dX0_valueAfter_16 : decode cX0_valueAfter 16 = .ok (.aload_n 0, 1) := by decide +kernel
theorem dX0_valueAfter_17 : decode cX0_valueAfter 17 = .ok (.getfield 18, 3) := by decide +kernel
theorem dX0_valueAfter_20 : decode cX0_valueAfter 20 = .ok (.iload_n 1, 1) := by decide +kernel
theorem dX0_valueAfter_21 : decode cX0_valueAfter 21 = .ok (.iaload, 1) := by decide +kernel
theorem dX0_valueAfter_22 : decode cX0_valueAfter 22 = .ok (.goto 4, 3) := by decide +kernel
theorem dX0_valueAfter_25 : decode cX0_valueAfter 25 = .ok (.iload_n 2, 1) := by decide +kernel
theorem dX0_valueAfter_26 : decode cX0_valueAfter 26 = .ok (.ireturn, 1) := by decide +kernel
theorem dX0_valueAfter_27 : decode cX0_valueAfter 27 = .ok (.iload_n 2, 1) := by decide +kernel
theorem dX0_valueAfter_28 : decode cX0_valueAfter 28 = .ok (.aload_n 0, 1) := by decide +kernel
theorem dX0_valueAfter_29 : decode cX0_valueAfter 29 = .ok (.getfield 21, 3) := by decide +kernel
theorem dX0_valueAfter_32 : decode cX0_valueAfter 32 = .ok (.iload_n 1, 1) := by decide +kernel
theorem dX0_valueAfter_33 : decode cX0_valueAfter 33 = .ok (.bipush 24, 2) := by decide +kernel
theorem dX0_valueAfter_35 : decode cX0_valueAfter 35 = .ok (.isub, 1) := by decide +kernel
theorem dX0_valueAfter_36 : decode cX0_valueAfter 36 = .ok (.iaload, 1) := by decide +kernel
theorem dX0_valueAfter_37 : decode cX0_valueAfter 37 = .ok (.iadd, 1) := by decide +kernel
theorem dX0_valueAfter_38 : decode cX0_valueAfter 38 = .ok (.ireturn, 1) := by decide +kernel
set_option maxRecDepth 20000 in
theorem ggX0_undo_X0_leave : GoodIn wsX0_undo wsX0_leave := goodIn_r _ [6, 7, 8, 9, 10, 11, 12, 13, 14, 15, 16, 17, 18, 19, 20, 21, 22, 23, 24, 25, 26, 27, 28, 29, 30, 31, 32, 33, 34, 35, 36, 37] (by decide +kernel) (by decide +kernel)
set_option maxRecDepth 20000 in
theorem gX0_undo_X0_leave : GoodIn wsX0_undo (wsV RX0 84 RX0 yX0_leave wsX0_leave) := goodIn_app (goodIn_of _ (by decide +kernel)) ggX0_undo_X0_leave
theorem dX0_undo_0 : decode cX0_undo 0 = .ok (.aload_n 0, 1) := by decide +kernel
theorem dX0_undo_1 : decode cX0_undo 1 = .ok (.iconst 0, 1) := by decide +kernel
theorem dX0_undo_2 : decode cX0_undo 2 = .ok (.invokevirtual 84, 3) := by decide +kernel
theorem dX0_undo_5 : decode cX0_undo 5 = .ok (.aload_n 0, 1) := by decide +kernel
theorem dX0_undo_6 : decode cX0_undo 6 = .ok (.dup, 1) := by decide +kernel
theorem dX0_undo_7 : decode cX0_undo 7 = .ok (.getfield 88, 3) := by decide +kernel
theorem dX0_undo_10 : decode cX0_undo 10 = .ok (.iconst 1, 1) := by decide +kernel
theorem dX0_undo_11 : decode cX0_undo 11 = .ok (.iadd, 1) := by decide +kernel
theorem dX0_undo_12 : decode cX0_undo 12 = .ok (.putfield 88, 3) := by decide +kernel
theorem dX0_undo_15 : decode cX0_undo 15 = .ok (.return_, 1) := by decide +kernel
set_option maxRecDepth 20000 in
theorem ggX0_leave_J7_fill_53178 : GoodIn wsX0_leave wsJ7_fill_53178 := goodIn_r _ [11] (by decide +kernel) (by decide +kernel)
set_option maxRecDepth 20000 in
theorem gX0_leave_J7_fill_53178 : GoodIn wsX0_leave (va_wsS RX0 91 yJ7_fill_53178 wsJ7_fill_53178) := goodIn_app (goodIn_of _ (by decide +kernel)) ggX0_leave_J7_fill_53178
theorem dX0_leave_0 : decode cX0_leave 0 = .ok (.aload_n 0, 1) := by decide +kernel
theorem dX0_leave_1 : decode cX0_leave 1 = .ok (.iload_n 1, 1) := by decide +kernel
theorem dX0_leave_2 : decode cX0_leave 2 = .ok (.putfield 30, 3) := by decide +kernel
theorem dX0_leave_5 : decode cX0_leave 5 = .ok (.aload_n 0, 1) := by decide +kernel
theorem dX0_leave_6 : decode cX0_leave 6 = .ok (.iconst (-1), 1) := by decide +kernel
theorem dX0_leave_7 : decode cX0_leave 7 = .ok (.putfield 40, 3) := by decide +kernel
theorem dX0_leave_10 : decode cX0_leave 10 = .ok (.aload_n 0, 1) := by decide +kernel
theorem dX0_leave_11 : decode cX0_leave 11 = .ok (.iconst (-1), 1) := by decide +kernel
theorem dX0_leave_12 : decode cX0_leave 12 = .ok (.putfield 43, 3) := by decide +kernel
theorem dX0_leave_15 : decode cX0_leave 15 = .ok (.aload_n 0, 1) := by decide +kernel
theorem dX0_leave_16 : decode cX0_leave 16 = .ok (.iconst 0, 1) := by decide +kernel
theorem dX0_leave_17 : decode cX0_leave 17 = .ok (.putfield 81, 3) := by decide +kernel
theorem dX0_leave_20 : decode cX0_leave 20 = .ok (.aload_n 0, 1) := by decide +kernel
theorem dX0_leave_21 : decode cX0_leave 21 = .ok (.getfield 15, 3) := by decide +kernel
theorem dX0_leave_24 : decode cX0_leave 24 = .ok (.iconst 0, 1) := by decide +kernel
theorem dX0_leave_25 : decode cX0_leave 25 = .ok (.invokestatic 91, 3) := by decide +kernel
theorem dX0_leave_28 : decode cX0_leave 28 = .ok (.aload_n 0, 1) := by decide +kernel
theorem dX0_leave_29 : decode cX0_leave 29 = .ok (.getfield 21, 3) := by decide +kernel
theorem dX0_leave_32 : decode cX0_leave 32 = .ok (.iconst 0, 1) := by decide +kernel
theorem dX0_leave_33 : decode cX0_leave 33 = .ok (.invokestatic 91, 3) := by decide +kernel
theorem dX0_leave_36 : decode cX0_leave 36 = .ok (.aload_n 0, 1) := by decide +kernel
theorem dX0_leave_37 : decode cX0_leave 37 = .ok (.getfield 24, 3) := by decide +kernel
theorem dX0_leave_40 : decode cX0_leave 40 = .ok (.iconst 0, 1) := by decide +kernel
theorem dX0_leave_41 : decode cX0_leave 41 = .ok (.invokestatic 91, 3) := by decide +kernel
theorem dX0_leave_44 : decode cX0_leave 44 = .ok (.return_, 1) := by decide +kernel
theorem dX1_init_0 : decode cX1_init 0 = .ok (.aload_n 0, 1) := by decide +kernel
theorem dX1_init_1 : decode cX1_init 1 = .ok (.invokespecial 3, 3) := by decide +kernel
theorem dX1_init_4 : decode cX1_init 4 = .ok (.aload_n 0, 1) := by decide +kernel
theorem dX1_init_5 : decode cX1_init 5 = .ok (.sipush 256, 3) := by decide +kernel
theorem dX1_init_8 : decode cX1_init 8 = .ok (.newarray .int, 2) := by decide +kernel
theorem dX1_init_10 : decode cX1_init 10 = .ok (.putfield 11, 3) := by decide +kernel
theorem dX1_init_13 : decode cX1_init 13 = .ok (.return_, 1) := by decide +kernel
set_option maxRecDepth 20000 in
theorem ggX1_write_J7_copyOf_59c91 : GoodIn wsX1_write wsJ7_copyOf_59c91 := goodIn_r _ [7, 8, 9, 10, 11, 12, 13, 14, 15, 16, 17, 18, 19, 20, 21, 22] (by decide +kernel) (by decide +kernel)
set_option maxRecDepth 20000 in
theorem gX1_write_J7_copyOf_59c91 : GoodIn wsX1_write (va_wsS RX1 20 yJ7_copyOf_59c91 wsJ7_copyOf_59c91) := goodIn_app (goodIn_of _ (by decide +kernel)) ggX1_write_J7_copyOf_59c91
theorem dX1_write_0 : decode cX1_write 0 = .ok (.aload_n 0, 1) := by decide +kernel
theorem dX1_write_1 : decode cX1_write 1 = .ok (.getfield 15, 3) := by decide +kernel
theorem dX1_write_4 : decode cX1_write 4 = .ok (.ldc 19, 2) := by decide +kernel
theorem dX1_write_6 : decode cX1_write 6 = .ok (.if_icmp .lt 5, 3) := by decide +kernel
theorem dX1_write_9 : decode cX1_write 9 = .ok (.iconst (-1), 1) := by decide +kernel
theorem dX1_write_10 : decode cX1_write 10 = .ok (.ireturn, 1) := by decide +kernel
theorem dX1_write_11 : decode cX1_write 11 = .ok (.aload_n 0, 1) := by decide +kernel
theorem dX1_write_12 : decode cX1_write 12 = .ok (.getfield 15, 3) := by decide +kernel
theorem dX1_write_15 : decode cX1_write 15 = .ok (.aload_n 0, 1) := by decide +kernel
theorem dX1_write_16 : decode cX1_write 16 = .ok (.getfield 11, 3) := by decide +kernel
theorem dX1_write_19 : decode cX1_write 19 = .ok (.arraylength, 1) := by decide +kernel
theorem dX1_write_20 : decode cX1_write 20 = .ok (.if_icmp .lt 21, 3) := by decide +kernel
theorem dX1_write_23 : decode cX1_write 23 = .ok (.aload_n 0, 1) := by decide +kernel
theorem dX1_write_24 : decode cX1_write 24 = .ok (.aload_n 0, 1) := by decide +kernel
theorem dX1_write_25 : decode cX1_write 25 = .ok (.getfield 11, 3) := by decide +kernel
theorem dX1_write_28 : decode cX1_write 28 = .ok (.aload_n 0, 1) := by decide +kernel
theorem dX1_write_29 : decode cX1_write 29 = .ok (.getfield 11, 3) := by decide +kernel
theorem dX1_write_32 : decode cX1_write 32 = .ok (.arraylength, 1) := by decide +kernel
theorem dX1_write_33 : decode cX1_write 33 = .ok (.iconst 2, 1) := by decide +kernel
theorem dX1_write_34 : decode cX1_write 34 = .ok (.imul, 1) := by decide +kernel
theorem dX1_write_35 : decode cX1_write 35 = .ok (.invokestatic 20, 3) := by decide +kernel
theorem dX1_write_38 : decode cX1_write 38 = .ok (.putfield 11, 3) := by decide +kernel
theorem dX1_write_41 : decode cX1_write 41 = .ok (.aload_n 0, 1) := by decide +kernel
theorem dX1_write_42 : decode cX1_write 42 = .ok (.getfield 11, 3) := by decide +kernel
theorem dX1_write_45 : decode cX1_write 45 = .ok (.aload_n 0, 1) := by decide +kernel
theorem dX1_write_46 : decode cX1_write 46 = .ok (.getfield 15, 3) := by decide +kernel
theorem dX1_write_49 : decode cX1_write 49 = .ok (.iload 4, 2) := by decide +kernel
theorem dX1_write_51 : decode cX1_write 51 = .ok (.bipush 15, 2) := by decide +kernel
theorem dX1_write_53 : decode cX1_write 53 = .ok (.ishl, 1) := by decide +kernel
theorem dX1_write_54 : decode cX1_write 54 = .ok (.iload_n 3, 1) := by decide +kernel
theorem dX1_write_55 : decode cX1_write 55 = .ok (.iconst 1, 1) := by decide +kernel
theorem dX1_write_56 : decode cX1_write 56 = .ok (.iadd, 1) := by decide +kernel
theorem dX1_write_57 : decode cX1_write 57 = .ok (.bipush 10, 2) := by decide +kernel
theorem dX1_write_59 : decode cX1_write 59 = .ok (.ishl, 1) := by decide +kernel
theorem dX1_write_60 : decode cX1_write 60 = .ok (.ior, 1) := by decide +kernel
theorem dX1_write_61 : decode cX1_write 61 = .ok (.iload_n 2, 1) := by decide +kernel
theorem dX1_write_62 : decode cX1_write 62 = .ok (.iconst 3, 1) := by decide +kernel
theorem dX1_write_63 : decode cX1_write 63 = .ok (.ishl, 1) := by decide +kernel
theorem dX1_write_64 : decode cX1_write 64 = .ok (.ior, 1) := by decide +kernel
theorem dX1_write_65 : decode cX1_write 65 = .ok (.iload_n 1, 1) := by decide +kernel
theorem dX1_write_66 : decode cX1_write 66 = .ok (.ior, 1) := by decide +kernel
theorem dX1_write_67 : decode cX1_write 67 = .ok (.iastore, 1) := by decide +kernel
theorem dX1_write_68 : decode cX1_write 68 = .ok (.aload_n 0, 1) := by decide +kernel
theorem dX1_write_69 : decode cX1_write 69 = .ok (.dup, 1) := by decide +kernel
theorem dX1_write_70 : decode cX1_write 70 = .ok (.getfield 15, 3) := by decide +kernel
theorem dX1_write_73 : decode cX1_write 73 = .ok (.iconst 1, 1) := by decide +kernel
theorem dX1_write_74 : decode cX1_write 74 = .ok (.iadd, 1) := by decide +kernel
theorem dX1_write_75 : decode cX1_write 75 = .ok (.putfield 15, 3) := by decide +kernel
theorem dX1_write_78 : decode cX1_write 78 = .ok (.aload_n 0, 1) := by decide +kernel
theorem dX1_write_79 : decode cX1_write 79 = .ok (.getfield 15, 3) := by decide +kernel
theorem dX1_write_82 : decode cX1_write 82 = .ok (.iconst 1, 1) := by decide +kernel
theorem dX1_write_83 : decode cX1_write 83 = .ok (.isub, 1) := by decide +kernel
theorem dX1_write_84 : decode cX1_write 84 = .ok (.ireturn, 1) := by decide +kernel
theorem dX1_keepAll_0 : decode cX1_keepAll 0 = .ok (.aload_n 0, 1) := by decide +kernel
theorem dX1_keepAll_1 : decode cX1_keepAll 1 = .ok (.aload_n 0, 1) := by decide +kernel
theorem dX1_keepAll_2 : decode cX1_keepAll 2 = .ok (.getfield 15, 3) := by decide +kernel
theorem dX1_keepAll_5 : decode cX1_keepAll 5 = .ok (.putfield 26, 3) := by decide +kernel
theorem dX1_keepAll_8 : decode cX1_keepAll 8 = .ok (.return_, 1) := by decide +kernel
theorem dX1_cut_0 : decode cX1_cut 0 = .ok (.iload_n 1, 1) := by decide +kernel
theorem dX1_cut_1 : decode cX1_cut 1 = .ok (.ifCond .lt 16, 3) := by decide +kernel
theorem dX1_cut_4 : decode cX1_cut 4 = .ok (.iload_n 1, 1) := by decide +kernel
theorem dX1_cut_5 : decode cX1_cut 5 = .ok (.aload_n 0, 1) := by decide +kernel
theorem dX1_cut_6 : decode cX1_cut 6 = .ok (.getfield 15, 3) := by decide +kernel
theorem dX1_cut_9 : decode cX1_cut 9 = .ok (.if_icmp .gt 8, 3) := by decide +kernel
theorem dX1_cut_12 : decode cX1_cut 12 = .ok (.aload_n 0, 1) := by decide +kernel
theorem dX1_cut_13 : decode cX1_cut 13 = .ok (.iload_n 1, 1) := by decide +kernel
theorem dX1_cut_14 : decode cX1_cut 14 = .ok (.putfield 15, 3) := by decide +kernel
theorem dX1_cut_17 : decode cX1_cut 17 = .ok (.return_, 1) := by decide +kernel
theorem dX1_tell_0 : decode cX1_tell 0 = .ok (.iload_n 1, 1) := by decide +kernel
theorem dX1_tell_1 : decode cX1_tell 1 = .ok (.ifCond .lt 11, 3) := by decide +kernel
theorem dX1_tell_4 : decode cX1_tell 4 = .ok (.iload_n 1, 1) := by decide +kernel
theorem dX1_tell_5 : decode cX1_tell 5 = .ok (.aload_n 0, 1) := by decide +kernel
theorem dX1_tell_6 : decode cX1_tell 6 = .ok (.getfield 15, 3) := by decide +kernel
theorem dX1_tell_9 : decode cX1_tell 9 = .ok (.if_icmp .lt 5, 3) := by decide +kernel
theorem dX1_tell_12 : decode cX1_tell 12 = .ok (.iconst (-1), 1) := by decide +kernel
theorem dX1_tell_13 : decode cX1_tell 13 = .ok (.ireturn, 1) := by decide +kernel
theorem dX1_tell_14 : decode cX1_tell 14 = .ok (.aload_n 0, 1) := by decide +kernel
theorem dX1_tell_15 : decode cX1_tell 15 = .ok (.getfield 11, 3) := by decide +kernel
theorem dX1_tell_18 : decode cX1_tell 18 = .ok (.iload_n 1, 1) := by decide +kernel
theorem dX1_tell_19 : decode cX1_tell 19 = .ok (.iaload, 1) := by decide +kernel
theorem dX1_tell_20 : decode cX1_tell 20 = .ok (.istore_n 3, 1) := by decide +kernel
theorem dX1_tell_21 : decode cX1_tell 21 = .ok (.iload_n 2, 1) := by decide +kernel
theorem dX1_tell_22 : decode cX1_tell 22 = .ok (.tableswitch 57 0 3 #[30, 35, 42, 52], 30) := by decide +kernel
theorem dX1_tell_52 : decode cX1_tell 52 = .ok (.iload_n 3, 1) := by decide +kernel
theorem dX1_tell_53 : decode cX1_tell 53 = .ok (.bipush 7, 2) := by decide +kernel
theorem dX1_tell_55 : decode cX1_tell 55 = .ok (.iand, 1) := by decide +kernel
theorem dX1_tell_56 : decode cX1_tell 56 = .ok (.ireturn, 1) := by decide +kernel
theorem dX1_tell_57 : decode cX1_tell 57 = .ok (.iload_n 3, 1) := by decide +kernel
theorem dX1_tell_58 : decode cX1_tell 58 = .ok (.iconst 3, 1) := by decide +kernel
theorem dX1_tell_59 : decode cX1_tell 59 = .ok (.ishr, 1) := by decide +kernel
theorem dX1_tell_60 : decode cX1_tell 60 = .ok (.bipush 127, 2) := by decide +kernel
theorem dX1_tell_62 : decode cX1_tell 62 = .ok (.iand, 1) := by decide +kernel
theorem dX1_tell_63 : decode cX1_tell 63 = .ok (.ireturn, 1) := by decide +kernel
theorem dX1_tell_64 : decode cX1_tell 64 = .ok (.iload_n 3, 1) := by decide +kernel
theorem dX1_tell_65 : decode cX1_tell 65 = .ok (.bipush 10, 2) := by decide +kernel
theorem dX1_tell_67 : decode cX1_tell 67 = .ok (.ishr, 1) := by decide +kernel
theorem dX1_tell_68 : decode cX1_tell 68 = .ok (.bipush 31, 2) := by decide +kernel
theorem dX1_tell_70 : decode cX1_tell 70 = .ok (.iand, 1) := by decide +kernel
theorem dX1_tell_71 : decode cX1_tell 71 = .ok (.iconst 1, 1) := by decide +kernel
theorem dX1_tell_72 : decode cX1_tell 72 = .ok (.isub, 1) := by decide +kernel
theorem dX1_tell_73 : decode cX1_tell 73 = .ok (.ireturn, 1) := by decide +kernel
theorem dX1_tell_74 : decode cX1_tell 74 = .ok (.iload_n 3, 1) := by decide +kernel
theorem dX1_tell_75 : decode cX1_tell 75 = .ok (.bipush 15, 2) := by decide +kernel
theorem dX1_tell_77 : decode cX1_tell 77 = .ok (.ishr, 1) := by decide +kernel
theorem dX1_tell_78 : decode cX1_tell 78 = .ok (.ireturn, 1) := by decide +kernel
theorem dX1_tell_79 : decode cX1_tell 79 = .ok (.iconst (-1), 1) := by decide +kernel
theorem dX1_tell_80 : decode cX1_tell 80 = .ok (.ireturn, 1) := by decide +kernel
theorem dX2_init_0 : decode cX2_init 0 = .ok (.aload_n 0, 1) := by decide +kernel
theorem dX2_init_1 : decode cX2_init 1 = .ok (.invokespecial 3, 3) := by decide +kernel
theorem dX2_init_4 : decode cX2_init 4 = .ok (.aload_n 0, 1) := by decide +kernel
theorem dX2_init_5 : decode cX2_init 5 = .ok (.bipush 36, 2) := by decide +kernel
theorem dX2_init_7 : decode cX2_init 7 = .ok (.newarray .long, 2) := by decide +kernel
theorem dX2_init_9 : decode cX2_init 9 = .ok (.putfield 9, 3) := by decide +kernel
theorem dX2_init_12 : decode cX2_init 12 = .ok (.aload_n 0, 1) := by decide +kernel
theorem dX2_init_13 : decode cX2_init 13 = .ok (.bipush 36, 2) := by decide +kernel
theorem dX2_init_15 : decode cX2_init 15 = .ok (.newarray .long, 2) := by decide +kernel
theorem dX2_init_17 : decode cX2_init 17 = .ok (.putfield 15, 3) := by decide +kernel
theorem dX2_init_20 : decode cX2_init 20 = .ok (.return_, 1) := by decide +kernel
set_option maxRecDepth 20000 in
theorem ggX2_clear_J7_fill_d0a16 : GoodIn wsX2_clear wsJ7_fill_d0a16 := goodIn_r _ [10] (by decide +kernel) (by decide +kernel)
set_option maxRecDepth 20000 in
theorem gX2_clear_J7_fill_d0a16 : GoodIn wsX2_clear (va_wsS RX2 28 yJ7_fill_d0a16 wsJ7_fill_d0a16) := goodIn_app (goodIn_of _ (by decide +kernel)) ggX2_clear_J7_fill_d0a16
theorem dX2_clear_0 : decode cX2_clear 0 = .ok (.aload_n 0, 1) := by decide +kernel
theorem dX2_clear_1 : decode cX2_clear 1 = .ok (.iload_n 1, 1) := by decide +kernel
theorem dX2_clear_2 : decode cX2_clear 2 = .ok (.bipush 36, 2) := by decide +kernel
theorem dX2_clear_4 : decode cX2_clear 4 = .ok (.invokestatic 18, 3) := by decide +kernel
theorem dX2_clear_7 : decode cX2_clear 7 = .ok (.putfield 24, 3) := by decide +kernel
theorem dX2_clear_10 : decode cX2_clear 10 = .ok (.aload_n 0, 1) := by decide +kernel
theorem dX2_clear_11 : decode cX2_clear 11 = .ok (.getfield 9, 3) := by decide +kernel
theorem dX2_clear_14 : decode cX2_clear 14 = .ok (.lconst 0, 1) := by decide +kernel
theorem dX2_clear_15 : decode cX2_clear 15 = .ok (.invokestatic 28, 3) := by decide +kernel
theorem dX2_clear_18 : decode cX2_clear 18 = .ok (.return_, 1) := by decide +kernel
theorem dX2_add_0 : decode cX2_add 0 = .ok (.aload_n 0, 1) := by decide +kernel
theorem dX2_add_1 : decode cX2_add 1 = .ok (.getfield 9, 3) := by decide +kernel
theorem dX2_add_4 : decode cX2_add 4 = .ok (.iload_n 1, 1) := by decide +kernel
theorem dX2_add_5 : decode cX2_add 5 = .ok (.dup2, 1) := by decide +kernel
theorem dX2_add_6 : decode cX2_add 6 = .ok (.laload, 1) := by decide +kernel
theorem dX2_add_7 : decode cX2_add 7 = .ok (.lconst 1, 1) := by decide +kernel
theorem dX2_add_8 : decode cX2_add 8 = .ok (.iload_n 2, 1) := by decide +kernel
theorem dX2_add_9 : decode cX2_add 9 = .ok (.lshl, 1) := by decide +kernel
theorem dX2_add_10 : decode cX2_add 10 = .ok (.lor, 1) := by decide +kernel
theorem dX2_add_11 : decode cX2_add 11 = .ok (.lastore, 1) := by decide +kernel
theorem dX2_add_12 : decode cX2_add 12 = .ok (.return_, 1) := by decide +kernel
theorem dX2_remove_0 : decode cX2_remove 0 = .ok (.aload_n 0, 1) := by decide +kernel
theorem dX2_remove_1 : decode cX2_remove 1 = .ok (.getfield 9, 3) := by decide +kernel
theorem dX2_remove_4 : decode cX2_remove 4 = .ok (.iload_n 1, 1) := by decide +kernel
theorem dX2_remove_5 : decode cX2_remove 5 = .ok (.lconst 0, 1) := by decide +kernel
theorem dX2_remove_6 : decode cX2_remove 6 = .ok (.lastore, 1) := by decide +kernel
theorem dX2_remove_7 : decode cX2_remove 7 = .ok (.return_, 1) := by decide +kernel
theorem dX2_close_0 : decode cX2_close 0 = .ok (.aload_n 0, 1) := by decide +kernel
theorem dX2_close_1 : decode cX2_close 1 = .ok (.getfield 9, 3) := by decide +kernel
theorem dX2_close_4 : decode cX2_close 4 = .ok (.iconst 0, 1) := by decide +kernel
theorem dX2_close_5 : decode cX2_close 5 = .ok (.aload_n 0, 1) := by decide +kernel
theorem dX2_close_6 : decode cX2_close 6 = .ok (.getfield 15, 3) := by decide +kernel
theorem dX2_close_9 : decode cX2_close 9 = .ok (.iconst 0, 1) := by decide +kernel
theorem dX2_close_10 : decode cX2_close 10 = .ok (.aload_n 0, 1) := by decide +kernel
theorem dX2_close_11 : decode cX2_close 11 = .ok (.getfield 24, 3) := by decide +kernel
theorem dX2_close_14 : decode cX2_close 14 = .ok (.invokestatic 34, 3) := by decide +kernel
theorem dX2_close_17 : decode cX2_close 17 = .ok (.iconst 0, 1) := by decide +kernel
theorem dX2_close_18 : decode cX2_close 18 = .ok (.istore_n 1, 1) := by decide +kernel
theorem dX2_close_19 : decode cX2_close 19 = .ok (.iload_n 1, 1) := by decide +kernel
theorem dX2_close_20 : decode cX2_close 20 = .ok (.aload_n 0, 1) := by decide +kernel
theorem dX2_close_21 : decode cX2_close 21 = .ok (.getfield 24, 3) := by decide +kernel
theorem dX2_close_24 : decode cX2_close 24 = .ok (.if_icmp .ge 55, 3) := by decide +kernel
theorem dX2_close_27 : decode cX2_close 27 = .ok (.iconst 0, 1) := by decide +kernel
theorem dX2_close_28 : decode cX2_close 28 = .ok (.istore_n 2, 1) := by decide +kernel
theorem dX2_close_29 : decode cX2_close 29 = .ok (.iload_n 2, 1) := by decide +kernel
theorem dX2_close_30 : decode cX2_close 30 = .ok (.aload_n 0, 1) := by decide +kernel
theorem dX2_close_31 : decode cX2_close 31 = .ok (.getfield 24, 3) := by decide +kernel
theorem dX2_close_34 : decode cX2_close 34 = .ok (.if_icmp .ge 39, 3) := by decide +kernel
theorem dX2_close_37 : decode cX2_close 37 = .ok (.aload_n 0, 1) := by decide +kernel
theorem dX2_close_38 : decode cX2_close 38 = .ok (.getfield 15, 3) := by decide +kernel
theorem dX2_close_41 : decode cX2_close 41 = .ok (.iload_n 2, 1) := by decide +kernel
theorem dX2_close_42 : decode cX2_close 42 = .ok (.laload, 1) := by decide +kernel
theorem dX2_close_43 : decode cX2_close 43 = .ok (.iload_n 1, 1) := by decide +kernel
theorem dX2_close_44 : decode cX2_close 44 = .ok (.lshr, 1) := by decide +kernel
theorem dX2_close_45 : decode cX2_close 45 = .ok (.lconst 1, 1) := by decide +kernel
theorem dX2_close_46 : decode cX2_close 46 = .ok (.land, 1) := by decide +kernel
theorem dX2_close_47 : decode cX2_close 47 = .ok (.lconst 0, 1) := by decide +kernel
theorem dX2_close_48 : decode cX2_close 48 = .ok (.lcmp, 1) := by decide +kernel
theorem dX2_close_49 : decode cX2_close 49 = .ok (.ifCond .eq 18, 3) := by decide +kernel
theorem dX2_close_52 : decode cX2_close 52 = .ok (.aload_n 0, 1) := by decide +kernel
theorem dX2_close_53 : decode cX2_close 53 = .ok (.getfield 15, 3) := by decide +kernel
theorem dX2_close_56 : decode cX2_close 56 = .ok (.iload_n 2, 1) := by decide +kernel
theorem dX2_close_57 : decode cX2_close 57 = .ok (.dup2, 1) := by decide +kernel
theorem dX2_close_58 : decode cX2_close 58 = .ok (.laload, 1) := by decide +kernel
theorem dX2_close_59 : decode cX2_close 59 = .ok (.aload_n 0, 1) := by decide +kernel
theorem dX2_close_60 : decode cX2_close 60 = .ok (.getfield 15, 3) := by decide +kernel
theorem dX2_close_63 : decode cX2_close 63 = .ok (.iload_n 1, 1) := by decide +kernel
theorem dX2_close_64 : decode cX2_close 64 = .ok (.laload, 1) := by decide +kernel
theorem dX2_close_65 : decode cX2_close 65 = .ok (.lor, 1) := by decide +kernel
theorem dX2_close_66 : decode cX2_close 66 = .ok (.lastore, 1) := by decide +kernel
theorem dX2_close_67 : decode cX2_close 67 = .ok (.iinc 2 1, 3) := by decide +kernel
theorem dX2_close_70 : decode cX2_close 70 = .ok (.goto (-41), 3) := by decide +kernel
theorem dX2_close_73 : decode cX2_close 73 = .ok (.iinc 1 1, 3) := by decide +kernel
theorem dX2_close_76 : decode cX2_close 76 = .ok (.goto (-57), 3) := by decide +kernel
theorem dX2_close_79 : decode cX2_close 79 = .ok (.return_, 1) := by decide +kernel
theorem dX2_isInRing_0 : decode cX2_isInRing 0 = .ok (.aload_n 0, 1) := by decide +kernel
theorem dX2_isInRing_1 : decode cX2_isInRing 1 = .ok (.getfield 15, 3) := by decide +kernel
theorem dX2_isInRing_4 : decode cX2_isInRing 4 = .ok (.iload_n 1, 1) := by decide +kernel
theorem dX2_isInRing_5 : decode cX2_isInRing 5 = .ok (.laload, 1) := by decide +kernel
theorem dX2_isInRing_6 : decode cX2_isInRing 6 = .ok (.iload_n 1, 1) := by decide +kernel
theorem dX2_isInRing_7 : decode cX2_isInRing 7 = .ok (.lshr, 1) := by decide +kernel
theorem dX2_isInRing_8 : decode cX2_isInRing 8 = .ok (.lconst 1, 1) := by decide +kernel
theorem dX2_isInRing_9 : decode cX2_isInRing 9 = .ok (.land, 1) := by decide +kernel
theorem dX2_isInRing_10 : decode cX2_isInRing 10 = .ok (.lconst 0, 1) := by decide +kernel
theorem dX2_isInRing_11 : decode cX2_isInRing 11 = .ok (.lcmp, 1) := by decide +kernel
theorem dX2_isInRing_12 : decode cX2_isInRing 12 = .ok (.ifCond .eq 7, 3) := by decide +kernel
theorem dX2_isInRing_15 : decode cX2_isInRing 15 = .ok (.iconst 1, 1) := by decide +kernel
theorem dX2_isInRing_16 : decode cX2_isInRing 16 = .ok (.goto 4, 3) := by decide +kernel
theorem dX2_isInRing_19 : decode cX2_isInRing 19 = .ok (.iconst 0, 1) := by decide +kernel
theorem dX2_isInRing_20 : decode cX2_isInRing 20 = .ok (.ireturn, 1) := by decide +kernel
set_option maxRecDepth 20000 in
theorem ggX3_init_X1_init : GoodIn wsX3_init wsX1_init := goodIn_r _ [25, 26, 2, 3, 4, 27, 56, 57, 58] (by decide +kernel) (by decide +kernel)
set_option maxRecDepth 20000 in
theorem gX3_init_X1_init_n45 : GoodIn wsX3_init (wsX1_init) := ggX3_init_X1_init
set_option maxRecDepth 20000 in
theorem ggX3_init_X2_init : GoodIn wsX3_init wsX2_init := goodIn_r _ [29, 30, 2, 3, 31, 32, 33, 59, 60, 61] (by decide +kernel) (by decide +kernel)
set_option maxRecDepth 20000 in
theorem gX3_init_X2_init_n52 : GoodIn wsX3_init (wsX2_init) := ggX3_init_X2_init
set_option maxRecDepth 20000 in
theorem ggX3_init_J7_fill_53178 : GoodIn wsX3_init wsJ7_fill_53178 := goodIn_r _ [37] (by decide +kernel) (by decide +kernel)
set_option maxRecDepth 20000 in
theorem gX3_init_J7_fill_53178 : GoodIn wsX3_init (va_wsS RX3 57 yJ7_fill_53178 wsJ7_fill_53178) := goodIn_app (goodIn_of _ (by decide +kernel)) ggX3_init_J7_fill_53178
theorem dX3_init_0 : decode cX3_init 0 = .ok (.aload_n 0, 1) := by decide +kernel
theorem dX3_init_1 : decode cX3_init 1 = .ok (.invokespecial 3, 3) := by decide +kernel
theorem dX3_init_4 : decode cX3_init 4 = .ok (.aload_n 0, 1) := by decide +kernel
theorem dX3_init_5 : decode cX3_init 5 = .ok (.bipush 96, 2) := by decide +kernel
theorem dX3_init_7 : decode cX3_init 7 = .ok (.newarray .int, 2) := by decide +kernel
theorem dX3_init_9 : decode cX3_init 9 = .ok (.putfield 9, 3) := by decide +kernel
theorem dX3_init_12 : decode cX3_init 12 = .ok (.aload_n 0, 1) := by decide +kernel
theorem dX3_init_13 : decode cX3_init 13 = .ok (.bipush 8, 2) := by decide +kernel
theorem dX3_init_15 : decode cX3_init 15 = .ok (.newarray .int, 2) := by decide +kernel
theorem dX3_init_17 : decode cX3_init 17 = .ok (.putfield 13, 3) := by decide +kernel
theorem dX3_init_20 : decode cX3_init 20 = .ok (.aload_n 0, 1) := by decide +kernel
theorem dX3_init_21 : decode cX3_init 21 = .ok (.iconst 4, 1) := by decide +kernel
theorem dX3_init_22 : decode cX3_init 22 = .ok (.newarray .int, 2) := by decide +kernel
theorem dX3_init_24 : decode cX3_init 24 = .ok (.putfield 16, 3) := by decide +kernel
theorem dX3_init_27 : decode cX3_init 27 = .ok (.aload_n 0, 1) := by decide +kernel
theorem dX3_init_28 : decode cX3_init 28 = .ok (.bipush 8, 2) := by decide +kernel
theorem dX3_init_30 : decode cX3_init 30 = .ok (.newarray .int, 2) := by decide +kernel
theorem dX3_init_32 : decode cX3_init 32 = .ok (.putfield 19, 3) := by decide +kernel
theorem dX3_init_35 : decode cX3_init 35 = .ok (.aload_n 0, 1) := by decide +kernel
theorem dX3_init_36 : decode cX3_init 36 = .ok (.bipush 32, 2) := by decide +kernel
theorem dX3_init_38 : decode cX3_init 38 = .ok (.newarray .int, 2) := by decide +kernel
theorem dX3_init_40 : decode cX3_init 40 = .ok (.putfield 22, 3) := by decide +kernel
theorem dX3_init_43 : decode cX3_init 43 = .ok (.aload_n 0, 1) := by decide +kernel
theorem dX3_init_44 : decode cX3_init 44 = .ok (.bipush 80, 2) := by decide +kernel
theorem dX3_init_46 : decode cX3_init 46 = .ok (.anewarray 25, 3) := by decide +kernel
theorem dX3_init_49 : decode cX3_init 49 = .ok (.putfield 27, 3) := by decide +kernel
theorem dX3_init_52 : decode cX3_init 52 = .ok (.aload_n 0, 1) := by decide +kernel
theorem dX3_init_53 : decode cX3_init 53 = .ok (.bipush 80, 2) := by decide +kernel
theorem dX3_init_55 : decode cX3_init 55 = .ok (.newarray .int, 2) := by decide +kernel
theorem dX3_init_57 : decode cX3_init 57 = .ok (.putfield 31, 3) := by decide +kernel
theorem dX3_init_60 : decode cX3_init 60 = .ok (.aload_n 0, 1) := by decide +kernel
theorem dX3_init_61 : decode cX3_init 61 = .ok (.bipush 80, 2) := by decide +kernel
theorem dX3_init_63 : decode cX3_init 63 = .ok (.newarray .int, 2) := by decide +kernel
theorem dX3_init_65 : decode cX3_init 65 = .ok (.putfield 34, 3) := by decide +kernel
theorem dX3_init_68 : decode cX3_init 68 = .ok (.aload_n 0, 1) := by decide +kernel
theorem dX3_init_69 : decode cX3_init 69 = .ok (.bipush 36, 2) := by decide +kernel
theorem dX3_init_71 : decode cX3_init 71 = .ok (.newarray .int, 2) := by decide +kernel
theorem dX3_init_73 : decode cX3_init 73 = .ok (.putfield 37, 3) := by decide +kernel
theorem dX3_init_76 : decode cX3_init 76 = .ok (.aload_n 0, 1) := by decide +kernel
theorem dX3_init_77 : decode cX3_init 77 = .ok (.iconst 4, 1) := by decide +kernel
theorem dX3_init_78 : decode cX3_init 78 = .ok (.newarray .int, 2) := by decide +kernel
theorem dX3_init_80 : decode cX3_init 80 = .ok (.putfield 40, 3) := by decide +kernel
theorem dX3_init_83 : decode cX3_init 83 = .ok (.aload_n 0, 1) := by decide +kernel
theorem dX3_init_84 : decode cX3_init 84 = .ok (.new 43, 3) := by decide +kernel
theorem dX3_init_87 : decode cX3_init 87 = .ok (.dup, 1) := by decide +kernel
theorem dX3_init_88 : decode cX3_init 88 = .ok (.invokespecial 45, 3) := by decide +kernel
theorem dX3_init_91 : decode cX3_init 91 = .ok (.putfield 46, 3) := by decide +kernel
theorem dX3_init_94 : decode cX3_init 94 = .ok (.aload_n 0, 1) := by decide +kernel
theorem dX3_init_95 : decode cX3_init 95 = .ok (.new 50, 3) := by decide +kernel
theorem dX3_init_98 : decode cX3_init 98 = .ok (.dup, 1) := by decide +kernel
theorem dX3_init_99 : decode cX3_init 99 = .ok (.invokespecial 52, 3) := by decide +kernel
theorem dX3_init_102 : decode cX3_init 102 = .ok (.putfield 53, 3) := by decide +kernel
theorem dX3_init_105 : decode cX3_init 105 = .ok (.aload_n 0, 1) := by decide +kernel
theorem dX3_init_106 : decode cX3_init 106 = .ok (.getfield 16, 3) := by decide +kernel
theorem dX3_init_109 : decode cX3_init 109 = .ok (.iconst 3, 1) := by decide +kernel
theorem dX3_init_110 : decode cX3_init 110 = .ok (.invokestatic 57, 3) := by decide +kernel
theorem dX3_init_113 : decode cX3_init 113 = .ok (.return_, 1) := by decide +kernel
set_option maxRecDepth 20000 in
theorem ggX3_program_X3_isBelow : GoodIn wsX3_program wsX3_isBelow := goodIn_r _ [5] (by decide +kernel) (by decide +kernel)
set_option maxRecDepth 20000 in
theorem gX3_program_X3_isBelow : GoodIn wsX3_program (va_wsS RX3 63 yX3_isBelow wsX3_isBelow) := goodIn_app (goodIn_of _ (by decide +kernel)) ggX3_program_X3_isBelow
theorem dX3_program_0 : decode cX3_program 0 = .ok (.iload_n 1, 1) := by decide +kernel
theorem dX3_program_1 : decode cX3_program 1 = .ok (.bipush 8, 2) := by decide +kernel
theorem dX3_program_3 : decode cX3_program 3 = .ok (.invokestatic 63, 3) := by decide +kernel
theorem dX3_program_6 : decode cX3_program 6 = .ok (.ifCond .ne 5, 3) := by decide +kernel
theorem dX3_program_9 : decode cX3_program 9 = .ok (.iconst 0, 1) := by decide +kernel
theorem dX3_program_10 : decode cX3_program 10 = .ok (.ireturn, 1) := by decide +kernel
theorem dX3_program_11 : decode cX3_program 11 = .ok (.aload_n 0, 1) := by decide +kernel
theorem dX3_program_12 : decode cX3_program 12 = .ok (.getfield 13, 3) := by decide +kernel
theorem dX3_program_15 : decode cX3_program 15 = .ok (.iload_n 1, 1) := by decide +kernel
theorem dX3_program_16 : decode cX3_program 16 = .ok (.iconst 0, 1) := by decide +kernel
theorem dX3_program_17 : decode cX3_program 17 = .ok (.iastore, 1) := by decide +kernel
theorem dX3_program_18 : decode cX3_program 18 = .ok (.iconst 1, 1) := by decide +kernel
theorem dX3_program_19 : decode cX3_program 19 = .ok (.ireturn, 1) := by decide +kernel
set_option maxRecDepth 20000 in
theorem ggX3_step_X3_isBelow : GoodIn wsX3_step wsX3_isBelow := goodIn_r _ [6] (by decide +kernel) (by decide +kernel)
set_option maxRecDepth 20000 in
theorem gX3_step_X3_isBelow : GoodIn wsX3_step (va_wsS RX3 63 yX3_isBelow wsX3_isBelow) := goodIn_app (goodIn_of _ (by decide +kernel)) ggX3_step_X3_isBelow
set_option maxRecDepth 20000 in
theorem ggX3_step_X3_isStep : GoodIn wsX3_step wsX3_isStep := goodIn_r _ [9, 10, 11, 5, 12, 13, 14, 15] (by decide +kernel) (by decide +kernel)
set_option maxRecDepth 20000 in
theorem gX3_step_X3_isStep : GoodIn wsX3_step (va_wsS RX3 67 yX3_isStep wsX3_isStep) := goodIn_app (goodIn_of _ (by decide +kernel)) ggX3_step_X3_isStep
theorem dX3_step_0 : decode cX3_step 0 = .ok (.iload_n 1, 1) := by decide +kernel
theorem dX3_step_1 : decode cX3_step 1 = .ok (.bipush 8, 2) := by decide +kernel
theorem dX3_step_3 : decode cX3_step 3 = .ok (.invokestatic 63, 3) := by decide +kernel
theorem dX3_step_6 : decode cX3_step 6 = .ok (.ifCond .eq 10, 3) := by decide +kernel
theorem dX3_step_9 : decode cX3_step 9 = .ok (.iload_n 2, 1) := by decide +kernel
theorem dX3_step_10 : decode cX3_step 10 = .ok (.invokestatic 67, 3) := by decide +kernel
theorem dX3_step_13 : decode cX3_step 13 = .ok (.ifCond .ne 5, 3) := by decide +kernel
theorem dX3_step_16 : decode cX3_step 16 = .ok (.iconst (-1), 1) := by decide +kernel
theorem dX3_step_17 : decode cX3_step 17 = .ok (.ireturn, 1) := by decide +kernel
theorem dX3_step_18 : decode cX3_step 18 = .ok (.aload_n 0, 1) := by decide +kernel
theorem dX3_step_19 : decode cX3_step 19 = .ok (.getfield 13, 3) := by decide +kernel
theorem dX3_step_22 : decode cX3_step 22 = .ok (.iload_n 1, 1) := by decide +kernel
theorem dX3_step_23 : decode cX3_step 23 = .ok (.iaload, 1) := by decide +kernel
theorem dX3_step_24 : decode cX3_step 24 = .ok (.istore_n 3, 1) := by decide +kernel
theorem dX3_step_25 : decode cX3_step 25 = .ok (.iload_n 3, 1) := by decide +kernel
theorem dX3_step_26 : decode cX3_step 26 = .ok (.bipush 12, 2) := by decide +kernel
theorem dX3_step_28 : decode cX3_step 28 = .ok (.if_icmp .lt 5, 3) := by decide +kernel
theorem dX3_step_31 : decode cX3_step 31 = .ok (.iconst (-1), 1) := by decide +kernel
theorem dX3_step_32 : decode cX3_step 32 = .ok (.ireturn, 1) := by decide +kernel
theorem dX3_step_33 : decode cX3_step 33 = .ok (.aload_n 0, 1) := by decide +kernel
theorem dX3_step_34 : decode cX3_step 34 = .ok (.getfield 9, 3) := by decide +kernel
theorem dX3_step_37 : decode cX3_step 37 = .ok (.iload_n 1, 1) := by decide +kernel
theorem dX3_step_38 : decode cX3_step 38 = .ok (.bipush 12, 2) := by decide +kernel
theorem dX3_step_40 : decode cX3_step 40 = .ok (.imul, 1) := by decide +kernel
theorem dX3_step_41 : decode cX3_step 41 = .ok (.iload_n 3, 1) := by decide +kernel
theorem dX3_step_42 : decode cX3_step 42 = .ok (.iadd, 1) := by decide +kernel
theorem dX3_step_43 : decode cX3_step 43 = .ok (.iload_n 2, 1) := by decide +kernel
theorem dX3_step_44 : decode cX3_step 44 = .ok (.iastore, 1) := by decide +kernel
theorem dX3_step_45 : decode cX3_step 45 = .ok (.aload_n 0, 1) := by decide +kernel
theorem dX3_step_46 : decode cX3_step 46 = .ok (.getfield 13, 3) := by decide +kernel
theorem dX3_step_49 : decode cX3_step 49 = .ok (.iload_n 1, 1) := by decide +kernel
theorem dX3_step_50 : decode cX3_step 50 = .ok (.iload_n 3, 1) := by decide +kernel
theorem dX3_step_51 : decode cX3_step 51 = .ok (.iconst 1, 1) := by decide +kernel
theorem dX3_step_52 : decode cX3_step 52 = .ok (.iadd, 1) := by decide +kernel
theorem dX3_step_53 : decode cX3_step 53 = .ok (.iastore, 1) := by decide +kernel
theorem dX3_step_54 : decode cX3_step 54 = .ok (.iload_n 3, 1) := by decide +kernel
theorem dX3_step_55 : decode cX3_step 55 = .ok (.iconst 1, 1) := by decide +kernel
theorem dX3_step_56 : decode cX3_step 56 = .ok (.iadd, 1) := by decide +kernel
theorem dX3_step_57 : decode cX3_step 57 = .ok (.ireturn, 1) := by decide +kernel
set_option maxRecDepth 20000 in
theorem ggX3_act_X3_isBelow : GoodIn wsX3_act wsX3_isBelow := goodIn_r _ [4] (by decide +kernel) (by decide +kernel)
set_option maxRecDepth 20000 in
theorem gX3_act_X3_isBelow : GoodIn wsX3_act (va_wsS RX3 63 yX3_isBelow wsX3_isBelow) := goodIn_app (goodIn_of _ (by decide +kernel)) ggX3_act_X3_isBelow
set_option maxRecDepth 20000 in
theorem ggX3_act_X3_admit : GoodIn wsX3_act wsX3_admit := goodIn_r _ [8, 9, 10, 11, 12, 13, 14, 15, 16, 17, 18, 19, 20, 21, 22, 23, 24, 25, 26, 27, 28, 29, 30, 31, 32, 33, 34, 35, 36, 37, 38, 39, 40, 41, 42, 43, 44, 45, 46, 47, 48, 49, 50, 51, 52, 53, 54, 55, 56, 57, 58, 59, 60, 61, 62, 63, 64, 65, 66, 67, 68, 69, 70, 71, 72, 73, 74, 75] (by decide +kernel) (by decide +kernel)
set_option maxRecDepth 20000 in
theorem gX3_act_X3_admit : GoodIn wsX3_act (wsV RX3 71 RX3 yX3_admit wsX3_admit) := goodIn_app (goodIn_of _ (by decide +kernel)) ggX3_act_X3_admit
theorem dX3_act_0 : decode cX3_act 0 = .ok (.iload_n 1, 1) := by decide +kernel
theorem dX3_act_1 : decode cX3_act 1 = .ok (.bipush 8, 2) := by decide +kernel
theorem dX3_act_3 : decode cX3_act 3 = .ok (.invokestatic 63, 3) := by decide +kernel
theorem dX3_act_6 : decode cX3_act 6 = .ok (.ifCond .eq 20, 3) := by decide +kernel
theorem dX3_act_9 : decode cX3_act 9 = .ok (.iload_n 2, 1) := by decide +kernel
theorem dX3_act_10 : decode cX3_act 10 = .ok (.iconst 4, 1) := by decide +kernel
theorem dX3_act_11 : decode cX3_act 11 = .ok (.invokestatic 63, 3) := by decide +kernel
theorem dX3_act_14 : decode cX3_act 14 = .ok (.ifCond .eq 12, 3) := by decide +kernel
theorem dX3_act_17 : decode cX3_act 17 = .ok (.iload_n 3, 1) := by decide +kernel
theorem dX3_act_18 : decode cX3_act 18 = .ok (.bipush 10, 2) := by decide +kernel
theorem dX3_act_20 : decode cX3_act 20 = .ok (.invokestatic 63, 3) := by decide +kernel
theorem dX3_act_23 : decode cX3_act 23 = .ok (.ifCond .ne 5, 3) := by decide +kernel
theorem dX3_act_26 : decode cX3_act 26 = .ok (.iconst (-1), 1) := by decide +kernel
theorem dX3_act_27 : decode cX3_act 27 = .ok (.ireturn, 1) := by decide +kernel
theorem dX3_act_28 : decode cX3_act 28 = .ok (.aload_n 0, 1) := by decide +kernel
theorem dX3_act_29 : decode cX3_act 29 = .ok (.iload_n 1, 1) := by decide +kernel
theorem dX3_act_30 : decode cX3_act 30 = .ok (.iload_n 2, 1) := by decide +kernel
theorem dX3_act_31 : decode cX3_act 31 = .ok (.iload_n 3, 1) := by decide +kernel
theorem dX3_act_32 : decode cX3_act 32 = .ok (.iconst (-1), 1) := by decide +kernel
theorem dX3_act_33 : decode cX3_act 33 = .ok (.invokevirtual 71, 3) := by decide +kernel
theorem dX3_act_36 : decode cX3_act 36 = .ok (.ireturn, 1) := by decide +kernel
set_option maxRecDepth 20000 in
theorem ggX3_limit_X3_isBelow : GoodIn wsX3_limit wsX3_isBelow := goodIn_r _ [5] (by decide +kernel) (by decide +kernel)
set_option maxRecDepth 20000 in
theorem gX3_limit_X3_isBelow : GoodIn wsX3_limit (va_wsS RX3 63 yX3_isBelow wsX3_isBelow) := goodIn_app (goodIn_of _ (by decide +kernel)) ggX3_limit_X3_isBelow
theorem dX3_limit_0 : decode cX3_limit 0 = .ok (.iload_n 1, 1) := by decide +kernel
theorem dX3_limit_1 : decode cX3_limit 1 = .ok (.iconst 4, 1) := by decide +kernel
theorem dX3_limit_2 : decode cX3_limit 2 = .ok (.invokestatic 63, 3) := by decide +kernel
theorem dX3_limit_5 : decode cX3_limit 5 = .ok (.ifCond .eq 13, 3) := by decide +kernel
theorem dX3_limit_8 : decode cX3_limit 8 = .ok (.iload_n 2, 1) := by decide +kernel
theorem dX3_limit_9 : decode cX3_limit 9 = .ok (.ifCond .lt 9, 3) := by decide +kernel
theorem dX3_limit_12 : decode cX3_limit 12 = .ok (.iload_n 2, 1) := by decide +kernel
theorem dX3_limit_13 : decode cX3_limit 13 = .ok (.bipush 9, 2) := by decide +kernel
theorem dX3_limit_15 : decode cX3_limit 15 = .ok (.if_icmp .le 5, 3) := by decide +kernel
theorem dX3_limit_18 : decode cX3_limit 18 = .ok (.iconst 0, 1) := by decide +kernel
theorem dX3_limit_19 : decode cX3_limit 19 = .ok (.ireturn, 1) := by decide +kernel
theorem dX3_limit_20 : decode cX3_limit 20 = .ok (.aload_n 0, 1) := by decide +kernel
theorem dX3_limit_21 : decode cX3_limit 21 = .ok (.getfield 16, 3) := by decide +kernel
theorem dX3_limit_24 : decode cX3_limit 24 = .ok (.iload_n 1, 1) := by decide +kernel
theorem dX3_limit_25 : decode cX3_limit 25 = .ok (.iload_n 2, 1) := by decide +kernel
theorem dX3_limit_26 : decode cX3_limit 26 = .ok (.iastore, 1) := by decide +kernel
theorem dX3_limit_27 : decode cX3_limit 27 = .ok (.iconst 1, 1) := by decide +kernel
theorem dX3_limit_28 : decode cX3_limit 28 = .ok (.ireturn, 1) := by decide +kernel
set_option maxRecDepth 20000 in
theorem ggX3_floor_X3_isBelow : GoodIn wsX3_floor wsX3_isBelow := goodIn_r _ [5] (by decide +kernel) (by decide +kernel)
set_option maxRecDepth 20000 in
theorem gX3_floor_X3_isBelow : GoodIn wsX3_floor (va_wsS RX3 63 yX3_isBelow wsX3_isBelow) := goodIn_app (goodIn_of _ (by decide +kernel)) ggX3_floor_X3_isBelow
set_option maxRecDepth 20000 in
theorem ggX3_floor_X3_leastToCome : GoodIn wsX3_floor wsX3_leastToCome := goodIn_r _ [9, 10, 11, 12, 13, 14, 15, 16, 17, 18, 19, 20, 21, 22, 23, 24, 25, 26, 27, 28, 29, 30, 31, 32, 33, 34, 35, 36, 37, 38, 39, 40, 41, 42, 43, 44, 45, 46, 47, 48, 49, 50, 51, 52] (by decide +kernel) (by decide +kernel)
set_option maxRecDepth 20000 in
theorem gX3_floor_X3_leastToCome : GoodIn wsX3_floor (wsV RX3 75 RX3 yX3_leastToCome wsX3_leastToCome) := goodIn_app (goodIn_of _ (by decide +kernel)) ggX3_floor_X3_leastToCome
theorem dX3_floor_0 : decode cX3_floor 0 = .ok (.iload_n 1, 1) := by decide +kernel
theorem dX3_floor_1 : decode cX3_floor 1 = .ok (.bipush 8, 2) := by decide +kernel
theorem dX3_floor_3 : decode cX3_floor 3 = .ok (.invokestatic 63, 3) := by decide +kernel
theorem dX3_floor_6 : decode cX3_floor 6 = .ok (.ifCond .eq 14, 3) := by decide +kernel
theorem dX3_floor_9 : decode cX3_floor 9 = .ok (.iload_n 2, 1) := by decide +kernel
theorem dX3_floor_10 : decode cX3_floor 10 = .ok (.sipush (-1000), 3) := by decide +kernel
theorem dX3_floor_13 : decode cX3_floor 13 = .ok (.if_icmp .lt 7, 3) := by decide +kernel
theorem dX3_floor_16 : decode cX3_floor 16 = .ok (.iload_n 2, 1) := by decide +kernel
theorem dX3_floor_17 : decode cX3_floor 17 = .ok (.ifCond .le 5, 3) := by decide +kernel
theorem dX3_floor_20 : decode cX3_floor 20 = .ok (.iconst 0, 1) := by decide +kernel
theorem dX3_floor_21 : decode cX3_floor 21 = .ok (.ireturn, 1) := by decide +kernel
theorem dX3_floor_22 : decode cX3_floor 22 = .ok (.aload_n 0, 1) := by decide +kernel
theorem dX3_floor_23 : decode cX3_floor 23 = .ok (.iload_n 1, 1) := by decide +kernel
theorem dX3_floor_24 : decode cX3_floor 24 = .ok (.invokevirtual 75, 3) := by decide +kernel
theorem dX3_floor_27 : decode cX3_floor 27 = .ok (.iload_n 2, 1) := by decide +kernel
theorem dX3_floor_28 : decode cX3_floor 28 = .ok (.if_icmp .ge 5, 3) := by decide +kernel
theorem dX3_floor_31 : decode cX3_floor 31 = .ok (.iconst 0, 1) := by decide +kernel
theorem dX3_floor_32 : decode cX3_floor 32 = .ok (.ireturn, 1) := by decide +kernel
theorem dX3_floor_33 : decode cX3_floor 33 = .ok (.aload_n 0, 1) := by decide +kernel
theorem dX3_floor_34 : decode cX3_floor 34 = .ok (.getfield 19, 3) := by decide +kernel
theorem dX3_floor_37 : decode cX3_floor 37 = .ok (.iload_n 1, 1) := by decide +kernel
theorem dX3_floor_38 : decode cX3_floor 38 = .ok (.iload_n 2, 1) := by decide +kernel
theorem dX3_floor_39 : decode cX3_floor 39 = .ok (.iastore, 1) := by decide +kernel
theorem dX3_floor_40 : decode cX3_floor 40 = .ok (.iconst 1, 1) := by decide +kernel
theorem dX3_floor_41 : decode cX3_floor 41 = .ok (.ireturn, 1) := by decide +kernel
set_option maxRecDepth 20000 in
theorem ggX3_go_X3_passTick : GoodIn wsX3_go wsX3_passTick := goodIn_r _ [6, 1, 7, 8, 9, 5, 10, 11, 12, 13, 14, 15, 16, 17, 18, 19, 20, 21, 22, 23, 24, 25, 26, 27, 28, 29, 30, 31, 32, 33, 34, 35, 36, 37, 38, 39, 40, 41, 42, 43, 44, 45, 46, 47, 48, 49, 50, 51, 52, 53, 54, 55, 56, 57, 58, 59, 60, 61, 62, 63, 64, 65, 66, 67, 68, 69, 70, 71, 72, 73, 74, 75, 76, 77, 78, 79, 80, 81, 82, 83, 84, 85, 86, 87, 88, 89, 90, 91, 92, 93, 94, 95, 96, 97, 98, 99, 100, 101, 102, 103, 104, 105, 106, 107, 108, 109, 110, 111, 112, 113, 114, 115, 116, 117, 118, 119, 120, 121, 122, 123, 124, 125, 126, 127, 128, 129, 130, 131, 132, 133, 134, 135, 136, 137, 138, 139, 140, 141, 142, 143, 144, 145, 146, 147, 148, 149, 150, 151, 152, 153, 154, 155, 156, 157, 158, 159, 160, 161, 162, 163, 164, 165, 166, 167, 168, 169, 170, 171, 172, 173, 174, 175, 176, 177, 178, 179, 180, 181, 182, 183, 184, 185, 186, 187, 188, 189, 190, 191, 192, 193, 194, 195, 196, 197, 198, 199, 200, 201, 202, 203, 204, 205, 206, 207, 208, 209, 210, 211, 212, 213, 214, 215, 216, 217, 218, 219, 220, 221, 222, 223, 224, 225, 226, 227, 228, 229, 230, 231, 232, 233, 234, 235, 236, 237, 238, 239, 240, 241, 242, 243, 244, 245, 246, 247, 248, 249, 250, 251, 252, 253, 254, 255, 256, 257, 258, 259, 260, 261, 262, 263, 264, 265, 266, 267, 268, 269, 270, 271, 272, 273, 274, 275, 276, 277, 278, 279, 280, 281, 282, 283, 284, 285, 286, 287, 288, 289, 290, 291, 292, 293, 294, 295, 296, 297, 298, 299, 300, 301, 302, 303, 304, 305, 306, 307, 308, 309, 310, 311] (by decide +kernel) (by decide +kernel)
set_option maxRecDepth 20000 in
theorem gX3_go_X3_passTick : GoodIn wsX3_go (wsV RX3 83 RX3 yX3_passTick wsX3_passTick) := goodIn_app (goodIn_of _ (by decide +kernel)) ggX3_go_X3_passTick
theorem dX3_go_0 : decode cX3_go 0 = .ok (.iload_n 1, 1) := by decide +kernel
theorem dX3_go_1 : decode cX3_go 1 = .ok (.ifCond .lt 10, 3) := by decide +kernel
theorem dX3_go_4 : decode cX3_go 4 = .ok (.iload_n 1, 1) := by decide +kernel
theorem dX3_go_5 : decode cX3_go 5 = .ok (.sipush 200, 3) := by decide +kernel
theorem dX3_go_8 : decode cX3_go 8 = .ok (.if_icmp .le 5, 3) := by decide +kernel
theorem dX3_go_11 : decode cX3_go 11 = .ok (.iconst (-1), 1) := by decide +kernel
theorem dX3_go_12 : decode cX3_go 12 = .ok (.ireturn, 1) := by decide +kernel
theorem dX3_go_13 : decode cX3_go 13 = .ok (.iconst 0, 1) := by decide +kernel
theorem dX3_go_14 : decode cX3_go 14 = .ok (.istore_n 2, 1) := by decide +kernel
theorem dX3_go_15 : decode cX3_go 15 = .ok (.iload_n 2, 1) := by decide +kernel
theorem dX3_go_16 : decode cX3_go 16 = .ok (.iload_n 1, 1) := by decide +kernel
theorem dX3_go_17 : decode cX3_go 17 = .ok (.if_icmp .ge 23, 3) := by decide +kernel
theorem dX3_go_20 : decode cX3_go 20 = .ok (.aload_n 0, 1) := by decide +kernel
theorem dX3_go_21 : decode cX3_go 21 = .ok (.getfield 79, 3) := by decide +kernel
theorem dX3_go_24 : decode cX3_go 24 = .ok (.sipush 5000, 3) := by decide +kernel
theorem dX3_go_27 : decode cX3_go 27 = .ok (.if_icmp .ge 13, 3) := by decide +kernel
theorem dX3_go_30 : decode cX3_go 30 = .ok (.aload_n 0, 1) := by decide +kernel
theorem dX3_go_31 : decode cX3_go 31 = .ok (.invokevirtual 83, 3) := by decide +kernel
theorem dX3_go_34 : decode cX3_go 34 = .ok (.iinc 2 1, 3) := by decide +kernel
theorem dX3_go_37 : decode cX3_go 37 = .ok (.goto (-22), 3) := by decide +kernel
theorem dX3_go_40 : decode cX3_go 40 = .ok (.aload_n 0, 1) := by decide +kernel
theorem dX3_go_41 : decode cX3_go 41 = .ok (.getfield 79, 3) := by decide +kernel
theorem dX3_go_44 : decode cX3_go 44 = .ok (.ireturn, 1) := by decide +kernel
set_option maxRecDepth 20000 in
theorem ggX3_fall_X1_cut : GoodIn wsX3_fall wsX1_cut := goodIn_r _ [10, 11, 91, 92, 93] (by decide +kernel) (by decide +kernel)
set_option maxRecDepth 20000 in
theorem gX3_fall_X1_cut : GoodIn wsX3_fall (wsV RX3 92 RX1 yX1_cut wsX1_cut) := goodIn_app (goodIn_of _ (by decide +kernel)) ggX3_fall_X1_cut
set_option maxRecDepth 20000 in
theorem ggX3_fall_X1_keepAll : GoodIn wsX3_fall wsX1_keepAll := goodIn_r _ [15, 11, 16, 91, 92, 93] (by decide +kernel) (by decide +kernel)
set_option maxRecDepth 20000 in
theorem gX3_fall_X1_keepAll : GoodIn wsX3_fall (wsV RX3 96 RX1 yX1_keepAll wsX1_keepAll) := goodIn_app (goodIn_of _ (by decide +kernel)) ggX3_fall_X1_keepAll
set_option maxRecDepth 20000 in
theorem ggX3_fall_X3_isLost : GoodIn wsX3_fall wsX3_isLost := goodIn_r _ [21, 22, 23, 24, 1, 2, 73, 74, 75, 76, 77, 78, 79, 80, 81, 82, 83, 84, 85, 86, 87, 88, 89, 90, 94, 95, 96, 97, 98, 99, 100, 101, 102, 103, 104, 105, 106, 107, 108, 109, 110, 111, 112, 113, 91, 92, 93] (by decide +kernel) (by decide +kernel)
set_option maxRecDepth 20000 in
theorem gX3_fall_X3_isLost : GoodIn wsX3_fall (wsV RX3 105 RX3 yX3_isLost wsX3_isLost) := goodIn_app (goodIn_of _ (by decide +kernel)) ggX3_fall_X3_isLost
set_option maxRecDepth 20000 in
theorem ggX3_fall_X3_fallAct : GoodIn wsX3_fall wsX3_fallAct := goodIn_r _ [28, 22, 29, 23, 24, 1, 2, 17, 18, 19, 20, 21, 30, 31, 32, 33, 34, 35, 36, 37, 38, 39, 40, 41, 42, 43, 44, 45, 46, 47, 48, 49, 50, 51, 73, 74, 75, 76, 77, 78, 79, 80, 81, 82, 83, 84, 85, 86, 87, 88, 89, 90, 94, 95, 96, 97, 98, 99, 100, 101, 102, 103, 104, 105, 106, 107, 108, 109, 110, 111, 112, 113, 91, 92, 93] (by decide +kernel) (by decide +kernel)
set_option maxRecDepth 20000 in
theorem gX3_fall_X3_fallAct : GoodIn wsX3_fall (wsV RX3 108 RX3 yX3_fallAct wsX3_fallAct) := goodIn_app (goodIn_of _ (by decide +kernel)) ggX3_fall_X3_fallAct
set_option maxRecDepth 20000 in
theorem ggX3_fall_X3_dropUndoneFromRow : GoodIn wsX3_fall wsX3_dropUndoneFromRow := goodIn_r _ [55, 56, 22, 57, 23, 73, 74, 75, 76, 77, 78, 79, 80, 81, 82, 83, 84, 85, 86, 87, 88, 89, 90, 94, 95, 96, 97, 98, 99, 100, 101, 102, 103, 104, 105, 106, 107, 108, 109, 110, 111, 112, 113] (by decide +kernel) (by decide +kernel)
set_option maxRecDepth 20000 in
theorem gX3_fall_X3_dropUndoneFromRow : GoodIn wsX3_fall (wsV RX3 111 RX3 yX3_dropUndoneFromRow wsX3_dropUndoneFromRow) := goodIn_app (goodIn_of _ (by decide +kernel)) ggX3_fall_X3_dropUndoneFromRow
set_option maxRecDepth 20000 in
theorem ggX3_fall_X3_retellValues : GoodIn wsX3_fall wsX3_retellValues := goodIn_r _ [61, 62, 56, 22, 57, 63, 43, 44, 45, 64, 65, 66, 20, 67, 68, 69, 70, 33, 71, 39, 72, 40, 73, 74, 75, 76, 77, 78, 79, 80, 81, 82, 83, 84, 85, 86, 87, 88, 89, 90, 94, 95, 96, 97, 98, 99, 100, 101, 102, 103, 104, 105, 106, 107, 108, 109, 110, 111, 112, 113] (by decide +kernel) (by decide +kernel)
set_option maxRecDepth 20000 in
theorem gX3_fall_X3_retellValues : GoodIn wsX3_fall (wsV RX3 114 RX3 yX3_retellValues wsX3_retellValues) := goodIn_app (goodIn_of _ (by decide +kernel)) ggX3_fall_X3_retellValues
theorem dX3_fall_0 : decode cX3_fall 0 = .ok (.iload_n 1, 1) := by decide +kernel
theorem dX3_fall_1 : decode cX3_fall 1 = .ok (.ifCond .lt 22, 3) := by decide +kernel
theorem dX3_fall_4 : decode cX3_fall 4 = .ok (.iload_n 1, 1) := by decide +kernel
theorem dX3_fall_5 : decode cX3_fall 5 = .ok (.aload_n 0, 1) := by decide +kernel
theorem dX3_fall_6 : decode cX3_fall 6 = .ok (.getfield 46, 3) := by decide +kernel
theorem dX3_fall_9 : decode cX3_fall 9 = .ok (.getfield 86, 3) := by decide +kernel
theorem dX3_fall_12 : decode cX3_fall 12 = .ok (.aload_n 0, 1) := by decide +kernel
theorem dX3_fall_13 : decode cX3_fall 13 = .ok (.getfield 46, 3) := by decide +kernel
theorem dX3_fall_16 : decode cX3_fall 16 = .ok (.getfield 89, 3) := by decide +kernel
theorem dX3_fall_19 : decode cX3_fall 19 = .ok (.isub, 1) := by decide +kernel
theorem dX3_fall_20 : decode cX3_fall 20 = .ok (.if_icmp .le 5, 3) := by decide +kernel
theorem dX3_fall_23 : decode cX3_fall 23 = .ok (.iconst (-1), 1) := by decide +kernel
theorem dX3_fall_24 : decode cX3_fall 24 = .ok (.ireturn, 1) := by decide +kernel
theorem dX3_fall_25 : decode cX3_fall 25 = .ok (.aload_n 0, 1) := by decide +kernel
theorem dX3_fall_26 : decode cX3_fall 26 = .ok (.getfield 46, 3) := by decide +kernel
theorem dX3_fall_29 : decode cX3_fall 29 = .ok (.aload_n 0, 1) := by decide +kernel
theorem dX3_fall_30 : decode cX3_fall 30 = .ok (.getfield 46, 3) := by decide +kernel
theorem dX3_fall_33 : decode cX3_fall 33 = .ok (.getfield 89, 3) := by decide +kernel
theorem dX3_fall_36 : decode cX3_fall 36 = .ok (.iload_n 1, 1) := by decide +kernel
theorem dX3_fall_37 : decode cX3_fall 37 = .ok (.iadd, 1) := by decide +kernel
theorem dX3_fall_38 : decode cX3_fall 38 = .ok (.invokevirtual 92, 3) := by decide +kernel
theorem dX3_fall_41 : decode cX3_fall 41 = .ok (.aload_n 0, 1) := by decide +kernel
theorem dX3_fall_42 : decode cX3_fall 42 = .ok (.getfield 46, 3) := by decide +kernel
theorem dX3_fall_45 : decode cX3_fall 45 = .ok (.invokevirtual 96, 3) := by decide +kernel
theorem dX3_fall_48 : decode cX3_fall 48 = .ok (.aload_n 0, 1) := by decide +kernel
theorem dX3_fall_49 : decode cX3_fall 49 = .ok (.dup, 1) := by decide +kernel
theorem dX3_fall_50 : decode cX3_fall 50 = .ok (.getfield 99, 3) := by decide +kernel
theorem dX3_fall_53 : decode cX3_fall 53 = .ok (.iconst 1, 1) := by decide +kernel
theorem dX3_fall_54 : decode cX3_fall 54 = .ok (.iadd, 1) := by decide +kernel
theorem dX3_fall_55 : decode cX3_fall 55 = .ok (.putfield 99, 3) := by decide +kernel
theorem dX3_fall_58 : decode cX3_fall 58 = .ok (.iconst 0, 1) := by decide +kernel
theorem dX3_fall_59 : decode cX3_fall 59 = .ok (.istore_n 2, 1) := by decide +kernel
theorem dX3_fall_60 : decode cX3_fall 60 = .ok (.aload_n 0, 1) := by decide +kernel
theorem dX3_fall_61 : decode cX3_fall 61 = .ok (.getfield 102, 3) := by decide +kernel
theorem dX3_fall_64 : decode cX3_fall 64 = .ok (.iconst 1, 1) := by decide +kernel
theorem dX3_fall_65 : decode cX3_fall 65 = .ok (.isub, 1) := by decide +kernel
theorem dX3_fall_66 : decode cX3_fall 66 = .ok (.istore_n 3, 1) := by decide +kernel
theorem dX3_fall_67 : decode cX3_fall 67 = .ok (.iload_n 3, 1) := by decide +kernel
theorem dX3_fall_68 : decode cX3_fall 68 = .ok (.ifCond .lt 25, 3) := by decide +kernel
theorem dX3_fall_71 : decode cX3_fall 71 = .ok (.aload_n 0, 1) := by decide +kernel
theorem dX3_fall_72 : decode cX3_fall 72 = .ok (.iload_n 3, 1) := by decide +kernel
theorem dX3_fall_73 : decode cX3_fall 73 = .ok (.invokevirtual 105, 3) := by decide +kernel
theorem dX3_fall_76 : decode cX3_fall 76 = .ok (.ifCond .eq 6, 3) := by decide +kernel
theorem dX3_fall_79 : decode cX3_fall 79 = .ok (.iinc 2 1, 3) := by decide +kernel
theorem dX3_fall_82 : decode cX3_fall 82 = .ok (.aload_n 0, 1) := by decide +kernel
theorem dX3_fall_83 : decode cX3_fall 83 = .ok (.iload_n 3, 1) := by decide +kernel
theorem dX3_fall_84 : decode cX3_fall 84 = .ok (.invokevirtual 108, 3) := by decide +kernel
theorem dX3_fall_87 : decode cX3_fall 87 = .ok (.iinc 3 (-1), 3) := by decide +kernel
theorem dX3_fall_90 : decode cX3_fall 90 = .ok (.goto (-23), 3) := by decide +kernel
theorem dX3_fall_93 : decode cX3_fall 93 = .ok (.aload_n 0, 1) := by decide +kernel
theorem dX3_fall_94 : decode cX3_fall 94 = .ok (.invokevirtual 111, 3) := by decide +kernel
theorem dX3_fall_97 : decode cX3_fall 97 = .ok (.aload_n 0, 1) := by decide +kernel
theorem dX3_fall_98 : decode cX3_fall 98 = .ok (.invokevirtual 114, 3) := by decide +kernel
theorem dX3_fall_101 : decode cX3_fall 101 = .ok (.iload_n 2, 1) := by decide +kernel
theorem dX3_fall_102 : decode cX3_fall 102 = .ok (.ireturn, 1) := by decide +kernel
set_option maxRecDepth 20000 in
theorem ggX3_told_X3_isBelow : GoodIn wsX3_told wsX3_isBelow := goodIn_r _ [17] (by decide +kernel) (by decide +kernel)
set_option maxRecDepth 20000 in
theorem gX3_told_X3_isBelow : GoodIn wsX3_told (va_wsS RX3 63 yX3_isBelow wsX3_isBelow) := goodIn_app (goodIn_of _ (by decide +kernel)) ggX3_told_X3_isBelow
theorem dX3_told_0 : decode cX3_told 0 = .ok (.iload_n 1, 1) := by decide +kernel
theorem dX3_told_1 : decode cX3_told 1 = .ok (.aload_n 0, 1) := by decide +kernel
theorem dX3_told_2 : decode cX3_told 2 = .ok (.getfield 102, 3) := by decide +kernel
theorem dX3_told_5 : decode cX3_told 5 = .ok (.invokestatic 63, 3) := by decide +kernel
theorem dX3_told_8 : decode cX3_told 8 = .ok (.ifCond .ne 5, 3) := by decide +kernel
theorem dX3_told_11 : decode cX3_told 11 = .ok (.iconst (-1), 1) := by decide +kernel
theorem dX3_told_12 : decode cX3_told 12 = .ok (.ireturn, 1) := by decide +kernel
theorem dX3_told_13 : decode cX3_told 13 = .ok (.aload_n 0, 1) := by decide +kernel
theorem dX3_told_14 : decode cX3_told 14 = .ok (.getfield 27, 3) := by decide +kernel
theorem dX3_told_17 : decode cX3_told 17 = .ok (.iload_n 1, 1) := by decide +kernel
theorem dX3_told_18 : decode cX3_told 18 = .ok (.aaload, 1) := by decide +kernel
theorem dX3_told_19 : decode cX3_told 19 = .ok (.astore_n 3, 1) := by decide +kernel
theorem dX3_told_20 : decode cX3_told 20 = .ok (.aload_n 3, 1) := by decide +kernel
theorem dX3_told_21 : decode cX3_told 21 = .ok (.getfield 117, 3) := by decide +kernel
theorem dX3_told_24 : decode cX3_told 24 = .ok (.iconst 1, 1) := by decide +kernel
theorem dX3_told_25 : decode cX3_told 25 = .ok (.if_icmp .ne 7, 3) := by decide +kernel
theorem dX3_told_28 : decode cX3_told 28 = .ok (.iconst 1, 1) := by decide +kernel
theorem dX3_told_29 : decode cX3_told 29 = .ok (.goto 4, 3) := by decide +kernel
theorem dX3_told_32 : decode cX3_told 32 = .ok (.iconst 0, 1) := by decide +kernel
theorem dX3_told_33 : decode cX3_told 33 = .ok (.istore 4, 2) := by decide +kernel
theorem dX3_told_35 : decode cX3_told 35 = .ok (.iload_n 2, 1) := by decide +kernel
theorem dX3_told_36 : decode cX3_told 36 = .ok (.tableswitch 134 0 9 #[56, 61, 66, 71, 76, 90, 114, 119, 124, 129], 56) := by decide +kernel
theorem dX3_told_92 : decode cX3_told 92 = .ok (.aload_n 3, 1) := by decide +kernel
theorem dX3_told_93 : decode cX3_told 93 = .ok (.getfield 117, 3) := by decide +kernel
theorem dX3_told_96 : decode cX3_told 96 = .ok (.ireturn, 1) := by decide +kernel
theorem dX3_told_97 : decode cX3_told 97 = .ok (.aload_n 3, 1) := by decide +kernel
theorem dX3_told_98 : decode cX3_told 98 = .ok (.getfield 120, 3) := by decide +kernel
theorem dX3_told_101 : decode cX3_told 101 = .ok (.ireturn, 1) := by decide +kernel
theorem dX3_told_102 : decode cX3_told 102 = .ok (.aload_n 3, 1) := by decide +kernel
theorem dX3_told_103 : decode cX3_told 103 = .ok (.getfield 123, 3) := by decide +kernel
theorem dX3_told_106 : decode cX3_told 106 = .ok (.ireturn, 1) := by decide +kernel
theorem dX3_told_107 : decode cX3_told 107 = .ok (.aload_n 3, 1) := by decide +kernel
theorem dX3_told_108 : decode cX3_told 108 = .ok (.getfield 126, 3) := by decide +kernel
theorem dX3_told_111 : decode cX3_told 111 = .ok (.ireturn, 1) := by decide +kernel
theorem dX3_told_112 : decode cX3_told 112 = .ok (.iload 4, 2) := by decide +kernel
theorem dX3_told_114 : decode cX3_told 114 = .ok (.ifCond .eq 10, 3) := by decide +kernel
theorem dX3_told_117 : decode cX3_told 117 = .ok (.aload_n 3, 1) := by decide +kernel
theorem dX3_told_118 : decode cX3_told 118 = .ok (.getfield 129, 3) := by decide +kernel
theorem dX3_told_121 : decode cX3_told 121 = .ok (.goto 4, 3) := by decide +kernel
theorem dX3_told_124 : decode cX3_told 124 = .ok (.iconst (-1), 1) := by decide +kernel
theorem dX3_told_125 : decode cX3_told 125 = .ok (.ireturn, 1) := by decide +kernel
theorem dX3_told_126 : decode cX3_told 126 = .ok (.iload 4, 2) := by decide +kernel
theorem dX3_told_128 : decode cX3_told 128 = .ok (.ifCond .eq 20, 3) := by decide +kernel
theorem dX3_told_131 : decode cX3_told 131 = .ok (.aload_n 3, 1) := by decide +kernel
theorem dX3_told_132 : decode cX3_told 132 = .ok (.getfield 132, 3) := by decide +kernel
theorem dX3_told_135 : decode cX3_told 135 = .ok (.aload_n 0, 1) := by decide +kernel
theorem dX3_told_136 : decode cX3_told 136 = .ok (.getfield 79, 3) := by decide +kernel
theorem dX3_told_139 : decode cX3_told 139 = .ok (.iconst 1, 1) := by decide +kernel
theorem dX3_told_140 : decode cX3_told 140 = .ok (.isub, 1) := by decide +kernel
theorem dX3_told_141 : decode cX3_told 141 = .ok (.if_icmp .ne 7, 3) := by decide +kernel
theorem dX3_told_144 : decode cX3_told 144 = .ok (.iconst 1, 1) := by decide +kernel
theorem dX3_told_145 : decode cX3_told 145 = .ok (.goto 4, 3) := by decide +kernel
theorem dX3_told_148 : decode cX3_told 148 = .ok (.iconst 0, 1) := by decide +kernel
theorem dX3_told_149 : decode cX3_told 149 = .ok (.ireturn, 1) := by decide +kernel
theorem dX3_told_150 : decode cX3_told 150 = .ok (.aload_n 3, 1) := by decide +kernel
theorem dX3_told_151 : decode cX3_told 151 = .ok (.getfield 135, 3) := by decide +kernel
theorem dX3_told_154 : decode cX3_told 154 = .ok (.ireturn, 1) := by decide +kernel
theorem dX3_told_155 : decode cX3_told 155 = .ok (.aload_n 3, 1) := by decide +kernel
theorem dX3_told_156 : decode cX3_told 156 = .ok (.getfield 138, 3) := by decide +kernel
theorem dX3_told_159 : decode cX3_told 159 = .ok (.ireturn, 1) := by decide +kernel
theorem dX3_told_160 : decode cX3_told 160 = .ok (.aload_n 3, 1) := by decide +kernel
theorem dX3_told_161 : decode cX3_told 161 = .ok (.getfield 141, 3) := by decide +kernel
theorem dX3_told_164 : decode cX3_told 164 = .ok (.ireturn, 1) := by decide +kernel
theorem dX3_told_165 : decode cX3_told 165 = .ok (.aload_n 3, 1) := by decide +kernel
theorem dX3_told_166 : decode cX3_told 166 = .ok (.getfield 144, 3) := by decide +kernel
theorem dX3_told_169 : decode cX3_told 169 = .ok (.ireturn, 1) := by decide +kernel
theorem dX3_told_170 : decode cX3_told 170 = .ok (.iconst (-1), 1) := by decide +kernel
theorem dX3_told_171 : decode cX3_told 171 = .ok (.ireturn, 1) := by decide +kernel
set_option maxRecDepth 20000 in
theorem ggX3_register_X3_isBelow : GoodIn wsX3_register wsX3_isBelow := goodIn_r _ [9] (by decide +kernel) (by decide +kernel)
set_option maxRecDepth 20000 in
theorem gX3_register_X3_isBelow : GoodIn wsX3_register (va_wsS RX3 63 yX3_isBelow wsX3_isBelow) := goodIn_app (goodIn_of _ (by decide +kernel)) ggX3_register_X3_isBelow
theorem dX3_register_0 : decode cX3_register 0 = .ok (.iload_n 1, 1) := by decide +kernel
theorem dX3_register_1 : decode cX3_register 1 = .ok (.aload_n 0, 1) := by decide +kernel
theorem dX3_register_2 : decode cX3_register 2 = .ok (.getfield 102, 3) := by decide +kernel
theorem dX3_register_5 : decode cX3_register 5 = .ok (.invokestatic 63, 3) := by decide +kernel
theorem dX3_register_8 : decode cX3_register 8 = .ok (.ifCond .eq 16, 3) := by decide +kernel
theorem dX3_register_11 : decode cX3_register 11 = .ok (.aload_n 0, 1) := by decide +kernel
theorem dX3_register_12 : decode cX3_register 12 = .ok (.getfield 27, 3) := by decide +kernel
theorem dX3_register_15 : decode cX3_register 15 = .ok (.iload_n 1, 1) := by decide +kernel
theorem dX3_register_16 : decode cX3_register 16 = .ok (.aaload, 1) := by decide +kernel
theorem dX3_register_17 : decode cX3_register 17 = .ok (.getfield 117, 3) := by decide +kernel
theorem dX3_register_20 : decode cX3_register 20 = .ok (.iconst 1, 1) := by decide +kernel
theorem dX3_register_21 : decode cX3_register 21 = .ok (.if_icmp .eq 6, 3) := by decide +kernel
theorem dX3_register_24 : decode cX3_register 24 = .ok (.ldc 147, 2) := by decide +kernel
theorem dX3_register_26 : decode cX3_register 26 = .ok (.ireturn, 1) := by decide +kernel
theorem dX3_register_27 : decode cX3_register 27 = .ok (.aload_n 0, 1) := by decide +kernel
theorem dX3_register_28 : decode cX3_register 28 = .ok (.getfield 27, 3) := by decide +kernel
theorem dX3_register_31 : decode cX3_register 31 = .ok (.iload_n 1, 1) := by decide +kernel
theorem dX3_register_32 : decode cX3_register 32 = .ok (.aaload, 1) := by decide +kernel
theorem dX3_register_33 : decode cX3_register 33 = .ok (.getfield 148, 3) := by decide +kernel
theorem dX3_register_36 : decode cX3_register 36 = .ok (.ireturn, 1) := by decide +kernel
set_option maxRecDepth 20000 in
theorem ggX3_holds_X3_isBelow : GoodIn wsX3_holds wsX3_isBelow := goodIn_r _ [8] (by decide +kernel) (by decide +kernel)
set_option maxRecDepth 20000 in
theorem gX3_holds_X3_isBelow : GoodIn wsX3_holds (va_wsS RX3 63 yX3_isBelow wsX3_isBelow) := goodIn_app (goodIn_of _ (by decide +kernel)) ggX3_holds_X3_isBelow
theorem dX3_holds_0 : decode cX3_holds 0 = .ok (.iload_n 1, 1) := by decide +kernel
theorem dX3_holds_1 : decode cX3_holds 1 = .ok (.aload_n 0, 1) := by decide +kernel
theorem dX3_holds_2 : decode cX3_holds 2 = .ok (.getfield 102, 3) := by decide +kernel
theorem dX3_holds_5 : decode cX3_holds 5 = .ok (.invokestatic 63, 3) := by decide +kernel
theorem dX3_holds_8 : decode cX3_holds 8 = .ok (.ifCond .eq 12, 3) := by decide +kernel
theorem dX3_holds_11 : decode cX3_holds 11 = .ok (.iload_n 2, 1) := by decide +kernel
theorem dX3_holds_12 : decode cX3_holds 12 = .ok (.bipush 24, 2) := by decide +kernel
theorem dX3_holds_14 : decode cX3_holds 14 = .ok (.invokestatic 63, 3) := by decide +kernel
theorem dX3_holds_17 : decode cX3_holds 17 = .ok (.ifCond .ne 5, 3) := by decide +kernel
theorem dX3_holds_20 : decode cX3_holds 20 = .ok (.iconst (-1), 1) := by decide +kernel
theorem dX3_holds_21 : decode cX3_holds 21 = .ok (.ireturn, 1) := by decide +kernel
theorem dX3_holds_22 : decode cX3_holds 22 = .ok (.aload_n 0, 1) := by decide +kernel
theorem dX3_holds_23 : decode cX3_holds 23 = .ok (.getfield 27, 3) := by decide +kernel
theorem dX3_holds_26 : decode cX3_holds 26 = .ok (.iload_n 1, 1) := by decide +kernel
theorem dX3_holds_27 : decode cX3_holds 27 = .ok (.aaload, 1) := by decide +kernel
theorem dX3_holds_28 : decode cX3_holds 28 = .ok (.getfield 117, 3) := by decide +kernel
theorem dX3_holds_31 : decode cX3_holds 31 = .ok (.iconst 1, 1) := by decide +kernel
theorem dX3_holds_32 : decode cX3_holds 32 = .ok (.if_icmp .ne 17, 3) := by decide +kernel
theorem dX3_holds_35 : decode cX3_holds 35 = .ok (.aload_n 0, 1) := by decide +kernel
theorem dX3_holds_36 : decode cX3_holds 36 = .ok (.getfield 27, 3) := by decide +kernel
theorem dX3_holds_39 : decode cX3_holds 39 = .ok (.iload_n 1, 1) := by decide +kernel
theorem dX3_holds_40 : decode cX3_holds 40 = .ok (.aaload, 1) := by decide +kernel
theorem dX3_holds_41 : decode cX3_holds 41 = .ok (.getfield 151, 3) := by decide +kernel
theorem dX3_holds_44 : decode cX3_holds 44 = .ok (.iload_n 2, 1) := by decide +kernel
theorem dX3_holds_45 : decode cX3_holds 45 = .ok (.iaload, 1) := by decide +kernel
theorem dX3_holds_46 : decode cX3_holds 46 = .ok (.goto 4, 3) := by decide +kernel
theorem dX3_holds_49 : decode cX3_holds 49 = .ok (.iconst 0, 1) := by decide +kernel
theorem dX3_holds_50 : decode cX3_holds 50 = .ok (.ireturn, 1) := by decide +kernel
set_option maxRecDepth 20000 in
theorem ggX3_value_X3_isBelow : GoodIn wsX3_value wsX3_isBelow := goodIn_r _ [11] (by decide +kernel) (by decide +kernel)
set_option maxRecDepth 20000 in
theorem gX3_value_X3_isBelow : GoodIn wsX3_value (va_wsS RX3 63 yX3_isBelow wsX3_isBelow) := goodIn_app (goodIn_of _ (by decide +kernel)) ggX3_value_X3_isBelow
set_option maxRecDepth 20000 in
theorem ggX3_value_X0_valueAfter : GoodIn wsX3_value wsX0_valueAfter := goodIn_r _ [16, 17, 18, 19, 38, 39, 40, 41, 42, 43, 44, 45, 46, 47, 48, 49, 50, 51, 52, 53, 54, 55, 56, 57] (by decide +kernel) (by decide +kernel)
set_option maxRecDepth 20000 in
theorem gX3_value_X0_valueAfter : GoodIn wsX3_value (wsV RX3 157 RX0 yX0_valueAfter wsX0_valueAfter) := goodIn_app (goodIn_of _ (by decide +kernel)) ggX3_value_X0_valueAfter
theorem dX3_value_0 : decode cX3_value 0 = .ok (.iload_n 1, 1) := by decide +kernel
theorem dX3_value_1 : decode cX3_value 1 = .ok (.bipush 32, 2) := by decide +kernel
theorem dX3_value_3 : decode cX3_value 3 = .ok (.invokestatic 63, 3) := by decide +kernel
theorem dX3_value_6 : decode cX3_value 6 = .ok (.ifCond .eq 15, 3) := by decide +kernel
theorem dX3_value_9 : decode cX3_value 9 = .ok (.iload_n 2, 1) := by decide +kernel
theorem dX3_value_10 : decode cX3_value 10 = .ok (.ifCond .lt 11, 3) := by decide +kernel
theorem dX3_value_13 : decode cX3_value 13 = .ok (.iload_n 2, 1) := by decide +kernel
theorem dX3_value_14 : decode cX3_value 14 = .ok (.aload_n 0, 1) := by decide +kernel
theorem dX3_value_15 : decode cX3_value 15 = .ok (.getfield 79, 3) := by decide +kernel
theorem dX3_value_18 : decode cX3_value 18 = .ok (.if_icmp .le 6, 3) := by decide +kernel
theorem dX3_value_21 : decode cX3_value 21 = .ok (.ldc 147, 2) := by decide +kernel
theorem dX3_value_23 : decode cX3_value 23 = .ok (.ireturn, 1) := by decide +kernel
theorem dX3_value_24 : decode cX3_value 24 = .ok (.iload_n 2, 1) := by decide +kernel
theorem dX3_value_25 : decode cX3_value 25 = .ok (.aload_n 0, 1) := by decide +kernel
theorem dX3_value_26 : decode cX3_value 26 = .ok (.getfield 79, 3) := by decide +kernel
theorem dX3_value_29 : decode cX3_value 29 = .ok (.if_icmp .ne 10, 3) := by decide +kernel
theorem dX3_value_32 : decode cX3_value 32 = .ok (.aload_n 0, 1) := by decide +kernel
theorem dX3_value_33 : decode cX3_value 33 = .ok (.getfield 22, 3) := by decide +kernel
theorem dX3_value_36 : decode cX3_value 36 = .ok (.iload_n 1, 1) := by decide +kernel
theorem dX3_value_37 : decode cX3_value 37 = .ok (.iaload, 1) := by decide +kernel
theorem dX3_value_38 : decode cX3_value 38 = .ok (.ireturn, 1) := by decide +kernel
theorem dX3_value_39 : decode cX3_value 39 = .ok (.iconst 0, 1) := by decide +kernel
theorem dX3_value_40 : decode cX3_value 40 = .ok (.istore_n 3, 1) := by decide +kernel
theorem dX3_value_41 : decode cX3_value 41 = .ok (.iconst 0, 1) := by decide +kernel
theorem dX3_value_42 : decode cX3_value 42 = .ok (.istore 4, 2) := by decide +kernel
theorem dX3_value_44 : decode cX3_value 44 = .ok (.iload 4, 2) := by decide +kernel
