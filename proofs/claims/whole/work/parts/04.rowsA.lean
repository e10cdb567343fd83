theorem inlX0 : ∀ w ∈ wsX00, w ∈ wsL_law := fun _ h => List.mem_append_left _ (List.mem_append_right _ h)
theorem inX0 : ∀ w ∈ wsX00, w ∈ lw_tbl := fun w h => wsL_law_in w (inlX0 w h)
theorem inlX1 : ∀ w ∈ wsX10, w ∈ wsL_law := fun _ h => List.mem_append_left _ (List.mem_append_left _ (List.mem_append_left _ (List.mem_append_right _ h)))
theorem inX1 : ∀ w ∈ wsX10, w ∈ lw_tbl := fun w h => wsL_law_in w (inlX1 w h)
theorem inlX2 : ∀ w ∈ wsX20, w ∈ wsL_law := fun _ h => List.mem_append_left _ (List.mem_append_left _ (List.mem_append_left _ (List.mem_append_left _ (List.mem_append_right _ h))))
theorem inX2 : ∀ w ∈ wsX20, w ∈ lw_tbl := fun w h => wsL_law_in w (inlX2 w h)
theorem inlX3 : ∀ w ∈ wsX30, w ∈ wsL_law := fun _ h => List.mem_append_left _ (List.mem_append_left _ (List.mem_append_left _ (List.mem_append_left _ (List.mem_append_left _ (List.mem_append_right _ h)))))
theorem inX3 : ∀ w ∈ wsX30, w ∈ lw_tbl := fun w h => wsL_law_in w (inlX3 w h)
theorem inlX4 : ∀ w ∈ wsX40, w ∈ wsL_law := fun _ h => List.mem_append_left _ (List.mem_append_left _ (List.mem_append_right _ h))
theorem inX4 : ∀ w ∈ wsX40, w ∈ lw_tbl := fun w h => wsL_law_in w (inlX4 w h)
theorem inlX5 : ∀ w ∈ wsX50, w ∈ wsL_law := fun _ h => List.mem_append_left _ (List.mem_append_left _ (List.mem_append_left _ (List.mem_append_left _ (List.mem_append_left _ (List.mem_append_left _ (List.mem_append_left _ (List.mem_append_right _ h)))))))
theorem inX5 : ∀ w ∈ wsX50, w ∈ lw_tbl := fun w h => wsL_law_in w (inlX5 w h)
theorem inlX6 : ∀ w ∈ wsX60, w ∈ wsL_law := fun _ h => List.mem_append_left _ (List.mem_append_left _ (List.mem_append_left _ (List.mem_append_left _ (List.mem_append_left _ (List.mem_append_left _ (List.mem_append_right _ h))))))
theorem inX6 : ∀ w ∈ wsX60, w ∈ lw_tbl := fun w h => wsL_law_in w (inlX6 w h)
theorem inJ11 : ∀ w ∈ wsJ110, w ∈ lw_tbl := by decide +kernel
theorem inJ9 : ∀ w ∈ wsJ90, w ∈ lw_tbl := by decide +kernel
theorem inJ0 : ∀ w ∈ wsJ00, w ∈ lw_tbl := by decide +kernel
theorem inJ1 : ∀ w ∈ wsJ10, w ∈ lw_tbl := by decide +kernel
theorem inJ2 : ∀ w ∈ wsJ20, w ∈ lw_tbl := by decide +kernel
theorem inJ10 : ∀ w ∈ wsJ100, w ∈ lw_tbl := by decide +kernel
theorem inJ3 : ∀ w ∈ wsJ30, w ∈ lw_tbl := by decide +kernel
theorem dX0_init_0 : decode cX0_init 0 = .ok (.aload_n 0, 1) := by decide +kernel
theorem dX0_init_1 : decode cX0_init 1 = .ok (.invokespecial 3, 3) := by decide +kernel
theorem dX0_init_4 : decode cX0_init 4 = .ok (.aload_n 0, 1) := by decide +kernel
theorem dX0_init_5 : decode cX0_init 5 = .ok (.iconst 4, 1) := by decide +kernel
theorem dX0_init_6 : decode cX0_init 6 = .ok (.newarray .int, 2) := by decide +kernel
theorem dX0_init_8 : decode cX0_init 8 = .ok (.putfield 9, 3) := by decide +kernel
theorem dX0_init_11 : decode cX0_init 11 = .ok (.aload_n 0, 1) := by decide +kernel
theorem dX0_init_12 : decode cX0_init 12 = .ok (.iconst 0, 1) := by decide +kernel
theorem dX0_init_13 : decode cX0_init 13 = .ok (.putfield 15, 3) := by decide +kernel
theorem dX0_init_16 : decode cX0_init 16 = .ok (.aload_n 0, 1) := by decide +kernel
theorem dX0_init_17 : decode cX0_init 17 = .ok (.iconst 0, 1) := by decide +kernel
theorem dX0_init_18 : decode cX0_init 18 = .ok (.putfield 19, 3) := by decide +kernel
theorem dX0_init_21 : decode cX0_init 21 = .ok (.return_, 1) := by decide +kernel
set_option maxRecDepth 20000 in
theorem ggX0_run_X5_copyRow : GoodIn wsX0_run wsX5_copyRow := goodIn_r _ [8, 9, 10, 11, 12] (by decide +kernel) (by decide +kernel)
set_option maxRecDepth 20000 in
theorem gX0_run_X5_copyRow_n25 : GoodIn wsX0_run (wsX5_copyRow) := ggX0_run_X5_copyRow
set_option maxRecDepth 20000 in
theorem ggX0_run_X0_drawSale : GoodIn wsX0_run wsX0_drawSale := goodIn_r _ [17, 18, 4, 2, 19, 20, 21, 16, 22, 23, 3, 24, 25, 26, 27, 28, 29, 30, 31, 32, 33, 34, 35, 36, 37, 38, 39, 40, 41, 42, 43, 44, 45, 46, 47, 48, 49, 50, 51, 52, 53, 54, 55] (by decide +kernel) (by decide +kernel)
set_option maxRecDepth 20000 in
theorem gX0_run_X0_drawSale : GoodIn wsX0_run (wsV RX0 32 RX0 yX0_drawSale wsX0_drawSale) := goodIn_app (goodIn_of _ (by decide +kernel)) ggX0_run_X0_drawSale
theorem dX0_run_0 : decode cX0_run 0 = .ok (.aload_n 1, 1) := by decide +kernel
theorem dX0_run_1 : decode cX0_run 1 = .ok (.getfield 22, 3) := by decide +kernel
theorem dX0_run_4 : decode cX0_run 4 = .ok (.aload_n 0, 1) := by decide +kernel
theorem dX0_run_5 : decode cX0_run 5 = .ok (.getfield 9, 3) := by decide +kernel
theorem dX0_run_8 : decode cX0_run 8 = .ok (.invokestatic 25, 3) := by decide +kernel
theorem dX0_run_11 : decode cX0_run 11 = .ok (.aload_n 0, 1) := by decide +kernel
theorem dX0_run_12 : decode cX0_run 12 = .ok (.iload_n 3, 1) := by decide +kernel
theorem dX0_run_13 : decode cX0_run 13 = .ok (.putfield 15, 3) := by decide +kernel
theorem dX0_run_16 : decode cX0_run 16 = .ok (.aload_n 0, 1) := by decide +kernel
theorem dX0_run_17 : decode cX0_run 17 = .ok (.iconst 0, 1) := by decide +kernel
theorem dX0_run_18 : decode cX0_run 18 = .ok (.putfield 19, 3) := by decide +kernel
theorem dX0_run_21 : decode cX0_run 21 = .ok (.iconst 0, 1) := by decide +kernel
theorem dX0_run_22 : decode cX0_run 22 = .ok (.istore 4, 2) := by decide +kernel
theorem dX0_run_24 : decode cX0_run 24 = .ok (.iload 4, 2) := by decide +kernel
theorem dX0_run_26 : decode cX0_run 26 = .ok (.iload_n 2, 1) := by decide +kernel
theorem dX0_run_27 : decode cX0_run 27 = .ok (.if_icmp .ge 21, 3) := by decide +kernel
theorem dX0_run_30 : decode cX0_run 30 = .ok (.aload_n 0, 1) := by decide +kernel
theorem dX0_run_31 : decode cX0_run 31 = .ok (.aload_n 1, 1) := by decide +kernel
theorem dX0_run_32 : decode cX0_run 32 = .ok (.aload_n 1, 1) := by decide +kernel
theorem dX0_run_33 : decode cX0_run 33 = .ok (.getfield 29, 3) := by decide +kernel
theorem dX0_run_36 : decode cX0_run 36 = .ok (.iload 4, 2) := by decide +kernel
theorem dX0_run_38 : decode cX0_run 38 = .ok (.iadd, 1) := by decide +kernel
theorem dX0_run_39 : decode cX0_run 39 = .ok (.invokevirtual 32, 3) := by decide +kernel
theorem dX0_run_42 : decode cX0_run 42 = .ok (.iinc 4 1, 3) := by decide +kernel
theorem dX0_run_45 : decode cX0_run 45 = .ok (.goto (-21), 3) := by decide +kernel
theorem dX0_run_48 : decode cX0_run 48 = .ok (.return_, 1) := by decide +kernel
set_option maxRecDepth 20000 in
theorem ggX0_drawSale_X0_draw : GoodIn wsX0_drawSale wsX0_draw := goodIn_r _ [8, 9, 10, 11, 12, 13, 40, 41, 42] (by decide +kernel) (by decide +kernel)
set_option maxRecDepth 20000 in
theorem gX0_drawSale_X0_draw : GoodIn wsX0_drawSale (wsV RX0 39 RX0 yX0_draw wsX0_draw) := goodIn_app (goodIn_of _ (by decide +kernel)) ggX0_drawSale_X0_draw
set_option maxRecDepth 20000 in
theorem ggX0_drawSale_X2_ounces : GoodIn wsX0_drawSale wsX2_ounces := goodIn_r _ [18, 19, 20, 21, 22, 23, 24, 29, 30, 31, 32, 33, 34, 35, 36, 37, 38, 39] (by decide +kernel) (by decide +kernel)
set_option maxRecDepth 20000 in
theorem gX0_drawSale_X2_ounces : GoodIn wsX0_drawSale (wsV RX0 43 RX2 yX2_ounces wsX2_ounces) := goodIn_app (goodIn_of _ (by decide +kernel)) ggX0_drawSale_X2_ounces
set_option maxRecDepth 20000 in
theorem ggX0_drawSale_X2_weightAfter : GoodIn wsX0_drawSale wsX2_weightAfter := goodIn_r _ [28, 20, 21, 22, 23, 24, 29, 30, 31, 32, 33, 34, 35, 36, 37, 38, 39] (by decide +kernel) (by decide +kernel)
set_option maxRecDepth 20000 in
theorem gX0_drawSale_X2_weightAfter : GoodIn wsX0_drawSale (wsV RX0 47 RX2 yX2_weightAfter wsX2_weightAfter) := goodIn_app (goodIn_of _ (by decide +kernel)) ggX0_drawSale_X2_weightAfter
theorem dX0_drawSale_0 : decode cX0_drawSale 0 = .ok (.aload_n 0, 1) := by decide +kernel
theorem dX0_drawSale_1 : decode cX0_drawSale 1 = .ok (.aload_n 1, 1) := by decide +kernel
theorem dX0_drawSale_2 : decode cX0_drawSale 2 = .ok (.getfield 36, 3) := by decide +kernel
theorem dX0_drawSale_5 : decode cX0_drawSale 5 = .ok (.invokevirtual 39, 3) := by decide +kernel
theorem dX0_drawSale_8 : decode cX0_drawSale 8 = .ok (.istore_n 3, 1) := by decide +kernel
theorem dX0_drawSale_9 : decode cX0_drawSale 9 = .ok (.aload_n 0, 1) := by decide +kernel
theorem dX0_drawSale_10 : decode cX0_drawSale 10 = .ok (.aload_n 1, 1) := by decide +kernel
theorem dX0_drawSale_11 : decode cX0_drawSale 11 = .ok (.getfield 36, 3) := by decide +kernel
theorem dX0_drawSale_14 : decode cX0_drawSale 14 = .ok (.invokevirtual 39, 3) := by decide +kernel
theorem dX0_drawSale_17 : decode cX0_drawSale 17 = .ok (.istore 4, 2) := by decide +kernel
theorem dX0_drawSale_19 : decode cX0_drawSale 19 = .ok (.aload_n 0, 1) := by decide +kernel
theorem dX0_drawSale_20 : decode cX0_drawSale 20 = .ok (.aload_n 1, 1) := by decide +kernel
theorem dX0_drawSale_21 : decode cX0_drawSale 21 = .ok (.getfield 36, 3) := by decide +kernel
theorem dX0_drawSale_24 : decode cX0_drawSale 24 = .ok (.invokevirtual 39, 3) := by decide +kernel
theorem dX0_drawSale_27 : decode cX0_drawSale 27 = .ok (.istore 5, 2) := by decide +kernel
theorem dX0_drawSale_29 : decode cX0_drawSale 29 = .ok (.iload_n 3, 1) := by decide +kernel
theorem dX0_drawSale_30 : decode cX0_drawSale 30 = .ok (.iload 4, 2) := by decide +kernel
theorem dX0_drawSale_32 : decode cX0_drawSale 32 = .ok (.if_icmp .eq 47, 3) := by decide +kernel
theorem dX0_drawSale_35 : decode cX0_drawSale 35 = .ok (.aload_n 0, 1) := by decide +kernel
theorem dX0_drawSale_36 : decode cX0_drawSale 36 = .ok (.dup, 1) := by decide +kernel
theorem dX0_drawSale_37 : decode cX0_drawSale 37 = .ok (.getfield 19, 3) := by decide +kernel
theorem dX0_drawSale_40 : decode cX0_drawSale 40 = .ok (.aload_n 1, 1) := by decide +kernel
theorem dX0_drawSale_41 : decode cX0_drawSale 41 = .ok (.aload_n 0, 1) := by decide +kernel
theorem dX0_drawSale_42 : decode cX0_drawSale 42 = .ok (.getfield 9, 3) := by decide +kernel
theorem dX0_drawSale_45 : decode cX0_drawSale 45 = .ok (.iload 5, 2) := by decide +kernel
theorem dX0_drawSale_47 : decode cX0_drawSale 47 = .ok (.iaload, 1) := by decide +kernel
theorem dX0_drawSale_48 : decode cX0_drawSale 48 = .ok (.iload_n 3, 1) := by decide +kernel
theorem dX0_drawSale_49 : decode cX0_drawSale 49 = .ok (.iload_n 2, 1) := by decide +kernel
theorem dX0_drawSale_50 : decode cX0_drawSale 50 = .ok (.invokevirtual 43, 3) := by decide +kernel
theorem dX0_drawSale_53 : decode cX0_drawSale 53 = .ok (.iadd, 1) := by decide +kernel
theorem dX0_drawSale_54 : decode cX0_drawSale 54 = .ok (.putfield 19, 3) := by decide +kernel
theorem dX0_drawSale_57 : decode cX0_drawSale 57 = .ok (.aload_n 0, 1) := by decide +kernel
theorem dX0_drawSale_58 : decode cX0_drawSale 58 = .ok (.getfield 9, 3) := by decide +kernel
theorem dX0_drawSale_61 : decode cX0_drawSale 61 = .ok (.iload 5, 2) := by decide +kernel
theorem dX0_drawSale_63 : decode cX0_drawSale 63 = .ok (.aload_n 1, 1) := by decide +kernel
theorem dX0_drawSale_64 : decode cX0_drawSale 64 = .ok (.aload_n 0, 1) := by decide +kernel
theorem dX0_drawSale_65 : decode cX0_drawSale 65 = .ok (.getfield 9, 3) := by decide +kernel
theorem dX0_drawSale_68 : decode cX0_drawSale 68 = .ok (.iload 5, 2) := by decide +kernel
theorem dX0_drawSale_70 : decode cX0_drawSale 70 = .ok (.iaload, 1) := by decide +kernel
theorem dX0_drawSale_71 : decode cX0_drawSale 71 = .ok (.iload 5, 2) := by decide +kernel
theorem dX0_drawSale_73 : decode cX0_drawSale 73 = .ok (.iload 4, 2) := by decide +kernel
theorem dX0_drawSale_75 : decode cX0_drawSale 75 = .ok (.invokevirtual 47, 3) := by decide +kernel
theorem dX0_drawSale_78 : decode cX0_drawSale 78 = .ok (.iastore, 1) := by decide +kernel
theorem dX0_drawSale_79 : decode cX0_drawSale 79 = .ok (.return_, 1) := by decide +kernel
theorem dX0_draw_0 : decode cX0_draw 0 = .ok (.aload_n 0, 1) := by decide +kernel
theorem dX0_draw_1 : decode cX0_draw 1 = .ok (.ldc2_w 50, 3) := by decide +kernel
theorem dX0_draw_4 : decode cX0_draw 4 = .ok (.aload_n 0, 1) := by decide +kernel
theorem dX0_draw_5 : decode cX0_draw 5 = .ok (.getfield 15, 3) := by decide +kernel
theorem dX0_draw_8 : decode cX0_draw 8 = .ok (.i2l, 1) := by decide +kernel
theorem dX0_draw_9 : decode cX0_draw 9 = .ok (.lmul, 1) := by decide +kernel
theorem dX0_draw_10 : decode cX0_draw 10 = .ok (.ldc2_w 52, 3) := by decide +kernel
theorem dX0_draw_13 : decode cX0_draw 13 = .ok (.ladd, 1) := by decide +kernel
theorem dX0_draw_14 : decode cX0_draw 14 = .ok (.ldc2_w 54, 3) := by decide +kernel
theorem dX0_draw_17 : decode cX0_draw 17 = .ok (.lrem, 1) := by decide +kernel
theorem dX0_draw_18 : decode cX0_draw 18 = .ok (.l2i, 1) := by decide +kernel
theorem dX0_draw_19 : decode cX0_draw 19 = .ok (.putfield 15, 3) := by decide +kernel
theorem dX0_draw_22 : decode cX0_draw 22 = .ok (.iload_n 1, 1) := by decide +kernel
theorem dX0_draw_23 : decode cX0_draw 23 = .ok (.ifCond .le 15, 3) := by decide +kernel
theorem dX0_draw_26 : decode cX0_draw 26 = .ok (.aload_n 0, 1) := by decide +kernel
theorem dX0_draw_27 : decode cX0_draw 27 = .ok (.getfield 15, 3) := by decide +kernel
theorem dX0_draw_30 : decode cX0_draw 30 = .ok (.ldc 56, 2) := by decide +kernel
theorem dX0_draw_32 : decode cX0_draw 32 = .ok (.idiv, 1) := by decide +kernel
theorem dX0_draw_33 : decode cX0_draw 33 = .ok (.iload_n 1, 1) := by decide +kernel
theorem dX0_draw_34 : decode cX0_draw 34 = .ok (.irem, 1) := by decide +kernel
theorem dX0_draw_35 : decode cX0_draw 35 = .ok (.goto 4, 3) := by decide +kernel
theorem dX0_draw_38 : decode cX0_draw 38 = .ok (.iconst 0, 1) := by decide +kernel
theorem dX0_draw_39 : decode cX0_draw 39 = .ok (.ireturn, 1) := by decide +kernel
theorem dX1_init_0 : decode cX1_init 0 = .ok (.aload_n 0, 1) := by decide +kernel
theorem dX1_init_1 : decode cX1_init 1 = .ok (.invokespecial 3, 3) := by decide +kernel
theorem dX1_init_4 : decode cX1_init 4 = .ok (.aload_n 0, 1) := by decide +kernel
theorem dX1_init_5 : decode cX1_init 5 = .ok (.iconst 4, 1) := by decide +kernel
theorem dX1_init_6 : decode cX1_init 6 = .ok (.newarray .int, 2) := by decide +kernel
theorem dX1_init_8 : decode cX1_init 8 = .ok (.putfield 9, 3) := by decide +kernel
theorem dX1_init_11 : decode cX1_init 11 = .ok (.aload_n 0, 1) := by decide +kernel
theorem dX1_init_12 : decode cX1_init 12 = .ok (.iconst 0, 1) := by decide +kernel
theorem dX1_init_13 : decode cX1_init 13 = .ok (.putfield 15, 3) := by decide +kernel
theorem dX1_init_16 : decode cX1_init 16 = .ok (.aload_n 0, 1) := by decide +kernel
theorem dX1_init_17 : decode cX1_init 17 = .ok (.iconst 0, 1) := by decide +kernel
theorem dX1_init_18 : decode cX1_init 18 = .ok (.putfield 19, 3) := by decide +kernel
theorem dX1_init_21 : decode cX1_init 21 = .ok (.return_, 1) := by decide +kernel
theorem dX1_add_0 : decode cX1_add 0 = .ok (.aload_n 0, 1) := by decide +kernel
theorem dX1_add_1 : decode cX1_add 1 = .ok (.getfield 9, 3) := by decide +kernel
theorem dX1_add_4 : decode cX1_add 4 = .ok (.iload_n 1, 1) := by decide +kernel
theorem dX1_add_5 : decode cX1_add 5 = .ok (.dup2, 1) := by decide +kernel
theorem dX1_add_6 : decode cX1_add 6 = .ok (.iaload, 1) := by decide +kernel
theorem dX1_add_7 : decode cX1_add 7 = .ok (.iconst 1, 1) := by decide +kernel
theorem dX1_add_8 : decode cX1_add 8 = .ok (.iadd, 1) := by decide +kernel
theorem dX1_add_9 : decode cX1_add 9 = .ok (.iastore, 1) := by decide +kernel
theorem dX1_add_10 : decode cX1_add 10 = .ok (.aload_n 0, 1) := by decide +kernel
theorem dX1_add_11 : decode cX1_add 11 = .ok (.dup, 1) := by decide +kernel
theorem dX1_add_12 : decode cX1_add 12 = .ok (.getfield 15, 3) := by decide +kernel
theorem dX1_add_15 : decode cX1_add 15 = .ok (.iconst 1, 1) := by decide +kernel
theorem dX1_add_16 : decode cX1_add 16 = .ok (.iadd, 1) := by decide +kernel
theorem dX1_add_17 : decode cX1_add 17 = .ok (.putfield 15, 3) := by decide +kernel
theorem dX1_add_20 : decode cX1_add 20 = .ok (.return_, 1) := by decide +kernel
theorem dX1_forget_0 : decode cX1_forget 0 = .ok (.iconst 0, 1) := by decide +kernel
theorem dX1_forget_1 : decode cX1_forget 1 = .ok (.istore_n 1, 1) := by decide +kernel
theorem dX1_forget_2 : decode cX1_forget 2 = .ok (.iload_n 1, 1) := by decide +kernel
theorem dX1_forget_3 : decode cX1_forget 3 = .ok (.iconst 4, 1) := by decide +kernel
theorem dX1_forget_4 : decode cX1_forget 4 = .ok (.if_icmp .ge 16, 3) := by decide +kernel
theorem dX1_forget_7 : decode cX1_forget 7 = .ok (.aload_n 0, 1) := by decide +kernel
theorem dX1_forget_8 : decode cX1_forget 8 = .ok (.getfield 9, 3) := by decide +kernel
theorem dX1_forget_11 : decode cX1_forget 11 = .ok (.iload_n 1, 1) := by decide +kernel
theorem dX1_forget_12 : decode cX1_forget 12 = .ok (.iconst 0, 1) := by decide +kernel
theorem dX1_forget_13 : decode cX1_forget 13 = .ok (.iastore, 1) := by decide +kernel
theorem dX1_forget_14 : decode cX1_forget 14 = .ok (.iinc 1 1, 3) := by decide +kernel
theorem dX1_forget_17 : decode cX1_forget 17 = .ok (.goto (-15), 3) := by decide +kernel
theorem dX1_forget_20 : decode cX1_forget 20 = .ok (.aload_n 0, 1) := by decide +kernel
theorem dX1_forget_21 : decode cX1_forget 21 = .ok (.iconst 0, 1) := by decide +kernel
theorem dX1_forget_22 : decode cX1_forget 22 = .ok (.putfield 15, 3) := by decide +kernel
theorem dX1_forget_25 : decode cX1_forget 25 = .ok (.aload_n 0, 1) := by decide +kernel
theorem dX1_forget_26 : decode cX1_forget 26 = .ok (.iconst 0, 1) := by decide +kernel
theorem dX1_forget_27 : decode cX1_forget 27 = .ok (.putfield 19, 3) := by decide +kernel
theorem dX1_forget_30 : decode cX1_forget 30 = .ok (.return_, 1) := by decide +kernel
set_option maxRecDepth 20000 in
theorem ggX1_copyFrom_X5_copyRow : GoodIn wsX1_copyFrom wsX5_copyRow := goodIn_r _ [6, 7, 8, 9, 10] (by decide +kernel) (by decide +kernel)
set_option maxRecDepth 20000 in
theorem gX1_copyFrom_X5_copyRow_n22 : GoodIn wsX1_copyFrom (wsX5_copyRow) := ggX1_copyFrom_X5_copyRow
theorem dX1_copyFrom_0 : decode cX1_copyFrom 0 = .ok (.aload_n 1, 1) := by decide +kernel
theorem dX1_copyFrom_1 : decode cX1_copyFrom 1 = .ok (.getfield 9, 3) := by decide +kernel
theorem dX1_copyFrom_4 : decode cX1_copyFrom 4 = .ok (.aload_n 0, 1) := by decide +kernel
theorem dX1_copyFrom_5 : decode cX1_copyFrom 5 = .ok (.getfield 9, 3) := by decide +kernel
theorem dX1_copyFrom_8 : decode cX1_copyFrom 8 = .ok (.invokestatic 22, 3) := by decide +kernel
theorem dX1_copyFrom_11 : decode cX1_copyFrom 11 = .ok (.aload_n 0, 1) := by decide +kernel
theorem dX1_copyFrom_12 : decode cX1_copyFrom 12 = .ok (.aload_n 1, 1) := by decide +kernel
theorem dX1_copyFrom_13 : decode cX1_copyFrom 13 = .ok (.getfield 15, 3) := by decide +kernel
theorem dX1_copyFrom_16 : decode cX1_copyFrom 16 = .ok (.putfield 15, 3) := by decide +kernel
theorem dX1_copyFrom_19 : decode cX1_copyFrom 19 = .ok (.aload_n 0, 1) := by decide +kernel
theorem dX1_copyFrom_20 : decode cX1_copyFrom 20 = .ok (.aload_n 1, 1) := by decide +kernel
theorem dX1_copyFrom_21 : decode cX1_copyFrom 21 = .ok (.getfield 19, 3) := by decide +kernel
theorem dX1_copyFrom_24 : decode cX1_copyFrom 24 = .ok (.putfield 19, 3) := by decide +kernel
theorem dX1_copyFrom_27 : decode cX1_copyFrom 27 = .ok (.return_, 1) := by decide +kernel
set_option maxRecDepth 20000 in
theorem ggX1_howManySets_X1_howManySetsWith : GoodIn wsX1_howManySets wsX1_howManySetsWith := goodIn_r _ [5, 6, 7, 8, 4, 9, 10, 11, 12, 13, 14] (by decide +kernel) (by decide +kernel)
set_option maxRecDepth 20000 in
theorem gX1_howManySets_X1_howManySetsWith : GoodIn wsX1_howManySets (wsV RX1 26 RX1 yX1_howManySetsWith wsX1_howManySetsWith) := goodIn_app (goodIn_of _ (by decide +kernel)) ggX1_howManySets_X1_howManySetsWith
theorem dX1_howManySets_0 : decode cX1_howManySets 0 = .ok (.aload_n 0, 1) := by decide +kernel
theorem dX1_howManySets_1 : decode cX1_howManySets 1 = .ok (.iconst 0, 1) := by decide +kernel
theorem dX1_howManySets_2 : decode cX1_howManySets 2 = .ok (.iload_n 1, 1) := by decide +kernel
theorem dX1_howManySets_3 : decode cX1_howManySets 3 = .ok (.invokevirtual 26, 3) := by decide +kernel
theorem dX1_howManySets_6 : decode cX1_howManySets 6 = .ok (.ireturn, 1) := by decide +kernel
set_option maxRecDepth 20000 in
theorem ggX1_leastSet_X1_explains : GoodIn wsX1_leastSet wsX1_explains := goodIn_r _ [5, 6, 7, 8, 9, 10] (by decide +kernel) (by decide +kernel)
set_option maxRecDepth 20000 in
theorem gX1_leastSet_X1_explains : GoodIn wsX1_leastSet (wsV RX1 30 RX1 yX1_explains wsX1_explains) := goodIn_app (goodIn_of _ (by decide +kernel)) ggX1_leastSet_X1_explains
theorem dX1_leastSet_0 : decode cX1_leastSet 0 = .ok (.iconst 0, 1) := by decide +kernel
theorem dX1_leastSet_1 : decode cX1_leastSet 1 = .ok (.istore_n 2, 1) := by decide +kernel
theorem dX1_leastSet_2 : decode cX1_leastSet 2 = .ok (.iload_n 2, 1) := by decide +kernel
theorem dX1_leastSet_3 : decode cX1_leastSet 3 = .ok (.iconst 1, 1) := by decide +kernel
theorem dX1_leastSet_4 : decode cX1_leastSet 4 = .ok (.iload_n 1, 1) := by decide +kernel
theorem dX1_leastSet_5 : decode cX1_leastSet 5 = .ok (.ishl, 1) := by decide +kernel
theorem dX1_leastSet_6 : decode cX1_leastSet 6 = .ok (.if_icmp .ge 20, 3) := by decide +kernel
theorem dX1_leastSet_9 : decode cX1_leastSet 9 = .ok (.aload_n 0, 1) := by decide +kernel
theorem dX1_leastSet_10 : decode cX1_leastSet 10 = .ok (.iload_n 2, 1) := by decide +kernel
theorem dX1_leastSet_11 : decode cX1_leastSet 11 = .ok (.iload_n 1, 1) := by decide +kernel
theorem dX1_leastSet_12 : decode cX1_leastSet 12 = .ok (.invokevirtual 30, 3) := by decide +kernel
theorem dX1_leastSet_15 : decode cX1_leastSet 15 = .ok (.ifCond .eq 5, 3) := by decide +kernel
theorem dX1_leastSet_18 : decode cX1_leastSet 18 = .ok (.iload_n 2, 1) := by decide +kernel
theorem dX1_leastSet_19 : decode cX1_leastSet 19 = .ok (.ireturn, 1) := by decide +kernel
theorem dX1_leastSet_20 : decode cX1_leastSet 20 = .ok (.iinc 2 1, 3) := by decide +kernel
theorem dX1_leastSet_23 : decode cX1_leastSet 23 = .ok (.goto (-21), 3) := by decide +kernel
theorem dX1_leastSet_26 : decode cX1_leastSet 26 = .ok (.iconst (-1), 1) := by decide +kernel
theorem dX1_leastSet_27 : decode cX1_leastSet 27 = .ok (.ireturn, 1) := by decide +kernel
set_option maxRecDepth 20000 in
theorem ggX1_inAllSets_X1_explains : GoodIn wsX1_inAllSets wsX1_explains := goodIn_r _ [5, 6, 7, 8, 9, 10] (by decide +kernel) (by decide +kernel)
set_option maxRecDepth 20000 in
theorem gX1_inAllSets_X1_explains : GoodIn wsX1_inAllSets (wsV RX1 30 RX1 yX1_explains wsX1_explains) := goodIn_app (goodIn_of _ (by decide +kernel)) ggX1_inAllSets_X1_explains
theorem dX1_inAllSets_0 : decode cX1_inAllSets 0 = .ok (.iconst (-1), 1) := by decide +kernel
theorem dX1_inAllSets_1 : decode cX1_inAllSets 1 = .ok (.istore_n 2, 1) := by decide +kernel
theorem dX1_inAllSets_2 : decode cX1_inAllSets 2 = .ok (.iconst 0, 1) := by decide +kernel
theorem dX1_inAllSets_3 : decode cX1_inAllSets 3 = .ok (.istore_n 3, 1) := by decide +kernel
theorem dX1_inAllSets_4 : decode cX1_inAllSets 4 = .ok (.iload_n 3, 1) := by decide +kernel
theorem dX1_inAllSets_5 : decode cX1_inAllSets 5 = .ok (.iconst 1, 1) := by decide +kernel
theorem dX1_inAllSets_6 : decode cX1_inAllSets 6 = .ok (.iload_n 1, 1) := by decide +kernel
theorem dX1_inAllSets_7 : decode cX1_inAllSets 7 = .ok (.ishl, 1) := by decide +kernel
theorem dX1_inAllSets_8 : decode cX1_inAllSets 8 = .ok (.if_icmp .ge 22, 3) := by decide +kernel
theorem dX1_inAllSets_11 : decode cX1_inAllSets 11 = .ok (.aload_n 0, 1) := by decide +kernel
theorem dX1_inAllSets_12 : decode cX1_inAllSets 12 = .ok (.iload_n 3, 1) := by decide +kernel
theorem dX1_inAllSets_13 : decode cX1_inAllSets 13 = .ok (.iload_n 1, 1) := by decide +kernel
theorem dX1_inAllSets_14 : decode cX1_inAllSets 14 = .ok (.invokevirtual 30, 3) := by decide +kernel
theorem dX1_inAllSets_17 : decode cX1_inAllSets 17 = .ok (.ifCond .eq 7, 3) := by decide +kernel
theorem dX1_inAllSets_20 : decode cX1_inAllSets 20 = .ok (.iload_n 2, 1) := by decide +kernel
theorem dX1_inAllSets_21 : decode cX1_inAllSets 21 = .ok (.iload_n 3, 1) := by decide +kernel
theorem dX1_inAllSets_22 : decode cX1_inAllSets 22 = .ok (.iand, 1) := by decide +kernel
theorem dX1_inAllSets_23 : decode cX1_inAllSets 23 = .ok (.istore_n 2, 1) := by decide +kernel
theorem dX1_inAllSets_24 : decode cX1_inAllSets 24 = .ok (.iinc 3 1, 3) := by decide +kernel
theorem dX1_inAllSets_27 : decode cX1_inAllSets 27 = .ok (.goto (-23), 3) := by decide +kernel
theorem dX1_inAllSets_30 : decode cX1_inAllSets 30 = .ok (.iload_n 2, 1) := by decide +kernel
theorem dX1_inAllSets_31 : decode cX1_inAllSets 31 = .ok (.ireturn, 1) := by decide +kernel
set_option maxRecDepth 20000 in
theorem ggX1_houseToWatch_X1_howManySets : GoodIn wsX1_houseToWatch wsX1_howManySets := goodIn_r _ [9, 10, 11, 12, 8, 13, 14, 15, 16, 17, 18, 19, 20, 21, 22] (by decide +kernel) (by decide +kernel)
set_option maxRecDepth 20000 in
theorem gX1_houseToWatch_X1_howManySets : GoodIn wsX1_houseToWatch (wsV RX1 34 RX1 yX1_howManySets wsX1_howManySets) := goodIn_app (goodIn_of _ (by decide +kernel)) ggX1_houseToWatch_X1_howManySets
set_option maxRecDepth 20000 in
theorem ggX1_houseToWatch_X1_howManySetsWith : GoodIn wsX1_houseToWatch wsX1_howManySetsWith := goodIn_r _ [13, 14, 15, 16, 8, 17, 18, 19, 20, 21, 22] (by decide +kernel) (by decide +kernel)
set_option maxRecDepth 20000 in
theorem gX1_houseToWatch_X1_howManySetsWith : GoodIn wsX1_houseToWatch (wsV RX1 26 RX1 yX1_howManySetsWith wsX1_howManySetsWith) := goodIn_app (goodIn_of _ (by decide +kernel)) ggX1_houseToWatch_X1_howManySetsWith
theorem dX1_houseToWatch_0 : decode cX1_houseToWatch 0 = .ok (.aload_n 0, 1) := by decide +kernel
theorem dX1_houseToWatch_1 : decode cX1_houseToWatch 1 = .ok (.iload_n 1, 1) := by decide +kernel
theorem dX1_houseToWatch_2 : decode cX1_houseToWatch 2 = .ok (.invokevirtual 34, 3) := by decide +kernel
theorem dX1_houseToWatch_5 : decode cX1_houseToWatch 5 = .ok (.istore_n 2, 1) := by decide +kernel
theorem dX1_houseToWatch_6 : decode cX1_houseToWatch 6 = .ok (.iload_n 2, 1) := by decide +kernel
theorem dX1_houseToWatch_7 : decode cX1_houseToWatch 7 = .ok (.ifCond .ne 5, 3) := by decide +kernel
theorem dX1_houseToWatch_10 : decode cX1_houseToWatch 10 = .ok (.iconst (-1), 1) := by decide +kernel
theorem dX1_houseToWatch_11 : decode cX1_houseToWatch 11 = .ok (.ireturn, 1) := by decide +kernel
theorem dX1_houseToWatch_12 : decode cX1_houseToWatch 12 = .ok (.iconst (-1), 1) := by decide +kernel
theorem dX1_houseToWatch_13 : decode cX1_houseToWatch 13 = .ok (.istore_n 3, 1) := by decide +kernel
theorem dX1_houseToWatch_14 : decode cX1_houseToWatch 14 = .ok (.iload_n 2, 1) := by decide +kernel
theorem dX1_houseToWatch_15 : decode cX1_houseToWatch 15 = .ok (.iconst 1, 1) := by decide +kernel
theorem dX1_houseToWatch_16 : decode cX1_houseToWatch 16 = .ok (.iadd, 1) := by decide +kernel
theorem dX1_houseToWatch_17 : decode cX1_houseToWatch 17 = .ok (.istore 4, 2) := by decide +kernel
theorem dX1_houseToWatch_19 : decode cX1_houseToWatch 19 = .ok (.iconst 0, 1) := by decide +kernel
theorem dX1_houseToWatch_20 : decode cX1_houseToWatch 20 = .ok (.istore 5, 2) := by decide +kernel
theorem dX1_houseToWatch_22 : decode cX1_houseToWatch 22 = .ok (.iload 5, 2) := by decide +kernel
theorem dX1_houseToWatch_24 : decode cX1_houseToWatch 24 = .ok (.iload_n 1, 1) := by decide +kernel
theorem dX1_houseToWatch_25 : decode cX1_houseToWatch 25 = .ok (.if_icmp .ge 45, 3) := by decide +kernel
theorem dX1_houseToWatch_28 : decode cX1_houseToWatch 28 = .ok (.aload_n 0, 1) := by decide +kernel
theorem dX1_houseToWatch_29 : decode cX1_houseToWatch 29 = .ok (.iconst 1, 1) := by decide +kernel
theorem dX1_houseToWatch_30 : decode cX1_houseToWatch 30 = .ok (.iload 5, 2) := by decide +kernel
theorem dX1_houseToWatch_32 : decode cX1_houseToWatch 32 = .ok (.ishl, 1) := by decide +kernel
theorem dX1_houseToWatch_33 : decode cX1_houseToWatch 33 = .ok (.iload_n 1, 1) := by decide +kernel
theorem dX1_houseToWatch_34 : decode cX1_houseToWatch 34 = .ok (.invokevirtual 26, 3) := by decide +kernel
theorem dX1_houseToWatch_37 : decode cX1_houseToWatch 37 = .ok (.istore 6, 2) := by decide +kernel
theorem dX1_houseToWatch_39 : decode cX1_houseToWatch 39 = .ok (.iload 6, 2) := by decide +kernel
theorem dX1_houseToWatch_41 : decode cX1_houseToWatch 41 = .ok (.iload_n 2, 1) := by decide +kernel
theorem dX1_houseToWatch_42 : decode cX1_houseToWatch 42 = .ok (.iload 6, 2) := by decide +kernel
theorem dX1_houseToWatch_44 : decode cX1_houseToWatch 44 = .ok (.isub, 1) := by decide +kernel
theorem dX1_houseToWatch_45 : decode cX1_houseToWatch 45 = .ok (.invokestatic 38, 3) := by decide +kernel
theorem dX1_houseToWatch_48 : decode cX1_houseToWatch 48 = .ok (.istore 7, 2) := by decide +kernel
theorem dX1_houseToWatch_50 : decode cX1_houseToWatch 50 = .ok (.iload 7, 2) := by decide +kernel
theorem dX1_houseToWatch_52 : decode cX1_houseToWatch 52 = .ok (.iload 4, 2) := by decide +kernel
theorem dX1_houseToWatch_54 : decode cX1_houseToWatch 54 = .ok (.if_icmp .ge 10, 3) := by decide +kernel
theorem dX1_houseToWatch_57 : decode cX1_houseToWatch 57 = .ok (.iload 5, 2) := by decide +kernel
theorem dX1_houseToWatch_59 : decode cX1_houseToWatch 59 = .ok (.istore_n 3, 1) := by decide +kernel
theorem dX1_houseToWatch_60 : decode cX1_houseToWatch 60 = .ok (.iload 7, 2) := by decide +kernel
theorem dX1_houseToWatch_62 : decode cX1_houseToWatch 62 = .ok (.istore 4, 2) := by decide +kernel
theorem dX1_houseToWatch_64 : decode cX1_houseToWatch 64 = .ok (.iinc 5 1, 3) := by decide +kernel
theorem dX1_houseToWatch_67 : decode cX1_houseToWatch 67 = .ok (.goto (-45), 3) := by decide +kernel
theorem dX1_houseToWatch_70 : decode cX1_houseToWatch 70 = .ok (.iload_n 3, 1) := by decide +kernel
theorem dX1_houseToWatch_71 : decode cX1_houseToWatch 71 = .ok (.ireturn, 1) := by decide +kernel
set_option maxRecDepth 20000 in
theorem ggX1_howManySetsWith_X1_explains : GoodIn wsX1_howManySetsWith wsX1_explains := goodIn_r _ [5, 6, 7, 8, 9, 10] (by decide +kernel) (by decide +kernel)
set_option maxRecDepth 20000 in
theorem gX1_howManySetsWith_X1_explains : GoodIn wsX1_howManySetsWith (wsV RX1 30 RX1 yX1_explains wsX1_explains) := goodIn_app (goodIn_of _ (by decide +kernel)) ggX1_howManySetsWith_X1_explains
theorem dX1_howManySetsWith_0 : decode cX1_howManySetsWith 0 = .ok (.iconst 0, 1) := by decide +kernel
theorem dX1_howManySetsWith_1 : decode cX1_howManySetsWith 1 = .ok (.istore_n 3, 1) := by decide +kernel
theorem dX1_howManySetsWith_2 : decode cX1_howManySetsWith 2 = .ok (.iconst 0, 1) := by decide +kernel
theorem dX1_howManySetsWith_3 : decode cX1_howManySetsWith 3 = .ok (.istore 4, 2) := by decide +kernel
theorem dX1_howManySetsWith_5 : decode cX1_howManySetsWith 5 = .ok (.iload 4, 2) := by decide +kernel
theorem dX1_howManySetsWith_7 : decode cX1_howManySetsWith 7 = .ok (.iconst 1, 1) := by decide +kernel
theorem dX1_howManySetsWith_8 : decode cX1_howManySetsWith 8 = .ok (.iload_n 2, 1) := by decide +kernel
theorem dX1_howManySetsWith_9 : decode cX1_howManySetsWith 9 = .ok (.ishl, 1) := by decide +kernel
theorem dX1_howManySetsWith_10 : decode cX1_howManySetsWith 10 = .ok (.if_icmp .ge 30, 3) := by decide +kernel
theorem dX1_howManySetsWith_13 : decode cX1_howManySetsWith 13 = .ok (.iload 4, 2) := by decide +kernel
theorem dX1_howManySetsWith_15 : decode cX1_howManySetsWith 15 = .ok (.iload_n 1, 1) := by decide +kernel
theorem dX1_howManySetsWith_16 : decode cX1_howManySetsWith 16 = .ok (.iand, 1) := by decide +kernel
theorem dX1_howManySetsWith_17 : decode cX1_howManySetsWith 17 = .ok (.iload_n 1, 1) := by decide +kernel
theorem dX1_howManySetsWith_18 : decode cX1_howManySetsWith 18 = .ok (.if_icmp .ne 16, 3) := by decide +kernel
theorem dX1_howManySetsWith_21 : decode cX1_howManySetsWith 21 = .ok (.aload_n 0, 1) := by decide +kernel
theorem dX1_howManySetsWith_22 : decode cX1_howManySetsWith 22 = .ok (.iload 4, 2) := by decide +kernel
theorem dX1_howManySetsWith_24 : decode cX1_howManySetsWith 24 = .ok (.iload_n 2, 1) := by decide +kernel
theorem dX1_howManySetsWith_25 : decode cX1_howManySetsWith 25 = .ok (.invokevirtual 30, 3) := by decide +kernel
theorem dX1_howManySetsWith_28 : decode cX1_howManySetsWith 28 = .ok (.ifCond .eq 6, 3) := by decide +kernel
theorem dX1_howManySetsWith_31 : decode cX1_howManySetsWith 31 = .ok (.iinc 3 1, 3) := by decide +kernel
theorem dX1_howManySetsWith_34 : decode cX1_howManySetsWith 34 = .ok (.iinc 4 1, 3) := by decide +kernel
theorem dX1_howManySetsWith_37 : decode cX1_howManySetsWith 37 = .ok (.goto (-32), 3) := by decide +kernel
theorem dX1_howManySetsWith_40 : decode cX1_howManySetsWith 40 = .ok (.iload_n 3, 1) := by decide +kernel
theorem dX1_howManySetsWith_41 : decode cX1_howManySetsWith 41 = .ok (.ireturn, 1) := by decide +kernel
theorem dX1_explains_0 : decode cX1_explains 0 = .ok (.iconst 0, 1) := by decide +kernel
theorem dX1_explains_1 : decode cX1_explains 1 = .ok (.istore_n 3, 1) := by decide +kernel
theorem dX1_explains_2 : decode cX1_explains 2 = .ok (.iconst 0, 1) := by decide +kernel
theorem dX1_explains_3 : decode cX1_explains 3 = .ok (.istore 4, 2) := by decide +kernel
theorem dX1_explains_5 : decode cX1_explains 5 = .ok (.iload 4, 2) := by decide +kernel
theorem dX1_explains_7 : decode cX1_explains 7 = .ok (.iload_n 2, 1) := by decide +kernel
theorem dX1_explains_8 : decode cX1_explains 8 = .ok (.if_icmp .ge 29, 3) := by decide +kernel
theorem dX1_explains_11 : decode cX1_explains 11 = .ok (.iload_n 1, 1) := by decide +kernel
theorem dX1_explains_12 : decode cX1_explains 12 = .ok (.iload 4, 2) := by decide +kernel
theorem dX1_explains_14 : decode cX1_explains 14 = .ok (.ishr, 1) := by decide +kernel
theorem dX1_explains_15 : decode cX1_explains 15 = .ok (.iconst 1, 1) := by decide +kernel
theorem dX1_explains_16 : decode cX1_explains 16 = .ok (.iand, 1) := by decide +kernel
theorem dX1_explains_17 : decode cX1_explains 17 = .ok (.iconst 1, 1) := by decide +kernel
theorem dX1_explains_18 : decode cX1_explains 18 = .ok (.if_icmp .ne 13, 3) := by decide +kernel
theorem dX1_explains_21 : decode cX1_explains 21 = .ok (.iload_n 3, 1) := by decide +kernel
theorem dX1_explains_22 : decode cX1_explains 22 = .ok (.aload_n 0, 1) := by decide +kernel
theorem dX1_explains_23 : decode cX1_explains 23 = .ok (.getfield 9, 3) := by decide +kernel
theorem dX1_explains_26 : decode cX1_explains 26 = .ok (.iload 4, 2) := by decide +kernel
theorem dX1_explains_28 : decode cX1_explains 28 = .ok (.iaload, 1) := by decide +kernel
theorem dX1_explains_29 : decode cX1_explains 29 = .ok (.iadd, 1) := by decide +kernel
theorem dX1_explains_30 : decode cX1_explains 30 = .ok (.istore_n 3, 1) := by decide +kernel
theorem dX1_explains_31 : decode cX1_explains 31 = .ok (.iinc 4 1, 3) := by decide +kernel
theorem dX1_explains_34 : decode cX1_explains 34 = .ok (.goto (-29), 3) := by decide +kernel
theorem dX1_explains_37 : decode cX1_explains 37 = .ok (.iload_n 3, 1) := by decide +kernel
theorem dX1_explains_38 : decode cX1_explains 38 = .ok (.aload_n 0, 1) := by decide +kernel
theorem dX1_explains_39 : decode cX1_explains 39 = .ok (.getfield 19, 3) := by decide +kernel
theorem dX1_explains_42 : decode cX1_explains 42 = .ok (.if_icmp .ne 7, 3) := by decide +kernel
theorem dX1_explains_45 : decode cX1_explains 45 = .ok (.iconst 1, 1) := by decide +kernel
theorem dX1_explains_46 : decode cX1_explains 46 = .ok (.goto 4, 3) := by decide +kernel
theorem dX1_explains_49 : decode cX1_explains 49 = .ok (.iconst 0, 1) := by decide +kernel
theorem dX1_explains_50 : decode cX1_explains 50 = .ok (.ireturn, 1) := by decide +kernel
theorem dX2_init_0 : decode cX2_init 0 = .ok (.aload_n 0, 1) := by decide +kernel
theorem dX2_init_1 : decode cX2_init 1 = .ok (.invokespecial 3, 3) := by decide +kernel
theorem dX2_init_4 : decode cX2_init 4 = .ok (.aload_n 0, 1) := by decide +kernel
theorem dX2_init_5 : decode cX2_init 5 = .ok (.iconst 4, 1) := by decide +kernel
theorem dX2_init_6 : decode cX2_init 6 = .ok (.newarray .int, 2) := by decide +kernel
theorem dX2_init_8 : decode cX2_init 8 = .ok (.putfield 9, 3) := by decide +kernel
theorem dX2_init_11 : decode cX2_init 11 = .ok (.aload_n 0, 1) := by decide +kernel
theorem dX2_init_12 : decode cX2_init 12 = .ok (.iconst 4, 1) := by decide +kernel
theorem dX2_init_13 : decode cX2_init 13 = .ok (.newarray .int, 2) := by decide +kernel
theorem dX2_init_15 : decode cX2_init 15 = .ok (.putfield 15, 3) := by decide +kernel
theorem dX2_init_18 : decode cX2_init 18 = .ok (.aload_n 0, 1) := by decide +kernel
theorem dX2_init_19 : decode cX2_init 19 = .ok (.iconst 4, 1) := by decide +kernel
theorem dX2_init_20 : decode cX2_init 20 = .ok (.newarray .int, 2) := by decide +kernel
theorem dX2_init_22 : decode cX2_init 22 = .ok (.putfield 18, 3) := by decide +kernel
theorem dX2_init_25 : decode cX2_init 25 = .ok (.aload_n 0, 1) := by decide +kernel
theorem dX2_init_26 : decode cX2_init 26 = .ok (.iconst 4, 1) := by decide +kernel
theorem dX2_init_27 : decode cX2_init 27 = .ok (.newarray .int, 2) := by decide +kernel
theorem dX2_init_29 : decode cX2_init 29 = .ok (.putfield 21, 3) := by decide +kernel
theorem dX2_init_32 : decode cX2_init 32 = .ok (.aload_n 0, 1) := by decide +kernel
theorem dX2_init_33 : decode cX2_init 33 = .ok (.iconst 4, 1) := by decide +kernel
theorem dX2_init_34 : decode cX2_init 34 = .ok (.newarray .int, 2) := by decide +kernel
theorem dX2_init_36 : decode cX2_init 36 = .ok (.putfield 24, 3) := by decide +kernel
theorem dX2_init_39 : decode cX2_init 39 = .ok (.aload_n 0, 1) := by decide +kernel
theorem dX2_init_40 : decode cX2_init 40 = .ok (.iconst 4, 1) := by decide +kernel
theorem dX2_init_41 : decode cX2_init 41 = .ok (.newarray .int, 2) := by decide +kernel
theorem dX2_init_43 : decode cX2_init 43 = .ok (.putfield 27, 3) := by decide +kernel
theorem dX2_init_46 : decode cX2_init 46 = .ok (.aload_n 0, 1) := by decide +kernel
theorem dX2_init_47 : decode cX2_init 47 = .ok (.iconst 4, 1) := by decide +kernel
theorem dX2_init_48 : decode cX2_init 48 = .ok (.newarray .int, 2) := by decide +kernel
theorem dX2_init_50 : decode cX2_init 50 = .ok (.putfield 30, 3) := by decide +kernel
theorem dX2_init_53 : decode cX2_init 53 = .ok (.aload_n 0, 1) := by decide +kernel
theorem dX2_init_54 : decode cX2_init 54 = .ok (.iconst 0, 1) := by decide +kernel
theorem dX2_init_55 : decode cX2_init 55 = .ok (.putfield 33, 3) := by decide +kernel
theorem dX2_init_58 : decode cX2_init 58 = .ok (.aload_n 0, 1) := by decide +kernel
theorem dX2_init_59 : decode cX2_init 59 = .ok (.iconst 0, 1) := by decide +kernel
theorem dX2_init_60 : decode cX2_init 60 = .ok (.putfield 37, 3) := by decide +kernel
theorem dX2_init_63 : decode cX2_init 63 = .ok (.aload_n 0, 1) := by decide +kernel
theorem dX2_init_64 : decode cX2_init 64 = .ok (.iconst 0, 1) := by decide +kernel
theorem dX2_init_65 : decode cX2_init 65 = .ok (.putfield 40, 3) := by decide +kernel
theorem dX2_init_68 : decode cX2_init 68 = .ok (.aload_n 0, 1) := by decide +kernel
theorem dX2_init_69 : decode cX2_init 69 = .ok (.iconst 0, 1) := by decide +kernel
theorem dX2_init_70 : decode cX2_init 70 = .ok (.putfield 43, 3) := by decide +kernel
theorem dX2_init_73 : decode cX2_init 73 = .ok (.return_, 1) := by decide +kernel
set_option maxRecDepth 20000 in
theorem ggX2_open_X3_howManyHouses : GoodIn wsX2_open wsX3_howManyHouses := goodIn_r _ [17, 18, 128, 129] (by decide +kernel) (by decide +kernel)
set_option maxRecDepth 20000 in
theorem gX2_open_X3_howManyHouses : GoodIn wsX2_open (wsV RX2 46 RX3 yX3_howManyHouses wsX3_howManyHouses) := goodIn_app (goodIn_of _ (by decide +kernel)) ggX2_open_X3_howManyHouses
set_option maxRecDepth 20000 in
theorem ggX2_open_X3_digit : GoodIn wsX2_open wsX3_digit := goodIn_r _ [22, 23, 128, 129] (by decide +kernel) (by decide +kernel)
set_option maxRecDepth 20000 in
theorem gX2_open_X3_digit : GoodIn wsX2_open (wsV RX2 55 RX3 yX3_digit wsX3_digit) := goodIn_app (goodIn_of _ (by decide +kernel)) ggX2_open_X3_digit
set_option maxRecDepth 20000 in
theorem ggX2_open_X3_kind : GoodIn wsX2_open wsX3_kind := goodIn_r _ [27, 23, 28, 29, 30, 31, 32, 33, 34, 35, 36, 37, 38, 39, 40, 41, 42, 43, 44, 45, 46, 47, 48, 49, 50, 51, 52, 53, 54, 55, 56, 57, 58, 59, 60, 61, 62, 63, 64, 65, 66, 67, 68, 69, 70, 71, 72, 73, 74, 75, 76, 77, 78, 79, 80, 81, 82, 83, 84, 85, 86, 87, 88, 89, 90, 91, 92, 93, 94, 95, 96, 97, 98, 99, 100, 101, 102, 103, 104, 105, 106, 107, 108, 109, 110, 111, 112, 113, 114, 115, 116, 128, 129] (by decide +kernel) (by decide +kernel)
set_option maxRecDepth 20000 in
theorem gX2_open_X3_kind : GoodIn wsX2_open (wsV RX2 59 RX3 yX3_kind wsX3_kind) := goodIn_app (goodIn_of _ (by decide +kernel)) ggX2_open_X3_kind
theorem dX2_open_0 : decode cX2_open 0 = .ok (.aload_n 0, 1) := by decide +kernel
theorem dX2_open_1 : decode cX2_open 1 = .ok (.aload_n 1, 1) := by decide +kernel
theorem dX2_open_2 : decode cX2_open 2 = .ok (.invokevirtual 46, 3) := by decide +kernel
theorem dX2_open_5 : decode cX2_open 5 = .ok (.putfield 33, 3) := by decide +kernel
theorem dX2_open_8 : decode cX2_open 8 = .ok (.aload_n 0, 1) := by decide +kernel
theorem dX2_open_9 : decode cX2_open 9 = .ok (.aload_n 1, 1) := by decide +kernel
theorem dX2_open_10 : decode cX2_open 10 = .ok (.aload_n 1, 1) := by decide +kernel
theorem dX2_open_11 : decode cX2_open 11 = .ok (.getfield 52, 3) := by decide +kernel
theorem dX2_open_14 : decode cX2_open 14 = .ok (.iconst 1, 1) := by decide +kernel
theorem dX2_open_15 : decode cX2_open 15 = .ok (.isub, 1) := by decide +kernel
theorem dX2_open_16 : decode cX2_open 16 = .ok (.invokevirtual 55, 3) := by decide +kernel
theorem dX2_open_19 : decode cX2_open 19 = .ok (.putfield 37, 3) := by decide +kernel
theorem dX2_open_22 : decode cX2_open 22 = .ok (.aload_n 0, 1) := by decide +kernel
theorem dX2_open_23 : decode cX2_open 23 = .ok (.iconst 1, 1) := by decide +kernel
theorem dX2_open_24 : decode cX2_open 24 = .ok (.putfield 40, 3) := by decide +kernel
theorem dX2_open_27 : decode cX2_open 27 = .ok (.aload_n 0, 1) := by decide +kernel
theorem dX2_open_28 : decode cX2_open 28 = .ok (.iconst 0, 1) := by decide +kernel
theorem dX2_open_29 : decode cX2_open 29 = .ok (.putfield 43, 3) := by decide +kernel
theorem dX2_open_32 : decode cX2_open 32 = .ok (.iconst 0, 1) := by decide +kernel
theorem dX2_open_33 : decode cX2_open 33 = .ok (.istore_n 2, 1) := by decide +kernel
theorem dX2_open_34 : decode cX2_open 34 = .ok (.iload_n 2, 1) := by decide +kernel
theorem dX2_open_35 : decode cX2_open 35 = .ok (.aload_n 0, 1) := by decide +kernel
theorem dX2_open_36 : decode cX2_open 36 = .ok (.getfield 33, 3) := by decide +kernel
theorem dX2_open_39 : decode cX2_open 39 = .ok (.if_icmp .ge 81, 3) := by decide +kernel
theorem dX2_open_42 : decode cX2_open 42 = .ok (.iload_n 2, 1) := by decide +kernel
theorem dX2_open_43 : decode cX2_open 43 = .ok (.iconst 4, 1) := by decide +kernel
theorem dX2_open_44 : decode cX2_open 44 = .ok (.imul, 1) := by decide +kernel
theorem dX2_open_45 : decode cX2_open 45 = .ok (.istore_n 3, 1) := by decide +kernel
theorem dX2_open_46 : decode cX2_open 46 = .ok (.aload_n 0, 1) := by decide +kernel
theorem dX2_open_47 : decode cX2_open 47 = .ok (.getfield 9, 3) := by decide +kernel
theorem dX2_open_50 : decode cX2_open 50 = .ok (.iload_n 2, 1) := by decide +kernel
theorem dX2_open_51 : decode cX2_open 51 = .ok (.aload_n 1, 1) := by decide +kernel
theorem dX2_open_52 : decode cX2_open 52 = .ok (.iload_n 2, 1) := by decide +kernel
theorem dX2_open_53 : decode cX2_open 53 = .ok (.invokevirtual 59, 3) := by decide +kernel
theorem dX2_open_56 : decode cX2_open 56 = .ok (.iastore, 1) := by decide +kernel
theorem dX2_open_57 : decode cX2_open 57 = .ok (.aload_n 0, 1) := by decide +kernel
theorem dX2_open_58 : decode cX2_open 58 = .ok (.getfield 15, 3) := by decide +kernel
theorem dX2_open_61 : decode cX2_open 61 = .ok (.iload_n 2, 1) := by decide +kernel
theorem dX2_open_62 : decode cX2_open 62 = .ok (.bipush 10, 2) := by decide +kernel
theorem dX2_open_64 : decode cX2_open 64 = .ok (.aload_n 1, 1) := by decide +kernel
theorem dX2_open_65 : decode cX2_open 65 = .ok (.iload_n 3, 1) := by decide +kernel
theorem dX2_open_66 : decode cX2_open 66 = .ok (.iconst 1, 1) := by decide +kernel
theorem dX2_open_67 : decode cX2_open 67 = .ok (.iadd, 1) := by decide +kernel
theorem dX2_open_68 : decode cX2_open 68 = .ok (.invokevirtual 55, 3) := by decide +kernel
theorem dX2_open_71 : decode cX2_open 71 = .ok (.iadd, 1) := by decide +kernel
theorem dX2_open_72 : decode cX2_open 72 = .ok (.iastore, 1) := by decide +kernel
theorem dX2_open_73 : decode cX2_open 73 = .ok (.aload_n 0, 1) := by decide +kernel
theorem dX2_open_74 : decode cX2_open 74 = .ok (.getfield 18, 3) := by decide +kernel
theorem dX2_open_77 : decode cX2_open 77 = .ok (.iload_n 2, 1) := by decide +kernel
theorem dX2_open_78 : decode cX2_open 78 = .ok (.aload_n 1, 1) := by decide +kernel
theorem dX2_open_79 : decode cX2_open 79 = .ok (.iload_n 3, 1) := by decide +kernel
theorem dX2_open_80 : decode cX2_open 80 = .ok (.iconst 2, 1) := by decide +kernel
theorem dX2_open_81 : decode cX2_open 81 = .ok (.iadd, 1) := by decide +kernel
theorem dX2_open_82 : decode cX2_open 82 = .ok (.invokevirtual 55, 3) := by decide +kernel
theorem dX2_open_85 : decode cX2_open 85 = .ok (.iastore, 1) := by decide +kernel
theorem dX2_open_86 : decode cX2_open 86 = .ok (.aload_n 0, 1) := by decide +kernel
theorem dX2_open_87 : decode cX2_open 87 = .ok (.getfield 21, 3) := by decide +kernel
theorem dX2_open_90 : decode cX2_open 90 = .ok (.iload_n 2, 1) := by decide +kernel
theorem dX2_open_91 : decode cX2_open 91 = .ok (.iconst 0, 1) := by decide +kernel
theorem dX2_open_92 : decode cX2_open 92 = .ok (.iastore, 1) := by decide +kernel
theorem dX2_open_93 : decode cX2_open 93 = .ok (.aload_n 0, 1) := by decide +kernel
theorem dX2_open_94 : decode cX2_open 94 = .ok (.getfield 24, 3) := by decide +kernel
theorem dX2_open_97 : decode cX2_open 97 = .ok (.iload_n 2, 1) := by decide +kernel
theorem dX2_open_98 : decode cX2_open 98 = .ok (.iconst 0, 1) := by decide +kernel
theorem dX2_open_99 : decode cX2_open 99 = .ok (.iastore, 1) := by decide +kernel
theorem dX2_open_100 : decode cX2_open 100 = .ok (.aload_n 0, 1) := by decide +kernel
theorem dX2_open_101 : decode cX2_open 101 = .ok (.getfield 27, 3) := by decide +kernel
theorem dX2_open_104 : decode cX2_open 104 = .ok (.iload_n 2, 1) := by decide +kernel
theorem dX2_open_105 : decode cX2_open 105 = .ok (.iconst 0, 1) := by decide +kernel
theorem dX2_open_106 : decode cX2_open 106 = .ok (.iastore, 1) := by decide +kernel
theorem dX2_open_107 : decode cX2_open 107 = .ok (.aload_n 0, 1) := by decide +kernel
theorem dX2_open_108 : decode cX2_open 108 = .ok (.getfield 30, 3) := by decide +kernel
theorem dX2_open_111 : decode cX2_open 111 = .ok (.iload_n 2, 1) := by decide +kernel
theorem dX2_open_112 : decode cX2_open 112 = .ok (.iconst 0, 1) := by decide +kernel
theorem dX2_open_113 : decode cX2_open 113 = .ok (.iastore, 1) := by decide +kernel
theorem dX2_open_114 : decode cX2_open 114 = .ok (.iinc 2 1, 3) := by decide +kernel
theorem dX2_open_117 : decode cX2_open 117 = .ok (.goto (-83), 3) := by decide +kernel
theorem dX2_open_120 : decode cX2_open 120 = .ok (.return_, 1) := by decide +kernel
theorem dX2_isOpen_0 : decode cX2_isOpen 0 = .ok (.aload_n 0, 1) := by decide +kernel
theorem dX2_isOpen_1 : decode cX2_isOpen 1 = .ok (.getfield 33, 3) := by decide +kernel
theorem dX2_isOpen_4 : decode cX2_isOpen 4 = .ok (.ifCond .le 7, 3) := by decide +kernel
theorem dX2_isOpen_7 : decode cX2_isOpen 7 = .ok (.iconst 1, 1) := by decide +kernel
theorem dX2_isOpen_8 : decode cX2_isOpen 8 = .ok (.goto 4, 3) := by decide +kernel
theorem dX2_isOpen_11 : decode cX2_isOpen 11 = .ok (.iconst 0, 1) := by decide +kernel
theorem dX2_isOpen_12 : decode cX2_isOpen 12 = .ok (.ireturn, 1) := by decide +kernel
theorem dX2_has_0 : decode cX2_has 0 = .ok (.iload_n 1, 1) := by decide +kernel
theorem dX2_has_1 : decode cX2_has 1 = .ok (.ifCond .lt 15, 3) := by decide +kernel
theorem dX2_has_4 : decode cX2_has 4 = .ok (.iload_n 1, 1) := by decide +kernel
theorem dX2_has_5 : decode cX2_has 5 = .ok (.aload_n 0, 1) := by decide +kernel
theorem dX2_has_6 : decode cX2_has 6 = .ok (.getfield 33, 3) := by decide +kernel
theorem dX2_has_9 : decode cX2_has 9 = .ok (.if_icmp .ge 7, 3) := by decide +kernel
theorem dX2_has_12 : decode cX2_has 12 = .ok (.iconst 1, 1) := by decide +kernel
theorem dX2_has_13 : decode cX2_has 13 = .ok (.goto 4, 3) := by decide +kernel
theorem dX2_has_16 : decode cX2_has 16 = .ok (.iconst 0, 1) := by decide +kernel
theorem dX2_has_17 : decode cX2_has 17 = .ok (.ireturn, 1) := by decide +kernel
theorem dX2_tell_0 : decode cX2_tell 0 = .ok (.iload_n 2, 1) := by decide +kernel
theorem dX2_tell_1 : decode cX2_tell 1 = .ok (.tableswitch 81 0 5 #[39, 46, 53, 60, 67, 74], 39) := by decide +kernel
theorem dX2_tell_40 : decode cX2_tell 40 = .ok (.aload_n 0, 1) := by decide +kernel
theorem dX2_tell_41 : decode cX2_tell 41 = .ok (.getfield 9, 3) := by decide +kernel
theorem dX2_tell_44 : decode cX2_tell 44 = .ok (.iload_n 1, 1) := by decide +kernel
theorem dX2_tell_45 : decode cX2_tell 45 = .ok (.iaload, 1) := by decide +kernel
theorem dX2_tell_46 : decode cX2_tell 46 = .ok (.ireturn, 1) := by decide +kernel
theorem dX2_tell_47 : decode cX2_tell 47 = .ok (.aload_n 0, 1) := by decide +kernel
theorem dX2_tell_48 : decode cX2_tell 48 = .ok (.getfield 15, 3) := by decide +kernel
theorem dX2_tell_51 : decode cX2_tell 51 = .ok (.iload_n 1, 1) := by decide +kernel
theorem dX2_tell_52 : decode cX2_tell 52 = .ok (.iaload, 1) := by decide +kernel
theorem dX2_tell_53 : decode cX2_tell 53 = .ok (.ireturn, 1) := by decide +kernel
theorem dX2_tell_54 : decode cX2_tell 54 = .ok (.aload_n 0, 1) := by decide +kernel
theorem dX2_tell_55 : decode cX2_tell 55 = .ok (.getfield 18, 3) := by decide +kernel
theorem dX2_tell_58 : decode cX2_tell 58 = .ok (.iload_n 1, 1) := by decide +kernel
theorem dX2_tell_59 : decode cX2_tell 59 = .ok (.iaload, 1) := by decide +kernel
theorem dX2_tell_60 : decode cX2_tell 60 = .ok (.ireturn, 1) := by decide +kernel
theorem dX2_tell_61 : decode cX2_tell 61 = .ok (.aload_n 0, 1) := by decide +kernel
theorem dX2_tell_62 : decode cX2_tell 62 = .ok (.getfield 21, 3) := by decide +kernel
theorem dX2_tell_65 : decode cX2_tell 65 = .ok (.iload_n 1, 1) := by decide +kernel
theorem dX2_tell_66 : decode cX2_tell 66 = .ok (.iaload, 1) := by decide +kernel
theorem dX2_tell_67 : decode cX2_tell 67 = .ok (.ireturn, 1) := by decide +kernel
theorem dX2_tell_68 : decode cX2_tell 68 = .ok (.aload_n 0, 1) := by decide +kernel
theorem dX2_tell_69 : decode cX2_tell 69 = .ok (.getfield 24, 3) := by decide +kernel
theorem dX2_tell_72 : decode cX2_tell 72 = .ok (.iload_n 1, 1) := by decide +kernel
theorem dX2_tell_73 : decode cX2_tell 73 = .ok (.iaload, 1) := by decide +kernel
theorem dX2_tell_74 : decode cX2_tell 74 = .ok (.ireturn, 1) := by decide +kernel
theorem dX2_tell_75 : decode cX2_tell 75 = .ok (.aload_n 0, 1) := by decide +kernel
theorem dX2_tell_76 : decode cX2_tell 76 = .ok (.getfield 27, 3) := by decide +kernel
theorem dX2_tell_79 : decode cX2_tell 79 = .ok (.iload_n 1, 1) := by decide +kernel
theorem dX2_tell_80 : decode cX2_tell 80 = .ok (.iaload, 1) := by decide +kernel
theorem dX2_tell_81 : decode cX2_tell 81 = .ok (.ireturn, 1) := by decide +kernel
theorem dX2_tell_82 : decode cX2_tell 82 = .ok (.aload_n 0, 1) := by decide +kernel
theorem dX2_tell_83 : decode cX2_tell 83 = .ok (.getfield 30, 3) := by decide +kernel
theorem dX2_tell_86 : decode cX2_tell 86 = .ok (.iload_n 1, 1) := by decide +kernel
theorem dX2_tell_87 : decode cX2_tell 87 = .ok (.iaload, 1) := by decide +kernel
theorem dX2_tell_88 : decode cX2_tell 88 = .ok (.ireturn, 1) := by decide +kernel
theorem dX2_ounces_0 : decode cX2_ounces 0 = .ok (.iload_n 3, 1) := by decide +kernel
theorem dX2_ounces_1 : decode cX2_ounces 1 = .ok (.iconst 2, 1) := by decide +kernel
theorem dX2_ounces_2 : decode cX2_ounces 2 = .ok (.irem, 1) := by decide +kernel
theorem dX2_ounces_3 : decode cX2_ounces 3 = .ok (.ifCond .ne 12, 3) := by decide +kernel
theorem dX2_ounces_6 : decode cX2_ounces 6 = .ok (.iload_n 1, 1) := by decide +kernel
theorem dX2_ounces_7 : decode cX2_ounces 7 = .ok (.aload_n 0, 1) := by decide +kernel
theorem dX2_ounces_8 : decode cX2_ounces 8 = .ok (.getfield 37, 3) := by decide +kernel
theorem dX2_ounces_11 : decode cX2_ounces 11 = .ok (.isub, 1) := by decide +kernel
theorem dX2_ounces_12 : decode cX2_ounces 12 = .ok (.goto 9, 3) := by decide +kernel
theorem dX2_ounces_15 : decode cX2_ounces 15 = .ok (.iload_n 1, 1) := by decide +kernel
theorem dX2_ounces_16 : decode cX2_ounces 16 = .ok (.aload_n 0, 1) := by decide +kernel
theorem dX2_ounces_17 : decode cX2_ounces 17 = .ok (.getfield 37, 3) := by decide +kernel
theorem dX2_ounces_20 : decode cX2_ounces 20 = .ok (.iadd, 1) := by decide +kernel
theorem dX2_ounces_21 : decode cX2_ounces 21 = .ok (.istore 4, 2) := by decide +kernel
theorem dX2_ounces_23 : decode cX2_ounces 23 = .ok (.aload_n 0, 1) := by decide +kernel
theorem dX2_ounces_24 : decode cX2_ounces 24 = .ok (.getfield 9, 3) := by decide +kernel
theorem dX2_ounces_27 : decode cX2_ounces 27 = .ok (.iload_n 2, 1) := by decide +kernel
theorem dX2_ounces_28 : decode cX2_ounces 28 = .ok (.iaload, 1) := by decide +kernel
theorem dX2_ounces_29 : decode cX2_ounces 29 = .ok (.iconst 3, 1) := by decide +kernel
theorem dX2_ounces_30 : decode cX2_ounces 30 = .ok (.if_icmp .ne 10, 3) := by decide +kernel
theorem dX2_ounces_33 : decode cX2_ounces 33 = .ok (.iload 4, 2) := by decide +kernel
theorem dX2_ounces_35 : decode cX2_ounces 35 = .ok (.iconst 1, 1) := by decide +kernel
theorem dX2_ounces_36 : decode cX2_ounces 36 = .ok (.iadd, 1) := by decide +kernel
theorem dX2_ounces_37 : decode cX2_ounces 37 = .ok (.goto 5, 3) := by decide +kernel
theorem dX2_ounces_40 : decode cX2_ounces 40 = .ok (.iload 4, 2) := by decide +kernel
theorem dX2_ounces_42 : decode cX2_ounces 42 = .ok (.istore 5, 2) := by decide +kernel
theorem dX2_ounces_44 : decode cX2_ounces 44 = .ok (.iload 5, 2) := by decide +kernel
theorem dX2_ounces_46 : decode cX2_ounces 46 = .ok (.iconst 0, 1) := by decide +kernel
theorem dX2_ounces_47 : decode cX2_ounces 47 = .ok (.invokestatic 62, 3) := by decide +kernel
theorem dX2_ounces_50 : decode cX2_ounces 50 = .ok (.ireturn, 1) := by decide +kernel
theorem dX2_weightAfter_0 : decode cX2_weightAfter 0 = .ok (.aload_n 0, 1) := by decide +kernel
theorem dX2_weightAfter_1 : decode cX2_weightAfter 1 = .ok (.getfield 9, 3) := by decide +kernel
theorem dX2_weightAfter_4 : decode cX2_weightAfter 4 = .ok (.iload_n 2, 1) := by decide +kernel
theorem dX2_weightAfter_5 : decode cX2_weightAfter 5 = .ok (.iaload, 1) := by decide +kernel
theorem dX2_weightAfter_6 : decode cX2_weightAfter 6 = .ok (.iconst 2, 1) := by decide +kernel
theorem dX2_weightAfter_7 : decode cX2_weightAfter 7 = .ok (.if_icmp .ne 7, 3) := by decide +kernel
theorem dX2_weightAfter_10 : decode cX2_weightAfter 10 = .ok (.iconst 1, 1) := by decide +kernel
theorem dX2_weightAfter_11 : decode cX2_weightAfter 11 = .ok (.goto 4, 3) := by decide +kernel
theorem dX2_weightAfter_14 : decode cX2_weightAfter 14 = .ok (.iconst 0, 1) := by decide +kernel
theorem dX2_weightAfter_15 : decode cX2_weightAfter 15 = .ok (.istore 4, 2) := by decide +kernel
theorem dX2_weightAfter_17 : decode cX2_weightAfter 17 = .ok (.aload_n 0, 1) := by decide +kernel
theorem dX2_weightAfter_18 : decode cX2_weightAfter 18 = .ok (.getfield 9, 3) := by decide +kernel
theorem dX2_weightAfter_21 : decode cX2_weightAfter 21 = .ok (.iload_n 3, 1) := by decide +kernel
theorem dX2_weightAfter_22 : decode cX2_weightAfter 22 = .ok (.iaload, 1) := by decide +kernel
theorem dX2_weightAfter_23 : decode cX2_weightAfter 23 = .ok (.iconst 4, 1) := by decide +kernel
theorem dX2_weightAfter_24 : decode cX2_weightAfter 24 = .ok (.if_icmp .ne 7, 3) := by decide +kernel
theorem dX2_weightAfter_27 : decode cX2_weightAfter 27 = .ok (.iconst 2, 1) := by decide +kernel
theorem dX2_weightAfter_28 : decode cX2_weightAfter 28 = .ok (.goto 18, 3) := by decide +kernel
theorem dX2_weightAfter_31 : decode cX2_weightAfter 31 = .ok (.aload_n 0, 1) := by decide +kernel
theorem dX2_weightAfter_32 : decode cX2_weightAfter 32 = .ok (.getfield 9, 3) := by decide +kernel
theorem dX2_weightAfter_35 : decode cX2_weightAfter 35 = .ok (.iload_n 3, 1) := by decide +kernel
theorem dX2_weightAfter_36 : decode cX2_weightAfter 36 = .ok (.iaload, 1) := by decide +kernel
theorem dX2_weightAfter_37 : decode cX2_weightAfter 37 = .ok (.iconst 1, 1) := by decide +kernel
theorem dX2_weightAfter_38 : decode cX2_weightAfter 38 = .ok (.if_icmp .ne 7, 3) := by decide +kernel
theorem dX2_weightAfter_41 : decode cX2_weightAfter 41 = .ok (.iconst 1, 1) := by decide +kernel
theorem dX2_weightAfter_42 : decode cX2_weightAfter 42 = .ok (.goto 4, 3) := by decide +kernel
theorem dX2_weightAfter_45 : decode cX2_weightAfter 45 = .ok (.iconst 0, 1) := by decide +kernel
theorem dX2_weightAfter_46 : decode cX2_weightAfter 46 = .ok (.istore 5, 2) := by decide +kernel
theorem dX2_weightAfter_48 : decode cX2_weightAfter 48 = .ok (.iload_n 1, 1) := by decide +kernel
theorem dX2_weightAfter_49 : decode cX2_weightAfter 49 = .ok (.iload 4, 2) := by decide +kernel
theorem dX2_weightAfter_51 : decode cX2_weightAfter 51 = .ok (.isub, 1) := by decide +kernel
theorem dX2_weightAfter_52 : decode cX2_weightAfter 52 = .ok (.iload 5, 2) := by decide +kernel
theorem dX2_weightAfter_54 : decode cX2_weightAfter 54 = .ok (.isub, 1) := by decide +kernel
theorem dX2_weightAfter_55 : decode cX2_weightAfter 55 = .ok (.iconst 1, 1) := by decide +kernel
theorem dX2_weightAfter_56 : decode cX2_weightAfter 56 = .ok (.invokestatic 62, 3) := by decide +kernel
theorem dX2_weightAfter_59 : decode cX2_weightAfter 59 = .ok (.ireturn, 1) := by decide +kernel
set_option maxRecDepth 20000 in
theorem ggX2_sell_X2_ounces : GoodIn wsX2_sell wsX2_ounces := goodIn_r _ [13, 14, 15, 16, 17, 18, 19, 24, 25, 26, 27, 28, 29, 30, 31, 32, 33, 34] (by decide +kernel) (by decide +kernel)
set_option maxRecDepth 20000 in
theorem gX2_sell_X2_ounces : GoodIn wsX2_sell (wsV RX2 68 RX2 yX2_ounces wsX2_ounces) := goodIn_app (goodIn_of _ (by decide +kernel)) ggX2_sell_X2_ounces
set_option maxRecDepth 20000 in
theorem ggX2_sell_X2_weightAfter : GoodIn wsX2_sell wsX2_weightAfter := goodIn_r _ [23, 15, 16, 17, 18, 19, 24, 25, 26, 27, 28, 29, 30, 31, 32, 33, 34] (by decide +kernel) (by decide +kernel)
set_option maxRecDepth 20000 in
theorem gX2_sell_X2_weightAfter : GoodIn wsX2_sell (wsV RX2 72 RX2 yX2_weightAfter wsX2_weightAfter) := goodIn_app (goodIn_of _ (by decide +kernel)) ggX2_sell_X2_weightAfter
theorem dX2_sell_0 : decode cX2_sell 0 = .ok (.aload_n 0, 1) := by decide +kernel
theorem dX2_sell_1 : decode cX2_sell 1 = .ok (.aload_n 0, 1) := by decide +kernel
theorem dX2_sell_2 : decode cX2_sell 2 = .ok (.getfield 15, 3) := by decide +kernel
theorem dX2_sell_5 : decode cX2_sell 5 = .ok (.iload_n 3, 1) := by decide +kernel
theorem dX2_sell_6 : decode cX2_sell 6 = .ok (.iaload, 1) := by decide +kernel
theorem dX2_sell_7 : decode cX2_sell 7 = .ok (.iload_n 1, 1) := by decide +kernel
theorem dX2_sell_8 : decode cX2_sell 8 = .ok (.aload_n 0, 1) := by decide +kernel
theorem dX2_sell_9 : decode cX2_sell 9 = .ok (.getfield 40, 3) := by decide +kernel
theorem dX2_sell_12 : decode cX2_sell 12 = .ok (.invokevirtual 68, 3) := by decide +kernel
theorem dX2_sell_15 : decode cX2_sell 15 = .ok (.istore 4, 2) := by decide +kernel
theorem dX2_sell_17 : decode cX2_sell 17 = .ok (.aload_n 0, 1) := by decide +kernel
theorem dX2_sell_18 : decode cX2_sell 18 = .ok (.getfield 21, 3) := by decide +kernel
theorem dX2_sell_21 : decode cX2_sell 21 = .ok (.iload_n 1, 1) := by decide +kernel
theorem dX2_sell_22 : decode cX2_sell 22 = .ok (.dup2, 1) := by decide +kernel
theorem dX2_sell_23 : decode cX2_sell 23 = .ok (.iaload, 1) := by decide +kernel
theorem dX2_sell_24 : decode cX2_sell 24 = .ok (.iload 4, 2) := by decide +kernel
theorem dX2_sell_26 : decode cX2_sell 26 = .ok (.iadd, 1) := by decide +kernel
theorem dX2_sell_27 : decode cX2_sell 27 = .ok (.iastore, 1) := by decide +kernel
theorem dX2_sell_28 : decode cX2_sell 28 = .ok (.aload_n 0, 1) := by decide +kernel
theorem dX2_sell_29 : decode cX2_sell 29 = .ok (.getfield 24, 3) := by decide +kernel
theorem dX2_sell_32 : decode cX2_sell 32 = .ok (.iload_n 1, 1) := by decide +kernel
theorem dX2_sell_33 : decode cX2_sell 33 = .ok (.dup2, 1) := by decide +kernel
theorem dX2_sell_34 : decode cX2_sell 34 = .ok (.iaload, 1) := by decide +kernel
theorem dX2_sell_35 : decode cX2_sell 35 = .ok (.aload_n 0, 1) := by decide +kernel
theorem dX2_sell_36 : decode cX2_sell 36 = .ok (.getfield 18, 3) := by decide +kernel
theorem dX2_sell_39 : decode cX2_sell 39 = .ok (.iload_n 2, 1) := by decide +kernel
theorem dX2_sell_40 : decode cX2_sell 40 = .ok (.iaload, 1) := by decide +kernel
theorem dX2_sell_41 : decode cX2_sell 41 = .ok (.iadd, 1) := by decide +kernel
theorem dX2_sell_42 : decode cX2_sell 42 = .ok (.iastore, 1) := by decide +kernel
theorem dX2_sell_43 : decode cX2_sell 43 = .ok (.aload_n 0, 1) := by decide +kernel
theorem dX2_sell_44 : decode cX2_sell 44 = .ok (.getfield 27, 3) := by decide +kernel
theorem dX2_sell_47 : decode cX2_sell 47 = .ok (.iload_n 2, 1) := by decide +kernel
theorem dX2_sell_48 : decode cX2_sell 48 = .ok (.dup2, 1) := by decide +kernel
theorem dX2_sell_49 : decode cX2_sell 49 = .ok (.iaload, 1) := by decide +kernel
theorem dX2_sell_50 : decode cX2_sell 50 = .ok (.iconst 1, 1) := by decide +kernel
theorem dX2_sell_51 : decode cX2_sell 51 = .ok (.iadd, 1) := by decide +kernel
theorem dX2_sell_52 : decode cX2_sell 52 = .ok (.iastore, 1) := by decide +kernel
theorem dX2_sell_53 : decode cX2_sell 53 = .ok (.aload_n 0, 1) := by decide +kernel
theorem dX2_sell_54 : decode cX2_sell 54 = .ok (.getfield 30, 3) := by decide +kernel
theorem dX2_sell_57 : decode cX2_sell 57 = .ok (.iload_n 3, 1) := by decide +kernel
theorem dX2_sell_58 : decode cX2_sell 58 = .ok (.dup2, 1) := by decide +kernel
theorem dX2_sell_59 : decode cX2_sell 59 = .ok (.iaload, 1) := by decide +kernel
theorem dX2_sell_60 : decode cX2_sell 60 = .ok (.iconst 1, 1) := by decide +kernel
theorem dX2_sell_61 : decode cX2_sell 61 = .ok (.iadd, 1) := by decide +kernel
theorem dX2_sell_62 : decode cX2_sell 62 = .ok (.iastore, 1) := by decide +kernel
theorem dX2_sell_63 : decode cX2_sell 63 = .ok (.aload_n 0, 1) := by decide +kernel
theorem dX2_sell_64 : decode cX2_sell 64 = .ok (.dup, 1) := by decide +kernel
theorem dX2_sell_65 : decode cX2_sell 65 = .ok (.getfield 43, 3) := by decide +kernel
theorem dX2_sell_68 : decode cX2_sell 68 = .ok (.iconst 1, 1) := by decide +kernel
theorem dX2_sell_69 : decode cX2_sell 69 = .ok (.iadd, 1) := by decide +kernel
theorem dX2_sell_70 : decode cX2_sell 70 = .ok (.putfield 43, 3) := by decide +kernel
theorem dX2_sell_73 : decode cX2_sell 73 = .ok (.aload_n 0, 1) := by decide +kernel
theorem dX2_sell_74 : decode cX2_sell 74 = .ok (.getfield 15, 3) := by decide +kernel
theorem dX2_sell_77 : decode cX2_sell 77 = .ok (.iload_n 3, 1) := by decide +kernel
theorem dX2_sell_78 : decode cX2_sell 78 = .ok (.aload_n 0, 1) := by decide +kernel
theorem dX2_sell_79 : decode cX2_sell 79 = .ok (.aload_n 0, 1) := by decide +kernel
theorem dX2_sell_80 : decode cX2_sell 80 = .ok (.getfield 15, 3) := by decide +kernel
theorem dX2_sell_83 : decode cX2_sell 83 = .ok (.iload_n 3, 1) := by decide +kernel
theorem dX2_sell_84 : decode cX2_sell 84 = .ok (.iaload, 1) := by decide +kernel
theorem dX2_sell_85 : decode cX2_sell 85 = .ok (.iload_n 3, 1) := by decide +kernel
theorem dX2_sell_86 : decode cX2_sell 86 = .ok (.iload_n 2, 1) := by decide +kernel
theorem dX2_sell_87 : decode cX2_sell 87 = .ok (.invokevirtual 72, 3) := by decide +kernel
theorem dX2_sell_90 : decode cX2_sell 90 = .ok (.iastore, 1) := by decide +kernel
theorem dX2_sell_91 : decode cX2_sell 91 = .ok (.iload 4, 2) := by decide +kernel
theorem dX2_sell_93 : decode cX2_sell 93 = .ok (.ireturn, 1) := by decide +kernel
set_option maxRecDepth 20000 in
theorem ggX2_isFair_X2_ounces : GoodIn wsX2_isFair wsX2_ounces := goodIn_r _ [9, 10, 11, 12, 13, 14, 15, 16, 17, 18, 19, 20, 21, 22, 23, 24, 25, 26] (by decide +kernel) (by decide +kernel)
set_option maxRecDepth 20000 in
theorem gX2_isFair_X2_ounces : GoodIn wsX2_isFair (wsV RX2 68 RX2 yX2_ounces wsX2_ounces) := goodIn_app (goodIn_of _ (by decide +kernel)) ggX2_isFair_X2_ounces
theorem dX2_isFair_0 : decode cX2_isFair 0 = .ok (.aload_n 0, 1) := by decide +kernel
theorem dX2_isFair_1 : decode cX2_isFair 1 = .ok (.aload_n 0, 1) := by decide +kernel
theorem dX2_isFair_2 : decode cX2_isFair 2 = .ok (.getfield 15, 3) := by decide +kernel
theorem dX2_isFair_5 : decode cX2_isFair 5 = .ok (.iload_n 2, 1) := by decide +kernel
theorem dX2_isFair_6 : decode cX2_isFair 6 = .ok (.iaload, 1) := by decide +kernel
theorem dX2_isFair_7 : decode cX2_isFair 7 = .ok (.iload_n 2, 1) := by decide +kernel
theorem dX2_isFair_8 : decode cX2_isFair 8 = .ok (.aload_n 0, 1) := by decide +kernel
theorem dX2_isFair_9 : decode cX2_isFair 9 = .ok (.getfield 40, 3) := by decide +kernel
theorem dX2_isFair_12 : decode cX2_isFair 12 = .ok (.invokevirtual 68, 3) := by decide +kernel
theorem dX2_isFair_15 : decode cX2_isFair 15 = .ok (.istore_n 3, 1) := by decide +kernel
theorem dX2_isFair_16 : decode cX2_isFair 16 = .ok (.iconst 0, 1) := by decide +kernel
theorem dX2_isFair_17 : decode cX2_isFair 17 = .ok (.istore 4, 2) := by decide +kernel
theorem dX2_isFair_19 : decode cX2_isFair 19 = .ok (.iload 4, 2) := by decide +kernel
theorem dX2_isFair_21 : decode cX2_isFair 21 = .ok (.aload_n 0, 1) := by decide +kernel
theorem dX2_isFair_22 : decode cX2_isFair 22 = .ok (.getfield 33, 3) := by decide +kernel
theorem dX2_isFair_25 : decode cX2_isFair 25 = .ok (.if_icmp .ge 43, 3) := by decide +kernel
theorem dX2_isFair_28 : decode cX2_isFair 28 = .ok (.iload 4, 2) := by decide +kernel
theorem dX2_isFair_30 : decode cX2_isFair 30 = .ok (.iload_n 2, 1) := by decide +kernel
theorem dX2_isFair_31 : decode cX2_isFair 31 = .ok (.if_icmp .eq 31, 3) := by decide +kernel
theorem dX2_isFair_34 : decode cX2_isFair 34 = .ok (.iload 4, 2) := by decide +kernel
theorem dX2_isFair_36 : decode cX2_isFair 36 = .ok (.iload_n 1, 1) := by decide +kernel
theorem dX2_isFair_37 : decode cX2_isFair 37 = .ok (.if_icmp .eq 25, 3) := by decide +kernel
theorem dX2_isFair_40 : decode cX2_isFair 40 = .ok (.iload_n 3, 1) := by decide +kernel
theorem dX2_isFair_41 : decode cX2_isFair 41 = .ok (.aload_n 0, 1) := by decide +kernel
theorem dX2_isFair_42 : decode cX2_isFair 42 = .ok (.getfield 18, 3) := by decide +kernel
theorem dX2_isFair_45 : decode cX2_isFair 45 = .ok (.iload 4, 2) := by decide +kernel
theorem dX2_isFair_47 : decode cX2_isFair 47 = .ok (.iaload, 1) := by decide +kernel
theorem dX2_isFair_48 : decode cX2_isFair 48 = .ok (.imul, 1) := by decide +kernel
theorem dX2_isFair_49 : decode cX2_isFair 49 = .ok (.iload_n 3, 1) := by decide +kernel
theorem dX2_isFair_50 : decode cX2_isFair 50 = .ok (.aload_n 0, 1) := by decide +kernel
theorem dX2_isFair_51 : decode cX2_isFair 51 = .ok (.getfield 18, 3) := by decide +kernel
theorem dX2_isFair_54 : decode cX2_isFair 54 = .ok (.iload_n 1, 1) := by decide +kernel
theorem dX2_isFair_55 : decode cX2_isFair 55 = .ok (.iaload, 1) := by decide +kernel
theorem dX2_isFair_56 : decode cX2_isFair 56 = .ok (.imul, 1) := by decide +kernel
theorem dX2_isFair_57 : decode cX2_isFair 57 = .ok (.if_icmp .ge 5, 3) := by decide +kernel
theorem dX2_isFair_60 : decode cX2_isFair 60 = .ok (.iconst 0, 1) := by decide +kernel
theorem dX2_isFair_61 : decode cX2_isFair 61 = .ok (.ireturn, 1) := by decide +kernel
theorem dX2_isFair_62 : decode cX2_isFair 62 = .ok (.iinc 4 1, 3) := by decide +kernel
theorem dX2_isFair_65 : decode cX2_isFair 65 = .ok (.goto (-46), 3) := by decide +kernel
theorem dX2_isFair_68 : decode cX2_isFair 68 = .ok (.iconst 1, 1) := by decide +kernel
theorem dX2_isFair_69 : decode cX2_isFair 69 = .ok (.ireturn, 1) := by decide +kernel
theorem dX2_sum_0 : decode cX2_sum 0 = .ok (.iconst 0, 1) := by decide +kernel
theorem dX2_sum_1 : decode cX2_sum 1 = .ok (.istore_n 2, 1) := by decide +kernel
theorem dX2_sum_2 : decode cX2_sum 2 = .ok (.iconst 0, 1) := by decide +kernel
theorem dX2_sum_3 : decode cX2_sum 3 = .ok (.istore_n 3, 1) := by decide +kernel
theorem dX2_sum_4 : decode cX2_sum 4 = .ok (.iload_n 3, 1) := by decide +kernel
theorem dX2_sum_5 : decode cX2_sum 5 = .ok (.aload_n 0, 1) := by decide +kernel
theorem dX2_sum_6 : decode cX2_sum 6 = .ok (.getfield 33, 3) := by decide +kernel
theorem dX2_sum_9 : decode cX2_sum 9 = .ok (.if_icmp .ge 15, 3) := by decide +kernel
theorem dX2_sum_12 : decode cX2_sum 12 = .ok (.iload_n 2, 1) := by decide +kernel
theorem dX2_sum_13 : decode cX2_sum 13 = .ok (.aload_n 1, 1) := by decide +kernel
theorem dX2_sum_14 : decode cX2_sum 14 = .ok (.iload_n 3, 1) := by decide +kernel
theorem dX2_sum_15 : decode cX2_sum 15 = .ok (.iaload, 1) := by decide +kernel
theorem dX2_sum_16 : decode cX2_sum 16 = .ok (.iadd, 1) := by decide +kernel
theorem dX2_sum_17 : decode cX2_sum 17 = .ok (.istore_n 2, 1) := by decide +kernel
theorem dX2_sum_18 : decode cX2_sum 18 = .ok (.iinc 3 1, 3) := by decide +kernel
theorem dX2_sum_21 : decode cX2_sum 21 = .ok (.goto (-17), 3) := by decide +kernel
theorem dX2_sum_24 : decode cX2_sum 24 = .ok (.iload_n 2, 1) := by decide +kernel
theorem dX2_sum_25 : decode cX2_sum 25 = .ok (.ireturn, 1) := by decide +kernel
set_option maxRecDepth 20000 in
theorem ggX2_copyDoingsOf_X5_copyRow : GoodIn wsX2_copyDoingsOf wsX5_copyRow := goodIn_r _ [10, 11, 12, 13, 14] (by decide +kernel) (by decide +kernel)
set_option maxRecDepth 20000 in
theorem gX2_copyDoingsOf_X5_copyRow_n75 : GoodIn wsX2_copyDoingsOf (wsX5_copyRow) := ggX2_copyDoingsOf_X5_copyRow
theorem dX2_copyDoingsOf_0 : decode cX2_copyDoingsOf 0 = .ok (.aload_n 0, 1) := by decide +kernel
theorem dX2_copyDoingsOf_1 : decode cX2_copyDoingsOf 1 = .ok (.aload_n 1, 1) := by decide +kernel
theorem dX2_copyDoingsOf_2 : decode cX2_copyDoingsOf 2 = .ok (.getfield 40, 3) := by decide +kernel
theorem dX2_copyDoingsOf_5 : decode cX2_copyDoingsOf 5 = .ok (.putfield 40, 3) := by decide +kernel
theorem dX2_copyDoingsOf_8 : decode cX2_copyDoingsOf 8 = .ok (.aload_n 0, 1) := by decide +kernel
theorem dX2_copyDoingsOf_9 : decode cX2_copyDoingsOf 9 = .ok (.aload_n 1, 1) := by decide +kernel
theorem dX2_copyDoingsOf_10 : decode cX2_copyDoingsOf 10 = .ok (.getfield 43, 3) := by decide +kernel
theorem dX2_copyDoingsOf_13 : decode cX2_copyDoingsOf 13 = .ok (.putfield 43, 3) := by decide +kernel
theorem dX2_copyDoingsOf_16 : decode cX2_copyDoingsOf 16 = .ok (.aload_n 1, 1) := by decide +kernel
theorem dX2_copyDoingsOf_17 : decode cX2_copyDoingsOf 17 = .ok (.getfield 15, 3) := by decide +kernel
theorem dX2_copyDoingsOf_20 : decode cX2_copyDoingsOf 20 = .ok (.aload_n 0, 1) := by decide +kernel
theorem dX2_copyDoingsOf_21 : decode cX2_copyDoingsOf 21 = .ok (.getfield 15, 3) := by decide +kernel
theorem dX2_copyDoingsOf_24 : decode cX2_copyDoingsOf 24 = .ok (.invokestatic 75, 3) := by decide +kernel
theorem dX2_copyDoingsOf_27 : decode cX2_copyDoingsOf 27 = .ok (.aload_n 1, 1) := by decide +kernel
theorem dX2_copyDoingsOf_28 : decode cX2_copyDoingsOf 28 = .ok (.getfield 21, 3) := by decide +kernel
theorem dX2_copyDoingsOf_31 : decode cX2_copyDoingsOf 31 = .ok (.aload_n 0, 1) := by decide +kernel
theorem dX2_copyDoingsOf_32 : decode cX2_copyDoingsOf 32 = .ok (.getfield 21, 3) := by decide +kernel
theorem dX2_copyDoingsOf_35 : decode cX2_copyDoingsOf 35 = .ok (.invokestatic 75, 3) := by decide +kernel
theorem dX2_copyDoingsOf_38 : decode cX2_copyDoingsOf 38 = .ok (.aload_n 1, 1) := by decide +kernel
theorem dX2_copyDoingsOf_39 : decode cX2_copyDoingsOf 39 = .ok (.getfield 24, 3) := by decide +kernel
theorem dX2_copyDoingsOf_42 : decode cX2_copyDoingsOf 42 = .ok (.aload_n 0, 1) := by decide +kernel
theorem dX2_copyDoingsOf_43 : decode cX2_copyDoingsOf 43 = .ok (.getfield 24, 3) := by decide +kernel
theorem dX2_copyDoingsOf_46 : decode cX2_copyDoingsOf 46 = .ok (.invokestatic 75, 3) := by decide +kernel
theorem dX2_copyDoingsOf_49 : decode cX2_copyDoingsOf 49 = .ok (.aload_n 1, 1) := by decide +kernel
theorem dX2_copyDoingsOf_50 : decode cX2_copyDoingsOf 50 = .ok (.getfield 27, 3) := by decide +kernel
theorem dX2_copyDoingsOf_53 : decode cX2_copyDoingsOf 53 = .ok (.aload_n 0, 1) := by decide +kernel
theorem dX2_copyDoingsOf_54 : decode cX2_copyDoingsOf 54 = .ok (.getfield 27, 3) := by decide +kernel
theorem dX2_copyDoingsOf_57 : decode cX2_copyDoingsOf 57 = .ok (.invokestatic 75, 3) := by decide +kernel
theorem dX2_copyDoingsOf_60 : decode cX2_copyDoingsOf 60 = .ok (.aload_n 1, 1) := by decide +kernel
theorem dX2_copyDoingsOf_61 : decode cX2_copyDoingsOf 61 = .ok (.getfield 30, 3) := by decide +kernel
theorem dX2_copyDoingsOf_64 : decode cX2_copyDoingsOf 64 = .ok (.aload_n 0, 1) := by decide +kernel
theorem dX2_copyDoingsOf_65 : decode cX2_copyDoingsOf 65 = .ok (.getfield 30, 3) := by decide +kernel
theorem dX2_copyDoingsOf_68 : decode cX2_copyDoingsOf 68 = .ok (.invokestatic 75, 3) := by decide +kernel
theorem dX2_copyDoingsOf_71 : decode cX2_copyDoingsOf 71 = .ok (.return_, 1) := by decide +kernel
theorem dX3_init_0 : decode cX3_init 0 = .ok (.aload_n 0, 1) := by decide +kernel
theorem dX3_init_1 : decode cX3_init 1 = .ok (.invokespecial 3, 3) := by decide +kernel
theorem dX3_init_4 : decode cX3_init 4 = .ok (.aload_n 0, 1) := by decide +kernel
theorem dX3_init_5 : decode cX3_init 5 = .ok (.bipush 18, 2) := by decide +kernel
theorem dX3_init_7 : decode cX3_init 7 = .ok (.newarray .char, 2) := by decide +kernel
theorem dX3_init_9 : decode cX3_init 9 = .ok (.putfield 9, 3) := by decide +kernel
theorem dX3_init_12 : decode cX3_init 12 = .ok (.aload_n 0, 1) := by decide +kernel
theorem dX3_init_13 : decode cX3_init 13 = .ok (.iconst 0, 1) := by decide +kernel
theorem dX3_init_14 : decode cX3_init 14 = .ok (.putfield 15, 3) := by decide +kernel
theorem dX3_init_17 : decode cX3_init 17 = .ok (.return_, 1) := by decide +kernel
theorem dX3_add_0 : decode cX3_add 0 = .ok (.aload_n 0, 1) := by decide +kernel
theorem dX3_add_1 : decode cX3_add 1 = .ok (.getfield 15, 3) := by decide +kernel
theorem dX3_add_4 : decode cX3_add 4 = .ok (.bipush 18, 2) := by decide +kernel
theorem dX3_add_6 : decode cX3_add 6 = .ok (.if_icmp .ge 23, 3) := by decide +kernel
theorem dX3_add_9 : decode cX3_add 9 = .ok (.aload_n 0, 1) := by decide +kernel
theorem dX3_add_10 : decode cX3_add 10 = .ok (.getfield 9, 3) := by decide +kernel
theorem dX3_add_13 : decode cX3_add 13 = .ok (.aload_n 0, 1) := by decide +kernel
theorem dX3_add_14 : decode cX3_add 14 = .ok (.getfield 15, 3) := by decide +kernel
theorem dX3_add_17 : decode cX3_add 17 = .ok (.iload_n 1, 1) := by decide +kernel
theorem dX3_add_18 : decode cX3_add 18 = .ok (.castore, 1) := by decide +kernel
theorem dX3_add_19 : decode cX3_add 19 = .ok (.aload_n 0, 1) := by decide +kernel
theorem dX3_add_20 : decode cX3_add 20 = .ok (.dup, 1) := by decide +kernel
theorem dX3_add_21 : decode cX3_add 21 = .ok (.getfield 15, 3) := by decide +kernel
theorem dX3_add_24 : decode cX3_add 24 = .ok (.iconst 1, 1) := by decide +kernel
theorem dX3_add_25 : decode cX3_add 25 = .ok (.iadd, 1) := by decide +kernel
theorem dX3_add_26 : decode cX3_add 26 = .ok (.putfield 15, 3) := by decide +kernel
theorem dX3_add_29 : decode cX3_add 29 = .ok (.return_, 1) := by decide +kernel
theorem dX3_empty_0 : decode cX3_empty 0 = .ok (.aload_n 0, 1) := by decide +kernel
theorem dX3_empty_1 : decode cX3_empty 1 = .ok (.iconst 0, 1) := by decide +kernel
theorem dX3_empty_2 : decode cX3_empty 2 = .ok (.putfield 15, 3) := by decide +kernel
theorem dX3_empty_5 : decode cX3_empty 5 = .ok (.return_, 1) := by decide +kernel
set_option maxRecDepth 20000 in
theorem ggX3_firstFault_X3_fitsHouses : GoodIn wsX3_firstFault wsX3_fitsHouses := goodIn_r _ [7, 2, 8, 9, 10, 11, 12, 13, 14, 15, 16, 17, 18, 19, 20, 21, 22, 23, 24, 25, 26, 27, 28, 29, 30, 31, 32, 33, 34, 35, 36, 37, 38, 39, 40, 41, 42, 43, 44, 45, 46, 47, 48, 49, 50, 51, 52, 53, 54, 55, 56, 57, 58, 59, 60, 61, 62, 63, 64, 65, 66, 67, 68, 69, 70, 71, 72, 73, 74, 75, 76, 77, 78, 79, 80, 81, 82, 83, 84, 85, 86, 87, 88, 89, 90, 91, 92, 93, 94, 95, 96, 97, 98, 99, 6, 100, 101, 102] (by decide +kernel) (by decide +kernel)
set_option maxRecDepth 20000 in
theorem gX3_firstFault_X3_fitsHouses : GoodIn wsX3_firstFault (wsV RX3 19 RX3 yX3_fitsHouses wsX3_fitsHouses) := goodIn_app (goodIn_of _ (by decide +kernel)) ggX3_firstFault_X3_fitsHouses
set_option maxRecDepth 20000 in
theorem ggX3_firstFault_X3_isBetween : GoodIn wsX3_firstFault wsX3_isBetween := goodIn_r _ [100, 2, 101, 102] (by decide +kernel) (by decide +kernel)
set_option maxRecDepth 20000 in
theorem gX3_firstFault_X3_isBetween : GoodIn wsX3_firstFault (wsV RX3 23 RX3 yX3_isBetween wsX3_isBetween) := goodIn_app (goodIn_of _ (by decide +kernel)) ggX3_firstFault_X3_isBetween
theorem dX3_firstFault_0 : decode cX3_firstFault 0 = .ok (.iconst (-1), 1) := by decide +kernel
theorem dX3_firstFault_1 : decode cX3_firstFault 1 = .ok (.istore_n 1, 1) := by decide +kernel
theorem dX3_firstFault_2 : decode cX3_firstFault 2 = .ok (.iconst 0, 1) := by decide +kernel
theorem dX3_firstFault_3 : decode cX3_firstFault 3 = .ok (.istore_n 2, 1) := by decide +kernel
theorem dX3_firstFault_4 : decode cX3_firstFault 4 = .ok (.iload_n 2, 1) := by decide +kernel
theorem dX3_firstFault_5 : decode cX3_firstFault 5 = .ok (.aload_n 0, 1) := by decide +kernel
theorem dX3_firstFault_6 : decode cX3_firstFault 6 = .ok (.getfield 15, 3) := by decide +kernel
theorem dX3_firstFault_9 : decode cX3_firstFault 9 = .ok (.if_icmp .ge 66, 3) := by decide +kernel
theorem dX3_firstFault_12 : decode cX3_firstFault 12 = .ok (.iload_n 1, 1) := by decide +kernel
theorem dX3_firstFault_13 : decode cX3_firstFault 13 = .ok (.iconst (-1), 1) := by decide +kernel
theorem dX3_firstFault_14 : decode cX3_firstFault 14 = .ok (.if_icmp .ne 11, 3) := by decide +kernel
theorem dX3_firstFault_17 : decode cX3_firstFault 17 = .ok (.aload_n 0, 1) := by decide +kernel
theorem dX3_firstFault_18 : decode cX3_firstFault 18 = .ok (.iload_n 2, 1) := by decide +kernel
theorem dX3_firstFault_19 : decode cX3_firstFault 19 = .ok (.invokevirtual 19, 3) := by decide +kernel
theorem dX3_firstFault_22 : decode cX3_firstFault 22 = .ok (.goto 27, 3) := by decide +kernel
theorem dX3_firstFault_25 : decode cX3_firstFault 25 = .ok (.iload_n 2, 1) := by decide +kernel
theorem dX3_firstFault_26 : decode cX3_firstFault 26 = .ok (.iload_n 1, 1) := by decide +kernel
theorem dX3_firstFault_27 : decode cX3_firstFault 27 = .ok (.iconst 1, 1) := by decide +kernel
theorem dX3_firstFault_28 : decode cX3_firstFault 28 = .ok (.iadd, 1) := by decide +kernel
theorem dX3_firstFault_29 : decode cX3_firstFault 29 = .ok (.if_icmp .ne 19, 3) := by decide +kernel
theorem dX3_firstFault_32 : decode cX3_firstFault 32 = .ok (.aload_n 0, 1) := by decide +kernel
theorem dX3_firstFault_33 : decode cX3_firstFault 33 = .ok (.iload_n 2, 1) := by decide +kernel
theorem dX3_firstFault_34 : decode cX3_firstFault 34 = .ok (.bipush 48, 2) := by decide +kernel
theorem dX3_firstFault_36 : decode cX3_firstFault 36 = .ok (.bipush 51, 2) := by decide +kernel
theorem dX3_firstFault_38 : decode cX3_firstFault 38 = .ok (.invokevirtual 23, 3) := by decide +kernel
theorem dX3_firstFault_41 : decode cX3_firstFault 41 = .ok (.ifCond .eq 7, 3) := by decide +kernel
theorem dX3_firstFault_44 : decode cX3_firstFault 44 = .ok (.iconst 1, 1) := by decide +kernel
theorem dX3_firstFault_45 : decode cX3_firstFault 45 = .ok (.goto 4, 3) := by decide +kernel
theorem dX3_firstFault_48 : decode cX3_firstFault 48 = .ok (.iconst 0, 1) := by decide +kernel
theorem dX3_firstFault_49 : decode cX3_firstFault 49 = .ok (.istore_n 3, 1) := by decide +kernel
theorem dX3_firstFault_50 : decode cX3_firstFault 50 = .ok (.iload_n 3, 1) := by decide +kernel
theorem dX3_firstFault_51 : decode cX3_firstFault 51 = .ok (.ifCond .ne 5, 3) := by decide +kernel
theorem dX3_firstFault_54 : decode cX3_firstFault 54 = .ok (.iload_n 2, 1) := by decide +kernel
theorem dX3_firstFault_55 : decode cX3_firstFault 55 = .ok (.ireturn, 1) := by decide +kernel
theorem dX3_firstFault_56 : decode cX3_firstFault 56 = .ok (.aload_n 0, 1) := by decide +kernel
theorem dX3_firstFault_57 : decode cX3_firstFault 57 = .ok (.getfield 9, 3) := by decide +kernel
theorem dX3_firstFault_60 : decode cX3_firstFault 60 = .ok (.iload_n 2, 1) := by decide +kernel
theorem dX3_firstFault_61 : decode cX3_firstFault 61 = .ok (.caload, 1) := by decide +kernel
theorem dX3_firstFault_62 : decode cX3_firstFault 62 = .ok (.bipush 59, 2) := by decide +kernel
theorem dX3_firstFault_64 : decode cX3_firstFault 64 = .ok (.if_icmp .ne 5, 3) := by decide +kernel
theorem dX3_firstFault_67 : decode cX3_firstFault 67 = .ok (.iload_n 2, 1) := by decide +kernel
theorem dX3_firstFault_68 : decode cX3_firstFault 68 = .ok (.istore_n 1, 1) := by decide +kernel
theorem dX3_firstFault_69 : decode cX3_firstFault 69 = .ok (.iinc 2 1, 3) := by decide +kernel
theorem dX3_firstFault_72 : decode cX3_firstFault 72 = .ok (.goto (-68), 3) := by decide +kernel
theorem dX3_firstFault_75 : decode cX3_firstFault 75 = .ok (.aload_n 0, 1) := by decide +kernel
theorem dX3_firstFault_76 : decode cX3_firstFault 76 = .ok (.getfield 15, 3) := by decide +kernel
theorem dX3_firstFault_79 : decode cX3_firstFault 79 = .ok (.ireturn, 1) := by decide +kernel
set_option maxRecDepth 20000 in
theorem ggX3_isMarket_X3_firstFault : GoodIn wsX3_isMarket wsX3_firstFault := goodIn_r _ [7, 1, 2, 8, 9, 10, 6, 11, 12, 13, 14, 15, 16, 17, 18, 19, 20, 21, 22, 23, 24, 25, 26, 27, 28, 29, 30, 31, 32, 33, 34, 35, 36, 37, 38, 39, 40, 41, 42, 43, 44, 45, 46, 47, 48, 49, 50, 51, 52, 53, 54, 55, 56, 57, 58, 59, 60, 61, 62, 63, 64, 65, 66, 67, 68, 69, 70, 71, 72, 73, 74, 75, 76, 77, 78, 79, 80, 81, 82, 83, 84, 85, 86, 87, 88, 89, 90, 91, 92, 93, 94, 95, 96, 97, 98, 99, 100, 101, 102, 103, 104, 105, 106] (by decide +kernel) (by decide +kernel)
set_option maxRecDepth 20000 in
theorem gX3_isMarket_X3_firstFault : GoodIn wsX3_isMarket (wsV RX3 27 RX3 yX3_firstFault wsX3_firstFault) := goodIn_app (goodIn_of _ (by decide +kernel)) ggX3_isMarket_X3_firstFault
theorem dX3_isMarket_0 : decode cX3_isMarket 0 = .ok (.aload_n 0, 1) := by decide +kernel
theorem dX3_isMarket_1 : decode cX3_isMarket 1 = .ok (.getfield 15, 3) := by decide +kernel
theorem dX3_isMarket_4 : decode cX3_isMarket 4 = .ok (.iconst 2, 1) := by decide +kernel
theorem dX3_isMarket_5 : decode cX3_isMarket 5 = .ok (.if_icmp .lt 34, 3) := by decide +kernel
theorem dX3_isMarket_8 : decode cX3_isMarket 8 = .ok (.aload_n 0, 1) := by decide +kernel
theorem dX3_isMarket_9 : decode cX3_isMarket 9 = .ok (.getfield 9, 3) := by decide +kernel
theorem dX3_isMarket_12 : decode cX3_isMarket 12 = .ok (.aload_n 0, 1) := by decide +kernel
theorem dX3_isMarket_13 : decode cX3_isMarket 13 = .ok (.getfield 15, 3) := by decide +kernel
theorem dX3_isMarket_16 : decode cX3_isMarket 16 = .ok (.iconst 2, 1) := by decide +kernel
theorem dX3_isMarket_17 : decode cX3_isMarket 17 = .ok (.isub, 1) := by decide +kernel
theorem dX3_isMarket_18 : decode cX3_isMarket 18 = .ok (.caload, 1) := by decide +kernel
theorem dX3_isMarket_19 : decode cX3_isMarket 19 = .ok (.bipush 59, 2) := by decide +kernel
theorem dX3_isMarket_21 : decode cX3_isMarket 21 = .ok (.if_icmp .ne 18, 3) := by decide +kernel
theorem dX3_isMarket_24 : decode cX3_isMarket 24 = .ok (.aload_n 0, 1) := by decide +kernel
theorem dX3_isMarket_25 : decode cX3_isMarket 25 = .ok (.invokevirtual 27, 3) := by decide +kernel
theorem dX3_isMarket_28 : decode cX3_isMarket 28 = .ok (.aload_n 0, 1) := by decide +kernel
theorem dX3_isMarket_29 : decode cX3_isMarket 29 = .ok (.getfield 15, 3) := by decide +kernel
theorem dX3_isMarket_32 : decode cX3_isMarket 32 = .ok (.if_icmp .ne 7, 3) := by decide +kernel
theorem dX3_isMarket_35 : decode cX3_isMarket 35 = .ok (.iconst 1, 1) := by decide +kernel
theorem dX3_isMarket_36 : decode cX3_isMarket 36 = .ok (.goto 4, 3) := by decide +kernel
theorem dX3_isMarket_39 : decode cX3_isMarket 39 = .ok (.iconst 0, 1) := by decide +kernel
theorem dX3_isMarket_40 : decode cX3_isMarket 40 = .ok (.ireturn, 1) := by decide +kernel
theorem dX3_howManyHouses_0 : decode cX3_howManyHouses 0 = .ok (.aload_n 0, 1) := by decide +kernel
theorem dX3_howManyHouses_1 : decode cX3_howManyHouses 1 = .ok (.getfield 15, 3) := by decide +kernel
theorem dX3_howManyHouses_4 : decode cX3_howManyHouses 4 = .ok (.iconst 4, 1) := by decide +kernel
theorem dX3_howManyHouses_5 : decode cX3_howManyHouses 5 = .ok (.idiv, 1) := by decide +kernel
theorem dX3_howManyHouses_6 : decode cX3_howManyHouses 6 = .ok (.ireturn, 1) := by decide +kernel
set_option maxRecDepth 20000 in
theorem ggX3_kind_J0_indexOf_0f7a4 : GoodIn wsX3_kind wsJ0_indexOf_0f7a4 := goodIn_r _ [6, 7, 8, 9, 5, 10, 11, 12, 13, 14, 15, 16, 17, 18, 19, 20, 21, 22, 23, 24, 25, 26, 27, 28, 29, 30, 31, 32, 33, 34, 35, 36, 37, 38, 39, 40, 41, 42, 43, 44, 45, 46, 47, 48, 49, 50, 51, 52, 53, 54, 55, 56, 57, 58, 59, 60, 61, 62, 63, 64, 65, 66, 67, 68, 69, 70, 71, 72, 73, 74, 75, 76, 77, 78, 79, 80, 81, 82, 83, 84, 85, 86, 87, 88, 89, 90] (by decide +kernel) (by decide +kernel)
set_option maxRecDepth 20000 in
theorem gX3_kind_J0_indexOf_0f7a4 : GoodIn wsX3_kind (wsV RX3 33 RJ0 yJ0_indexOf_0f7a4 wsJ0_indexOf_0f7a4) := goodIn_app (goodIn_of _ (by decide +kernel)) ggX3_kind_J0_indexOf_0f7a4
theorem dX3_kind_0 : decode cX3_kind 0 = .ok (.ldc 31, 2) := by decide +kernel
theorem dX3_kind_2 : decode cX3_kind 2 = .ok (.aload_n 0, 1) := by decide +kernel
theorem dX3_kind_3 : decode cX3_kind 3 = .ok (.getfield 9, 3) := by decide +kernel
theorem dX3_kind_6 : decode cX3_kind 6 = .ok (.iload_n 1, 1) := by decide +kernel
theorem dX3_kind_7 : decode cX3_kind 7 = .ok (.iconst 4, 1) := by decide +kernel
theorem dX3_kind_8 : decode cX3_kind 8 = .ok (.imul, 1) := by decide +kernel
theorem dX3_kind_9 : decode cX3_kind 9 = .ok (.caload, 1) := by decide +kernel
theorem dX3_kind_10 : decode cX3_kind 10 = .ok (.invokevirtual 33, 3) := by decide +kernel
theorem dX3_kind_13 : decode cX3_kind 13 = .ok (.ireturn, 1) := by decide +kernel
theorem dX3_digit_0 : decode cX3_digit 0 = .ok (.aload_n 0, 1) := by decide +kernel
theorem dX3_digit_1 : decode cX3_digit 1 = .ok (.getfield 9, 3) := by decide +kernel
theorem dX3_digit_4 : decode cX3_digit 4 = .ok (.iload_n 1, 1) := by decide +kernel
theorem dX3_digit_5 : decode cX3_digit 5 = .ok (.caload, 1) := by decide +kernel
theorem dX3_digit_6 : decode cX3_digit 6 = .ok (.bipush 48, 2) := by decide +kernel
theorem dX3_digit_8 : decode cX3_digit 8 = .ok (.isub, 1) := by decide +kernel
theorem dX3_digit_9 : decode cX3_digit 9 = .ok (.ireturn, 1) := by decide +kernel
set_option maxRecDepth 20000 in
theorem ggX3_fitsHouses_J0_indexOf_0f7a4 : GoodIn wsX3_fitsHouses wsJ0_indexOf_0f7a4 := goodIn_r _ [6, 7, 8, 9, 5, 10, 11, 12, 13, 14, 15, 16, 17, 18, 19, 20, 21, 22, 23, 24, 25, 26, 27, 28, 29, 30, 31, 32, 33, 34, 35, 36, 37, 38, 39, 40, 41, 42, 43, 44, 45, 46, 47, 48, 49, 50, 51, 52, 53, 54, 55, 56, 57, 58, 59, 60, 61, 62, 63, 64, 65, 66, 67, 68, 69, 70, 71, 72, 73, 74, 75, 76, 77, 78, 79, 80, 81, 82, 83, 84, 85, 86, 87, 88, 89, 90] (by decide +kernel) (by decide +kernel)
set_option maxRecDepth 20000 in
theorem gX3_fitsHouses_J0_indexOf_0f7a4 : GoodIn wsX3_fitsHouses (wsV RX3 33 RJ0 yJ0_indexOf_0f7a4 wsJ0_indexOf_0f7a4) := goodIn_app (goodIn_of _ (by decide +kernel)) ggX3_fitsHouses_J0_indexOf_0f7a4
set_option maxRecDepth 20000 in
theorem ggX3_fitsHouses_X3_isBetween : GoodIn wsX3_fitsHouses wsX3_isBetween := goodIn_r _ [95, 1, 96, 97] (by decide +kernel) (by decide +kernel)
set_option maxRecDepth 20000 in
theorem gX3_fitsHouses_X3_isBetween : GoodIn wsX3_fitsHouses (wsV RX3 23 RX3 yX3_isBetween wsX3_isBetween) := goodIn_app (goodIn_of _ (by decide +kernel)) ggX3_fitsHouses_X3_isBetween
theorem dX3_fitsHouses_0 : decode cX3_fitsHouses 0 = .ok (.iload_n 1, 1) := by decide +kernel
theorem dX3_fitsHouses_1 : decode cX3_fitsHouses 1 = .ok (.iconst 4, 1) := by decide +kernel
theorem dX3_fitsHouses_2 : decode cX3_fitsHouses 2 = .ok (.irem, 1) := by decide +kernel
theorem dX3_fitsHouses_3 : decode cX3_fitsHouses 3 = .ok (.istore_n 2, 1) := by decide +kernel
theorem dX3_fitsHouses_4 : decode cX3_fitsHouses 4 = .ok (.iload_n 2, 1) := by decide +kernel
theorem dX3_fitsHouses_5 : decode cX3_fitsHouses 5 = .ok (.ifCond .ne 23, 3) := by decide +kernel
theorem dX3_fitsHouses_8 : decode cX3_fitsHouses 8 = .ok (.ldc 31, 2) := by decide +kernel
theorem dX3_fitsHouses_10 : decode cX3_fitsHouses 10 = .ok (.aload_n 0, 1) := by decide +kernel
theorem dX3_fitsHouses_11 : decode cX3_fitsHouses 11 = .ok (.getfield 9, 3) := by decide +kernel
theorem dX3_fitsHouses_14 : decode cX3_fitsHouses 14 = .ok (.iload_n 1, 1) := by decide +kernel
theorem dX3_fitsHouses_15 : decode cX3_fitsHouses 15 = .ok (.caload, 1) := by decide +kernel
theorem dX3_fitsHouses_16 : decode cX3_fitsHouses 16 = .ok (.invokevirtual 33, 3) := by decide +kernel
theorem dX3_fitsHouses_19 : decode cX3_fitsHouses 19 = .ok (.ifCond .lt 7, 3) := by decide +kernel
theorem dX3_fitsHouses_22 : decode cX3_fitsHouses 22 = .ok (.iconst 1, 1) := by decide +kernel
theorem dX3_fitsHouses_23 : decode cX3_fitsHouses 23 = .ok (.goto 4, 3) := by decide +kernel
theorem dX3_fitsHouses_26 : decode cX3_fitsHouses 26 = .ok (.iconst 0, 1) := by decide +kernel
theorem dX3_fitsHouses_27 : decode cX3_fitsHouses 27 = .ok (.ireturn, 1) := by decide +kernel
theorem dX3_fitsHouses_28 : decode cX3_fitsHouses 28 = .ok (.iload_n 2, 1) := by decide +kernel
theorem dX3_fitsHouses_29 : decode cX3_fitsHouses 29 = .ok (.iconst 1, 1) := by decide +kernel
theorem dX3_fitsHouses_30 : decode cX3_fitsHouses 30 = .ok (.if_icmp .ne 13, 3) := by decide +kernel
theorem dX3_fitsHouses_33 : decode cX3_fitsHouses 33 = .ok (.aload_n 0, 1) := by decide +kernel
theorem dX3_fitsHouses_34 : decode cX3_fitsHouses 34 = .ok (.iload_n 1, 1) := by decide +kernel
theorem dX3_fitsHouses_35 : decode cX3_fitsHouses 35 = .ok (.bipush 48, 2) := by decide +kernel
theorem dX3_fitsHouses_37 : decode cX3_fitsHouses 37 = .ok (.bipush 57, 2) := by decide +kernel
theorem dX3_fitsHouses_39 : decode cX3_fitsHouses 39 = .ok (.invokevirtual 23, 3) := by decide +kernel
theorem dX3_fitsHouses_42 : decode cX3_fitsHouses 42 = .ok (.ireturn, 1) := by decide +kernel
theorem dX3_fitsHouses_43 : decode cX3_fitsHouses 43 = .ok (.iload_n 2, 1) := by decide +kernel
theorem dX3_fitsHouses_44 : decode cX3_fitsHouses 44 = .ok (.iconst 2, 1) := by decide +kernel
theorem dX3_fitsHouses_45 : decode cX3_fitsHouses 45 = .ok (.if_icmp .ne 13, 3) := by decide +kernel
theorem dX3_fitsHouses_48 : decode cX3_fitsHouses 48 = .ok (.aload_n 0, 1) := by decide +kernel
theorem dX3_fitsHouses_49 : decode cX3_fitsHouses 49 = .ok (.iload_n 1, 1) := by decide +kernel
theorem dX3_fitsHouses_50 : decode cX3_fitsHouses 50 = .ok (.bipush 49, 2) := by decide +kernel
theorem dX3_fitsHouses_52 : decode cX3_fitsHouses 52 = .ok (.bipush 57, 2) := by decide +kernel
theorem dX3_fitsHouses_54 : decode cX3_fitsHouses 54 = .ok (.invokevirtual 23, 3) := by decide +kernel
theorem dX3_fitsHouses_57 : decode cX3_fitsHouses 57 = .ok (.ireturn, 1) := by decide +kernel
theorem dX3_fitsHouses_58 : decode cX3_fitsHouses 58 = .ok (.iload_n 1, 1) := by decide +kernel
theorem dX3_fitsHouses_59 : decode cX3_fitsHouses 59 = .ok (.iconst 4, 1) := by decide +kernel
theorem dX3_fitsHouses_60 : decode cX3_fitsHouses 60 = .ok (.idiv, 1) := by decide +kernel
theorem dX3_fitsHouses_61 : decode cX3_fitsHouses 61 = .ok (.iconst 1, 1) := by decide +kernel
theorem dX3_fitsHouses_62 : decode cX3_fitsHouses 62 = .ok (.iadd, 1) := by decide +kernel
theorem dX3_fitsHouses_63 : decode cX3_fitsHouses 63 = .ok (.istore_n 3, 1) := by decide +kernel
theorem dX3_fitsHouses_64 : decode cX3_fitsHouses 64 = .ok (.aload_n 0, 1) := by decide +kernel
theorem dX3_fitsHouses_65 : decode cX3_fitsHouses 65 = .ok (.getfield 9, 3) := by decide +kernel
theorem dX3_fitsHouses_68 : decode cX3_fitsHouses 68 = .ok (.iload_n 1, 1) := by decide +kernel
theorem dX3_fitsHouses_69 : decode cX3_fitsHouses 69 = .ok (.caload, 1) := by decide +kernel
theorem dX3_fitsHouses_70 : decode cX3_fitsHouses 70 = .ok (.bipush 44, 2) := by decide +kernel
theorem dX3_fitsHouses_72 : decode cX3_fitsHouses 72 = .ok (.if_icmp .ne 16, 3) := by decide +kernel
theorem dX3_fitsHouses_75 : decode cX3_fitsHouses 75 = .ok (.iload_n 3, 1) := by decide +kernel
theorem dX3_fitsHouses_76 : decode cX3_fitsHouses 76 = .ok (.iconst 4, 1) := by decide +kernel
theorem dX3_fitsHouses_77 : decode cX3_fitsHouses 77 = .ok (.if_icmp .ge 7, 3) := by decide +kernel
theorem dX3_fitsHouses_80 : decode cX3_fitsHouses 80 = .ok (.iconst 1, 1) := by decide +kernel
theorem dX3_fitsHouses_81 : decode cX3_fitsHouses 81 = .ok (.goto 28, 3) := by decide +kernel
theorem dX3_fitsHouses_84 : decode cX3_fitsHouses 84 = .ok (.iconst 0, 1) := by decide +kernel
theorem dX3_fitsHouses_85 : decode cX3_fitsHouses 85 = .ok (.goto 24, 3) := by decide +kernel
theorem dX3_fitsHouses_88 : decode cX3_fitsHouses 88 = .ok (.aload_n 0, 1) := by decide +kernel
theorem dX3_fitsHouses_89 : decode cX3_fitsHouses 89 = .ok (.getfield 9, 3) := by decide +kernel
theorem dX3_fitsHouses_92 : decode cX3_fitsHouses 92 = .ok (.iload_n 1, 1) := by decide +kernel
theorem dX3_fitsHouses_93 : decode cX3_fitsHouses 93 = .ok (.caload, 1) := by decide +kernel
theorem dX3_fitsHouses_94 : decode cX3_fitsHouses 94 = .ok (.bipush 59, 2) := by decide +kernel
theorem dX3_fitsHouses_96 : decode cX3_fitsHouses 96 = .ok (.if_icmp .ne 12, 3) := by decide +kernel
theorem dX3_fitsHouses_99 : decode cX3_fitsHouses 99 = .ok (.iload_n 3, 1) := by decide +kernel
theorem dX3_fitsHouses_100 : decode cX3_fitsHouses 100 = .ok (.iconst 2, 1) := by decide +kernel
theorem dX3_fitsHouses_101 : decode cX3_fitsHouses 101 = .ok (.if_icmp .lt 7, 3) := by decide +kernel
theorem dX3_fitsHouses_104 : decode cX3_fitsHouses 104 = .ok (.iconst 1, 1) := by decide +kernel
theorem dX3_fitsHouses_105 : decode cX3_fitsHouses 105 = .ok (.goto 4, 3) := by decide +kernel
theorem dX3_fitsHouses_108 : decode cX3_fitsHouses 108 = .ok (.iconst 0, 1) := by decide +kernel
theorem dX3_fitsHouses_109 : decode cX3_fitsHouses 109 = .ok (.ireturn, 1) := by decide +kernel
theorem dX3_isBetween_0 : decode cX3_isBetween 0 = .ok (.aload_n 0, 1) := by decide +kernel
theorem dX3_isBetween_1 : decode cX3_isBetween 1 = .ok (.getfield 9, 3) := by decide +kernel
theorem dX3_isBetween_4 : decode cX3_isBetween 4 = .ok (.iload_n 1, 1) := by decide +kernel
theorem dX3_isBetween_5 : decode cX3_isBetween 5 = .ok (.caload, 1) := by decide +kernel
theorem dX3_isBetween_6 : decode cX3_isBetween 6 = .ok (.iload_n 2, 1) := by decide +kernel
theorem dX3_isBetween_7 : decode cX3_isBetween 7 = .ok (.if_icmp .lt 17, 3) := by decide +kernel
theorem dX3_isBetween_10 : decode cX3_isBetween 10 = .ok (.aload_n 0, 1) := by decide +kernel
theorem dX3_isBetween_11 : decode cX3_isBetween 11 = .ok (.getfield 9, 3) := by decide +kernel
theorem dX3_isBetween_14 : decode cX3_isBetween 14 = .ok (.iload_n 1, 1) := by decide +kernel
theorem dX3_isBetween_15 : decode cX3_isBetween 15 = .ok (.caload, 1) := by decide +kernel
theorem dX3_isBetween_16 : decode cX3_isBetween 16 = .ok (.iload_n 3, 1) := by decide +kernel
theorem dX3_isBetween_17 : decode cX3_isBetween 17 = .ok (.if_icmp .gt 7, 3) := by decide +kernel
theorem dX3_isBetween_20 : decode cX3_isBetween 20 = .ok (.iconst 1, 1) := by decide +kernel
theorem dX3_isBetween_21 : decode cX3_isBetween 21 = .ok (.goto 4, 3) := by decide +kernel
theorem dX3_isBetween_24 : decode cX3_isBetween 24 = .ok (.iconst 0, 1) := by decide +kernel
theorem dX3_isBetween_25 : decode cX3_isBetween 25 = .ok (.ireturn, 1) := by decide +kernel
theorem dX4_init_0 : decode cX4_init 0 = .ok (.aload_n 0, 1) := by decide +kernel
theorem dX4_init_1 : decode cX4_init 1 = .ok (.invokespecial 3, 3) := by decide +kernel
theorem dX4_init_4 : decode cX4_init 4 = .ok (.aload_n 0, 1) := by decide +kernel
theorem dX4_init_5 : decode cX4_init 5 = .ok (.iconst 4, 1) := by decide +kernel
theorem dX4_init_6 : decode cX4_init 6 = .ok (.newarray .int, 2) := by decide +kernel
theorem dX4_init_8 : decode cX4_init 8 = .ok (.putfield 9, 3) := by decide +kernel
theorem dX4_init_11 : decode cX4_init 11 = .ok (.aload_n 0, 1) := by decide +kernel
theorem dX4_init_12 : decode cX4_init 12 = .ok (.iconst 3, 1) := by decide +kernel
theorem dX4_init_13 : decode cX4_init 13 = .ok (.newarray .int, 2) := by decide +kernel
theorem dX4_init_15 : decode cX4_init 15 = .ok (.putfield 15, 3) := by decide +kernel
theorem dX4_init_18 : decode cX4_init 18 = .ok (.aload_n 0, 1) := by decide +kernel
theorem dX4_init_19 : decode cX4_init 19 = .ok (.iconst 3, 1) := by decide +kernel
theorem dX4_init_20 : decode cX4_init 20 = .ok (.newarray .int, 2) := by decide +kernel
theorem dX4_init_22 : decode cX4_init 22 = .ok (.putfield 18, 3) := by decide +kernel
theorem dX4_init_25 : decode cX4_init 25 = .ok (.aload_n 0, 1) := by decide +kernel
theorem dX4_init_26 : decode cX4_init 26 = .ok (.iconst 0, 1) := by decide +kernel
theorem dX4_init_27 : decode cX4_init 27 = .ok (.putfield 21, 3) := by decide +kernel
theorem dX4_init_30 : decode cX4_init 30 = .ok (.aload_n 0, 1) := by decide +kernel
theorem dX4_init_31 : decode cX4_init 31 = .ok (.iconst 0, 1) := by decide +kernel
theorem dX4_init_32 : decode cX4_init 32 = .ok (.putfield 25, 3) := by decide +kernel
theorem dX4_init_35 : decode cX4_init 35 = .ok (.aload_n 0, 1) := by decide +kernel
theorem dX4_init_36 : decode cX4_init 36 = .ok (.iconst 0, 1) := by decide +kernel
theorem dX4_init_37 : decode cX4_init 37 = .ok (.putfield 28, 3) := by decide +kernel
theorem dX4_init_40 : decode cX4_init 40 = .ok (.aload_n 0, 1) := by decide +kernel
theorem dX4_init_41 : decode cX4_init 41 = .ok (.iconst 0, 1) := by decide +kernel
theorem dX4_init_42 : decode cX4_init 42 = .ok (.putfield 31, 3) := by decide +kernel
theorem dX4_init_45 : decode cX4_init 45 = .ok (.return_, 1) := by decide +kernel
set_option maxRecDepth 20000 in
theorem ggX4_seek_X5_copyRow : GoodIn wsX4_seek wsX5_copyRow := goodIn_r _ [9, 10, 11, 12, 13] (by decide +kernel) (by decide +kernel)
set_option maxRecDepth 20000 in
theorem gX4_seek_X5_copyRow_n37 : GoodIn wsX4_seek (wsX5_copyRow) := ggX4_seek_X5_copyRow
set_option maxRecDepth 20000 in
theorem ggX4_seek_X4_trySales : GoodIn wsX4_seek wsX4_trySales := goodIn_r _ [18, 19, 5, 20, 21, 22, 23, 17, 24, 2, 25, 26, 6, 4, 27, 28, 29, 30, 31, 32, 33, 34, 35, 36, 37, 38, 39, 40, 41, 3, 42, 43, 11, 12, 13, 44, 45, 46, 47, 14, 15, 16, 59, 60, 61, 62, 63, 64, 65, 48, 49, 50, 51, 52, 53, 54, 55, 56, 57, 58] (by decide +kernel) (by decide +kernel)
set_option maxRecDepth 20000 in
theorem gX4_seek_X4_trySales : GoodIn wsX4_seek (wsV RX4 41 RX4 yX4_trySales wsX4_trySales) := goodIn_app (goodIn_of _ (by decide +kernel)) ggX4_seek_X4_trySales
theorem dX4_seek_0 : decode cX4_seek 0 = .ok (.aload_n 1, 1) := by decide +kernel
theorem dX4_seek_1 : decode cX4_seek 1 = .ok (.getfield 34, 3) := by decide +kernel
theorem dX4_seek_4 : decode cX4_seek 4 = .ok (.aload_n 0, 1) := by decide +kernel
theorem dX4_seek_5 : decode cX4_seek 5 = .ok (.getfield 9, 3) := by decide +kernel
theorem dX4_seek_8 : decode cX4_seek 8 = .ok (.invokestatic 37, 3) := by decide +kernel
theorem dX4_seek_11 : decode cX4_seek 11 = .ok (.aload_n 0, 1) := by decide +kernel
theorem dX4_seek_12 : decode cX4_seek 12 = .ok (.iconst 0, 1) := by decide +kernel
theorem dX4_seek_13 : decode cX4_seek 13 = .ok (.putfield 21, 3) := by decide +kernel
theorem dX4_seek_16 : decode cX4_seek 16 = .ok (.aload_n 0, 1) := by decide +kernel
theorem dX4_seek_17 : decode cX4_seek 17 = .ok (.sipush 1000, 3) := by decide +kernel
theorem dX4_seek_20 : decode cX4_seek 20 = .ok (.putfield 25, 3) := by decide +kernel
theorem dX4_seek_23 : decode cX4_seek 23 = .ok (.aload_n 0, 1) := by decide +kernel
theorem dX4_seek_24 : decode cX4_seek 24 = .ok (.iload_n 2, 1) := by decide +kernel
theorem dX4_seek_25 : decode cX4_seek 25 = .ok (.putfield 28, 3) := by decide +kernel
theorem dX4_seek_28 : decode cX4_seek 28 = .ok (.aload_n 0, 1) := by decide +kernel
theorem dX4_seek_29 : decode cX4_seek 29 = .ok (.iload_n 3, 1) := by decide +kernel
theorem dX4_seek_30 : decode cX4_seek 30 = .ok (.putfield 31, 3) := by decide +kernel
theorem dX4_seek_33 : decode cX4_seek 33 = .ok (.aload_n 0, 1) := by decide +kernel
theorem dX4_seek_34 : decode cX4_seek 34 = .ok (.aload_n 1, 1) := by decide +kernel
theorem dX4_seek_35 : decode cX4_seek 35 = .ok (.iconst 0, 1) := by decide +kernel
theorem dX4_seek_36 : decode cX4_seek 36 = .ok (.iconst 0, 1) := by decide +kernel
theorem dX4_seek_37 : decode cX4_seek 37 = .ok (.iconst 0, 1) := by decide +kernel
theorem dX4_seek_38 : decode cX4_seek 38 = .ok (.invokevirtual 41, 3) := by decide +kernel
theorem dX4_seek_41 : decode cX4_seek 41 = .ok (.return_, 1) := by decide +kernel
theorem dX4_tell_0 : decode cX4_tell 0 = .ok (.aload_n 0, 1) := by decide +kernel
theorem dX4_tell_1 : decode cX4_tell 1 = .ok (.getfield 21, 3) := by decide +kernel
theorem dX4_tell_4 : decode cX4_tell 4 = .ok (.ifCond .ne 5, 3) := by decide +kernel
theorem dX4_tell_7 : decode cX4_tell 7 = .ok (.iconst (-1), 1) := by decide +kernel
theorem dX4_tell_8 : decode cX4_tell 8 = .ok (.ireturn, 1) := by decide +kernel
theorem dX4_tell_9 : decode cX4_tell 9 = .ok (.iload_n 1, 1) := by decide +kernel
theorem dX4_tell_10 : decode cX4_tell 10 = .ok (.ifCond .ne 8, 3) := by decide +kernel
theorem dX4_tell_13 : decode cX4_tell 13 = .ok (.aload_n 0, 1) := by decide +kernel
theorem dX4_tell_14 : decode cX4_tell 14 = .ok (.getfield 25, 3) := by decide +kernel
theorem dX4_tell_17 : decode cX4_tell 17 = .ok (.ireturn, 1) := by decide +kernel
theorem dX4_tell_18 : decode cX4_tell 18 = .ok (.iload_n 1, 1) := by decide +kernel
theorem dX4_tell_19 : decode cX4_tell 19 = .ok (.iconst 1, 1) := by decide +kernel
theorem dX4_tell_20 : decode cX4_tell 20 = .ok (.if_icmp .ne 8, 3) := by decide +kernel
theorem dX4_tell_23 : decode cX4_tell 23 = .ok (.aload_n 0, 1) := by decide +kernel
theorem dX4_tell_24 : decode cX4_tell 24 = .ok (.getfield 21, 3) := by decide +kernel
theorem dX4_tell_27 : decode cX4_tell 27 = .ok (.ireturn, 1) := by decide +kernel
theorem dX4_tell_28 : decode cX4_tell 28 = .ok (.iload_n 1, 1) := by decide +kernel
theorem dX4_tell_29 : decode cX4_tell 29 = .ok (.bipush 10, 2) := by decide +kernel
theorem dX4_tell_31 : decode cX4_tell 31 = .ok (.isub, 1) := by decide +kernel
theorem dX4_tell_32 : decode cX4_tell 32 = .ok (.istore_n 2, 1) := by decide +kernel
theorem dX4_tell_33 : decode cX4_tell 33 = .ok (.iload_n 2, 1) := by decide +kernel
theorem dX4_tell_34 : decode cX4_tell 34 = .ok (.ifCond .lt 20, 3) := by decide +kernel
theorem dX4_tell_37 : decode cX4_tell 37 = .ok (.iload_n 2, 1) := by decide +kernel
theorem dX4_tell_38 : decode cX4_tell 38 = .ok (.aload_n 0, 1) := by decide +kernel
theorem dX4_tell_39 : decode cX4_tell 39 = .ok (.getfield 21, 3) := by decide +kernel
theorem dX4_tell_42 : decode cX4_tell 42 = .ok (.if_icmp .ge 12, 3) := by decide +kernel
theorem dX4_tell_45 : decode cX4_tell 45 = .ok (.aload_n 0, 1) := by decide +kernel
theorem dX4_tell_46 : decode cX4_tell 46 = .ok (.getfield 18, 3) := by decide +kernel
theorem dX4_tell_49 : decode cX4_tell 49 = .ok (.iload_n 2, 1) := by decide +kernel
theorem dX4_tell_50 : decode cX4_tell 50 = .ok (.iaload, 1) := by decide +kernel
theorem dX4_tell_51 : decode cX4_tell 51 = .ok (.goto 4, 3) := by decide +kernel
theorem dX4_tell_54 : decode cX4_tell 54 = .ok (.iconst (-1), 1) := by decide +kernel
theorem dX4_tell_55 : decode cX4_tell 55 = .ok (.ireturn, 1) := by decide +kernel
set_option maxRecDepth 20000 in
theorem ggX4_trySales_X4_trySale : GoodIn wsX4_trySales wsX4_trySale := goodIn_r _ [8, 9, 2, 10, 11, 12, 13, 14, 15, 16, 17, 18, 19, 20, 21, 22, 23, 24, 25, 26, 27, 7, 28, 29, 3, 30, 31, 32, 33, 34, 35, 36, 37, 38, 39, 40, 41, 0, 1, 4, 5, 6, 42, 43, 44, 45, 46, 47, 48, 49, 50, 51, 52, 53, 54, 55, 56, 57, 58, 59] (by decide +kernel) (by decide +kernel)
set_option maxRecDepth 20000 in
theorem gX4_trySales_X4_trySale : GoodIn wsX4_trySales (wsV RX4 48 RX4 yX4_trySale wsX4_trySale) := goodIn_app (goodIn_of _ (by decide +kernel)) ggX4_trySales_X4_trySale
theorem dX4_trySales_0 : decode cX4_trySales 0 = .ok (.iload_n 2, 1) := by decide +kernel
theorem dX4_trySales_1 : decode cX4_trySales 1 = .ok (.iconst 3, 1) := by decide +kernel
theorem dX4_trySales_2 : decode cX4_trySales 2 = .ok (.if_icmp .lt 4, 3) := by decide +kernel
theorem dX4_trySales_5 : decode cX4_trySales 5 = .ok (.return_, 1) := by decide +kernel
theorem dX4_trySales_6 : decode cX4_trySales 6 = .ok (.iconst 0, 1) := by decide +kernel
theorem dX4_trySales_7 : decode cX4_trySales 7 = .ok (.istore 5, 2) := by decide +kernel
theorem dX4_trySales_9 : decode cX4_trySales 9 = .ok (.iload 5, 2) := by decide +kernel
theorem dX4_trySales_11 : decode cX4_trySales 11 = .ok (.aload_n 1, 1) := by decide +kernel
theorem dX4_trySales_12 : decode cX4_trySales 12 = .ok (.getfield 45, 3) := by decide +kernel
theorem dX4_trySales_15 : decode cX4_trySales 15 = .ok (.if_icmp .ge 66, 3) := by decide +kernel
theorem dX4_trySales_18 : decode cX4_trySales 18 = .ok (.iload 5, 2) := by decide +kernel
theorem dX4_trySales_20 : decode cX4_trySales 20 = .ok (.aload_n 0, 1) := by decide +kernel
theorem dX4_trySales_21 : decode cX4_trySales 21 = .ok (.getfield 28, 3) := by decide +kernel
theorem dX4_trySales_24 : decode cX4_trySales 24 = .ok (.if_icmp .ne 6, 3) := by decide +kernel
theorem dX4_trySales_27 : decode cX4_trySales 27 = .ok (.goto 48, 3) := by decide +kernel
theorem dX4_trySales_30 : decode cX4_trySales 30 = .ok (.iconst 0, 1) := by decide +kernel
theorem dX4_trySales_31 : decode cX4_trySales 31 = .ok (.istore 6, 2) := by decide +kernel
theorem dX4_trySales_33 : decode cX4_trySales 33 = .ok (.iload 6, 2) := by decide +kernel
theorem dX4_trySales_35 : decode cX4_trySales 35 = .ok (.aload_n 1, 1) := by decide +kernel
theorem dX4_trySales_36 : decode cX4_trySales 36 = .ok (.getfield 45, 3) := by decide +kernel
theorem dX4_trySales_39 : decode cX4_trySales 39 = .ok (.if_icmp .ge 36, 3) := by decide +kernel
theorem dX4_trySales_42 : decode cX4_trySales 42 = .ok (.aload_n 0, 1) := by decide +kernel
theorem dX4_trySales_43 : decode cX4_trySales 43 = .ok (.getfield 15, 3) := by decide +kernel
theorem dX4_trySales_46 : decode cX4_trySales 46 = .ok (.iload_n 2, 1) := by decide +kernel
theorem dX4_trySales_47 : decode cX4_trySales 47 = .ok (.bipush 10, 2) := by decide +kernel
theorem dX4_trySales_49 : decode cX4_trySales 49 = .ok (.iload 5, 2) := by decide +kernel
theorem dX4_trySales_51 : decode cX4_trySales 51 = .ok (.imul, 1) := by decide +kernel
theorem dX4_trySales_52 : decode cX4_trySales 52 = .ok (.iload 6, 2) := by decide +kernel
theorem dX4_trySales_54 : decode cX4_trySales 54 = .ok (.iadd, 1) := by decide +kernel
theorem dX4_trySales_55 : decode cX4_trySales 55 = .ok (.iastore, 1) := by decide +kernel
theorem dX4_trySales_56 : decode cX4_trySales 56 = .ok (.aload_n 0, 1) := by decide +kernel
theorem dX4_trySales_57 : decode cX4_trySales 57 = .ok (.aload_n 1, 1) := by decide +kernel
theorem dX4_trySales_58 : decode cX4_trySales 58 = .ok (.iload_n 2, 1) := by decide +kernel
theorem dX4_trySales_59 : decode cX4_trySales 59 = .ok (.iload 5, 2) := by decide +kernel
theorem dX4_trySales_61 : decode cX4_trySales 61 = .ok (.iload 6, 2) := by decide +kernel
theorem dX4_trySales_63 : decode cX4_trySales 63 = .ok (.iload_n 3, 1) := by decide +kernel
theorem dX4_trySales_64 : decode cX4_trySales 64 = .ok (.iload 4, 2) := by decide +kernel
theorem dX4_trySales_66 : decode cX4_trySales 66 = .ok (.invokevirtual 48, 3) := by decide +kernel
theorem dX4_trySales_69 : decode cX4_trySales 69 = .ok (.iinc 6 1, 3) := by decide +kernel
theorem dX4_trySales_72 : decode cX4_trySales 72 = .ok (.goto (-39), 3) := by decide +kernel
theorem dX4_trySales_75 : decode cX4_trySales 75 = .ok (.iinc 5 1, 3) := by decide +kernel
theorem dX4_trySales_78 : decode cX4_trySales 78 = .ok (.goto (-69), 3) := by decide +kernel
theorem dX4_trySales_81 : decode cX4_trySales 81 = .ok (.return_, 1) := by decide +kernel
set_option maxRecDepth 20000 in
theorem ggX4_trySale_X2_ounces : GoodIn wsX4_trySale wsX2_ounces := goodIn_r _ [11, 12, 13, 14, 15, 16, 17, 49, 50, 51, 52, 53, 54, 55, 56, 57, 58, 59] (by decide +kernel) (by decide +kernel)
set_option maxRecDepth 20000 in
theorem gX4_trySale_X2_ounces : GoodIn wsX4_trySale (wsV RX4 55 RX2 yX2_ounces wsX2_ounces) := goodIn_app (goodIn_of _ (by decide +kernel)) ggX4_trySale_X2_ounces
set_option maxRecDepth 20000 in
theorem ggX4_trySale_X4_keepIfBetter : GoodIn wsX4_trySale wsX4_keepIfBetter := goodIn_r _ [22, 6, 23, 24, 25, 26, 27, 28, 29, 42, 43, 44, 45, 46, 47, 48] (by decide +kernel) (by decide +kernel)
set_option maxRecDepth 20000 in
theorem gX4_trySale_X4_keepIfBetter : GoodIn wsX4_trySale (wsV RX4 62 RX4 yX4_keepIfBetter wsX4_keepIfBetter) := goodIn_app (goodIn_of _ (by decide +kernel)) ggX4_trySale_X4_keepIfBetter
set_option maxRecDepth 20000 in
theorem ggX4_trySale_X2_weightAfter : GoodIn wsX4_trySale wsX2_weightAfter := goodIn_r _ [33, 13, 14, 15, 16, 17, 49, 50, 51, 52, 53, 54, 55, 56, 57, 58, 59] (by decide +kernel) (by decide +kernel)
set_option maxRecDepth 20000 in
theorem gX4_trySale_X2_weightAfter : GoodIn wsX4_trySale (wsV RX4 66 RX2 yX2_weightAfter wsX2_weightAfter) := goodIn_app (goodIn_of _ (by decide +kernel)) ggX4_trySale_X2_weightAfter
set_option maxRecDepth 20000 in
theorem ggX4_trySale_X4_trySales : GoodIn wsX4_trySale wsX4_trySales := goodIn_r _ [37, 38, 2, 24, 39, 40, 41, 21, 0, 1, 3, 4, 5, 6, 7, 8, 9, 10, 11, 12, 13, 14, 15, 16, 17, 18, 19, 20, 22, 23, 25, 26, 27, 28, 29, 30, 31, 32, 33, 34, 35, 36, 42, 43, 44, 45, 46, 47, 48, 49, 50, 51, 52, 53, 54, 55, 56, 57, 58, 59] (by decide +kernel) (by decide +kernel)
set_option maxRecDepth 20000 in
theorem gX4_trySale_X4_trySales : GoodIn wsX4_trySale (wsV RX4 41 RX4 yX4_trySales wsX4_trySales) := goodIn_app (goodIn_of _ (by decide +kernel)) ggX4_trySale_X4_trySales
theorem dX4_trySale_0 : decode cX4_trySale 0 = .ok (.aload_n 0, 1) := by decide +kernel
theorem dX4_trySale_1 : decode cX4_trySale 1 = .ok (.getfield 9, 3) := by decide +kernel
theorem dX4_trySale_4 : decode cX4_trySale 4 = .ok (.iload 4, 2) := by decide +kernel
theorem dX4_trySale_6 : decode cX4_trySale 6 = .ok (.iaload, 1) := by decide +kernel
theorem dX4_trySale_7 : decode cX4_trySale 7 = .ok (.istore 7, 2) := by decide +kernel
theorem dX4_trySale_9 : decode cX4_trySale 9 = .ok (.iload 5, 2) := by decide +kernel
theorem dX4_trySale_11 : decode cX4_trySale 11 = .ok (.aload_n 1, 1) := by decide +kernel
theorem dX4_trySale_12 : decode cX4_trySale 12 = .ok (.iload 7, 2) := by decide +kernel
theorem dX4_trySale_14 : decode cX4_trySale 14 = .ok (.aload_n 0, 1) := by decide +kernel
theorem dX4_trySale_15 : decode cX4_trySale 15 = .ok (.getfield 28, 3) := by decide +kernel
theorem dX4_trySale_18 : decode cX4_trySale 18 = .ok (.aload_n 1, 1) := by decide +kernel
theorem dX4_trySale_19 : decode cX4_trySale 19 = .ok (.getfield 52, 3) := by decide +kernel
theorem dX4_trySale_22 : decode cX4_trySale 22 = .ok (.invokevirtual 55, 3) := by decide +kernel
theorem dX4_trySale_25 : decode cX4_trySale 25 = .ok (.iadd, 1) := by decide +kernel
theorem dX4_trySale_26 : decode cX4_trySale 26 = .ok (.istore 8, 2) := by decide +kernel
theorem dX4_trySale_28 : decode cX4_trySale 28 = .ok (.iload 6, 2) := by decide +kernel
theorem dX4_trySale_30 : decode cX4_trySale 30 = .ok (.aload_n 1, 1) := by decide +kernel
theorem dX4_trySale_31 : decode cX4_trySale 31 = .ok (.getfield 59, 3) := by decide +kernel
theorem dX4_trySale_34 : decode cX4_trySale 34 = .ok (.iload_n 3, 1) := by decide +kernel
theorem dX4_trySale_35 : decode cX4_trySale 35 = .ok (.iaload, 1) := by decide +kernel
theorem dX4_trySale_36 : decode cX4_trySale 36 = .ok (.iadd, 1) := by decide +kernel
theorem dX4_trySale_37 : decode cX4_trySale 37 = .ok (.istore 9, 2) := by decide +kernel
theorem dX4_trySale_39 : decode cX4_trySale 39 = .ok (.iload 8, 2) := by decide +kernel
theorem dX4_trySale_41 : decode cX4_trySale 41 = .ok (.aload_n 0, 1) := by decide +kernel
theorem dX4_trySale_42 : decode cX4_trySale 42 = .ok (.getfield 31, 3) := by decide +kernel
theorem dX4_trySale_45 : decode cX4_trySale 45 = .ok (.if_icmp .lt 15, 3) := by decide +kernel
theorem dX4_trySale_48 : decode cX4_trySale 48 = .ok (.aload_n 0, 1) := by decide +kernel
theorem dX4_trySale_49 : decode cX4_trySale 49 = .ok (.iload_n 2, 1) := by decide +kernel
theorem dX4_trySale_50 : decode cX4_trySale 50 = .ok (.iconst 1, 1) := by decide +kernel
theorem dX4_trySale_51 : decode cX4_trySale 51 = .ok (.iadd, 1) := by decide +kernel
theorem dX4_trySale_52 : decode cX4_trySale 52 = .ok (.iload 9, 2) := by decide +kernel
theorem dX4_trySale_54 : decode cX4_trySale 54 = .ok (.invokevirtual 62, 3) := by decide +kernel
theorem dX4_trySale_57 : decode cX4_trySale 57 = .ok (.goto 49, 3) := by decide +kernel
theorem dX4_trySale_60 : decode cX4_trySale 60 = .ok (.iload 9, 2) := by decide +kernel
theorem dX4_trySale_62 : decode cX4_trySale 62 = .ok (.aload_n 0, 1) := by decide +kernel
theorem dX4_trySale_63 : decode cX4_trySale 63 = .ok (.getfield 25, 3) := by decide +kernel
theorem dX4_trySale_66 : decode cX4_trySale 66 = .ok (.if_icmp .ge 40, 3) := by decide +kernel
theorem dX4_trySale_69 : decode cX4_trySale 69 = .ok (.aload_n 0, 1) := by decide +kernel
theorem dX4_trySale_70 : decode cX4_trySale 70 = .ok (.getfield 9, 3) := by decide +kernel
theorem dX4_trySale_73 : decode cX4_trySale 73 = .ok (.iload 4, 2) := by decide +kernel
theorem dX4_trySale_75 : decode cX4_trySale 75 = .ok (.aload_n 1, 1) := by decide +kernel
theorem dX4_trySale_76 : decode cX4_trySale 76 = .ok (.iload 7, 2) := by decide +kernel
theorem dX4_trySale_78 : decode cX4_trySale 78 = .ok (.iload 4, 2) := by decide +kernel
theorem dX4_trySale_80 : decode cX4_trySale 80 = .ok (.iload_n 3, 1) := by decide +kernel
theorem dX4_trySale_81 : decode cX4_trySale 81 = .ok (.invokevirtual 66, 3) := by decide +kernel
theorem dX4_trySale_84 : decode cX4_trySale 84 = .ok (.iastore, 1) := by decide +kernel
theorem dX4_trySale_85 : decode cX4_trySale 85 = .ok (.aload_n 0, 1) := by decide +kernel
theorem dX4_trySale_86 : decode cX4_trySale 86 = .ok (.aload_n 1, 1) := by decide +kernel
theorem dX4_trySale_87 : decode cX4_trySale 87 = .ok (.iload_n 2, 1) := by decide +kernel
theorem dX4_trySale_88 : decode cX4_trySale 88 = .ok (.iconst 1, 1) := by decide +kernel
theorem dX4_trySale_89 : decode cX4_trySale 89 = .ok (.iadd, 1) := by decide +kernel
theorem dX4_trySale_90 : decode cX4_trySale 90 = .ok (.iload 8, 2) := by decide +kernel
theorem dX4_trySale_92 : decode cX4_trySale 92 = .ok (.iload 9, 2) := by decide +kernel
theorem dX4_trySale_94 : decode cX4_trySale 94 = .ok (.invokevirtual 41, 3) := by decide +kernel
theorem dX4_trySale_97 : decode cX4_trySale 97 = .ok (.aload_n 0, 1) := by decide +kernel
theorem dX4_trySale_98 : decode cX4_trySale 98 = .ok (.getfield 9, 3) := by decide +kernel
theorem dX4_trySale_101 : decode cX4_trySale 101 = .ok (.iload 4, 2) := by decide +kernel
theorem dX4_trySale_103 : decode cX4_trySale 103 = .ok (.iload 7, 2) := by decide +kernel
theorem dX4_trySale_105 : decode cX4_trySale 105 = .ok (.iastore, 1) := by decide +kernel
theorem dX4_trySale_106 : decode cX4_trySale 106 = .ok (.return_, 1) := by decide +kernel
theorem dX4_keepIfBetter_0 : decode cX4_keepIfBetter 0 = .ok (.iload_n 2, 1) := by decide +kernel
theorem dX4_keepIfBetter_1 : decode cX4_keepIfBetter 1 = .ok (.aload_n 0, 1) := by decide +kernel
theorem dX4_keepIfBetter_2 : decode cX4_keepIfBetter 2 = .ok (.getfield 25, 3) := by decide +kernel
theorem dX4_keepIfBetter_5 : decode cX4_keepIfBetter 5 = .ok (.if_icmp .lt 19, 3) := by decide +kernel
theorem dX4_keepIfBetter_8 : decode cX4_keepIfBetter 8 = .ok (.iload_n 2, 1) := by decide +kernel
theorem dX4_keepIfBetter_9 : decode cX4_keepIfBetter 9 = .ok (.aload_n 0, 1) := by decide +kernel
theorem dX4_keepIfBetter_10 : decode cX4_keepIfBetter 10 = .ok (.getfield 25, 3) := by decide +kernel
theorem dX4_keepIfBetter_13 : decode cX4_keepIfBetter 13 = .ok (.if_icmp .ne 35, 3) := by decide +kernel
theorem dX4_keepIfBetter_16 : decode cX4_keepIfBetter 16 = .ok (.iload_n 1, 1) := by decide +kernel
theorem dX4_keepIfBetter_17 : decode cX4_keepIfBetter 17 = .ok (.aload_n 0, 1) := by decide +kernel
theorem dX4_keepIfBetter_18 : decode cX4_keepIfBetter 18 = .ok (.getfield 21, 3) := by decide +kernel
theorem dX4_keepIfBetter_21 : decode cX4_keepIfBetter 21 = .ok (.if_icmp .ge 27, 3) := by decide +kernel
theorem dX4_keepIfBetter_24 : decode cX4_keepIfBetter 24 = .ok (.aload_n 0, 1) := by decide +kernel
theorem dX4_keepIfBetter_25 : decode cX4_keepIfBetter 25 = .ok (.iload_n 2, 1) := by decide +kernel
theorem dX4_keepIfBetter_26 : decode cX4_keepIfBetter 26 = .ok (.putfield 25, 3) := by decide +kernel
theorem dX4_keepIfBetter_29 : decode cX4_keepIfBetter 29 = .ok (.aload_n 0, 1) := by decide +kernel
theorem dX4_keepIfBetter_30 : decode cX4_keepIfBetter 30 = .ok (.iload_n 1, 1) := by decide +kernel
theorem dX4_keepIfBetter_31 : decode cX4_keepIfBetter 31 = .ok (.putfield 21, 3) := by decide +kernel
theorem dX4_keepIfBetter_34 : decode cX4_keepIfBetter 34 = .ok (.aload_n 0, 1) := by decide +kernel
theorem dX4_keepIfBetter_35 : decode cX4_keepIfBetter 35 = .ok (.getfield 15, 3) := by decide +kernel
theorem dX4_keepIfBetter_38 : decode cX4_keepIfBetter 38 = .ok (.iconst 0, 1) := by decide +kernel
theorem dX4_keepIfBetter_39 : decode cX4_keepIfBetter 39 = .ok (.aload_n 0, 1) := by decide +kernel
theorem dX4_keepIfBetter_40 : decode cX4_keepIfBetter 40 = .ok (.getfield 18, 3) := by decide +kernel
theorem dX4_keepIfBetter_43 : decode cX4_keepIfBetter 43 = .ok (.iconst 0, 1) := by decide +kernel
theorem dX4_keepIfBetter_44 : decode cX4_keepIfBetter 44 = .ok (.iload_n 1, 1) := by decide +kernel
theorem dX4_keepIfBetter_45 : decode cX4_keepIfBetter 45 = .ok (.invokestatic 69, 3) := by decide +kernel
theorem dX4_keepIfBetter_48 : decode cX4_keepIfBetter 48 = .ok (.return_, 1) := by decide +kernel
set_option maxRecDepth 20000 in
theorem ggX5_init_X3_init : GoodIn wsX5_init wsX3_init := goodIn_r _ [30, 31, 2, 3, 32, 33, 34, 72, 73] (by decide +kernel) (by decide +kernel)
set_option maxRecDepth 20000 in
theorem gX5_init_X3_init_n9 : GoodIn wsX5_init (wsX3_init) := ggX5_init_X3_init
set_option maxRecDepth 20000 in
theorem ggX5_init_X2_init : GoodIn wsX5_init wsX2_init := goodIn_r _ [36, 37, 2, 3, 38, 39, 40, 41, 42, 43, 44, 45, 46, 47, 48, 49, 84, 85, 86, 87, 88, 89, 90, 91, 92, 93, 94] (by decide +kernel) (by decide +kernel)
set_option maxRecDepth 20000 in
theorem gX5_init_X2_init_n18 : GoodIn wsX5_init (wsX2_init) := ggX5_init_X2_init
set_option maxRecDepth 20000 in
theorem ggX5_init_X1_init : GoodIn wsX5_init wsX1_init := goodIn_r _ [51, 52, 2, 3, 38, 53, 54, 55, 95, 96, 97] (by decide +kernel) (by decide +kernel)
set_option maxRecDepth 20000 in
theorem gX5_init_X1_init_n25 : GoodIn wsX5_init (wsX1_init) := ggX5_init_X1_init
set_option maxRecDepth 20000 in
theorem ggX5_init_X4_init : GoodIn wsX5_init wsX4_init := goodIn_r _ [57, 58, 2, 3, 38, 59, 60, 61, 62, 63, 64, 65, 98, 99, 100, 101, 102, 103, 104] (by decide +kernel) (by decide +kernel)
set_option maxRecDepth 20000 in
theorem gX5_init_X4_init_n38 : GoodIn wsX5_init (wsX4_init) := ggX5_init_X4_init
set_option maxRecDepth 20000 in
theorem ggX5_init_X0_init : GoodIn wsX5_init wsX0_init := goodIn_r _ [67, 68, 2, 3, 38, 69, 70, 71, 105, 106, 107] (by decide +kernel) (by decide +kernel)
set_option maxRecDepth 20000 in
theorem gX5_init_X0_init_n45 : GoodIn wsX5_init (wsX0_init) := ggX5_init_X0_init
theorem dX5_init_0 : decode cX5_init 0 = .ok (.aload_n 0, 1) := by decide +kernel
theorem dX5_init_1 : decode cX5_init 1 = .ok (.invokespecial 1, 3) := by decide +kernel
theorem dX5_init_4 : decode cX5_init 4 = .ok (.aload_n 0, 1) := by decide +kernel
theorem dX5_init_5 : decode cX5_init 5 = .ok (.new 7, 3) := by decide +kernel
theorem dX5_init_8 : decode cX5_init 8 = .ok (.dup, 1) := by decide +kernel
theorem dX5_init_9 : decode cX5_init 9 = .ok (.invokespecial 9, 3) := by decide +kernel
theorem dX5_init_12 : decode cX5_init 12 = .ok (.putfield 10, 3) := by decide +kernel
theorem dX5_init_15 : decode cX5_init 15 = .ok (.aload_n 0, 1) := by decide +kernel
theorem dX5_init_16 : decode cX5_init 16 = .ok (.new 16, 3) := by decide +kernel
theorem dX5_init_19 : decode cX5_init 19 = .ok (.dup, 1) := by decide +kernel
theorem dX5_init_20 : decode cX5_init 20 = .ok (.invokespecial 18, 3) := by decide +kernel
theorem dX5_init_23 : decode cX5_init 23 = .ok (.putfield 19, 3) := by decide +kernel
theorem dX5_init_26 : decode cX5_init 26 = .ok (.aload_n 0, 1) := by decide +kernel
theorem dX5_init_27 : decode cX5_init 27 = .ok (.new 23, 3) := by decide +kernel
theorem dX5_init_30 : decode cX5_init 30 = .ok (.dup, 1) := by decide +kernel
theorem dX5_init_31 : decode cX5_init 31 = .ok (.invokespecial 25, 3) := by decide +kernel
theorem dX5_init_34 : decode cX5_init 34 = .ok (.putfield 26, 3) := by decide +kernel
theorem dX5_init_37 : decode cX5_init 37 = .ok (.aload_n 0, 1) := by decide +kernel
theorem dX5_init_38 : decode cX5_init 38 = .ok (.new 16, 3) := by decide +kernel
theorem dX5_init_41 : decode cX5_init 41 = .ok (.dup, 1) := by decide +kernel
theorem dX5_init_42 : decode cX5_init 42 = .ok (.invokespecial 18, 3) := by decide +kernel
theorem dX5_init_45 : decode cX5_init 45 = .ok (.putfield 30, 3) := by decide +kernel
theorem dX5_init_48 : decode cX5_init 48 = .ok (.aload_n 0, 1) := by decide +kernel
theorem dX5_init_49 : decode cX5_init 49 = .ok (.new 23, 3) := by decide +kernel
theorem dX5_init_52 : decode cX5_init 52 = .ok (.dup, 1) := by decide +kernel
theorem dX5_init_53 : decode cX5_init 53 = .ok (.invokespecial 25, 3) := by decide +kernel
theorem dX5_init_56 : decode cX5_init 56 = .ok (.putfield 33, 3) := by decide +kernel
theorem dX5_init_59 : decode cX5_init 59 = .ok (.aload_n 0, 1) := by decide +kernel
theorem dX5_init_60 : decode cX5_init 60 = .ok (.new 36, 3) := by decide +kernel
theorem dX5_init_63 : decode cX5_init 63 = .ok (.dup, 1) := by decide +kernel
theorem dX5_init_64 : decode cX5_init 64 = .ok (.invokespecial 38, 3) := by decide +kernel
theorem dX5_init_67 : decode cX5_init 67 = .ok (.putfield 39, 3) := by decide +kernel
theorem dX5_init_70 : decode cX5_init 70 = .ok (.aload_n 0, 1) := by decide +kernel
theorem dX5_init_71 : decode cX5_init 71 = .ok (.new 43, 3) := by decide +kernel
theorem dX5_init_74 : decode cX5_init 74 = .ok (.dup, 1) := by decide +kernel
theorem dX5_init_75 : decode cX5_init 75 = .ok (.invokespecial 45, 3) := by decide +kernel
theorem dX5_init_78 : decode cX5_init 78 = .ok (.putfield 46, 3) := by decide +kernel
theorem dX5_init_81 : decode cX5_init 81 = .ok (.aload_n 0, 1) := by decide +kernel
theorem dX5_init_82 : decode cX5_init 82 = .ok (.iconst 0, 1) := by decide +kernel
theorem dX5_init_83 : decode cX5_init 83 = .ok (.putfield 50, 3) := by decide +kernel
theorem dX5_init_86 : decode cX5_init 86 = .ok (.aload_n 0, 1) := by decide +kernel
theorem dX5_init_87 : decode cX5_init 87 = .ok (.iconst 0, 1) := by decide +kernel
theorem dX5_init_88 : decode cX5_init 88 = .ok (.putfield 54, 3) := by decide +kernel
theorem dX5_init_91 : decode cX5_init 91 = .ok (.aload_n 0, 1) := by decide +kernel
theorem dX5_init_92 : decode cX5_init 92 = .ok (.iconst 0, 1) := by decide +kernel
theorem dX5_init_93 : decode cX5_init 93 = .ok (.putfield 58, 3) := by decide +kernel
theorem dX5_init_96 : decode cX5_init 96 = .ok (.return_, 1) := by decide +kernel
set_option maxRecDepth 20000 in
theorem ggX5_letter_X3_add : GoodIn wsX5_letter wsX3_add := goodIn_r _ [7, 8, 9, 20, 21] (by decide +kernel) (by decide +kernel)
set_option maxRecDepth 20000 in
theorem gX5_letter_X3_add : GoodIn wsX5_letter (wsV RX5 64 RX3 yX3_add wsX3_add) := goodIn_app (goodIn_of _ (by decide +kernel)) ggX5_letter_X3_add
theorem dX5_letter_0 : decode cX5_letter 0 = .ok (.iload_n 1, 1) := by decide +kernel
theorem dX5_letter_1 : decode cX5_letter 1 = .ok (.bipush 32, 2) := by decide +kernel
theorem dX5_letter_3 : decode cX5_letter 3 = .ok (.if_icmp .lt 9, 3) := by decide +kernel
theorem dX5_letter_6 : decode cX5_letter 6 = .ok (.iload_n 1, 1) := by decide +kernel
theorem dX5_letter_7 : decode cX5_letter 7 = .ok (.bipush 126, 2) := by decide +kernel
theorem dX5_letter_9 : decode cX5_letter 9 = .ok (.if_icmp .le 6, 3) := by decide +kernel
theorem dX5_letter_12 : decode cX5_letter 12 = .ok (.bipush (-102), 2) := by decide +kernel
theorem dX5_letter_14 : decode cX5_letter 14 = .ok (.ireturn, 1) := by decide +kernel
theorem dX5_letter_15 : decode cX5_letter 15 = .ok (.aload_n 0, 1) := by decide +kernel
theorem dX5_letter_16 : decode cX5_letter 16 = .ok (.getfield 10, 3) := by decide +kernel
theorem dX5_letter_19 : decode cX5_letter 19 = .ok (.getfield 61, 3) := by decide +kernel
theorem dX5_letter_22 : decode cX5_letter 22 = .ok (.bipush 18, 2) := by decide +kernel
theorem dX5_letter_24 : decode cX5_letter 24 = .ok (.if_icmp .lt 6, 3) := by decide +kernel
theorem dX5_letter_27 : decode cX5_letter 27 = .ok (.bipush (-104), 2) := by decide +kernel
theorem dX5_letter_29 : decode cX5_letter 29 = .ok (.ireturn, 1) := by decide +kernel
theorem dX5_letter_30 : decode cX5_letter 30 = .ok (.aload_n 0, 1) := by decide +kernel
theorem dX5_letter_31 : decode cX5_letter 31 = .ok (.getfield 10, 3) := by decide +kernel
theorem dX5_letter_34 : decode cX5_letter 34 = .ok (.iload_n 1, 1) := by decide +kernel
theorem dX5_letter_35 : decode cX5_letter 35 = .ok (.i2c, 1) := by decide +kernel
theorem dX5_letter_36 : decode cX5_letter 36 = .ok (.invokevirtual 64, 3) := by decide +kernel
theorem dX5_letter_39 : decode cX5_letter 39 = .ok (.aload_n 0, 1) := by decide +kernel
theorem dX5_letter_40 : decode cX5_letter 40 = .ok (.getfield 10, 3) := by decide +kernel
theorem dX5_letter_43 : decode cX5_letter 43 = .ok (.getfield 61, 3) := by decide +kernel
theorem dX5_letter_46 : decode cX5_letter 46 = .ok (.ireturn, 1) := by decide +kernel
set_option maxRecDepth 20000 in
theorem ggX5_blank_X3_empty : GoodIn wsX5_blank wsX3_empty := goodIn_r _ [7, 8, 19, 20] (by decide +kernel) (by decide +kernel)
set_option maxRecDepth 20000 in
theorem gX5_blank_X3_empty : GoodIn wsX5_blank (wsV RX5 68 RX3 yX3_empty wsX3_empty) := goodIn_app (goodIn_of _ (by decide +kernel)) ggX5_blank_X3_empty
theorem dX5_blank_0 : decode cX5_blank 0 = .ok (.aload_n 0, 1) := by decide +kernel
theorem dX5_blank_1 : decode cX5_blank 1 = .ok (.getfield 10, 3) := by decide +kernel
theorem dX5_blank_4 : decode cX5_blank 4 = .ok (.getfield 61, 3) := by decide +kernel
theorem dX5_blank_7 : decode cX5_blank 7 = .ok (.istore_n 1, 1) := by decide +kernel
theorem dX5_blank_8 : decode cX5_blank 8 = .ok (.aload_n 0, 1) := by decide +kernel
theorem dX5_blank_9 : decode cX5_blank 9 = .ok (.getfield 10, 3) := by decide +kernel
theorem dX5_blank_12 : decode cX5_blank 12 = .ok (.invokevirtual 68, 3) := by decide +kernel
theorem dX5_blank_15 : decode cX5_blank 15 = .ok (.iload_n 1, 1) := by decide +kernel
theorem dX5_blank_16 : decode cX5_blank 16 = .ok (.ireturn, 1) := by decide +kernel
set_option maxRecDepth 20000 in
theorem ggX5_fault_X3_firstFault : GoodIn wsX5_fault wsX3_firstFault := goodIn_r _ [6, 7, 8, 9, 10, 11, 5, 12, 13, 14, 15, 16, 17, 18, 19, 20, 21, 22, 23, 24, 25, 26, 27, 28, 29, 30, 31, 32, 33, 34, 35, 36, 37, 38, 39, 40, 41, 42, 43, 44, 45, 46, 47, 48, 49, 50, 51, 52, 53, 54, 55, 56, 57, 58, 59, 60, 61, 62, 63, 64, 65, 66, 67, 68, 69, 70, 71, 72, 73, 74, 75, 76, 77, 78, 79, 80, 81, 82, 83, 84, 85, 86, 87, 88, 89, 90, 91, 92, 93, 94, 95, 96, 97, 98, 99, 100, 101, 102, 103, 104, 105, 116, 117] (by decide +kernel) (by decide +kernel)
set_option maxRecDepth 20000 in
theorem gX5_fault_X3_firstFault : GoodIn wsX5_fault (wsV RX5 71 RX3 yX3_firstFault wsX3_firstFault) := goodIn_app (goodIn_of _ (by decide +kernel)) ggX5_fault_X3_firstFault
theorem dX5_fault_0 : decode cX5_fault 0 = .ok (.aload_n 0, 1) := by decide +kernel
theorem dX5_fault_1 : decode cX5_fault 1 = .ok (.getfield 10, 3) := by decide +kernel
theorem dX5_fault_4 : decode cX5_fault 4 = .ok (.invokevirtual 71, 3) := by decide +kernel
theorem dX5_fault_7 : decode cX5_fault 7 = .ok (.ireturn, 1) := by decide +kernel
set_option maxRecDepth 20000 in
theorem ggX5_market_X3_isMarket : GoodIn wsX5_market wsX3_isMarket := goodIn_r _ [11, 12, 13, 14, 15, 16, 10, 17, 18, 19, 20, 21, 22, 23, 24, 25, 26, 27, 28, 29, 30, 31, 32, 33, 34, 35, 36, 37, 38, 39, 40, 41, 42, 43, 44, 45, 46, 47, 48, 49, 50, 51, 52, 53, 54, 55, 56, 57, 58, 59, 60, 61, 62, 63, 64, 65, 66, 67, 68, 69, 70, 71, 72, 73, 74, 75, 76, 77, 78, 79, 80, 81, 82, 83, 84, 85, 86, 87, 88, 89, 90, 91, 92, 93, 94, 95, 96, 97, 98, 99, 100, 101, 102, 103, 104, 105, 106, 107, 108, 109, 110, 111, 112, 113, 114, 177, 178] (by decide +kernel) (by decide +kernel)
set_option maxRecDepth 20000 in
theorem gX5_market_X3_isMarket : GoodIn wsX5_market (wsV RX5 75 RX3 yX3_isMarket wsX3_isMarket) := goodIn_app (goodIn_of _ (by decide +kernel)) ggX5_market_X3_isMarket
set_option maxRecDepth 20000 in
theorem ggX5_market_X2_open : GoodIn wsX5_market wsX2_open := goodIn_r _ [119, 120, 121, 122, 123, 124, 125, 126, 127, 128, 129, 130, 131, 132, 133, 134, 10, 135, 12, 136, 137, 138, 139, 13, 140, 141, 142, 143, 22, 23, 24, 25, 26, 27, 28, 29, 30, 31, 32, 33, 34, 35, 36, 37, 38, 39, 40, 41, 42, 43, 44, 45, 46, 47, 48, 49, 50, 51, 52, 53, 54, 55, 56, 57, 58, 59, 60, 61, 62, 63, 64, 65, 66, 67, 68, 69, 70, 71, 72, 73, 74, 75, 76, 77, 78, 79, 80, 81, 82, 83, 84, 85, 86, 87, 88, 89, 90, 91, 92, 93, 94, 95, 96, 97, 98, 99, 100, 101, 102, 103, 104, 105, 106, 107, 108, 109, 110, 166, 167, 168, 169, 170, 171, 172, 173, 174, 175, 176, 177, 178] (by decide +kernel) (by decide +kernel)
set_option maxRecDepth 20000 in
theorem gX5_market_X2_open : GoodIn wsX5_market (wsV RX5 79 RX2 yX2_open wsX2_open) := goodIn_app (goodIn_of _ (by decide +kernel)) ggX5_market_X2_open
set_option maxRecDepth 20000 in
theorem ggX5_market_X3_empty : GoodIn wsX5_market wsX3_empty := goodIn_r _ [147, 12, 177, 178] (by decide +kernel) (by decide +kernel)
set_option maxRecDepth 20000 in
theorem gX5_market_X3_empty : GoodIn wsX5_market (wsV RX5 68 RX3 yX3_empty wsX3_empty) := goodIn_app (goodIn_of _ (by decide +kernel)) ggX5_market_X3_empty
set_option maxRecDepth 20000 in
theorem ggX5_market_X1_forget : GoodIn wsX5_market wsX1_forget := goodIn_r _ [152, 153, 154, 155, 179, 180, 181] (by decide +kernel) (by decide +kernel)
set_option maxRecDepth 20000 in
theorem gX5_market_X1_forget : GoodIn wsX5_market (wsV RX5 83 RX1 yX1_forget wsX1_forget) := goodIn_app (goodIn_of _ (by decide +kernel)) ggX5_market_X1_forget
theorem dX5_market_0 : decode cX5_market 0 = .ok (.aload_n 0, 1) := by decide +kernel
theorem dX5_market_1 : decode cX5_market 1 = .ok (.getfield 10, 3) := by decide +kernel
theorem dX5_market_4 : decode cX5_market 4 = .ok (.invokevirtual 75, 3) := by decide +kernel
theorem dX5_market_7 : decode cX5_market 7 = .ok (.ifCond .ne 6, 3) := by decide +kernel
theorem dX5_market_10 : decode cX5_market 10 = .ok (.bipush (-103), 2) := by decide +kernel
theorem dX5_market_12 : decode cX5_market 12 = .ok (.ireturn, 1) := by decide +kernel
theorem dX5_market_13 : decode cX5_market 13 = .ok (.aload_n 0, 1) := by decide +kernel
theorem dX5_market_14 : decode cX5_market 14 = .ok (.getfield 19, 3) := by decide +kernel
theorem dX5_market_17 : decode cX5_market 17 = .ok (.aload_n 0, 1) := by decide +kernel
theorem dX5_market_18 : decode cX5_market 18 = .ok (.getfield 10, 3) := by decide +kernel
theorem dX5_market_21 : decode cX5_market 21 = .ok (.invokevirtual 79, 3) := by decide +kernel
theorem dX5_market_24 : decode cX5_market 24 = .ok (.aload_n 0, 1) := by decide +kernel
theorem dX5_market_25 : decode cX5_market 25 = .ok (.getfield 10, 3) := by decide +kernel
theorem dX5_market_28 : decode cX5_market 28 = .ok (.invokevirtual 68, 3) := by decide +kernel
theorem dX5_market_31 : decode cX5_market 31 = .ok (.aload_n 0, 1) := by decide +kernel
theorem dX5_market_32 : decode cX5_market 32 = .ok (.getfield 26, 3) := by decide +kernel
theorem dX5_market_35 : decode cX5_market 35 = .ok (.invokevirtual 83, 3) := by decide +kernel
theorem dX5_market_38 : decode cX5_market 38 = .ok (.aload_n 0, 1) := by decide +kernel
theorem dX5_market_39 : decode cX5_market 39 = .ok (.iconst 0, 1) := by decide +kernel
theorem dX5_market_40 : decode cX5_market 40 = .ok (.putfield 50, 3) := by decide +kernel
theorem dX5_market_43 : decode cX5_market 43 = .ok (.aload_n 0, 1) := by decide +kernel
theorem dX5_market_44 : decode cX5_market 44 = .ok (.dup, 1) := by decide +kernel
theorem dX5_market_45 : decode cX5_market 45 = .ok (.getfield 54, 3) := by decide +kernel
theorem dX5_market_48 : decode cX5_market 48 = .ok (.iconst 1, 1) := by decide +kernel
theorem dX5_market_49 : decode cX5_market 49 = .ok (.iadd, 1) := by decide +kernel
theorem dX5_market_50 : decode cX5_market 50 = .ok (.putfield 54, 3) := by decide +kernel
theorem dX5_market_53 : decode cX5_market 53 = .ok (.aload_n 0, 1) := by decide +kernel
theorem dX5_market_54 : decode cX5_market 54 = .ok (.getfield 19, 3) := by decide +kernel
theorem dX5_market_57 : decode cX5_market 57 = .ok (.getfield 86, 3) := by decide +kernel
theorem dX5_market_60 : decode cX5_market 60 = .ok (.ireturn, 1) := by decide +kernel
set_option maxRecDepth 20000 in
theorem ggX5_about_X2_has : GoodIn wsX5_about wsX2_has := goodIn_r _ [6, 7, 29, 30, 31, 32, 33, 34, 35, 36, 37, 38, 39] (by decide +kernel) (by decide +kernel)
set_option maxRecDepth 20000 in
theorem gX5_about_X2_has : GoodIn wsX5_about (wsV RX5 89 RX2 yX2_has wsX2_has) := goodIn_app (goodIn_of _ (by decide +kernel)) ggX5_about_X2_has
set_option maxRecDepth 20000 in
theorem ggX5_about_X2_tell : GoodIn wsX5_about wsX2_tell := goodIn_r _ [11, 12, 13, 14, 15, 16, 17, 18, 29, 30, 31, 32, 33, 34, 35, 36, 37, 38, 39] (by decide +kernel) (by decide +kernel)
set_option maxRecDepth 20000 in
theorem gX5_about_X2_tell : GoodIn wsX5_about (wsV RX5 93 RX2 yX2_tell wsX2_tell) := goodIn_app (goodIn_of _ (by decide +kernel)) ggX5_about_X2_tell
theorem dX5_about_0 : decode cX5_about 0 = .ok (.aload_n 0, 1) := by decide +kernel
theorem dX5_about_1 : decode cX5_about 1 = .ok (.getfield 19, 3) := by decide +kernel
theorem dX5_about_4 : decode cX5_about 4 = .ok (.iload_n 1, 1) := by decide +kernel
theorem dX5_about_5 : decode cX5_about 5 = .ok (.invokevirtual 89, 3) := by decide +kernel
theorem dX5_about_8 : decode cX5_about 8 = .ok (.ifCond .ne 6, 3) := by decide +kernel
theorem dX5_about_11 : decode cX5_about 11 = .ok (.bipush (-101), 2) := by decide +kernel
theorem dX5_about_13 : decode cX5_about 13 = .ok (.ireturn, 1) := by decide +kernel
theorem dX5_about_14 : decode cX5_about 14 = .ok (.iload_n 2, 1) := by decide +kernel
theorem dX5_about_15 : decode cX5_about 15 = .ok (.ifCond .lt 9, 3) := by decide +kernel
theorem dX5_about_18 : decode cX5_about 18 = .ok (.iload_n 2, 1) := by decide +kernel
theorem dX5_about_19 : decode cX5_about 19 = .ok (.bipush 6, 2) := by decide +kernel
theorem dX5_about_21 : decode cX5_about 21 = .ok (.if_icmp .le 6, 3) := by decide +kernel
theorem dX5_about_24 : decode cX5_about 24 = .ok (.bipush (-102), 2) := by decide +kernel
theorem dX5_about_26 : decode cX5_about 26 = .ok (.ireturn, 1) := by decide +kernel
theorem dX5_about_27 : decode cX5_about 27 = .ok (.aload_n 0, 1) := by decide +kernel
theorem dX5_about_28 : decode cX5_about 28 = .ok (.getfield 19, 3) := by decide +kernel
theorem dX5_about_31 : decode cX5_about 31 = .ok (.iload_n 1, 1) := by decide +kernel
theorem dX5_about_32 : decode cX5_about 32 = .ok (.iload_n 2, 1) := by decide +kernel
theorem dX5_about_33 : decode cX5_about 33 = .ok (.invokevirtual 93, 3) := by decide +kernel
theorem dX5_about_36 : decode cX5_about 36 = .ok (.ireturn, 1) := by decide +kernel
set_option maxRecDepth 20000 in
theorem ggX5_as_X2_has : GoodIn wsX5_as wsX2_has := goodIn_r _ [7, 8, 35, 36, 37, 38, 39, 40, 41, 42, 43, 44, 45] (by decide +kernel) (by decide +kernel)
set_option maxRecDepth 20000 in
theorem gX5_as_X2_has : GoodIn wsX5_as (wsV RX5 89 RX2 yX2_has wsX2_has) := goodIn_app (goodIn_of _ (by decide +kernel)) ggX5_as_X2_has
set_option maxRecDepth 20000 in
theorem ggX5_as_J0_length_8abf5 : GoodIn wsX5_as wsJ0_length_8abf5 := goodIn_r _ [13, 14, 15, 16, 17, 12, 18, 19, 20] (by decide +kernel) (by decide +kernel)
set_option maxRecDepth 20000 in
theorem gX5_as_J0_length_8abf5 : GoodIn wsX5_as (wsV RX5 99 RJ0 yJ0_length_8abf5 wsJ0_length_8abf5) := goodIn_app (goodIn_of _ (by decide +kernel)) ggX5_as_J0_length_8abf5
set_option maxRecDepth 20000 in
theorem ggX5_as_X5_isOfKind : GoodIn wsX5_as wsX5_isOfKind := goodIn_r _ [24] (by decide +kernel) (by decide +kernel)
set_option maxRecDepth 20000 in
theorem gX5_as_X5_isOfKind : GoodIn wsX5_as (va_wsS RX5 107 yX5_isOfKind wsX5_isOfKind) := goodIn_app (goodIn_of _ (by decide +kernel)) ggX5_as_X5_isOfKind
theorem dX5_as_0 : decode cX5_as 0 = .ok (.aload_n 0, 1) := by decide +kernel
theorem dX5_as_1 : decode cX5_as 1 = .ok (.getfield 19, 3) := by decide +kernel
theorem dX5_as_4 : decode cX5_as 4 = .ok (.iload_n 1, 1) := by decide +kernel
theorem dX5_as_5 : decode cX5_as 5 = .ok (.invokevirtual 89, 3) := by decide +kernel
theorem dX5_as_8 : decode cX5_as 8 = .ok (.ifCond .ne 6, 3) := by decide +kernel
theorem dX5_as_11 : decode cX5_as 11 = .ok (.bipush (-101), 2) := by decide +kernel
theorem dX5_as_13 : decode cX5_as 13 = .ok (.ireturn, 1) := by decide +kernel
theorem dX5_as_14 : decode cX5_as 14 = .ok (.iload_n 2, 1) := by decide +kernel
theorem dX5_as_15 : decode cX5_as 15 = .ok (.ifCond .lt 12, 3) := by decide +kernel
theorem dX5_as_18 : decode cX5_as 18 = .ok (.iload_n 2, 1) := by decide +kernel
theorem dX5_as_19 : decode cX5_as 19 = .ok (.ldc 97, 2) := by decide +kernel
theorem dX5_as_21 : decode cX5_as 21 = .ok (.invokevirtual 99, 3) := by decide +kernel
theorem dX5_as_24 : decode cX5_as 24 = .ok (.if_icmp .lt 6, 3) := by decide +kernel
theorem dX5_as_27 : decode cX5_as 27 = .ok (.bipush (-102), 2) := by decide +kernel
theorem dX5_as_29 : decode cX5_as 29 = .ok (.ireturn, 1) := by decide +kernel
theorem dX5_as_30 : decode cX5_as 30 = .ok (.aload_n 0, 1) := by decide +kernel
theorem dX5_as_31 : decode cX5_as 31 = .ok (.getfield 19, 3) := by decide +kernel
theorem dX5_as_34 : decode cX5_as 34 = .ok (.getfield 103, 3) := by decide +kernel
theorem dX5_as_37 : decode cX5_as 37 = .ok (.iload_n 1, 1) := by decide +kernel
theorem dX5_as_38 : decode cX5_as 38 = .ok (.iaload, 1) := by decide +kernel
theorem dX5_as_39 : decode cX5_as 39 = .ok (.iload_n 2, 1) := by decide +kernel
theorem dX5_as_40 : decode cX5_as 40 = .ok (.invokestatic 107, 3) := by decide +kernel
theorem dX5_as_43 : decode cX5_as 43 = .ok (.ifCond .eq 7, 3) := by decide +kernel
theorem dX5_as_46 : decode cX5_as 46 = .ok (.iload_n 1, 1) := by decide +kernel
theorem dX5_as_47 : decode cX5_as 47 = .ok (.goto 4, 3) := by decide +kernel
theorem dX5_as_50 : decode cX5_as 50 = .ok (.iconst (-1), 1) := by decide +kernel
theorem dX5_as_51 : decode cX5_as 51 = .ok (.ireturn, 1) := by decide +kernel
set_option maxRecDepth 20000 in
theorem ggX5_measure_X5_canTrade : GoodIn wsX5_measure wsX5_canTrade := goodIn_r _ [8, 1, 9, 10, 11, 12, 13, 14, 25, 26, 27, 28, 29, 30, 31, 32, 33, 34, 35, 36, 37, 38, 39, 40, 41, 42, 43, 44, 45] (by decide +kernel) (by decide +kernel)
set_option maxRecDepth 20000 in
theorem gX5_measure_X5_canTrade : GoodIn wsX5_measure (wsV RX5 111 RX5 yX5_canTrade wsX5_canTrade) := goodIn_app (goodIn_of _ (by decide +kernel)) ggX5_measure_X5_canTrade
set_option maxRecDepth 20000 in
theorem ggX5_measure_X2_has : GoodIn wsX5_measure wsX2_has := goodIn_r _ [13, 14, 35, 36, 37, 38, 39, 40, 41, 42, 43, 44, 45] (by decide +kernel) (by decide +kernel)
set_option maxRecDepth 20000 in
theorem gX5_measure_X2_has : GoodIn wsX5_measure (wsV RX5 89 RX2 yX2_has wsX2_has) := goodIn_app (goodIn_of _ (by decide +kernel)) ggX5_measure_X2_has
set_option maxRecDepth 20000 in
theorem ggX5_measure_X2_ounces : GoodIn wsX5_measure wsX2_ounces := goodIn_r _ [18, 19, 20, 21, 22, 23, 24, 35, 36, 37, 38, 39, 40, 41, 42, 43, 44, 45] (by decide +kernel) (by decide +kernel)
set_option maxRecDepth 20000 in
theorem gX5_measure_X2_ounces : GoodIn wsX5_measure (wsV RX5 120 RX2 yX2_ounces wsX2_ounces) := goodIn_app (goodIn_of _ (by decide +kernel)) ggX5_measure_X2_ounces
theorem dX5_measure_0 : decode cX5_measure 0 = .ok (.aload_n 0, 1) := by decide +kernel
theorem dX5_measure_1 : decode cX5_measure 1 = .ok (.iload_n 1, 1) := by decide +kernel
theorem dX5_measure_2 : decode cX5_measure 2 = .ok (.iload_n 2, 1) := by decide +kernel
theorem dX5_measure_3 : decode cX5_measure 3 = .ok (.invokevirtual 111, 3) := by decide +kernel
theorem dX5_measure_6 : decode cX5_measure 6 = .ok (.ifCond .eq 14, 3) := by decide +kernel
theorem dX5_measure_9 : decode cX5_measure 9 = .ok (.aload_n 0, 1) := by decide +kernel
theorem dX5_measure_10 : decode cX5_measure 10 = .ok (.getfield 19, 3) := by decide +kernel
theorem dX5_measure_13 : decode cX5_measure 13 = .ok (.iload_n 3, 1) := by decide +kernel
theorem dX5_measure_14 : decode cX5_measure 14 = .ok (.invokevirtual 89, 3) := by decide +kernel
theorem dX5_measure_17 : decode cX5_measure 17 = .ok (.ifCond .ne 6, 3) := by decide +kernel
theorem dX5_measure_20 : decode cX5_measure 20 = .ok (.bipush (-101), 2) := by decide +kernel
theorem dX5_measure_22 : decode cX5_measure 22 = .ok (.ireturn, 1) := by decide +kernel
theorem dX5_measure_23 : decode cX5_measure 23 = .ok (.aload_n 0, 1) := by decide +kernel
theorem dX5_measure_24 : decode cX5_measure 24 = .ok (.getfield 19, 3) := by decide +kernel
theorem dX5_measure_27 : decode cX5_measure 27 = .ok (.aload_n 0, 1) := by decide +kernel
theorem dX5_measure_28 : decode cX5_measure 28 = .ok (.getfield 19, 3) := by decide +kernel
theorem dX5_measure_31 : decode cX5_measure 31 = .ok (.getfield 114, 3) := by decide +kernel
theorem dX5_measure_34 : decode cX5_measure 34 = .ok (.iload_n 3, 1) := by decide +kernel
theorem dX5_measure_35 : decode cX5_measure 35 = .ok (.iaload, 1) := by decide +kernel
theorem dX5_measure_36 : decode cX5_measure 36 = .ok (.iload_n 1, 1) := by decide +kernel
theorem dX5_measure_37 : decode cX5_measure 37 = .ok (.aload_n 0, 1) := by decide +kernel
theorem dX5_measure_38 : decode cX5_measure 38 = .ok (.getfield 19, 3) := by decide +kernel
theorem dX5_measure_41 : decode cX5_measure 41 = .ok (.getfield 117, 3) := by decide +kernel
theorem dX5_measure_44 : decode cX5_measure 44 = .ok (.invokevirtual 120, 3) := by decide +kernel
theorem dX5_measure_47 : decode cX5_measure 47 = .ok (.ireturn, 1) := by decide +kernel
set_option maxRecDepth 20000 in
theorem ggX5_buy_X5_canTrade : GoodIn wsX5_buy wsX5_canTrade := goodIn_r _ [7, 1, 8, 9, 10, 11, 12, 13, 40, 41, 42, 43, 44, 45, 46, 47, 48, 49, 50, 51, 52, 53, 54, 55, 56, 57, 58, 59, 60] (by decide +kernel) (by decide +kernel)
set_option maxRecDepth 20000 in
theorem gX5_buy_X5_canTrade : GoodIn wsX5_buy (wsV RX5 111 RX5 yX5_canTrade wsX5_canTrade) := goodIn_app (goodIn_of _ (by decide +kernel)) ggX5_buy_X5_canTrade
set_option maxRecDepth 20000 in
theorem ggX5_buy_X2_has : GoodIn wsX5_buy wsX2_has := goodIn_r _ [12, 13, 50, 51, 52, 53, 54, 55, 56, 57, 58, 59, 60] (by decide +kernel) (by decide +kernel)
set_option maxRecDepth 20000 in
theorem gX5_buy_X2_has : GoodIn wsX5_buy (wsV RX5 89 RX2 yX2_has wsX2_has) := goodIn_app (goodIn_of _ (by decide +kernel)) ggX5_buy_X2_has
set_option maxRecDepth 20000 in
theorem ggX5_buy_X2_sell : GoodIn wsX5_buy wsX2_sell := goodIn_r _ [17, 18, 19, 20, 21, 22, 23, 24, 25, 26, 27, 28, 11, 29, 30, 31, 32, 33, 34, 35, 36, 37, 38, 39, 50, 51, 52, 53, 54, 55, 56, 57, 58, 59, 60] (by decide +kernel) (by decide +kernel)
set_option maxRecDepth 20000 in
theorem gX5_buy_X2_sell : GoodIn wsX5_buy (wsV RX5 127 RX2 yX2_sell wsX2_sell) := goodIn_app (goodIn_of _ (by decide +kernel)) ggX5_buy_X2_sell
theorem dX5_buy_0 : decode cX5_buy 0 = .ok (.aload_n 0, 1) := by decide +kernel
theorem dX5_buy_1 : decode cX5_buy 1 = .ok (.iload_n 1, 1) := by decide +kernel
theorem dX5_buy_2 : decode cX5_buy 2 = .ok (.iload_n 2, 1) := by decide +kernel
theorem dX5_buy_3 : decode cX5_buy 3 = .ok (.invokevirtual 111, 3) := by decide +kernel
theorem dX5_buy_6 : decode cX5_buy 6 = .ok (.ifCond .eq 14, 3) := by decide +kernel
theorem dX5_buy_9 : decode cX5_buy 9 = .ok (.aload_n 0, 1) := by decide +kernel
theorem dX5_buy_10 : decode cX5_buy 10 = .ok (.getfield 19, 3) := by decide +kernel
theorem dX5_buy_13 : decode cX5_buy 13 = .ok (.iload_n 3, 1) := by decide +kernel
theorem dX5_buy_14 : decode cX5_buy 14 = .ok (.invokevirtual 89, 3) := by decide +kernel
theorem dX5_buy_17 : decode cX5_buy 17 = .ok (.ifCond .ne 6, 3) := by decide +kernel
theorem dX5_buy_20 : decode cX5_buy 20 = .ok (.bipush (-101), 2) := by decide +kernel
theorem dX5_buy_22 : decode cX5_buy 22 = .ok (.ireturn, 1) := by decide +kernel
theorem dX5_buy_23 : decode cX5_buy 23 = .ok (.aload_n 0, 1) := by decide +kernel
theorem dX5_buy_24 : decode cX5_buy 24 = .ok (.getfield 19, 3) := by decide +kernel
theorem dX5_buy_27 : decode cX5_buy 27 = .ok (.getfield 124, 3) := by decide +kernel
theorem dX5_buy_30 : decode cX5_buy 30 = .ok (.bipush 100, 2) := by decide +kernel
theorem dX5_buy_32 : decode cX5_buy 32 = .ok (.if_icmp .lt 6, 3) := by decide +kernel
theorem dX5_buy_35 : decode cX5_buy 35 = .ok (.bipush (-104), 2) := by decide +kernel
theorem dX5_buy_37 : decode cX5_buy 37 = .ok (.ireturn, 1) := by decide +kernel
theorem dX5_buy_38 : decode cX5_buy 38 = .ok (.aload_n 0, 1) := by decide +kernel
theorem dX5_buy_39 : decode cX5_buy 39 = .ok (.getfield 19, 3) := by decide +kernel
theorem dX5_buy_42 : decode cX5_buy 42 = .ok (.iload_n 1, 1) := by decide +kernel
theorem dX5_buy_43 : decode cX5_buy 43 = .ok (.iload_n 2, 1) := by decide +kernel
theorem dX5_buy_44 : decode cX5_buy 44 = .ok (.iload_n 3, 1) := by decide +kernel
theorem dX5_buy_45 : decode cX5_buy 45 = .ok (.invokevirtual 127, 3) := by decide +kernel
theorem dX5_buy_48 : decode cX5_buy 48 = .ok (.ireturn, 1) := by decide +kernel
set_option maxRecDepth 20000 in
theorem ggX5_hour_X2_isOpen : GoodIn wsX5_hour wsX2_isOpen := goodIn_r _ [7, 8, 19, 20, 21, 22, 23, 24, 25, 26, 27, 28, 29] (by decide +kernel) (by decide +kernel)
set_option maxRecDepth 20000 in
theorem gX5_hour_X2_isOpen : GoodIn wsX5_hour (wsV RX5 130 RX2 yX2_isOpen wsX2_isOpen) := goodIn_app (goodIn_of _ (by decide +kernel)) ggX5_hour_X2_isOpen
theorem dX5_hour_0 : decode cX5_hour 0 = .ok (.aload_n 0, 1) := by decide +kernel
theorem dX5_hour_1 : decode cX5_hour 1 = .ok (.getfield 19, 3) := by decide +kernel
theorem dX5_hour_4 : decode cX5_hour 4 = .ok (.invokevirtual 130, 3) := by decide +kernel
theorem dX5_hour_7 : decode cX5_hour 7 = .ok (.ifCond .ne 6, 3) := by decide +kernel
theorem dX5_hour_10 : decode cX5_hour 10 = .ok (.bipush (-103), 2) := by decide +kernel
theorem dX5_hour_12 : decode cX5_hour 12 = .ok (.ireturn, 1) := by decide +kernel
theorem dX5_hour_13 : decode cX5_hour 13 = .ok (.aload_n 0, 1) := by decide +kernel
theorem dX5_hour_14 : decode cX5_hour 14 = .ok (.getfield 19, 3) := by decide +kernel
theorem dX5_hour_17 : decode cX5_hour 17 = .ok (.dup, 1) := by decide +kernel
theorem dX5_hour_18 : decode cX5_hour 18 = .ok (.getfield 117, 3) := by decide +kernel
theorem dX5_hour_21 : decode cX5_hour 21 = .ok (.iconst 1, 1) := by decide +kernel
theorem dX5_hour_22 : decode cX5_hour 22 = .ok (.iadd, 1) := by decide +kernel
theorem dX5_hour_23 : decode cX5_hour 23 = .ok (.putfield 117, 3) := by decide +kernel
theorem dX5_hour_26 : decode cX5_hour 26 = .ok (.aload_n 0, 1) := by decide +kernel
theorem dX5_hour_27 : decode cX5_hour 27 = .ok (.getfield 19, 3) := by decide +kernel
theorem dX5_hour_30 : decode cX5_hour 30 = .ok (.getfield 117, 3) := by decide +kernel
theorem dX5_hour_33 : decode cX5_hour 33 = .ok (.ireturn, 1) := by decide +kernel
set_option maxRecDepth 20000 in
theorem ggX5_plan_X2_has : GoodIn wsX5_plan wsX2_has := goodIn_r _ [8, 9, 77, 78, 79, 80, 81, 82, 83, 84, 85, 86, 87] (by decide +kernel) (by decide +kernel)
set_option maxRecDepth 20000 in
theorem gX5_plan_X2_has : GoodIn wsX5_plan (wsV RX5 89 RX2 yX2_has wsX2_has) := goodIn_app (goodIn_of _ (by decide +kernel)) ggX5_plan_X2_has
set_option maxRecDepth 20000 in
theorem ggX5_plan_X5_isPlanQuestion : GoodIn wsX5_plan wsX5_isPlanQuestion := goodIn_r _ [13] (by decide +kernel) (by decide +kernel)
set_option maxRecDepth 20000 in
theorem gX5_plan_X5_isPlanQuestion : GoodIn wsX5_plan (va_wsS RX5 133 yX5_isPlanQuestion wsX5_isPlanQuestion) := goodIn_app (goodIn_of _ (by decide +kernel)) ggX5_plan_X5_isPlanQuestion
set_option maxRecDepth 20000 in
theorem ggX5_plan_X4_seek : GoodIn wsX5_plan wsX4_seek := goodIn_r _ [18, 19, 20, 21, 22, 23, 24, 25, 12, 26, 27, 28, 29, 30, 31, 32, 33, 17, 34, 35, 36, 37, 38, 39, 40, 41, 42, 43, 44, 45, 7, 46, 47, 48, 49, 50, 51, 52, 53, 54, 55, 56, 57, 58, 59, 60, 61, 62, 77, 78, 79, 80, 81, 82, 83, 84, 85, 86, 87, 88, 89, 90, 91, 92, 93, 94] (by decide +kernel) (by decide +kernel)
set_option maxRecDepth 20000 in
theorem gX5_plan_X4_seek : GoodIn wsX5_plan (wsV RX5 136 RX4 yX4_seek wsX4_seek) := goodIn_app (goodIn_of _ (by decide +kernel)) ggX5_plan_X4_seek
set_option maxRecDepth 20000 in
theorem ggX5_plan_X4_tell : GoodIn wsX5_plan wsX4_tell := goodIn_r _ [66, 21, 22, 57, 88, 89, 90, 91, 92, 93, 94] (by decide +kernel) (by decide +kernel)
set_option maxRecDepth 20000 in
theorem gX5_plan_X4_tell : GoodIn wsX5_plan (wsV RX5 140 RX4 yX4_tell wsX4_tell) := goodIn_app (goodIn_of _ (by decide +kernel)) ggX5_plan_X4_tell
theorem dX5_plan_0 : decode cX5_plan 0 = .ok (.aload_n 0, 1) := by decide +kernel
theorem dX5_plan_1 : decode cX5_plan 1 = .ok (.getfield 19, 3) := by decide +kernel
theorem dX5_plan_4 : decode cX5_plan 4 = .ok (.iload_n 1, 1) := by decide +kernel
theorem dX5_plan_5 : decode cX5_plan 5 = .ok (.invokevirtual 89, 3) := by decide +kernel
theorem dX5_plan_8 : decode cX5_plan 8 = .ok (.ifCond .ne 6, 3) := by decide +kernel
theorem dX5_plan_11 : decode cX5_plan 11 = .ok (.bipush (-101), 2) := by decide +kernel
theorem dX5_plan_13 : decode cX5_plan 13 = .ok (.ireturn, 1) := by decide +kernel
theorem dX5_plan_14 : decode cX5_plan 14 = .ok (.iload_n 2, 1) := by decide +kernel
theorem dX5_plan_15 : decode cX5_plan 15 = .ok (.iconst 1, 1) := by decide +kernel
theorem dX5_plan_16 : decode cX5_plan 16 = .ok (.if_icmp .lt 16, 3) := by decide +kernel
theorem dX5_plan_19 : decode cX5_plan 19 = .ok (.iload_n 2, 1) := by decide +kernel
theorem dX5_plan_20 : decode cX5_plan 20 = .ok (.bipush 60, 2) := by decide +kernel
theorem dX5_plan_22 : decode cX5_plan 22 = .ok (.if_icmp .gt 10, 3) := by decide +kernel
theorem dX5_plan_25 : decode cX5_plan 25 = .ok (.iload_n 3, 1) := by decide +kernel
theorem dX5_plan_26 : decode cX5_plan 26 = .ok (.invokestatic 133, 3) := by decide +kernel
theorem dX5_plan_29 : decode cX5_plan 29 = .ok (.ifCond .ne 6, 3) := by decide +kernel
theorem dX5_plan_32 : decode cX5_plan 32 = .ok (.bipush (-102), 2) := by decide +kernel
theorem dX5_plan_34 : decode cX5_plan 34 = .ok (.ireturn, 1) := by decide +kernel
theorem dX5_plan_35 : decode cX5_plan 35 = .ok (.aload_n 0, 1) := by decide +kernel
theorem dX5_plan_36 : decode cX5_plan 36 = .ok (.getfield 58, 3) := by decide +kernel
theorem dX5_plan_39 : decode cX5_plan 39 = .ok (.bipush 40, 2) := by decide +kernel
theorem dX5_plan_41 : decode cX5_plan 41 = .ok (.if_icmp .lt 6, 3) := by decide +kernel
theorem dX5_plan_44 : decode cX5_plan 44 = .ok (.bipush (-103), 2) := by decide +kernel
theorem dX5_plan_46 : decode cX5_plan 46 = .ok (.ireturn, 1) := by decide +kernel
theorem dX5_plan_47 : decode cX5_plan 47 = .ok (.aload_n 0, 1) := by decide +kernel
theorem dX5_plan_48 : decode cX5_plan 48 = .ok (.dup, 1) := by decide +kernel
theorem dX5_plan_49 : decode cX5_plan 49 = .ok (.getfield 58, 3) := by decide +kernel
theorem dX5_plan_52 : decode cX5_plan 52 = .ok (.iconst 1, 1) := by decide +kernel
theorem dX5_plan_53 : decode cX5_plan 53 = .ok (.iadd, 1) := by decide +kernel
theorem dX5_plan_54 : decode cX5_plan 54 = .ok (.putfield 58, 3) := by decide +kernel
theorem dX5_plan_57 : decode cX5_plan 57 = .ok (.aload_n 0, 1) := by decide +kernel
theorem dX5_plan_58 : decode cX5_plan 58 = .ok (.getfield 39, 3) := by decide +kernel
theorem dX5_plan_61 : decode cX5_plan 61 = .ok (.aload_n 0, 1) := by decide +kernel
theorem dX5_plan_62 : decode cX5_plan 62 = .ok (.getfield 19, 3) := by decide +kernel
theorem dX5_plan_65 : decode cX5_plan 65 = .ok (.iload_n 1, 1) := by decide +kernel
theorem dX5_plan_66 : decode cX5_plan 66 = .ok (.iload_n 2, 1) := by decide +kernel
theorem dX5_plan_67 : decode cX5_plan 67 = .ok (.invokevirtual 136, 3) := by decide +kernel
theorem dX5_plan_70 : decode cX5_plan 70 = .ok (.aload_n 0, 1) := by decide +kernel
theorem dX5_plan_71 : decode cX5_plan 71 = .ok (.getfield 39, 3) := by decide +kernel
theorem dX5_plan_74 : decode cX5_plan 74 = .ok (.iload_n 3, 1) := by decide +kernel
theorem dX5_plan_75 : decode cX5_plan 75 = .ok (.invokevirtual 140, 3) := by decide +kernel
theorem dX5_plan_78 : decode cX5_plan 78 = .ok (.ireturn, 1) := by decide +kernel
set_option maxRecDepth 20000 in
theorem ggX5_fair_X5_canTrade : GoodIn wsX5_fair wsX5_canTrade := goodIn_r _ [6, 1, 7, 8, 9, 10, 11, 12, 30, 31, 32, 33, 34, 35, 36, 37, 38, 39, 40, 41, 42, 43, 44, 45, 46, 47, 48, 49, 50] (by decide +kernel) (by decide +kernel)
set_option maxRecDepth 20000 in
theorem gX5_fair_X5_canTrade : GoodIn wsX5_fair (wsV RX5 111 RX5 yX5_canTrade wsX5_canTrade) := goodIn_app (goodIn_of _ (by decide +kernel)) ggX5_fair_X5_canTrade
set_option maxRecDepth 20000 in
theorem ggX5_fair_X2_isFair : GoodIn wsX5_fair wsX2_isFair := goodIn_r _ [16, 17, 18, 12, 19, 20, 21, 22, 10, 23, 24, 25, 26, 27, 28, 29, 40, 41, 42, 43, 44, 45, 46, 47, 48, 49, 50] (by decide +kernel) (by decide +kernel)
set_option maxRecDepth 20000 in
theorem gX5_fair_X2_isFair : GoodIn wsX5_fair (wsV RX5 143 RX2 yX2_isFair wsX2_isFair) := goodIn_app (goodIn_of _ (by decide +kernel)) ggX5_fair_X2_isFair
theorem dX5_fair_0 : decode cX5_fair 0 = .ok (.aload_n 0, 1) := by decide +kernel
theorem dX5_fair_1 : decode cX5_fair 1 = .ok (.iload_n 2, 1) := by decide +kernel
theorem dX5_fair_2 : decode cX5_fair 2 = .ok (.iload_n 1, 1) := by decide +kernel
theorem dX5_fair_3 : decode cX5_fair 3 = .ok (.invokevirtual 111, 3) := by decide +kernel
theorem dX5_fair_6 : decode cX5_fair 6 = .ok (.ifCond .ne 6, 3) := by decide +kernel
theorem dX5_fair_9 : decode cX5_fair 9 = .ok (.bipush (-101), 2) := by decide +kernel
theorem dX5_fair_11 : decode cX5_fair 11 = .ok (.ireturn, 1) := by decide +kernel
theorem dX5_fair_12 : decode cX5_fair 12 = .ok (.aload_n 0, 1) := by decide +kernel
theorem dX5_fair_13 : decode cX5_fair 13 = .ok (.getfield 19, 3) := by decide +kernel
theorem dX5_fair_16 : decode cX5_fair 16 = .ok (.iload_n 1, 1) := by decide +kernel
theorem dX5_fair_17 : decode cX5_fair 17 = .ok (.iload_n 2, 1) := by decide +kernel
theorem dX5_fair_18 : decode cX5_fair 18 = .ok (.invokevirtual 143, 3) := by decide +kernel
theorem dX5_fair_21 : decode cX5_fair 21 = .ok (.ifCond .eq 7, 3) := by decide +kernel
theorem dX5_fair_24 : decode cX5_fair 24 = .ok (.iconst 1, 1) := by decide +kernel
theorem dX5_fair_25 : decode cX5_fair 25 = .ok (.goto 4, 3) := by decide +kernel
theorem dX5_fair_28 : decode cX5_fair 28 = .ok (.iconst 0, 1) := by decide +kernel
theorem dX5_fair_29 : decode cX5_fair 29 = .ok (.ireturn, 1) := by decide +kernel
set_option maxRecDepth 20000 in
theorem ggX5_pass_X2_has : GoodIn wsX5_pass wsX2_has := goodIn_r _ [8, 9, 30, 31, 32, 33, 34, 35, 36, 37, 38, 39, 40] (by decide +kernel) (by decide +kernel)
set_option maxRecDepth 20000 in
theorem gX5_pass_X2_has : GoodIn wsX5_pass (wsV RX5 89 RX2 yX2_has wsX2_has) := goodIn_app (goodIn_of _ (by decide +kernel)) ggX5_pass_X2_has
set_option maxRecDepth 20000 in
theorem ggX5_pass_X1_add : GoodIn wsX5_pass wsX1_add := goodIn_r _ [14, 15, 16, 27, 28, 29] (by decide +kernel) (by decide +kernel)
set_option maxRecDepth 20000 in
theorem gX5_pass_X1_add : GoodIn wsX5_pass (wsV RX5 149 RX1 yX1_add wsX1_add) := goodIn_app (goodIn_of _ (by decide +kernel)) ggX5_pass_X1_add
theorem dX5_pass_0 : decode cX5_pass 0 = .ok (.aload_n 0, 1) := by decide +kernel
theorem dX5_pass_1 : decode cX5_pass 1 = .ok (.getfield 19, 3) := by decide +kernel
theorem dX5_pass_4 : decode cX5_pass 4 = .ok (.iload_n 1, 1) := by decide +kernel
theorem dX5_pass_5 : decode cX5_pass 5 = .ok (.invokevirtual 89, 3) := by decide +kernel
theorem dX5_pass_8 : decode cX5_pass 8 = .ok (.ifCond .ne 6, 3) := by decide +kernel
theorem dX5_pass_11 : decode cX5_pass 11 = .ok (.bipush (-101), 2) := by decide +kernel
theorem dX5_pass_13 : decode cX5_pass 13 = .ok (.ireturn, 1) := by decide +kernel
theorem dX5_pass_14 : decode cX5_pass 14 = .ok (.aload_n 0, 1) := by decide +kernel
theorem dX5_pass_15 : decode cX5_pass 15 = .ok (.getfield 26, 3) := by decide +kernel
theorem dX5_pass_18 : decode cX5_pass 18 = .ok (.getfield 146, 3) := by decide +kernel
theorem dX5_pass_21 : decode cX5_pass 21 = .ok (.bipush 8, 2) := by decide +kernel
theorem dX5_pass_23 : decode cX5_pass 23 = .ok (.if_icmp .lt 6, 3) := by decide +kernel
theorem dX5_pass_26 : decode cX5_pass 26 = .ok (.bipush (-104), 2) := by decide +kernel
theorem dX5_pass_28 : decode cX5_pass 28 = .ok (.ireturn, 1) := by decide +kernel
theorem dX5_pass_29 : decode cX5_pass 29 = .ok (.aload_n 0, 1) := by decide +kernel
theorem dX5_pass_30 : decode cX5_pass 30 = .ok (.getfield 26, 3) := by decide +kernel
theorem dX5_pass_33 : decode cX5_pass 33 = .ok (.iload_n 1, 1) := by decide +kernel
theorem dX5_pass_34 : decode cX5_pass 34 = .ok (.invokevirtual 149, 3) := by decide +kernel
theorem dX5_pass_37 : decode cX5_pass 37 = .ok (.aload_n 0, 1) := by decide +kernel
theorem dX5_pass_38 : decode cX5_pass 38 = .ok (.getfield 26, 3) := by decide +kernel
theorem dX5_pass_41 : decode cX5_pass 41 = .ok (.getfield 146, 3) := by decide +kernel
theorem dX5_pass_44 : decode cX5_pass 44 = .ok (.ireturn, 1) := by decide +kernel
theorem dX5_lose_0 : decode cX5_lose 0 = .ok (.iload_n 1, 1) := by decide +kernel
theorem dX5_lose_1 : decode cX5_lose 1 = .ok (.ifCond .lt 9, 3) := by decide +kernel
theorem dX5_lose_4 : decode cX5_lose 4 = .ok (.iload_n 1, 1) := by decide +kernel
theorem dX5_lose_5 : decode cX5_lose 5 = .ok (.bipush 20, 2) := by decide +kernel
theorem dX5_lose_7 : decode cX5_lose 7 = .ok (.if_icmp .le 6, 3) := by decide +kernel
theorem dX5_lose_10 : decode cX5_lose 10 = .ok (.bipush (-102), 2) := by decide +kernel
theorem dX5_lose_12 : decode cX5_lose 12 = .ok (.ireturn, 1) := by decide +kernel
theorem dX5_lose_13 : decode cX5_lose 13 = .ok (.aload_n 0, 1) := by decide +kernel
theorem dX5_lose_14 : decode cX5_lose 14 = .ok (.getfield 26, 3) := by decide +kernel
theorem dX5_lose_17 : decode cX5_lose 17 = .ok (.getfield 152, 3) := by decide +kernel
theorem dX5_lose_20 : decode cX5_lose 20 = .ok (.istore_n 2, 1) := by decide +kernel
theorem dX5_lose_21 : decode cX5_lose 21 = .ok (.aload_n 0, 1) := by decide +kernel
theorem dX5_lose_22 : decode cX5_lose 22 = .ok (.getfield 26, 3) := by decide +kernel
theorem dX5_lose_25 : decode cX5_lose 25 = .ok (.iload_n 1, 1) := by decide +kernel
theorem dX5_lose_26 : decode cX5_lose 26 = .ok (.putfield 152, 3) := by decide +kernel
theorem dX5_lose_29 : decode cX5_lose 29 = .ok (.iload_n 2, 1) := by decide +kernel
theorem dX5_lose_30 : decode cX5_lose 30 = .ok (.ireturn, 1) := by decide +kernel
set_option maxRecDepth 20000 in
theorem ggX5_clear_X1_forget : GoodIn wsX5_clear wsX1_forget := goodIn_r _ [7, 8, 9, 10, 21, 22, 23] (by decide +kernel) (by decide +kernel)
set_option maxRecDepth 20000 in
theorem gX5_clear_X1_forget : GoodIn wsX5_clear (wsV RX5 83 RX1 yX1_forget wsX1_forget) := goodIn_app (goodIn_of _ (by decide +kernel)) ggX5_clear_X1_forget
theorem dX5_clear_0 : decode cX5_clear 0 = .ok (.aload_n 0, 1) := by decide +kernel
theorem dX5_clear_1 : decode cX5_clear 1 = .ok (.getfield 26, 3) := by decide +kernel
theorem dX5_clear_4 : decode cX5_clear 4 = .ok (.getfield 146, 3) := by decide +kernel
theorem dX5_clear_7 : decode cX5_clear 7 = .ok (.istore_n 1, 1) := by decide +kernel
theorem dX5_clear_8 : decode cX5_clear 8 = .ok (.aload_n 0, 1) := by decide +kernel
theorem dX5_clear_9 : decode cX5_clear 9 = .ok (.getfield 26, 3) := by decide +kernel
theorem dX5_clear_12 : decode cX5_clear 12 = .ok (.invokevirtual 83, 3) := by decide +kernel
theorem dX5_clear_15 : decode cX5_clear 15 = .ok (.iload_n 1, 1) := by decide +kernel
theorem dX5_clear_16 : decode cX5_clear 16 = .ok (.ireturn, 1) := by decide +kernel
set_option maxRecDepth 20000 in
theorem ggX5_rubbed_X2_isOpen : GoodIn wsX5_rubbed wsX2_isOpen := goodIn_r _ [8, 9, 43, 44, 45, 46, 47, 48, 49, 50, 51, 52, 53] (by decide +kernel) (by decide +kernel)
set_option maxRecDepth 20000 in
theorem gX5_rubbed_X2_isOpen : GoodIn wsX5_rubbed (wsV RX5 130 RX2 yX2_isOpen wsX2_isOpen) := goodIn_app (goodIn_of _ (by decide +kernel)) ggX5_rubbed_X2_isOpen
set_option maxRecDepth 20000 in
theorem ggX5_rubbed_X1_howManySets : GoodIn wsX5_rubbed wsX1_howManySets := goodIn_r _ [14, 15, 16, 17, 13, 18, 19, 20, 21, 22, 23, 24, 54, 55, 56] (by decide +kernel) (by decide +kernel)
set_option maxRecDepth 20000 in
theorem gX5_rubbed_X1_howManySets : GoodIn wsX5_rubbed (wsV RX5 155 RX1 yX1_howManySets wsX1_howManySets) := goodIn_app (goodIn_of _ (by decide +kernel)) ggX5_rubbed_X1_howManySets
set_option maxRecDepth 20000 in
theorem ggX5_rubbed_X1_leastSet : GoodIn wsX5_rubbed wsX1_leastSet := goodIn_r _ [28, 19, 20, 21, 13, 22, 23, 24, 54, 55, 56] (by decide +kernel) (by decide +kernel)
set_option maxRecDepth 20000 in
theorem gX5_rubbed_X1_leastSet : GoodIn wsX5_rubbed (wsV RX5 158 RX1 yX1_leastSet wsX1_leastSet) := goodIn_app (goodIn_of _ (by decide +kernel)) ggX5_rubbed_X1_leastSet
set_option maxRecDepth 20000 in
theorem ggX5_rubbed_X1_inAllSets : GoodIn wsX5_rubbed wsX1_inAllSets := goodIn_r _ [32, 19, 20, 21, 13, 22, 23, 24, 54, 55, 56] (by decide +kernel) (by decide +kernel)
set_option maxRecDepth 20000 in
theorem gX5_rubbed_X1_inAllSets : GoodIn wsX5_rubbed (wsV RX5 161 RX1 yX1_inAllSets wsX1_inAllSets) := goodIn_app (goodIn_of _ (by decide +kernel)) ggX5_rubbed_X1_inAllSets
theorem dX5_rubbed_0 : decode cX5_rubbed 0 = .ok (.iload_n 1, 1) := by decide +kernel
theorem dX5_rubbed_1 : decode cX5_rubbed 1 = .ok (.ifCond .lt 8, 3) := by decide +kernel
theorem dX5_rubbed_4 : decode cX5_rubbed 4 = .ok (.iload_n 1, 1) := by decide +kernel
theorem dX5_rubbed_5 : decode cX5_rubbed 5 = .ok (.iconst 2, 1) := by decide +kernel
theorem dX5_rubbed_6 : decode cX5_rubbed 6 = .ok (.if_icmp .le 6, 3) := by decide +kernel
theorem dX5_rubbed_9 : decode cX5_rubbed 9 = .ok (.bipush (-102), 2) := by decide +kernel
theorem dX5_rubbed_11 : decode cX5_rubbed 11 = .ok (.ireturn, 1) := by decide +kernel
theorem dX5_rubbed_12 : decode cX5_rubbed 12 = .ok (.aload_n 0, 1) := by decide +kernel
theorem dX5_rubbed_13 : decode cX5_rubbed 13 = .ok (.getfield 19, 3) := by decide +kernel
theorem dX5_rubbed_16 : decode cX5_rubbed 16 = .ok (.invokevirtual 130, 3) := by decide +kernel
theorem dX5_rubbed_19 : decode cX5_rubbed 19 = .ok (.ifCond .ne 6, 3) := by decide +kernel
theorem dX5_rubbed_22 : decode cX5_rubbed 22 = .ok (.bipush (-103), 2) := by decide +kernel
theorem dX5_rubbed_24 : decode cX5_rubbed 24 = .ok (.ireturn, 1) := by decide +kernel
theorem dX5_rubbed_25 : decode cX5_rubbed 25 = .ok (.iload_n 1, 1) := by decide +kernel
theorem dX5_rubbed_26 : decode cX5_rubbed 26 = .ok (.ifCond .ne 18, 3) := by decide +kernel
theorem dX5_rubbed_29 : decode cX5_rubbed 29 = .ok (.aload_n 0, 1) := by decide +kernel
theorem dX5_rubbed_30 : decode cX5_rubbed 30 = .ok (.getfield 26, 3) := by decide +kernel
theorem dX5_rubbed_33 : decode cX5_rubbed 33 = .ok (.aload_n 0, 1) := by decide +kernel
theorem dX5_rubbed_34 : decode cX5_rubbed 34 = .ok (.getfield 19, 3) := by decide +kernel
theorem dX5_rubbed_37 : decode cX5_rubbed 37 = .ok (.getfield 86, 3) := by decide +kernel
theorem dX5_rubbed_40 : decode cX5_rubbed 40 = .ok (.invokevirtual 155, 3) := by decide +kernel
theorem dX5_rubbed_43 : decode cX5_rubbed 43 = .ok (.ireturn, 1) := by decide +kernel
theorem dX5_rubbed_44 : decode cX5_rubbed 44 = .ok (.iload_n 1, 1) := by decide +kernel
theorem dX5_rubbed_45 : decode cX5_rubbed 45 = .ok (.iconst 1, 1) := by decide +kernel
theorem dX5_rubbed_46 : decode cX5_rubbed 46 = .ok (.if_icmp .ne 20, 3) := by decide +kernel
theorem dX5_rubbed_49 : decode cX5_rubbed 49 = .ok (.aload_n 0, 1) := by decide +kernel
theorem dX5_rubbed_50 : decode cX5_rubbed 50 = .ok (.getfield 26, 3) := by decide +kernel
theorem dX5_rubbed_53 : decode cX5_rubbed 53 = .ok (.aload_n 0, 1) := by decide +kernel
theorem dX5_rubbed_54 : decode cX5_rubbed 54 = .ok (.getfield 19, 3) := by decide +kernel
theorem dX5_rubbed_57 : decode cX5_rubbed 57 = .ok (.getfield 86, 3) := by decide +kernel
theorem dX5_rubbed_60 : decode cX5_rubbed 60 = .ok (.invokevirtual 158, 3) := by decide +kernel
theorem dX5_rubbed_63 : decode cX5_rubbed 63 = .ok (.goto 17, 3) := by decide +kernel
theorem dX5_rubbed_66 : decode cX5_rubbed 66 = .ok (.aload_n 0, 1) := by decide +kernel
theorem dX5_rubbed_67 : decode cX5_rubbed 67 = .ok (.getfield 26, 3) := by decide +kernel
theorem dX5_rubbed_70 : decode cX5_rubbed 70 = .ok (.aload_n 0, 1) := by decide +kernel
theorem dX5_rubbed_71 : decode cX5_rubbed 71 = .ok (.getfield 19, 3) := by decide +kernel
theorem dX5_rubbed_74 : decode cX5_rubbed 74 = .ok (.getfield 86, 3) := by decide +kernel
theorem dX5_rubbed_77 : decode cX5_rubbed 77 = .ok (.invokevirtual 161, 3) := by decide +kernel
theorem dX5_rubbed_80 : decode cX5_rubbed 80 = .ok (.ireturn, 1) := by decide +kernel
set_option maxRecDepth 20000 in
theorem ggX5_watch_X2_isOpen : GoodIn wsX5_watch wsX2_isOpen := goodIn_r _ [8, 9, 43, 44, 45, 46, 47, 48, 49, 50, 51, 52, 53] (by decide +kernel) (by decide +kernel)
set_option maxRecDepth 20000 in
theorem gX5_watch_X2_isOpen : GoodIn wsX5_watch (wsV RX5 130 RX2 yX2_isOpen wsX2_isOpen) := goodIn_app (goodIn_of _ (by decide +kernel)) ggX5_watch_X2_isOpen
set_option maxRecDepth 20000 in
theorem ggX5_watch_X1_houseToWatch : GoodIn wsX5_watch wsX1_houseToWatch := goodIn_r _ [14, 15, 16, 17, 18, 19, 20, 21, 13, 22, 23, 24, 25, 26, 27, 28, 29, 30, 31, 32, 54, 55, 56] (by decide +kernel) (by decide +kernel)
set_option maxRecDepth 20000 in
theorem gX5_watch_X1_houseToWatch : GoodIn wsX5_watch (wsV RX5 164 RX1 yX1_houseToWatch wsX1_houseToWatch) := goodIn_app (goodIn_of _ (by decide +kernel)) ggX5_watch_X1_houseToWatch
theorem dX5_watch_0 : decode cX5_watch 0 = .ok (.aload_n 0, 1) := by decide +kernel
theorem dX5_watch_1 : decode cX5_watch 1 = .ok (.getfield 19, 3) := by decide +kernel
theorem dX5_watch_4 : decode cX5_watch 4 = .ok (.invokevirtual 130, 3) := by decide +kernel
theorem dX5_watch_7 : decode cX5_watch 7 = .ok (.ifCond .ne 6, 3) := by decide +kernel
theorem dX5_watch_10 : decode cX5_watch 10 = .ok (.bipush (-103), 2) := by decide +kernel
theorem dX5_watch_12 : decode cX5_watch 12 = .ok (.ireturn, 1) := by decide +kernel
theorem dX5_watch_13 : decode cX5_watch 13 = .ok (.aload_n 0, 1) := by decide +kernel
theorem dX5_watch_14 : decode cX5_watch 14 = .ok (.getfield 26, 3) := by decide +kernel
theorem dX5_watch_17 : decode cX5_watch 17 = .ok (.aload_n 0, 1) := by decide +kernel
theorem dX5_watch_18 : decode cX5_watch 18 = .ok (.getfield 19, 3) := by decide +kernel
theorem dX5_watch_21 : decode cX5_watch 21 = .ok (.getfield 86, 3) := by decide +kernel
theorem dX5_watch_24 : decode cX5_watch 24 = .ok (.invokevirtual 164, 3) := by decide +kernel
theorem dX5_watch_27 : decode cX5_watch 27 = .ok (.ireturn, 1) := by decide +kernel
set_option maxRecDepth 20000 in
theorem ggX5_markets_X2_isOpen : GoodIn wsX5_markets wsX2_isOpen := goodIn_r _ [10, 11, 73, 74, 75, 76, 77, 78, 79, 80, 81, 82, 83] (by decide +kernel) (by decide +kernel)
set_option maxRecDepth 20000 in
theorem gX5_markets_X2_isOpen : GoodIn wsX5_markets (wsV RX5 130 RX2 yX2_isOpen wsX2_isOpen) := goodIn_app (goodIn_of _ (by decide +kernel)) ggX5_markets_X2_isOpen
set_option maxRecDepth 20000 in
theorem ggX5_markets_X0_run : GoodIn wsX5_markets wsX0_run := goodIn_r _ [16, 17, 18, 19, 20, 21, 22, 23, 24, 25, 26, 27, 28, 29, 30, 31, 15, 32, 33, 34, 35, 36, 37, 38, 39, 40, 41, 42, 43, 44, 9, 45, 46, 47, 48, 49, 50, 51, 52, 53, 54, 55, 73, 74, 75, 76, 77, 78, 79, 80, 81, 82, 83, 70, 71, 72] (by decide +kernel) (by decide +kernel)
set_option maxRecDepth 20000 in
theorem gX5_markets_X0_run : GoodIn wsX5_markets (wsV RX5 167 RX0 yX0_run wsX0_run) := goodIn_app (goodIn_of _ (by decide +kernel)) ggX5_markets_X0_run
set_option maxRecDepth 20000 in
theorem ggX5_markets_X2_sum : GoodIn wsX5_markets wsX2_sum := goodIn_r _ [59, 11, 73, 74, 75, 76, 77, 78, 79, 80, 81, 82, 83] (by decide +kernel) (by decide +kernel)
set_option maxRecDepth 20000 in
theorem gX5_markets_X2_sum : GoodIn wsX5_markets (wsV RX5 174 RX2 yX2_sum wsX2_sum) := goodIn_app (goodIn_of _ (by decide +kernel)) ggX5_markets_X2_sum
theorem dX5_markets_0 : decode cX5_markets 0 = .ok (.iload_n 1, 1) := by decide +kernel
theorem dX5_markets_1 : decode cX5_markets 1 = .ok (.iconst 1, 1) := by decide +kernel
theorem dX5_markets_2 : decode cX5_markets 2 = .ok (.if_icmp .lt 22, 3) := by decide +kernel
theorem dX5_markets_5 : decode cX5_markets 5 = .ok (.iload_n 1, 1) := by decide +kernel
theorem dX5_markets_6 : decode cX5_markets 6 = .ok (.bipush 60, 2) := by decide +kernel
theorem dX5_markets_8 : decode cX5_markets 8 = .ok (.if_icmp .gt 16, 3) := by decide +kernel
theorem dX5_markets_11 : decode cX5_markets 11 = .ok (.iload_n 2, 1) := by decide +kernel
theorem dX5_markets_12 : decode cX5_markets 12 = .ok (.ifCond .lt 12, 3) := by decide +kernel
theorem dX5_markets_15 : decode cX5_markets 15 = .ok (.iload_n 3, 1) := by decide +kernel
theorem dX5_markets_16 : decode cX5_markets 16 = .ok (.ifCond .lt 8, 3) := by decide +kernel
theorem dX5_markets_19 : decode cX5_markets 19 = .ok (.iload_n 3, 1) := by decide +kernel
theorem dX5_markets_20 : decode cX5_markets 20 = .ok (.iconst 2, 1) := by decide +kernel
theorem dX5_markets_21 : decode cX5_markets 21 = .ok (.if_icmp .le 6, 3) := by decide +kernel
theorem dX5_markets_24 : decode cX5_markets 24 = .ok (.bipush (-102), 2) := by decide +kernel
theorem dX5_markets_26 : decode cX5_markets 26 = .ok (.ireturn, 1) := by decide +kernel
theorem dX5_markets_27 : decode cX5_markets 27 = .ok (.aload_n 0, 1) := by decide +kernel
theorem dX5_markets_28 : decode cX5_markets 28 = .ok (.getfield 19, 3) := by decide +kernel
theorem dX5_markets_31 : decode cX5_markets 31 = .ok (.invokevirtual 130, 3) := by decide +kernel
theorem dX5_markets_34 : decode cX5_markets 34 = .ok (.ifCond .ne 6, 3) := by decide +kernel
theorem dX5_markets_37 : decode cX5_markets 37 = .ok (.bipush (-103), 2) := by decide +kernel
theorem dX5_markets_39 : decode cX5_markets 39 = .ok (.ireturn, 1) := by decide +kernel
theorem dX5_markets_40 : decode cX5_markets 40 = .ok (.aload_n 0, 1) := by decide +kernel
theorem dX5_markets_41 : decode cX5_markets 41 = .ok (.getfield 46, 3) := by decide +kernel
theorem dX5_markets_44 : decode cX5_markets 44 = .ok (.aload_n 0, 1) := by decide +kernel
theorem dX5_markets_45 : decode cX5_markets 45 = .ok (.getfield 19, 3) := by decide +kernel
theorem dX5_markets_48 : decode cX5_markets 48 = .ok (.iload_n 1, 1) := by decide +kernel
theorem dX5_markets_49 : decode cX5_markets 49 = .ok (.iload_n 2, 1) := by decide +kernel
theorem dX5_markets_50 : decode cX5_markets 50 = .ok (.invokevirtual 167, 3) := by decide +kernel
theorem dX5_markets_53 : decode cX5_markets 53 = .ok (.iload_n 3, 1) := by decide +kernel
theorem dX5_markets_54 : decode cX5_markets 54 = .ok (.ifCond .ne 13, 3) := by decide +kernel
theorem dX5_markets_57 : decode cX5_markets 57 = .ok (.aload_n 0, 1) := by decide +kernel
theorem dX5_markets_58 : decode cX5_markets 58 = .ok (.getfield 46, 3) := by decide +kernel
theorem dX5_markets_61 : decode cX5_markets 61 = .ok (.getfield 170, 3) := by decide +kernel
theorem dX5_markets_64 : decode cX5_markets 64 = .ok (.goto 32, 3) := by decide +kernel
theorem dX5_markets_67 : decode cX5_markets 67 = .ok (.iload_n 3, 1) := by decide +kernel
theorem dX5_markets_68 : decode cX5_markets 68 = .ok (.iconst 1, 1) := by decide +kernel
theorem dX5_markets_69 : decode cX5_markets 69 = .ok (.if_icmp .ne 20, 3) := by decide +kernel
theorem dX5_markets_72 : decode cX5_markets 72 = .ok (.aload_n 0, 1) := by decide +kernel
theorem dX5_markets_73 : decode cX5_markets 73 = .ok (.getfield 19, 3) := by decide +kernel
theorem dX5_markets_76 : decode cX5_markets 76 = .ok (.aload_n 0, 1) := by decide +kernel
theorem dX5_markets_77 : decode cX5_markets 77 = .ok (.getfield 46, 3) := by decide +kernel
theorem dX5_markets_80 : decode cX5_markets 80 = .ok (.getfield 173, 3) := by decide +kernel
theorem dX5_markets_83 : decode cX5_markets 83 = .ok (.invokevirtual 174, 3) := by decide +kernel
theorem dX5_markets_86 : decode cX5_markets 86 = .ok (.goto 10, 3) := by decide +kernel
theorem dX5_markets_89 : decode cX5_markets 89 = .ok (.aload_n 0, 1) := by decide +kernel
theorem dX5_markets_90 : decode cX5_markets 90 = .ok (.getfield 46, 3) := by decide +kernel
theorem dX5_markets_93 : decode cX5_markets 93 = .ok (.getfield 178, 3) := by decide +kernel
theorem dX5_markets_96 : decode cX5_markets 96 = .ok (.ireturn, 1) := by decide +kernel
set_option maxRecDepth 20000 in
theorem ggX5_image_X2_isOpen : GoodIn wsX5_image wsX2_isOpen := goodIn_r _ [11, 12, 49, 50, 51, 52, 53, 54, 55, 56, 57, 58, 59] (by decide +kernel) (by decide +kernel)
set_option maxRecDepth 20000 in
theorem gX5_image_X2_isOpen : GoodIn wsX5_image (wsV RX5 130 RX2 yX2_isOpen wsX2_isOpen) := goodIn_app (goodIn_of _ (by decide +kernel)) ggX5_image_X2_isOpen
set_option maxRecDepth 20000 in
theorem ggX5_image_X2_copyDoingsOf : GoodIn wsX5_image wsX2_copyDoingsOf := goodIn_r _ [16, 17, 18, 19, 20, 21, 22, 23, 24, 25, 26, 27, 28, 29, 30, 49, 50, 51, 52, 53, 54, 55, 56, 57, 58, 59] (by decide +kernel) (by decide +kernel)
set_option maxRecDepth 20000 in
theorem gX5_image_X2_copyDoingsOf : GoodIn wsX5_image (wsV RX5 181 RX2 yX2_copyDoingsOf wsX2_copyDoingsOf) := goodIn_app (goodIn_of _ (by decide +kernel)) ggX5_image_X2_copyDoingsOf
set_option maxRecDepth 20000 in
theorem ggX5_image_X1_copyFrom : GoodIn wsX5_image wsX1_copyFrom := goodIn_r _ [35, 36, 37, 38, 24, 25, 26, 27, 28, 29, 30, 60, 61, 62] (by decide +kernel) (by decide +kernel)
set_option maxRecDepth 20000 in
theorem gX5_image_X1_copyFrom : GoodIn wsX5_image (wsV RX5 185 RX1 yX1_copyFrom wsX1_copyFrom) := goodIn_app (goodIn_of _ (by decide +kernel)) ggX5_image_X1_copyFrom
theorem dX5_image_0 : decode cX5_image 0 = .ok (.aload_n 0, 1) := by decide +kernel
theorem dX5_image_1 : decode cX5_image 1 = .ok (.getfield 19, 3) := by decide +kernel
theorem dX5_image_4 : decode cX5_image 4 = .ok (.invokevirtual 130, 3) := by decide +kernel
theorem dX5_image_7 : decode cX5_image 7 = .ok (.ifCond .ne 6, 3) := by decide +kernel
theorem dX5_image_10 : decode cX5_image 10 = .ok (.bipush (-103), 2) := by decide +kernel
theorem dX5_image_12 : decode cX5_image 12 = .ok (.ireturn, 1) := by decide +kernel
theorem dX5_image_13 : decode cX5_image 13 = .ok (.aload_n 0, 1) := by decide +kernel
theorem dX5_image_14 : decode cX5_image 14 = .ok (.getfield 30, 3) := by decide +kernel
theorem dX5_image_17 : decode cX5_image 17 = .ok (.aload_n 0, 1) := by decide +kernel
theorem dX5_image_18 : decode cX5_image 18 = .ok (.getfield 19, 3) := by decide +kernel
theorem dX5_image_21 : decode cX5_image 21 = .ok (.invokevirtual 181, 3) := by decide +kernel
theorem dX5_image_24 : decode cX5_image 24 = .ok (.aload_n 0, 1) := by decide +kernel
theorem dX5_image_25 : decode cX5_image 25 = .ok (.getfield 33, 3) := by decide +kernel
theorem dX5_image_28 : decode cX5_image 28 = .ok (.aload_n 0, 1) := by decide +kernel
theorem dX5_image_29 : decode cX5_image 29 = .ok (.getfield 26, 3) := by decide +kernel
theorem dX5_image_32 : decode cX5_image 32 = .ok (.invokevirtual 185, 3) := by decide +kernel
theorem dX5_image_35 : decode cX5_image 35 = .ok (.aload_n 0, 1) := by decide +kernel
theorem dX5_image_36 : decode cX5_image 36 = .ok (.iconst 1, 1) := by decide +kernel
theorem dX5_image_37 : decode cX5_image 37 = .ok (.putfield 50, 3) := by decide +kernel
theorem dX5_image_40 : decode cX5_image 40 = .ok (.aload_n 0, 1) := by decide +kernel
theorem dX5_image_41 : decode cX5_image 41 = .ok (.getfield 19, 3) := by decide +kernel
theorem dX5_image_44 : decode cX5_image 44 = .ok (.getfield 117, 3) := by decide +kernel
theorem dX5_image_47 : decode cX5_image 47 = .ok (.ireturn, 1) := by decide +kernel
set_option maxRecDepth 20000 in
theorem ggX5_restore_X2_copyDoingsOf : GoodIn wsX5_restore wsX2_copyDoingsOf := goodIn_r _ [11, 12, 13, 14, 15, 16, 17, 18, 19, 20, 21, 22, 23, 24, 25, 44, 45, 46, 47, 48, 49, 50, 51, 52, 53, 54] (by decide +kernel) (by decide +kernel)
set_option maxRecDepth 20000 in
theorem gX5_restore_X2_copyDoingsOf : GoodIn wsX5_restore (wsV RX5 181 RX2 yX2_copyDoingsOf wsX2_copyDoingsOf) := goodIn_app (goodIn_of _ (by decide +kernel)) ggX5_restore_X2_copyDoingsOf
set_option maxRecDepth 20000 in
theorem ggX5_restore_X1_copyFrom : GoodIn wsX5_restore wsX1_copyFrom := goodIn_r _ [30, 31, 32, 33, 19, 20, 21, 22, 23, 24, 25, 55, 56, 57] (by decide +kernel) (by decide +kernel)
set_option maxRecDepth 20000 in
theorem gX5_restore_X1_copyFrom : GoodIn wsX5_restore (wsV RX5 185 RX1 yX1_copyFrom wsX1_copyFrom) := goodIn_app (goodIn_of _ (by decide +kernel)) ggX5_restore_X1_copyFrom
theorem dX5_restore_0 : decode cX5_restore 0 = .ok (.aload_n 0, 1) := by decide +kernel
theorem dX5_restore_1 : decode cX5_restore 1 = .ok (.getfield 50, 3) := by decide +kernel
theorem dX5_restore_4 : decode cX5_restore 4 = .ok (.ifCond .ne 6, 3) := by decide +kernel
theorem dX5_restore_7 : decode cX5_restore 7 = .ok (.bipush (-103), 2) := by decide +kernel
theorem dX5_restore_9 : decode cX5_restore 9 = .ok (.ireturn, 1) := by decide +kernel
theorem dX5_restore_10 : decode cX5_restore 10 = .ok (.aload_n 0, 1) := by decide +kernel
theorem dX5_restore_11 : decode cX5_restore 11 = .ok (.getfield 19, 3) := by decide +kernel
theorem dX5_restore_14 : decode cX5_restore 14 = .ok (.aload_n 0, 1) := by decide +kernel
theorem dX5_restore_15 : decode cX5_restore 15 = .ok (.getfield 30, 3) := by decide +kernel
theorem dX5_restore_18 : decode cX5_restore 18 = .ok (.invokevirtual 181, 3) := by decide +kernel
theorem dX5_restore_21 : decode cX5_restore 21 = .ok (.aload_n 0, 1) := by decide +kernel
theorem dX5_restore_22 : decode cX5_restore 22 = .ok (.getfield 26, 3) := by decide +kernel
theorem dX5_restore_25 : decode cX5_restore 25 = .ok (.aload_n 0, 1) := by decide +kernel
theorem dX5_restore_26 : decode cX5_restore 26 = .ok (.getfield 33, 3) := by decide +kernel
theorem dX5_restore_29 : decode cX5_restore 29 = .ok (.invokevirtual 185, 3) := by decide +kernel
theorem dX5_restore_32 : decode cX5_restore 32 = .ok (.aload_n 0, 1) := by decide +kernel
theorem dX5_restore_33 : decode cX5_restore 33 = .ok (.getfield 19, 3) := by decide +kernel
theorem dX5_restore_36 : decode cX5_restore 36 = .ok (.getfield 117, 3) := by decide +kernel
theorem dX5_restore_39 : decode cX5_restore 39 = .ok (.ireturn, 1) := by decide +kernel
set_option maxRecDepth 20000 in
theorem ggX5_count_X2_sum : GoodIn wsX5_count wsX2_sum := goodIn_r _ [20, 21, 32, 33, 34, 35, 36, 37, 38, 39, 40, 41, 42] (by decide +kernel) (by decide +kernel)
set_option maxRecDepth 20000 in
theorem gX5_count_X2_sum : GoodIn wsX5_count (wsV RX5 174 RX2 yX2_sum wsX2_sum) := goodIn_app (goodIn_of _ (by decide +kernel)) ggX5_count_X2_sum
theorem dX5_count_0 : decode cX5_count 0 = .ok (.iload_n 1, 1) := by decide +kernel
theorem dX5_count_1 : decode cX5_count 1 = .ok (.tableswitch 174 0 11 #[63, 71, 79, 87, 95, 110, 125, 140, 148, 156, 164, 169], 63) := by decide +kernel
theorem dX5_count_64 : decode cX5_count 64 = .ok (.aload_n 0, 1) := by decide +kernel
theorem dX5_count_65 : decode cX5_count 65 = .ok (.getfield 19, 3) := by decide +kernel
theorem dX5_count_68 : decode cX5_count 68 = .ok (.getfield 86, 3) := by decide +kernel
theorem dX5_count_71 : decode cX5_count 71 = .ok (.ireturn, 1) := by decide +kernel
theorem dX5_count_72 : decode cX5_count 72 = .ok (.aload_n 0, 1) := by decide +kernel
theorem dX5_count_73 : decode cX5_count 73 = .ok (.getfield 19, 3) := by decide +kernel
theorem dX5_count_76 : decode cX5_count 76 = .ok (.getfield 189, 3) := by decide +kernel
theorem dX5_count_79 : decode cX5_count 79 = .ok (.ireturn, 1) := by decide +kernel
theorem dX5_count_80 : decode cX5_count 80 = .ok (.aload_n 0, 1) := by decide +kernel
theorem dX5_count_81 : decode cX5_count 81 = .ok (.getfield 19, 3) := by decide +kernel
theorem dX5_count_84 : decode cX5_count 84 = .ok (.getfield 117, 3) := by decide +kernel
theorem dX5_count_87 : decode cX5_count 87 = .ok (.ireturn, 1) := by decide +kernel
theorem dX5_count_88 : decode cX5_count 88 = .ok (.aload_n 0, 1) := by decide +kernel
theorem dX5_count_89 : decode cX5_count 89 = .ok (.getfield 19, 3) := by decide +kernel
theorem dX5_count_92 : decode cX5_count 92 = .ok (.getfield 124, 3) := by decide +kernel
theorem dX5_count_95 : decode cX5_count 95 = .ok (.ireturn, 1) := by decide +kernel
theorem dX5_count_96 : decode cX5_count 96 = .ok (.aload_n 0, 1) := by decide +kernel
theorem dX5_count_97 : decode cX5_count 97 = .ok (.getfield 19, 3) := by decide +kernel
theorem dX5_count_100 : decode cX5_count 100 = .ok (.aload_n 0, 1) := by decide +kernel
theorem dX5_count_101 : decode cX5_count 101 = .ok (.getfield 19, 3) := by decide +kernel
theorem dX5_count_104 : decode cX5_count 104 = .ok (.getfield 192, 3) := by decide +kernel
theorem dX5_count_107 : decode cX5_count 107 = .ok (.invokevirtual 174, 3) := by decide +kernel
theorem dX5_count_110 : decode cX5_count 110 = .ok (.ireturn, 1) := by decide +kernel
theorem dX5_count_111 : decode cX5_count 111 = .ok (.aload_n 0, 1) := by decide +kernel
theorem dX5_count_112 : decode cX5_count 112 = .ok (.getfield 19, 3) := by decide +kernel
theorem dX5_count_115 : decode cX5_count 115 = .ok (.aload_n 0, 1) := by decide +kernel
theorem dX5_count_116 : decode cX5_count 116 = .ok (.getfield 19, 3) := by decide +kernel
theorem dX5_count_119 : decode cX5_count 119 = .ok (.getfield 195, 3) := by decide +kernel
theorem dX5_count_122 : decode cX5_count 122 = .ok (.invokevirtual 174, 3) := by decide +kernel
theorem dX5_count_125 : decode cX5_count 125 = .ok (.ireturn, 1) := by decide +kernel
theorem dX5_count_126 : decode cX5_count 126 = .ok (.aload_n 0, 1) := by decide +kernel
theorem dX5_count_127 : decode cX5_count 127 = .ok (.getfield 19, 3) := by decide +kernel
theorem dX5_count_130 : decode cX5_count 130 = .ok (.aload_n 0, 1) := by decide +kernel
theorem dX5_count_131 : decode cX5_count 131 = .ok (.getfield 19, 3) := by decide +kernel
theorem dX5_count_134 : decode cX5_count 134 = .ok (.getfield 114, 3) := by decide +kernel
theorem dX5_count_137 : decode cX5_count 137 = .ok (.invokevirtual 174, 3) := by decide +kernel
theorem dX5_count_140 : decode cX5_count 140 = .ok (.ireturn, 1) := by decide +kernel
theorem dX5_count_141 : decode cX5_count 141 = .ok (.aload_n 0, 1) := by decide +kernel
theorem dX5_count_142 : decode cX5_count 142 = .ok (.getfield 26, 3) := by decide +kernel
theorem dX5_count_145 : decode cX5_count 145 = .ok (.getfield 146, 3) := by decide +kernel
theorem dX5_count_148 : decode cX5_count 148 = .ok (.ireturn, 1) := by decide +kernel
theorem dX5_count_149 : decode cX5_count 149 = .ok (.aload_n 0, 1) := by decide +kernel
theorem dX5_count_150 : decode cX5_count 150 = .ok (.getfield 26, 3) := by decide +kernel
theorem dX5_count_153 : decode cX5_count 153 = .ok (.getfield 152, 3) := by decide +kernel
theorem dX5_count_156 : decode cX5_count 156 = .ok (.ireturn, 1) := by decide +kernel
theorem dX5_count_157 : decode cX5_count 157 = .ok (.aload_n 0, 1) := by decide +kernel
theorem dX5_count_158 : decode cX5_count 158 = .ok (.getfield 10, 3) := by decide +kernel
theorem dX5_count_161 : decode cX5_count 161 = .ok (.getfield 61, 3) := by decide +kernel
theorem dX5_count_164 : decode cX5_count 164 = .ok (.ireturn, 1) := by decide +kernel
theorem dX5_count_165 : decode cX5_count 165 = .ok (.aload_n 0, 1) := by decide +kernel
theorem dX5_count_166 : decode cX5_count 166 = .ok (.getfield 54, 3) := by decide +kernel
theorem dX5_count_169 : decode cX5_count 169 = .ok (.ireturn, 1) := by decide +kernel
theorem dX5_count_170 : decode cX5_count 170 = .ok (.aload_n 0, 1) := by decide +kernel
theorem dX5_count_171 : decode cX5_count 171 = .ok (.getfield 58, 3) := by decide +kernel
theorem dX5_count_174 : decode cX5_count 174 = .ok (.ireturn, 1) := by decide +kernel
theorem dX5_count_175 : decode cX5_count 175 = .ok (.bipush (-102), 2) := by decide +kernel
theorem dX5_count_177 : decode cX5_count 177 = .ok (.ireturn, 1) := by decide +kernel
set_option maxRecDepth 20000 in
theorem ggX5_digest_X5_foldHouse : GoodIn wsX5_digest wsX5_foldHouse := goodIn_r _ [11, 2, 3, 12, 13, 14, 10, 15, 16, 17, 18, 19, 20, 21, 22, 23, 24, 25, 26, 27, 28, 29, 30, 31, 32, 33, 34, 35, 36, 37, 38, 39, 40, 41, 42, 43, 44, 45, 46, 47, 48, 49, 50, 51, 52, 53, 54, 55, 56, 57, 58, 123, 124, 125, 126, 127, 128, 129, 130, 131, 132, 133, 134, 135, 136, 137, 138, 139, 140, 141, 142, 143] (by decide +kernel) (by decide +kernel)
set_option maxRecDepth 20000 in
theorem gX5_digest_X5_foldHouse : GoodIn wsX5_digest (wsV RX5 200 RX5 yX5_foldHouse wsX5_foldHouse) := goodIn_app (goodIn_of _ (by decide +kernel)) ggX5_digest_X5_foldHouse
set_option maxRecDepth 20000 in
theorem ggX5_digest_X2_isOpen : GoodIn wsX5_digest wsX2_isOpen := goodIn_r _ [62, 21, 133, 134, 135, 136, 137, 138, 139, 140, 141, 142, 143] (by decide +kernel) (by decide +kernel)
set_option maxRecDepth 20000 in
theorem gX5_digest_X2_isOpen : GoodIn wsX5_digest (wsV RX5 130 RX2 yX2_isOpen wsX2_isOpen) := goodIn_app (goodIn_of _ (by decide +kernel)) ggX5_digest_X2_isOpen
set_option maxRecDepth 20000 in
theorem ggX5_digest_X5_foldLedger : GoodIn wsX5_digest wsX5_foldLedger := goodIn_r _ [66, 67, 68, 69, 10, 70, 2, 71, 3, 59, 60, 61, 19, 62, 21, 72, 73, 74, 75, 76, 77, 78, 79, 80, 81, 82, 83, 84, 85, 86, 87, 88, 89, 90, 91, 92, 93, 94, 33, 34, 35, 36, 95, 96, 97, 98, 99, 100, 101, 102, 103, 56, 57, 58, 104, 123, 124, 125, 126, 127, 128, 129, 130, 131, 132, 133, 134, 135, 136, 137, 138, 139, 140, 141, 142, 143, 146, 147, 148] (by decide +kernel) (by decide +kernel)
set_option maxRecDepth 20000 in
theorem gX5_digest_X5_foldLedger : GoodIn wsX5_digest (wsV RX5 204 RX5 yX5_foldLedger wsX5_foldLedger) := goodIn_app (goodIn_of _ (by decide +kernel)) ggX5_digest_X5_foldLedger
set_option maxRecDepth 20000 in
theorem ggX5_digest_X5_fold : GoodIn wsX5_digest wsX5_fold := goodIn_r _ [35, 36] (by decide +kernel) (by decide +kernel)
set_option maxRecDepth 20000 in
theorem gX5_digest_X5_fold : GoodIn wsX5_digest (va_wsS RX5 212 yX5_fold wsX5_fold) := goodIn_app (goodIn_of _ (by decide +kernel)) ggX5_digest_X5_fold
set_option maxRecDepth 20000 in
theorem ggX5_digest_X5_count : GoodIn wsX5_digest wsX5_count := goodIn_r _ [108, 2, 3, 109, 110, 111, 112, 113, 114, 71, 115, 116, 4, 5, 117, 118, 119, 120, 121, 19, 122, 21, 123, 124, 125, 126, 127, 128, 129, 130, 131, 132, 133, 134, 135, 136, 137, 138, 139, 140, 141, 142, 143, 146, 147, 148, 144, 145] (by decide +kernel) (by decide +kernel)
set_option maxRecDepth 20000 in
theorem gX5_digest_X5_count : GoodIn wsX5_digest (wsV RX5 216 RX5 yX5_count wsX5_count) := goodIn_app (goodIn_of _ (by decide +kernel)) ggX5_digest_X5_count
theorem dX5_digest_0 : decode cX5_digest 0 = .ok (.ldc2_w 198, 3) := by decide +kernel
theorem dX5_digest_3 : decode cX5_digest 3 = .ok (.lstore_n 1, 1) := by decide +kernel
theorem dX5_digest_4 : decode cX5_digest 4 = .ok (.iconst 0, 1) := by decide +kernel
theorem dX5_digest_5 : decode cX5_digest 5 = .ok (.istore_n 3, 1) := by decide +kernel
theorem dX5_digest_6 : decode cX5_digest 6 = .ok (.iload_n 3, 1) := by decide +kernel
theorem dX5_digest_7 : decode cX5_digest 7 = .ok (.aload_n 0, 1) := by decide +kernel
theorem dX5_digest_8 : decode cX5_digest 8 = .ok (.getfield 19, 3) := by decide +kernel
theorem dX5_digest_11 : decode cX5_digest 11 = .ok (.getfield 86, 3) := by decide +kernel
theorem dX5_digest_14 : decode cX5_digest 14 = .ok (.if_icmp .ge 16, 3) := by decide +kernel
theorem dX5_digest_17 : decode cX5_digest 17 = .ok (.aload_n 0, 1) := by decide +kernel
theorem dX5_digest_18 : decode cX5_digest 18 = .ok (.lload_n 1, 1) := by decide +kernel
theorem dX5_digest_19 : decode cX5_digest 19 = .ok (.iload_n 3, 1) := by decide +kernel
theorem dX5_digest_20 : decode cX5_digest 20 = .ok (.invokevirtual 200, 3) := by decide +kernel
theorem dX5_digest_23 : decode cX5_digest 23 = .ok (.lstore_n 1, 1) := by decide +kernel
theorem dX5_digest_24 : decode cX5_digest 24 = .ok (.iinc 3 1, 3) := by decide +kernel
theorem dX5_digest_27 : decode cX5_digest 27 = .ok (.goto (-21), 3) := by decide +kernel
theorem dX5_digest_30 : decode cX5_digest 30 = .ok (.aload_n 0, 1) := by decide +kernel
theorem dX5_digest_31 : decode cX5_digest 31 = .ok (.getfield 19, 3) := by decide +kernel
theorem dX5_digest_34 : decode cX5_digest 34 = .ok (.invokevirtual 130, 3) := by decide +kernel
theorem dX5_digest_37 : decode cX5_digest 37 = .ok (.ifCond .eq 9, 3) := by decide +kernel
theorem dX5_digest_40 : decode cX5_digest 40 = .ok (.aload_n 0, 1) := by decide +kernel
theorem dX5_digest_41 : decode cX5_digest 41 = .ok (.lload_n 1, 1) := by decide +kernel
theorem dX5_digest_42 : decode cX5_digest 42 = .ok (.invokevirtual 204, 3) := by decide +kernel
theorem dX5_digest_45 : decode cX5_digest 45 = .ok (.lstore_n 1, 1) := by decide +kernel
theorem dX5_digest_46 : decode cX5_digest 46 = .ok (.iconst 0, 1) := by decide +kernel
theorem dX5_digest_47 : decode cX5_digest 47 = .ok (.istore_n 3, 1) := by decide +kernel
theorem dX5_digest_48 : decode cX5_digest 48 = .ok (.iload_n 3, 1) := by decide +kernel
theorem dX5_digest_49 : decode cX5_digest 49 = .ok (.aload_n 0, 1) := by decide +kernel
theorem dX5_digest_50 : decode cX5_digest 50 = .ok (.getfield 10, 3) := by decide +kernel
theorem dX5_digest_53 : decode cX5_digest 53 = .ok (.getfield 61, 3) := by decide +kernel
theorem dX5_digest_56 : decode cX5_digest 56 = .ok (.if_icmp .ge 24, 3) := by decide +kernel
theorem dX5_digest_59 : decode cX5_digest 59 = .ok (.lload_n 1, 1) := by decide +kernel
theorem dX5_digest_60 : decode cX5_digest 60 = .ok (.aload_n 0, 1) := by decide +kernel
theorem dX5_digest_61 : decode cX5_digest 61 = .ok (.getfield 10, 3) := by decide +kernel
theorem dX5_digest_64 : decode cX5_digest 64 = .ok (.getfield 208, 3) := by decide +kernel
theorem dX5_digest_67 : decode cX5_digest 67 = .ok (.iload_n 3, 1) := by decide +kernel
theorem dX5_digest_68 : decode cX5_digest 68 = .ok (.caload, 1) := by decide +kernel
theorem dX5_digest_69 : decode cX5_digest 69 = .ok (.i2l, 1) := by decide +kernel
theorem dX5_digest_70 : decode cX5_digest 70 = .ok (.invokestatic 212, 3) := by decide +kernel
theorem dX5_digest_73 : decode cX5_digest 73 = .ok (.lstore_n 1, 1) := by decide +kernel
theorem dX5_digest_74 : decode cX5_digest 74 = .ok (.iinc 3 1, 3) := by decide +kernel
theorem dX5_digest_77 : decode cX5_digest 77 = .ok (.goto (-29), 3) := by decide +kernel
theorem dX5_digest_80 : decode cX5_digest 80 = .ok (.iconst 0, 1) := by decide +kernel
theorem dX5_digest_81 : decode cX5_digest 81 = .ok (.istore_n 3, 1) := by decide +kernel
theorem dX5_digest_82 : decode cX5_digest 82 = .ok (.iload_n 3, 1) := by decide +kernel
theorem dX5_digest_83 : decode cX5_digest 83 = .ok (.bipush 11, 2) := by decide +kernel
theorem dX5_digest_85 : decode cX5_digest 85 = .ok (.if_icmp .gt 20, 3) := by decide +kernel
theorem dX5_digest_88 : decode cX5_digest 88 = .ok (.lload_n 1, 1) := by decide +kernel
theorem dX5_digest_89 : decode cX5_digest 89 = .ok (.aload_n 0, 1) := by decide +kernel
theorem dX5_digest_90 : decode cX5_digest 90 = .ok (.iload_n 3, 1) := by decide +kernel
theorem dX5_digest_91 : decode cX5_digest 91 = .ok (.invokevirtual 216, 3) := by decide +kernel
theorem dX5_digest_94 : decode cX5_digest 94 = .ok (.i2l, 1) := by decide +kernel
theorem dX5_digest_95 : decode cX5_digest 95 = .ok (.invokestatic 212, 3) := by decide +kernel
theorem dX5_digest_98 : decode cX5_digest 98 = .ok (.lstore_n 1, 1) := by decide +kernel
theorem dX5_digest_99 : decode cX5_digest 99 = .ok (.iinc 3 1, 3) := by decide +kernel
theorem dX5_digest_102 : decode cX5_digest 102 = .ok (.goto (-20), 3) := by decide +kernel
theorem dX5_digest_105 : decode cX5_digest 105 = .ok (.lload_n 1, 1) := by decide +kernel
theorem dX5_digest_106 : decode cX5_digest 106 = .ok (.lreturn, 1) := by decide +kernel
set_option maxRecDepth 20000 in
theorem ggX5_foldHouse_X5_about : GoodIn wsX5_foldHouse wsX5_about := goodIn_r _ [7, 1, 8, 9, 10, 11, 12, 13, 14, 15, 16, 17, 18, 19, 20, 21, 22, 23, 24, 51, 52, 53, 54, 55, 56, 57, 58, 59, 60, 61, 62, 63, 64, 65, 66, 67, 68, 69, 70, 71] (by decide +kernel) (by decide +kernel)
set_option maxRecDepth 20000 in
theorem gX5_foldHouse_X5_about : GoodIn wsX5_foldHouse (wsV RX5 219 RX5 yX5_about wsX5_about) := goodIn_app (goodIn_of _ (by decide +kernel)) ggX5_foldHouse_X5_about
set_option maxRecDepth 20000 in
theorem ggX5_foldHouse_X5_fold : GoodIn wsX5_foldHouse wsX5_fold := goodIn_r _ [27, 28] (by decide +kernel) (by decide +kernel)
set_option maxRecDepth 20000 in
theorem gX5_foldHouse_X5_fold : GoodIn wsX5_foldHouse (va_wsS RX5 212 yX5_fold wsX5_fold) := goodIn_app (goodIn_of _ (by decide +kernel)) ggX5_foldHouse_X5_fold
set_option maxRecDepth 20000 in
theorem ggX5_foldHouse_X5_fair : GoodIn wsX5_foldHouse wsX5_fair := goodIn_r _ [32, 1, 33, 34, 35, 6, 36, 8, 9, 10, 11, 12, 13, 37, 38, 39, 40, 19, 41, 20, 42, 43, 44, 45, 46, 18, 47, 48, 49, 50, 51, 52, 53, 54, 55, 56, 57, 58, 59, 60, 61, 62, 63, 64, 65, 66, 67, 68, 69, 70, 71] (by decide +kernel) (by decide +kernel)
set_option maxRecDepth 20000 in
theorem gX5_foldHouse_X5_fair : GoodIn wsX5_foldHouse (wsV RX5 222 RX5 yX5_fair wsX5_fair) := goodIn_app (goodIn_of _ (by decide +kernel)) ggX5_foldHouse_X5_fair
theorem dX5_foldHouse_0 : decode cX5_foldHouse 0 = .ok (.lload_n 1, 1) := by decide +kernel
theorem dX5_foldHouse_1 : decode cX5_foldHouse 1 = .ok (.lstore 4, 2) := by decide +kernel
theorem dX5_foldHouse_3 : decode cX5_foldHouse 3 = .ok (.iconst 0, 1) := by decide +kernel
theorem dX5_foldHouse_4 : decode cX5_foldHouse 4 = .ok (.istore 6, 2) := by decide +kernel
theorem dX5_foldHouse_6 : decode cX5_foldHouse 6 = .ok (.iload 6, 2) := by decide +kernel
theorem dX5_foldHouse_8 : decode cX5_foldHouse 8 = .ok (.bipush 6, 2) := by decide +kernel
theorem dX5_foldHouse_10 : decode cX5_foldHouse 10 = .ok (.if_icmp .gt 24, 3) := by decide +kernel
theorem dX5_foldHouse_13 : decode cX5_foldHouse 13 = .ok (.lload 4, 2) := by decide +kernel
theorem dX5_foldHouse_15 : decode cX5_foldHouse 15 = .ok (.aload_n 0, 1) := by decide +kernel
theorem dX5_foldHouse_16 : decode cX5_foldHouse 16 = .ok (.iload_n 3, 1) := by decide +kernel
theorem dX5_foldHouse_17 : decode cX5_foldHouse 17 = .ok (.iload 6, 2) := by decide +kernel
theorem dX5_foldHouse_19 : decode cX5_foldHouse 19 = .ok (.invokevirtual 219, 3) := by decide +kernel
theorem dX5_foldHouse_22 : decode cX5_foldHouse 22 = .ok (.i2l, 1) := by decide +kernel
theorem dX5_foldHouse_23 : decode cX5_foldHouse 23 = .ok (.invokestatic 212, 3) := by decide +kernel
theorem dX5_foldHouse_26 : decode cX5_foldHouse 26 = .ok (.lstore 4, 2) := by decide +kernel
theorem dX5_foldHouse_28 : decode cX5_foldHouse 28 = .ok (.iinc 6 1, 3) := by decide +kernel
theorem dX5_foldHouse_31 : decode cX5_foldHouse 31 = .ok (.goto (-25), 3) := by decide +kernel
theorem dX5_foldHouse_34 : decode cX5_foldHouse 34 = .ok (.iconst 0, 1) := by decide +kernel
theorem dX5_foldHouse_35 : decode cX5_foldHouse 35 = .ok (.istore 6, 2) := by decide +kernel
theorem dX5_foldHouse_37 : decode cX5_foldHouse 37 = .ok (.iload 6, 2) := by decide +kernel
theorem dX5_foldHouse_39 : decode cX5_foldHouse 39 = .ok (.aload_n 0, 1) := by decide +kernel
theorem dX5_foldHouse_40 : decode cX5_foldHouse 40 = .ok (.getfield 19, 3) := by decide +kernel
theorem dX5_foldHouse_43 : decode cX5_foldHouse 43 = .ok (.getfield 86, 3) := by decide +kernel
theorem dX5_foldHouse_46 : decode cX5_foldHouse 46 = .ok (.if_icmp .ge 30, 3) := by decide +kernel
theorem dX5_foldHouse_49 : decode cX5_foldHouse 49 = .ok (.iload 6, 2) := by decide +kernel
theorem dX5_foldHouse_51 : decode cX5_foldHouse 51 = .ok (.iload_n 3, 1) := by decide +kernel
theorem dX5_foldHouse_52 : decode cX5_foldHouse 52 = .ok (.if_icmp .eq 18, 3) := by decide +kernel
theorem dX5_foldHouse_55 : decode cX5_foldHouse 55 = .ok (.lload 4, 2) := by decide +kernel
theorem dX5_foldHouse_57 : decode cX5_foldHouse 57 = .ok (.aload_n 0, 1) := by decide +kernel
theorem dX5_foldHouse_58 : decode cX5_foldHouse 58 = .ok (.iload_n 3, 1) := by decide +kernel
theorem dX5_foldHouse_59 : decode cX5_foldHouse 59 = .ok (.iload 6, 2) := by decide +kernel
theorem dX5_foldHouse_61 : decode cX5_foldHouse 61 = .ok (.invokevirtual 222, 3) := by decide +kernel
theorem dX5_foldHouse_64 : decode cX5_foldHouse 64 = .ok (.i2l, 1) := by decide +kernel
theorem dX5_foldHouse_65 : decode cX5_foldHouse 65 = .ok (.invokestatic 212, 3) := by decide +kernel
theorem dX5_foldHouse_68 : decode cX5_foldHouse 68 = .ok (.lstore 4, 2) := by decide +kernel
theorem dX5_foldHouse_70 : decode cX5_foldHouse 70 = .ok (.iinc 6 1, 3) := by decide +kernel
theorem dX5_foldHouse_73 : decode cX5_foldHouse 73 = .ok (.goto (-36), 3) := by decide +kernel
theorem dX5_foldHouse_76 : decode cX5_foldHouse 76 = .ok (.lload 4, 2) := by decide +kernel
theorem dX5_foldHouse_78 : decode cX5_foldHouse 78 = .ok (.lreturn, 1) := by decide +kernel
set_option maxRecDepth 20000 in
theorem ggX5_foldLedger_X5_rubbed : GoodIn wsX5_foldLedger wsX5_rubbed := goodIn_r _ [5, 6, 7, 8, 9, 10, 11, 12, 13, 14, 15, 16, 17, 18, 19, 20, 21, 22, 23, 24, 25, 26, 27, 28, 29, 30, 31, 32, 33, 34, 35, 36, 37, 55, 56, 57, 58, 59, 60, 61, 62, 63, 64, 65, 66, 67, 68, 69, 70, 71, 72, 73, 74, 75, 76, 77, 78] (by decide +kernel) (by decide +kernel)
set_option maxRecDepth 20000 in
theorem gX5_foldLedger_X5_rubbed : GoodIn wsX5_foldLedger (wsV RX5 225 RX5 yX5_rubbed wsX5_rubbed) := goodIn_app (goodIn_of _ (by decide +kernel)) ggX5_foldLedger_X5_rubbed
set_option maxRecDepth 20000 in
theorem ggX5_foldLedger_X5_fold : GoodIn wsX5_foldLedger wsX5_fold := goodIn_r _ [40, 41] (by decide +kernel) (by decide +kernel)
set_option maxRecDepth 20000 in
theorem gX5_foldLedger_X5_fold : GoodIn wsX5_foldLedger (va_wsS RX5 212 yX5_fold wsX5_fold) := goodIn_app (goodIn_of _ (by decide +kernel)) ggX5_foldLedger_X5_fold
set_option maxRecDepth 20000 in
theorem ggX5_foldLedger_X5_watch : GoodIn wsX5_foldLedger wsX5_watch := goodIn_r _ [45, 6, 7, 8, 9, 10, 11, 12, 13, 14, 46, 47, 48, 18, 49, 50, 51, 52, 53, 54, 16, 17, 19, 20, 21, 22, 23, 24, 25, 26, 27, 28, 29, 55, 56, 57, 58, 59, 60, 61, 62, 63, 64, 65, 66, 67, 68, 69, 70, 71, 72, 73, 74, 75, 76, 77, 78] (by decide +kernel) (by decide +kernel)
set_option maxRecDepth 20000 in
theorem gX5_foldLedger_X5_watch : GoodIn wsX5_foldLedger (wsV RX5 228 RX5 yX5_watch wsX5_watch) := goodIn_app (goodIn_of _ (by decide +kernel)) ggX5_foldLedger_X5_watch
theorem dX5_foldLedger_0 : decode cX5_foldLedger 0 = .ok (.lload_n 1, 1) := by decide +kernel
theorem dX5_foldLedger_1 : decode cX5_foldLedger 1 = .ok (.lstore_n 3, 1) := by decide +kernel
theorem dX5_foldLedger_2 : decode cX5_foldLedger 2 = .ok (.iconst 0, 1) := by decide +kernel
theorem dX5_foldLedger_3 : decode cX5_foldLedger 3 = .ok (.istore 5, 2) := by decide +kernel
theorem dX5_foldLedger_5 : decode cX5_foldLedger 5 = .ok (.iload 5, 2) := by decide +kernel
theorem dX5_foldLedger_7 : decode cX5_foldLedger 7 = .ok (.iconst 2, 1) := by decide +kernel
theorem dX5_foldLedger_8 : decode cX5_foldLedger 8 = .ok (.if_icmp .gt 21, 3) := by decide +kernel
theorem dX5_foldLedger_11 : decode cX5_foldLedger 11 = .ok (.lload_n 3, 1) := by decide +kernel
theorem dX5_foldLedger_12 : decode cX5_foldLedger 12 = .ok (.aload_n 0, 1) := by decide +kernel
theorem dX5_foldLedger_13 : decode cX5_foldLedger 13 = .ok (.iload 5, 2) := by decide +kernel
theorem dX5_foldLedger_15 : decode cX5_foldLedger 15 = .ok (.invokevirtual 225, 3) := by decide +kernel
theorem dX5_foldLedger_18 : decode cX5_foldLedger 18 = .ok (.i2l, 1) := by decide +kernel
theorem dX5_foldLedger_19 : decode cX5_foldLedger 19 = .ok (.invokestatic 212, 3) := by decide +kernel
theorem dX5_foldLedger_22 : decode cX5_foldLedger 22 = .ok (.lstore_n 3, 1) := by decide +kernel
theorem dX5_foldLedger_23 : decode cX5_foldLedger 23 = .ok (.iinc 5 1, 3) := by decide +kernel
theorem dX5_foldLedger_26 : decode cX5_foldLedger 26 = .ok (.goto (-21), 3) := by decide +kernel
theorem dX5_foldLedger_29 : decode cX5_foldLedger 29 = .ok (.lload_n 3, 1) := by decide +kernel
theorem dX5_foldLedger_30 : decode cX5_foldLedger 30 = .ok (.aload_n 0, 1) := by decide +kernel
theorem dX5_foldLedger_31 : decode cX5_foldLedger 31 = .ok (.invokevirtual 228, 3) := by decide +kernel
theorem dX5_foldLedger_34 : decode cX5_foldLedger 34 = .ok (.i2l, 1) := by decide +kernel
theorem dX5_foldLedger_35 : decode cX5_foldLedger 35 = .ok (.invokestatic 212, 3) := by decide +kernel
theorem dX5_foldLedger_38 : decode cX5_foldLedger 38 = .ok (.lreturn, 1) := by decide +kernel
theorem dX5_fold_0 : decode cX5_fold 0 = .ok (.ldc2_w 231, 3) := by decide +kernel
theorem dX5_fold_3 : decode cX5_fold 3 = .ok (.lload_n 0, 1) := by decide +kernel
theorem dX5_fold_4 : decode cX5_fold 4 = .ok (.lmul, 1) := by decide +kernel
theorem dX5_fold_5 : decode cX5_fold 5 = .ok (.lload_n 2, 1) := by decide +kernel
theorem dX5_fold_6 : decode cX5_fold 6 = .ok (.ladd, 1) := by decide +kernel
theorem dX5_fold_7 : decode cX5_fold 7 = .ok (.lreturn, 1) := by decide +kernel
set_option maxRecDepth 20000 in
theorem ggX5_canTrade_X2_has : GoodIn wsX5_canTrade wsX2_has := goodIn_r _ [6, 7, 18, 19, 20, 21, 22, 23, 24, 25, 26, 27, 28] (by decide +kernel) (by decide +kernel)
set_option maxRecDepth 20000 in
theorem gX5_canTrade_X2_has : GoodIn wsX5_canTrade (wsV RX5 89 RX2 yX2_has wsX2_has) := goodIn_app (goodIn_of _ (by decide +kernel)) ggX5_canTrade_X2_has
theorem dX5_canTrade_0 : decode cX5_canTrade 0 = .ok (.aload_n 0, 1) := by decide +kernel
theorem dX5_canTrade_1 : decode cX5_canTrade 1 = .ok (.getfield 19, 3) := by decide +kernel
theorem dX5_canTrade_4 : decode cX5_canTrade 4 = .ok (.iload_n 1, 1) := by decide +kernel
theorem dX5_canTrade_5 : decode cX5_canTrade 5 = .ok (.invokevirtual 89, 3) := by decide +kernel
theorem dX5_canTrade_8 : decode cX5_canTrade 8 = .ok (.ifCond .eq 23, 3) := by decide +kernel
theorem dX5_canTrade_11 : decode cX5_canTrade 11 = .ok (.aload_n 0, 1) := by decide +kernel
theorem dX5_canTrade_12 : decode cX5_canTrade 12 = .ok (.getfield 19, 3) := by decide +kernel
theorem dX5_canTrade_15 : decode cX5_canTrade 15 = .ok (.iload_n 2, 1) := by decide +kernel
theorem dX5_canTrade_16 : decode cX5_canTrade 16 = .ok (.invokevirtual 89, 3) := by decide +kernel
theorem dX5_canTrade_19 : decode cX5_canTrade 19 = .ok (.ifCond .eq 12, 3) := by decide +kernel
theorem dX5_canTrade_22 : decode cX5_canTrade 22 = .ok (.iload_n 1, 1) := by decide +kernel
theorem dX5_canTrade_23 : decode cX5_canTrade 23 = .ok (.iload_n 2, 1) := by decide +kernel
theorem dX5_canTrade_24 : decode cX5_canTrade 24 = .ok (.if_icmp .eq 7, 3) := by decide +kernel
theorem dX5_canTrade_27 : decode cX5_canTrade 27 = .ok (.iconst 1, 1) := by decide +kernel
theorem dX5_canTrade_28 : decode cX5_canTrade 28 = .ok (.goto 4, 3) := by decide +kernel
theorem dX5_canTrade_31 : decode cX5_canTrade 31 = .ok (.iconst 0, 1) := by decide +kernel
theorem dX5_canTrade_32 : decode cX5_canTrade 32 = .ok (.ireturn, 1) := by decide +kernel
theorem dX5_isPlanQuestion_0 : decode cX5_isPlanQuestion 0 = .ok (.iload_n 0, 1) := by decide +kernel
theorem dX5_isPlanQuestion_1 : decode cX5_isPlanQuestion 1 = .ok (.ifCond .eq 20, 3) := by decide +kernel
theorem dX5_isPlanQuestion_4 : decode cX5_isPlanQuestion 4 = .ok (.iload_n 0, 1) := by decide +kernel
theorem dX5_isPlanQuestion_5 : decode cX5_isPlanQuestion 5 = .ok (.iconst 1, 1) := by decide +kernel
theorem dX5_isPlanQuestion_6 : decode cX5_isPlanQuestion 6 = .ok (.if_icmp .eq 15, 3) := by decide +kernel
theorem dX5_isPlanQuestion_9 : decode cX5_isPlanQuestion 9 = .ok (.iload_n 0, 1) := by decide +kernel
theorem dX5_isPlanQuestion_10 : decode cX5_isPlanQuestion 10 = .ok (.bipush 10, 2) := by decide +kernel
theorem dX5_isPlanQuestion_12 : decode cX5_isPlanQuestion 12 = .ok (.if_icmp .lt 13, 3) := by decide +kernel
theorem dX5_isPlanQuestion_15 : decode cX5_isPlanQuestion 15 = .ok (.iload_n 0, 1) := by decide +kernel
theorem dX5_isPlanQuestion_16 : decode cX5_isPlanQuestion 16 = .ok (.bipush 13, 2) := by decide +kernel
theorem dX5_isPlanQuestion_18 : decode cX5_isPlanQuestion 18 = .ok (.if_icmp .ge 7, 3) := by decide +kernel
theorem dX5_isPlanQuestion_21 : decode cX5_isPlanQuestion 21 = .ok (.iconst 1, 1) := by decide +kernel
theorem dX5_isPlanQuestion_22 : decode cX5_isPlanQuestion 22 = .ok (.goto 4, 3) := by decide +kernel
theorem dX5_isPlanQuestion_25 : decode cX5_isPlanQuestion 25 = .ok (.iconst 0, 1) := by decide +kernel
theorem dX5_isPlanQuestion_26 : decode cX5_isPlanQuestion 26 = .ok (.ireturn, 1) := by decide +kernel
theorem dX5_isOfKind_0 : decode cX5_isOfKind 0 = .ok (.iload_n 1, 1) := by decide +kernel
theorem dX5_isOfKind_1 : decode cX5_isOfKind 1 = .ok (.ifCond .eq 18, 3) := by decide +kernel
theorem dX5_isOfKind_4 : decode cX5_isOfKind 4 = .ok (.iload_n 0, 1) := by decide +kernel
theorem dX5_isOfKind_5 : decode cX5_isOfKind 5 = .ok (.iload_n 1, 1) := by decide +kernel
theorem dX5_isOfKind_6 : decode cX5_isOfKind 6 = .ok (.if_icmp .eq 13, 3) := by decide +kernel
theorem dX5_isOfKind_9 : decode cX5_isOfKind 9 = .ok (.iload_n 0, 1) := by decide +kernel
theorem dX5_isOfKind_10 : decode cX5_isOfKind 10 = .ok (.iconst 4, 1) := by decide +kernel
theorem dX5_isOfKind_11 : decode cX5_isOfKind 11 = .ok (.if_icmp .ne 12, 3) := by decide +kernel
theorem dX5_isOfKind_14 : decode cX5_isOfKind 14 = .ok (.iload_n 1, 1) := by decide +kernel
theorem dX5_isOfKind_15 : decode cX5_isOfKind 15 = .ok (.iconst 1, 1) := by decide +kernel
theorem dX5_isOfKind_16 : decode cX5_isOfKind 16 = .ok (.if_icmp .ne 7, 3) := by decide +kernel
theorem dX5_isOfKind_19 : decode cX5_isOfKind 19 = .ok (.iconst 1, 1) := by decide +kernel
theorem dX5_isOfKind_20 : decode cX5_isOfKind 20 = .ok (.goto 4, 3) := by decide +kernel
theorem dX5_isOfKind_23 : decode cX5_isOfKind 23 = .ok (.iconst 0, 1) := by decide +kernel
theorem dX5_isOfKind_24 : decode cX5_isOfKind 24 = .ok (.ireturn, 1) := by decide +kernel
theorem dX5_copyRow_0 : decode cX5_copyRow 0 = .ok (.aload_n 0, 1) := by decide +kernel
theorem dX5_copyRow_1 : decode cX5_copyRow 1 = .ok (.iconst 0, 1) := by decide +kernel
theorem dX5_copyRow_2 : decode cX5_copyRow 2 = .ok (.aload_n 1, 1) := by decide +kernel
theorem dX5_copyRow_3 : decode cX5_copyRow 3 = .ok (.iconst 0, 1) := by decide +kernel
theorem dX5_copyRow_4 : decode cX5_copyRow 4 = .ok (.iconst 4, 1) := by decide +kernel
