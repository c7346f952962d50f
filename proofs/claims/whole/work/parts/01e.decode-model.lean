theorem dX5_init_0 : decode cX5_init 0 = .ok (.aload_n 0, 1) := by decide +kernel
theorem dX5_init_1 : decode cX5_init 1 = .ok (.invokespecial 1, 3) := by decide +kernel
theorem dX5_init_4 : decode cX5_init 4 = .ok (.aload_n 0, 1) := by decide +kernel
theorem dX5_init_5 : decode cX5_init 5 = .ok (.sipush 9216, 3) := by decide +kernel
theorem dX5_init_8 : decode cX5_init 8 = .ok (.newarray .int, 2) := by decide +kernel
theorem dX5_init_10 : decode cX5_init 10 = .ok (.putfield 7, 3) := by decide +kernel
theorem dX5_init_13 : decode cX5_init 13 = .ok (.aload_n 0, 1) := by decide +kernel
theorem dX5_init_14 : decode cX5_init 14 = .ok (.sipush 2304, 3) := by decide +kernel
theorem dX5_init_17 : decode cX5_init 17 = .ok (.newarray .int, 2) := by decide +kernel
theorem dX5_init_19 : decode cX5_init 19 = .ok (.putfield 13, 3) := by decide +kernel
theorem dX5_init_22 : decode cX5_init 22 = .ok (.aload_n 0, 1) := by decide +kernel
theorem dX5_init_23 : decode cX5_init 23 = .ok (.iconst 4, 1) := by decide +kernel
theorem dX5_init_24 : decode cX5_init 24 = .ok (.newarray .boolean, 2) := by decide +kernel
theorem dX5_init_26 : decode cX5_init 26 = .ok (.putfield 16, 3) := by decide +kernel
theorem dX5_init_29 : decode cX5_init 29 = .ok (.aload_n 0, 1) := by decide +kernel
theorem dX5_init_30 : decode cX5_init 30 = .ok (.bipush 100, 2) := by decide +kernel
theorem dX5_init_32 : decode cX5_init 32 = .ok (.newarray .long, 2) := by decide +kernel
theorem dX5_init_34 : decode cX5_init 34 = .ok (.putfield 20, 3) := by decide +kernel
theorem dX5_init_37 : decode cX5_init 37 = .ok (.aload_n 0, 1) := by decide +kernel
theorem dX5_init_38 : decode cX5_init 38 = .ok (.bipush 100, 2) := by decide +kernel
theorem dX5_init_40 : decode cX5_init 40 = .ok (.newarray .long, 2) := by decide +kernel
theorem dX5_init_42 : decode cX5_init 42 = .ok (.putfield 24, 3) := by decide +kernel
theorem dX5_init_45 : decode cX5_init 45 = .ok (.aload_n 0, 1) := by decide +kernel
theorem dX5_init_46 : decode cX5_init 46 = .ok (.bipush 100, 2) := by decide +kernel
theorem dX5_init_48 : decode cX5_init 48 = .ok (.newarray .boolean, 2) := by decide +kernel
theorem dX5_init_50 : decode cX5_init 50 = .ok (.putfield 27, 3) := by decide +kernel
theorem dX5_init_53 : decode cX5_init 53 = .ok (.aload_n 0, 1) := by decide +kernel
theorem dX5_init_54 : decode cX5_init 54 = .ok (.sipush 200, 3) := by decide +kernel
theorem dX5_init_57 : decode cX5_init 57 = .ok (.newarray .long, 2) := by decide +kernel
theorem dX5_init_59 : decode cX5_init 59 = .ok (.putfield 30, 3) := by decide +kernel
theorem dX5_init_62 : decode cX5_init 62 = .ok (.aload_n 0, 1) := by decide +kernel
theorem dX5_init_63 : decode cX5_init 63 = .ok (.sipush 200, 3) := by decide +kernel
theorem dX5_init_66 : decode cX5_init 66 = .ok (.newarray .int, 2) := by decide +kernel
theorem dX5_init_68 : decode cX5_init 68 = .ok (.putfield 33, 3) := by decide +kernel
theorem dX5_init_71 : decode cX5_init 71 = .ok (.aload_n 0, 1) := by decide +kernel
theorem dX5_init_72 : decode cX5_init 72 = .ok (.bipush 48, 2) := by decide +kernel
theorem dX5_init_74 : decode cX5_init 74 = .ok (.newarray .int, 2) := by decide +kernel
theorem dX5_init_76 : decode cX5_init 76 = .ok (.putfield 36, 3) := by decide +kernel
theorem dX5_init_79 : decode cX5_init 79 = .ok (.aload_n 0, 1) := by decide +kernel
theorem dX5_init_80 : decode cX5_init 80 = .ok (.sipush 18432, 3) := by decide +kernel
theorem dX5_init_83 : decode cX5_init 83 = .ok (.newarray .int, 2) := by decide +kernel
theorem dX5_init_85 : decode cX5_init 85 = .ok (.putfield 39, 3) := by decide +kernel
theorem dX5_init_88 : decode cX5_init 88 = .ok (.aload_n 0, 1) := by decide +kernel
theorem dX5_init_89 : decode cX5_init 89 = .ok (.iload_n 1, 1) := by decide +kernel
theorem dX5_init_90 : decode cX5_init 90 = .ok (.ifCond .ge 7, 3) := by decide +kernel
theorem dX5_init_93 : decode cX5_init 93 = .ok (.iconst 0, 1) := by decide +kernel
theorem dX5_init_94 : decode cX5_init 94 = .ok (.goto 15, 3) := by decide +kernel
theorem dX5_init_97 : decode cX5_init 97 = .ok (.iload_n 1, 1) := by decide +kernel
theorem dX5_init_98 : decode cX5_init 98 = .ok (.bipush 48, 2) := by decide +kernel
theorem dX5_init_100 : decode cX5_init 100 = .ok (.if_icmp .le 8, 3) := by decide +kernel
theorem dX5_init_103 : decode cX5_init 103 = .ok (.bipush 48, 2) := by decide +kernel
theorem dX5_init_105 : decode cX5_init 105 = .ok (.goto 4, 3) := by decide +kernel
theorem dX5_init_108 : decode cX5_init 108 = .ok (.iload_n 1, 1) := by decide +kernel
theorem dX5_init_109 : decode cX5_init 109 = .ok (.putfield 42, 3) := by decide +kernel
theorem dX5_init_112 : decode cX5_init 112 = .ok (.aload_n 0, 1) := by decide +kernel
theorem dX5_init_113 : decode cX5_init 113 = .ok (.iload_n 2, 1) := by decide +kernel
theorem dX5_init_114 : decode cX5_init 114 = .ok (.ifCond .ge 7, 3) := by decide +kernel
theorem dX5_init_117 : decode cX5_init 117 = .ok (.iconst 0, 1) := by decide +kernel
theorem dX5_init_118 : decode cX5_init 118 = .ok (.goto 15, 3) := by decide +kernel
theorem dX5_init_121 : decode cX5_init 121 = .ok (.iload_n 2, 1) := by decide +kernel
theorem dX5_init_122 : decode cX5_init 122 = .ok (.bipush 48, 2) := by decide +kernel
theorem dX5_init_124 : decode cX5_init 124 = .ok (.if_icmp .le 8, 3) := by decide +kernel
theorem dX5_init_127 : decode cX5_init 127 = .ok (.bipush 48, 2) := by decide +kernel
theorem dX5_init_129 : decode cX5_init 129 = .ok (.goto 4, 3) := by decide +kernel
theorem dX5_init_132 : decode cX5_init 132 = .ok (.iload_n 2, 1) := by decide +kernel
theorem dX5_init_133 : decode cX5_init 133 = .ok (.putfield 46, 3) := by decide +kernel
theorem dX5_init_136 : decode cX5_init 136 = .ok (.aload_n 0, 1) := by decide +kernel
theorem dX5_init_137 : decode cX5_init 137 = .ok (.iload_n 3, 1) := by decide +kernel
theorem dX5_init_138 : decode cX5_init 138 = .ok (.ifCond .ge 7, 3) := by decide +kernel
theorem dX5_init_141 : decode cX5_init 141 = .ok (.iconst 0, 1) := by decide +kernel
theorem dX5_init_142 : decode cX5_init 142 = .ok (.goto 13, 3) := by decide +kernel
theorem dX5_init_145 : decode cX5_init 145 = .ok (.iload_n 3, 1) := by decide +kernel
theorem dX5_init_146 : decode cX5_init 146 = .ok (.iconst 4, 1) := by decide +kernel
theorem dX5_init_147 : decode cX5_init 147 = .ok (.if_icmp .le 7, 3) := by decide +kernel
theorem dX5_init_150 : decode cX5_init 150 = .ok (.iconst 4, 1) := by decide +kernel
theorem dX5_init_151 : decode cX5_init 151 = .ok (.goto 4, 3) := by decide +kernel
theorem dX5_init_154 : decode cX5_init 154 = .ok (.iload_n 3, 1) := by decide +kernel
theorem dX5_init_155 : decode cX5_init 155 = .ok (.putfield 49, 3) := by decide +kernel
theorem dX5_init_158 : decode cX5_init 158 = .ok (.iconst 0, 1) := by decide +kernel
theorem dX5_init_159 : decode cX5_init 159 = .ok (.istore 4, 2) := by decide +kernel
theorem dX5_init_161 : decode cX5_init 161 = .ok (.iload 4, 2) := by decide +kernel
theorem dX5_init_163 : decode cX5_init 163 = .ok (.sipush 2304, 3) := by decide +kernel
theorem dX5_init_166 : decode cX5_init 166 = .ok (.if_icmp .ge 19, 3) := by decide +kernel
theorem dX5_init_169 : decode cX5_init 169 = .ok (.aload_n 0, 1) := by decide +kernel
theorem dX5_init_170 : decode cX5_init 170 = .ok (.getfield 13, 3) := by decide +kernel
theorem dX5_init_173 : decode cX5_init 173 = .ok (.iload 4, 2) := by decide +kernel
theorem dX5_init_175 : decode cX5_init 175 = .ok (.sipush 255, 3) := by decide +kernel
theorem dX5_init_178 : decode cX5_init 178 = .ok (.iastore, 1) := by decide +kernel
theorem dX5_init_179 : decode cX5_init 179 = .ok (.iinc 4 1, 3) := by decide +kernel
theorem dX5_init_182 : decode cX5_init 182 = .ok (.goto (-21), 3) := by decide +kernel
theorem dX5_init_185 : decode cX5_init 185 = .ok (.aload_n 0, 1) := by decide +kernel
theorem dX5_init_186 : decode cX5_init 186 = .ok (.aload_n 0, 1) := by decide +kernel
theorem dX5_init_187 : decode cX5_init 187 = .ok (.getfield 46, 3) := by decide +kernel
theorem dX5_init_190 : decode cX5_init 190 = .ok (.putfield 52, 3) := by decide +kernel
theorem dX5_init_193 : decode cX5_init 193 = .ok (.return_, 1) := by decide +kernel
theorem dX5_thrown_0 : decode cX5_thrown 0 = .ok (.aload_n 0, 1) := by decide +kernel
theorem dX5_thrown_1 : decode cX5_thrown 1 = .ok (.getfield 55, 3) := by decide +kernel
theorem dX5_thrown_4 : decode cX5_thrown 4 = .ok (.ireturn, 1) := by decide +kernel
theorem dX5_cut_0 : decode cX5_cut 0 = .ok (.lload_n 0, 1) := by decide +kernel
theorem dX5_cut_1 : decode cX5_cut 1 = .ok (.ldc2_w 58, 3) := by decide +kernel
theorem dX5_cut_4 : decode cX5_cut 4 = .ok (.lcmp, 1) := by decide +kernel
theorem dX5_cut_5 : decode cX5_cut 5 = .ok (.ifCond .ge 9, 3) := by decide +kernel
theorem dX5_cut_8 : decode cX5_cut 8 = .ok (.ldc2_w 58, 3) := by decide +kernel
theorem dX5_cut_11 : decode cX5_cut 11 = .ok (.goto 18, 3) := by decide +kernel
theorem dX5_cut_14 : decode cX5_cut 14 = .ok (.lload_n 0, 1) := by decide +kernel
theorem dX5_cut_15 : decode cX5_cut 15 = .ok (.ldc2_w 60, 3) := by decide +kernel
theorem dX5_cut_18 : decode cX5_cut 18 = .ok (.lcmp, 1) := by decide +kernel
theorem dX5_cut_19 : decode cX5_cut 19 = .ok (.ifCond .le 9, 3) := by decide +kernel
theorem dX5_cut_22 : decode cX5_cut 22 = .ok (.ldc2_w 60, 3) := by decide +kernel
theorem dX5_cut_25 : decode cX5_cut 25 = .ok (.goto 4, 3) := by decide +kernel
theorem dX5_cut_28 : decode cX5_cut 28 = .ok (.lload_n 0, 1) := by decide +kernel
theorem dX5_cut_29 : decode cX5_cut 29 = .ok (.lreturn, 1) := by decide +kernel
theorem dX5_add_0 : decode cX5_add 0 = .ok (.aload_n 0, 1) := by decide +kernel
theorem dX5_add_1 : decode cX5_add 1 = .ok (.getfield 20, 3) := by decide +kernel
theorem dX5_add_4 : decode cX5_add 4 = .ok (.aload_n 0, 1) := by decide +kernel
theorem dX5_add_5 : decode cX5_add 5 = .ok (.getfield 62, 3) := by decide +kernel
theorem dX5_add_8 : decode cX5_add 8 = .ok (.lload_n 1, 1) := by decide +kernel
theorem dX5_add_9 : decode cX5_add 9 = .ok (.lastore, 1) := by decide +kernel
theorem dX5_add_10 : decode cX5_add 10 = .ok (.aload_n 0, 1) := by decide +kernel
theorem dX5_add_11 : decode cX5_add 11 = .ok (.getfield 24, 3) := by decide +kernel
theorem dX5_add_14 : decode cX5_add 14 = .ok (.aload_n 0, 1) := by decide +kernel
theorem dX5_add_15 : decode cX5_add 15 = .ok (.getfield 62, 3) := by decide +kernel
theorem dX5_add_18 : decode cX5_add 18 = .ok (.lload_n 3, 1) := by decide +kernel
theorem dX5_add_19 : decode cX5_add 19 = .ok (.lastore, 1) := by decide +kernel
theorem dX5_add_20 : decode cX5_add 20 = .ok (.aload_n 0, 1) := by decide +kernel
theorem dX5_add_21 : decode cX5_add 21 = .ok (.getfield 27, 3) := by decide +kernel
theorem dX5_add_24 : decode cX5_add 24 = .ok (.aload_n 0, 1) := by decide +kernel
theorem dX5_add_25 : decode cX5_add 25 = .ok (.getfield 62, 3) := by decide +kernel
theorem dX5_add_28 : decode cX5_add 28 = .ok (.iload 5, 2) := by decide +kernel
theorem dX5_add_30 : decode cX5_add 30 = .ok (.bastore, 1) := by decide +kernel
theorem dX5_add_31 : decode cX5_add 31 = .ok (.aload_n 0, 1) := by decide +kernel
theorem dX5_add_32 : decode cX5_add 32 = .ok (.dup, 1) := by decide +kernel
theorem dX5_add_33 : decode cX5_add 33 = .ok (.getfield 62, 3) := by decide +kernel
theorem dX5_add_36 : decode cX5_add 36 = .ok (.iconst 1, 1) := by decide +kernel
theorem dX5_add_37 : decode cX5_add 37 = .ok (.iadd, 1) := by decide +kernel
theorem dX5_add_38 : decode cX5_add 38 = .ok (.putfield 62, 3) := by decide +kernel
theorem dX5_add_41 : decode cX5_add 41 = .ok (.return_, 1) := by decide +kernel
set_option maxRecDepth 20000 in
theorem ggX5_move_X5_cut : GoodIn wsX5_move wsX5_cut := goodIn_r _ [6, 7, 8] (by decide +kernel) (by decide +kernel)
set_option maxRecDepth 20000 in
theorem gX5_move_X5_cut : GoodIn wsX5_move (va_wsS RX5 65 yX5_cut wsX5_cut) := goodIn_app (goodIn_of _ (by decide +kernel)) ggX5_move_X5_cut
set_option maxRecDepth 20000 in
theorem ggX5_move_X5_add : GoodIn wsX5_move wsX5_add := goodIn_ca (goodIn_r _ [12, 13, 1, 14, 15, 16, 17, 18, 19, 20, 21, 22, 23, 24, 25, 26, 27, 28, 29, 30, 31, 32, 33, 34, 35, 36] (by decide +kernel) (by decide +kernel)) (goodIn_sub (fun _ h => List.mem_cons_of_mem _ (List.mem_append_right _ h)) (by decide +kernel))
set_option maxRecDepth 20000 in
theorem gX5_move_X5_add : GoodIn wsX5_move (wsV RX5 69 RX5 yX5_add wsX5_add) := goodIn_app (goodIn_of _ (by decide +kernel)) ggX5_move_X5_add
theorem dX5_move_0 : decode cX5_move 0 = .ok (.aload_n 0, 1) := by decide +kernel
theorem dX5_move_1 : decode cX5_move 1 = .ok (.aload_n 0, 1) := by decide +kernel
theorem dX5_move_2 : decode cX5_move 2 = .ok (.getfield 62, 3) := by decide +kernel
theorem dX5_move_5 : decode cX5_move 5 = .ok (.bipush 100, 2) := by decide +kernel
theorem dX5_move_7 : decode cX5_move 7 = .ok (.if_icmp .ne 7, 3) := by decide +kernel
theorem dX5_move_10 : decode cX5_move 10 = .ok (.iconst 1, 1) := by decide +kernel
theorem dX5_move_11 : decode cX5_move 11 = .ok (.goto 4, 3) := by decide +kernel
theorem dX5_move_14 : decode cX5_move 14 = .ok (.iconst 0, 1) := by decide +kernel
theorem dX5_move_15 : decode cX5_move 15 = .ok (.putfield 55, 3) := by decide +kernel
theorem dX5_move_18 : decode cX5_move 18 = .ok (.aload_n 0, 1) := by decide +kernel
theorem dX5_move_19 : decode cX5_move 19 = .ok (.getfield 55, 3) := by decide +kernel
theorem dX5_move_22 : decode cX5_move 22 = .ok (.ifCond .le 5, 3) := by decide +kernel
theorem dX5_move_25 : decode cX5_move 25 = .ok (.iconst 0, 1) := by decide +kernel
theorem dX5_move_26 : decode cX5_move 26 = .ok (.ireturn, 1) := by decide +kernel
theorem dX5_move_27 : decode cX5_move 27 = .ok (.aload_n 0, 1) := by decide +kernel
theorem dX5_move_28 : decode cX5_move 28 = .ok (.lload_n 1, 1) := by decide +kernel
theorem dX5_move_29 : decode cX5_move 29 = .ok (.invokestatic 65, 3) := by decide +kernel
theorem dX5_move_32 : decode cX5_move 32 = .ok (.lload_n 3, 1) := by decide +kernel
theorem dX5_move_33 : decode cX5_move 33 = .ok (.invokestatic 65, 3) := by decide +kernel
theorem dX5_move_36 : decode cX5_move 36 = .ok (.iconst 1, 1) := by decide +kernel
theorem dX5_move_37 : decode cX5_move 37 = .ok (.invokevirtual 69, 3) := by decide +kernel
theorem dX5_move_40 : decode cX5_move 40 = .ok (.aload_n 0, 1) := by decide +kernel
theorem dX5_move_41 : decode cX5_move 41 = .ok (.getfield 62, 3) := by decide +kernel
theorem dX5_move_44 : decode cX5_move 44 = .ok (.ireturn, 1) := by decide +kernel
set_option maxRecDepth 20000 in
theorem ggX5_line_X5_cut : GoodIn wsX5_line wsX5_cut := goodIn_r _ [6, 7, 8] (by decide +kernel) (by decide +kernel)
set_option maxRecDepth 20000 in
theorem gX5_line_X5_cut : GoodIn wsX5_line (va_wsS RX5 65 yX5_cut wsX5_cut) := goodIn_app (goodIn_of _ (by decide +kernel)) ggX5_line_X5_cut
set_option maxRecDepth 20000 in
theorem ggX5_line_X5_add : GoodIn wsX5_line wsX5_add := goodIn_ca (goodIn_r _ [12, 13, 1, 14, 15, 16, 17, 18, 19, 20, 21, 22, 23, 24, 25, 26, 27, 28, 29, 30, 31, 32, 33, 34, 35, 36] (by decide +kernel) (by decide +kernel)) (goodIn_sub (fun _ h => List.mem_cons_of_mem _ (List.mem_append_right _ h)) (by decide +kernel))
set_option maxRecDepth 20000 in
theorem gX5_line_X5_add : GoodIn wsX5_line (wsV RX5 69 RX5 yX5_add wsX5_add) := goodIn_app (goodIn_of _ (by decide +kernel)) ggX5_line_X5_add
theorem dX5_line_0 : decode cX5_line 0 = .ok (.aload_n 0, 1) := by decide +kernel
theorem dX5_line_1 : decode cX5_line 1 = .ok (.aload_n 0, 1) := by decide +kernel
theorem dX5_line_2 : decode cX5_line 2 = .ok (.getfield 62, 3) := by decide +kernel
theorem dX5_line_5 : decode cX5_line 5 = .ok (.ifCond .ne 7, 3) := by decide +kernel
theorem dX5_line_8 : decode cX5_line 8 = .ok (.iconst 1, 1) := by decide +kernel
theorem dX5_line_9 : decode cX5_line 9 = .ok (.goto 17, 3) := by decide +kernel
theorem dX5_line_12 : decode cX5_line 12 = .ok (.aload_n 0, 1) := by decide +kernel
theorem dX5_line_13 : decode cX5_line 13 = .ok (.getfield 62, 3) := by decide +kernel
theorem dX5_line_16 : decode cX5_line 16 = .ok (.bipush 100, 2) := by decide +kernel
theorem dX5_line_18 : decode cX5_line 18 = .ok (.if_icmp .ne 7, 3) := by decide +kernel
theorem dX5_line_21 : decode cX5_line 21 = .ok (.iconst 2, 1) := by decide +kernel
theorem dX5_line_22 : decode cX5_line 22 = .ok (.goto 4, 3) := by decide +kernel
theorem dX5_line_25 : decode cX5_line 25 = .ok (.iconst 0, 1) := by decide +kernel
theorem dX5_line_26 : decode cX5_line 26 = .ok (.putfield 55, 3) := by decide +kernel
theorem dX5_line_29 : decode cX5_line 29 = .ok (.aload_n 0, 1) := by decide +kernel
theorem dX5_line_30 : decode cX5_line 30 = .ok (.getfield 55, 3) := by decide +kernel
theorem dX5_line_33 : decode cX5_line 33 = .ok (.ifCond .le 5, 3) := by decide +kernel
theorem dX5_line_36 : decode cX5_line 36 = .ok (.iconst 0, 1) := by decide +kernel
theorem dX5_line_37 : decode cX5_line 37 = .ok (.ireturn, 1) := by decide +kernel
theorem dX5_line_38 : decode cX5_line 38 = .ok (.aload_n 0, 1) := by decide +kernel
theorem dX5_line_39 : decode cX5_line 39 = .ok (.lload_n 1, 1) := by decide +kernel
theorem dX5_line_40 : decode cX5_line 40 = .ok (.invokestatic 65, 3) := by decide +kernel
theorem dX5_line_43 : decode cX5_line 43 = .ok (.lload_n 3, 1) := by decide +kernel
theorem dX5_line_44 : decode cX5_line 44 = .ok (.invokestatic 65, 3) := by decide +kernel
theorem dX5_line_47 : decode cX5_line 47 = .ok (.iconst 0, 1) := by decide +kernel
theorem dX5_line_48 : decode cX5_line 48 = .ok (.invokevirtual 69, 3) := by decide +kernel
theorem dX5_line_51 : decode cX5_line 51 = .ok (.aload_n 0, 1) := by decide +kernel
theorem dX5_line_52 : decode cX5_line 52 = .ok (.getfield 62, 3) := by decide +kernel
theorem dX5_line_55 : decode cX5_line 55 = .ok (.ireturn, 1) := by decide +kernel
theorem dX5_size_0 : decode cX5_size 0 = .ok (.lload_n 0, 1) := by decide +kernel
theorem dX5_size_1 : decode cX5_size 1 = .ok (.lconst 0, 1) := by decide +kernel
theorem dX5_size_2 : decode cX5_size 2 = .ok (.lcmp, 1) := by decide +kernel
theorem dX5_size_3 : decode cX5_size 3 = .ok (.ifCond .ge 8, 3) := by decide +kernel
theorem dX5_size_6 : decode cX5_size 6 = .ok (.lload_n 0, 1) := by decide +kernel
theorem dX5_size_7 : decode cX5_size 7 = .ok (.lneg, 1) := by decide +kernel
theorem dX5_size_8 : decode cX5_size 8 = .ok (.goto 4, 3) := by decide +kernel
theorem dX5_size_11 : decode cX5_size 11 = .ok (.lload_n 0, 1) := by decide +kernel
theorem dX5_size_12 : decode cX5_size 12 = .ok (.lreturn, 1) := by decide +kernel
set_option maxRecDepth 20000 in
theorem ggX5_hair_X5_cut : GoodIn wsX5_hair wsX5_cut := goodIn_r _ [7, 8, 9] (by decide +kernel) (by decide +kernel)
set_option maxRecDepth 20000 in
theorem gX5_hair_X5_cut : GoodIn wsX5_hair (va_wsS RX5 65 yX5_cut wsX5_cut) := goodIn_app (goodIn_of _ (by decide +kernel)) ggX5_hair_X5_cut
set_option maxRecDepth 20000 in
theorem ggX5_hair_X5_size : GoodIn wsX5_hair wsX5_size := goodIn_r _ [12] (by decide +kernel) (by decide +kernel)
set_option maxRecDepth 20000 in
theorem gX5_hair_X5_size : GoodIn wsX5_hair (va_wsS RX5 73 yX5_size wsX5_size) := goodIn_app (goodIn_of _ (by decide +kernel)) ggX5_hair_X5_size
set_option maxRecDepth 20000 in
theorem ggX5_hair_X5_add : GoodIn wsX5_hair wsX5_add := goodIn_ca (goodIn_r _ [16, 17, 1, 18, 19, 20, 21, 22, 23, 24, 25, 26, 27, 28, 29, 30, 31, 32, 33, 34, 35, 36, 37, 38, 39, 40] (by decide +kernel) (by decide +kernel)) (goodIn_sub (fun _ h => List.mem_cons_of_mem _ (List.mem_append_right _ h)) (by decide +kernel))
set_option maxRecDepth 20000 in
theorem gX5_hair_X5_add : GoodIn wsX5_hair (wsV RX5 69 RX5 yX5_add wsX5_add) := goodIn_app (goodIn_of _ (by decide +kernel)) ggX5_hair_X5_add
theorem dX5_hair_0 : decode cX5_hair 0 = .ok (.aload_n 0, 1) := by decide +kernel
theorem dX5_hair_1 : decode cX5_hair 1 = .ok (.aload_n 0, 1) := by decide +kernel
theorem dX5_hair_2 : decode cX5_hair 2 = .ok (.getfield 62, 3) := by decide +kernel
theorem dX5_hair_5 : decode cX5_hair 5 = .ok (.bipush 96, 2) := by decide +kernel
theorem dX5_hair_7 : decode cX5_hair 7 = .ok (.if_icmp .le 7, 3) := by decide +kernel
theorem dX5_hair_10 : decode cX5_hair 10 = .ok (.iconst 1, 1) := by decide +kernel
theorem dX5_hair_11 : decode cX5_hair 11 = .ok (.goto 4, 3) := by decide +kernel
theorem dX5_hair_14 : decode cX5_hair 14 = .ok (.iconst 0, 1) := by decide +kernel
theorem dX5_hair_15 : decode cX5_hair 15 = .ok (.putfield 55, 3) := by decide +kernel
theorem dX5_hair_18 : decode cX5_hair 18 = .ok (.aload_n 0, 1) := by decide +kernel
theorem dX5_hair_19 : decode cX5_hair 19 = .ok (.getfield 55, 3) := by decide +kernel
theorem dX5_hair_22 : decode cX5_hair 22 = .ok (.ifCond .le 5, 3) := by decide +kernel
theorem dX5_hair_25 : decode cX5_hair 25 = .ok (.iconst 0, 1) := by decide +kernel
theorem dX5_hair_26 : decode cX5_hair 26 = .ok (.ireturn, 1) := by decide +kernel
theorem dX5_hair_27 : decode cX5_hair 27 = .ok (.lload_n 1, 1) := by decide +kernel
theorem dX5_hair_28 : decode cX5_hair 28 = .ok (.invokestatic 65, 3) := by decide +kernel
theorem dX5_hair_31 : decode cX5_hair 31 = .ok (.lstore 9, 2) := by decide +kernel
theorem dX5_hair_33 : decode cX5_hair 33 = .ok (.lload_n 3, 1) := by decide +kernel
theorem dX5_hair_34 : decode cX5_hair 34 = .ok (.invokestatic 65, 3) := by decide +kernel
theorem dX5_hair_37 : decode cX5_hair 37 = .ok (.lstore 11, 2) := by decide +kernel
theorem dX5_hair_39 : decode cX5_hair 39 = .ok (.lload 5, 2) := by decide +kernel
theorem dX5_hair_41 : decode cX5_hair 41 = .ok (.invokestatic 65, 3) := by decide +kernel
theorem dX5_hair_44 : decode cX5_hair 44 = .ok (.lstore 13, 2) := by decide +kernel
theorem dX5_hair_46 : decode cX5_hair 46 = .ok (.lload 7, 2) := by decide +kernel
theorem dX5_hair_48 : decode cX5_hair 48 = .ok (.invokestatic 65, 3) := by decide +kernel
theorem dX5_hair_51 : decode cX5_hair 51 = .ok (.lstore 15, 2) := by decide +kernel
theorem dX5_hair_53 : decode cX5_hair 53 = .ok (.lload 9, 2) := by decide +kernel
theorem dX5_hair_55 : decode cX5_hair 55 = .ok (.lload 13, 2) := by decide +kernel
theorem dX5_hair_57 : decode cX5_hair 57 = .ok (.lcmp, 1) := by decide +kernel
theorem dX5_hair_58 : decode cX5_hair 58 = .ok (.ifCond .ne 15, 3) := by decide +kernel
theorem dX5_hair_61 : decode cX5_hair 61 = .ok (.lload 11, 2) := by decide +kernel
theorem dX5_hair_63 : decode cX5_hair 63 = .ok (.lload 15, 2) := by decide +kernel
theorem dX5_hair_65 : decode cX5_hair 65 = .ok (.lcmp, 1) := by decide +kernel
theorem dX5_hair_66 : decode cX5_hair 66 = .ok (.ifCond .ne 7, 3) := by decide +kernel
theorem dX5_hair_69 : decode cX5_hair 69 = .ok (.iconst 1, 1) := by decide +kernel
theorem dX5_hair_70 : decode cX5_hair 70 = .ok (.goto 4, 3) := by decide +kernel
theorem dX5_hair_73 : decode cX5_hair 73 = .ok (.iconst 0, 1) := by decide +kernel
theorem dX5_hair_74 : decode cX5_hair 74 = .ok (.istore 17, 2) := by decide +kernel
theorem dX5_hair_76 : decode cX5_hair 76 = .ok (.lload 13, 2) := by decide +kernel
theorem dX5_hair_78 : decode cX5_hair 78 = .ok (.lload 9, 2) := by decide +kernel
theorem dX5_hair_80 : decode cX5_hair 80 = .ok (.lsub, 1) := by decide +kernel
theorem dX5_hair_81 : decode cX5_hair 81 = .ok (.invokestatic 73, 3) := by decide +kernel
theorem dX5_hair_84 : decode cX5_hair 84 = .ok (.lload 15, 2) := by decide +kernel
theorem dX5_hair_86 : decode cX5_hair 86 = .ok (.lload 11, 2) := by decide +kernel
theorem dX5_hair_88 : decode cX5_hair 88 = .ok (.lsub, 1) := by decide +kernel
theorem dX5_hair_89 : decode cX5_hair 89 = .ok (.invokestatic 73, 3) := by decide +kernel
theorem dX5_hair_92 : decode cX5_hair 92 = .ok (.lcmp, 1) := by decide +kernel
theorem dX5_hair_93 : decode cX5_hair 93 = .ok (.ifCond .lt 7, 3) := by decide +kernel
theorem dX5_hair_96 : decode cX5_hair 96 = .ok (.iconst 1, 1) := by decide +kernel
theorem dX5_hair_97 : decode cX5_hair 97 = .ok (.goto 4, 3) := by decide +kernel
theorem dX5_hair_100 : decode cX5_hair 100 = .ok (.iconst 0, 1) := by decide +kernel
theorem dX5_hair_101 : decode cX5_hair 101 = .ok (.istore 18, 2) := by decide +kernel
theorem dX5_hair_103 : decode cX5_hair 103 = .ok (.iload 18, 2) := by decide +kernel
theorem dX5_hair_105 : decode cX5_hair 105 = .ok (.ifCond .eq 12, 3) := by decide +kernel
theorem dX5_hair_108 : decode cX5_hair 108 = .ok (.iload 17, 2) := by decide +kernel
theorem dX5_hair_110 : decode cX5_hair 110 = .ok (.ifCond .ne 7, 3) := by decide +kernel
theorem dX5_hair_113 : decode cX5_hair 113 = .ok (.lconst 0, 1) := by decide +kernel
theorem dX5_hair_114 : decode cX5_hair 114 = .ok (.goto 6, 3) := by decide +kernel
theorem dX5_hair_117 : decode cX5_hair 117 = .ok (.ldc2_w 76, 3) := by decide +kernel
theorem dX5_hair_120 : decode cX5_hair 120 = .ok (.lstore 19, 2) := by decide +kernel
theorem dX5_hair_122 : decode cX5_hair 122 = .ok (.iload 18, 2) := by decide +kernel
theorem dX5_hair_124 : decode cX5_hair 124 = .ok (.ifCond .eq 9, 3) := by decide +kernel
theorem dX5_hair_127 : decode cX5_hair 127 = .ok (.ldc2_w 76, 3) := by decide +kernel
theorem dX5_hair_130 : decode cX5_hair 130 = .ok (.goto 4, 3) := by decide +kernel
theorem dX5_hair_133 : decode cX5_hair 133 = .ok (.lconst 0, 1) := by decide +kernel
theorem dX5_hair_134 : decode cX5_hair 134 = .ok (.lstore 21, 2) := by decide +kernel
theorem dX5_hair_136 : decode cX5_hair 136 = .ok (.iload 17, 2) := by decide +kernel
theorem dX5_hair_138 : decode cX5_hair 138 = .ok (.ifCond .eq 74, 3) := by decide +kernel
theorem dX5_hair_141 : decode cX5_hair 141 = .ok (.aload_n 0, 1) := by decide +kernel
theorem dX5_hair_142 : decode cX5_hair 142 = .ok (.lload 9, 2) := by decide +kernel
theorem dX5_hair_144 : decode cX5_hair 144 = .ok (.ldc2_w 76, 3) := by decide +kernel
theorem dX5_hair_147 : decode cX5_hair 147 = .ok (.lsub, 1) := by decide +kernel
theorem dX5_hair_148 : decode cX5_hair 148 = .ok (.lload 11, 2) := by decide +kernel
theorem dX5_hair_150 : decode cX5_hair 150 = .ok (.ldc2_w 76, 3) := by decide +kernel
theorem dX5_hair_153 : decode cX5_hair 153 = .ok (.lsub, 1) := by decide +kernel
theorem dX5_hair_154 : decode cX5_hair 154 = .ok (.iconst 1, 1) := by decide +kernel
theorem dX5_hair_155 : decode cX5_hair 155 = .ok (.invokevirtual 69, 3) := by decide +kernel
theorem dX5_hair_158 : decode cX5_hair 158 = .ok (.aload_n 0, 1) := by decide +kernel
theorem dX5_hair_159 : decode cX5_hair 159 = .ok (.lload 9, 2) := by decide +kernel
theorem dX5_hair_161 : decode cX5_hair 161 = .ok (.ldc2_w 76, 3) := by decide +kernel
theorem dX5_hair_164 : decode cX5_hair 164 = .ok (.ladd, 1) := by decide +kernel
theorem dX5_hair_165 : decode cX5_hair 165 = .ok (.lload 11, 2) := by decide +kernel
theorem dX5_hair_167 : decode cX5_hair 167 = .ok (.ldc2_w 76, 3) := by decide +kernel
theorem dX5_hair_170 : decode cX5_hair 170 = .ok (.lsub, 1) := by decide +kernel
theorem dX5_hair_171 : decode cX5_hair 171 = .ok (.iconst 0, 1) := by decide +kernel
theorem dX5_hair_172 : decode cX5_hair 172 = .ok (.invokevirtual 69, 3) := by decide +kernel
theorem dX5_hair_175 : decode cX5_hair 175 = .ok (.aload_n 0, 1) := by decide +kernel
theorem dX5_hair_176 : decode cX5_hair 176 = .ok (.lload 9, 2) := by decide +kernel
theorem dX5_hair_178 : decode cX5_hair 178 = .ok (.ldc2_w 76, 3) := by decide +kernel
theorem dX5_hair_181 : decode cX5_hair 181 = .ok (.ladd, 1) := by decide +kernel
theorem dX5_hair_182 : decode cX5_hair 182 = .ok (.lload 11, 2) := by decide +kernel
theorem dX5_hair_184 : decode cX5_hair 184 = .ok (.ldc2_w 76, 3) := by decide +kernel
theorem dX5_hair_187 : decode cX5_hair 187 = .ok (.ladd, 1) := by decide +kernel
theorem dX5_hair_188 : decode cX5_hair 188 = .ok (.iconst 0, 1) := by decide +kernel
theorem dX5_hair_189 : decode cX5_hair 189 = .ok (.invokevirtual 69, 3) := by decide +kernel
theorem dX5_hair_192 : decode cX5_hair 192 = .ok (.aload_n 0, 1) := by decide +kernel
theorem dX5_hair_193 : decode cX5_hair 193 = .ok (.lload 9, 2) := by decide +kernel
theorem dX5_hair_195 : decode cX5_hair 195 = .ok (.ldc2_w 76, 3) := by decide +kernel
theorem dX5_hair_198 : decode cX5_hair 198 = .ok (.lsub, 1) := by decide +kernel
theorem dX5_hair_199 : decode cX5_hair 199 = .ok (.lload 11, 2) := by decide +kernel
theorem dX5_hair_201 : decode cX5_hair 201 = .ok (.ldc2_w 76, 3) := by decide +kernel
theorem dX5_hair_204 : decode cX5_hair 204 = .ok (.ladd, 1) := by decide +kernel
theorem dX5_hair_205 : decode cX5_hair 205 = .ok (.iconst 0, 1) := by decide +kernel
theorem dX5_hair_206 : decode cX5_hair 206 = .ok (.invokevirtual 69, 3) := by decide +kernel
theorem dX5_hair_209 : decode cX5_hair 209 = .ok (.goto 63, 3) := by decide +kernel
theorem dX5_hair_212 : decode cX5_hair 212 = .ok (.aload_n 0, 1) := by decide +kernel
theorem dX5_hair_213 : decode cX5_hair 213 = .ok (.lload 9, 2) := by decide +kernel
theorem dX5_hair_215 : decode cX5_hair 215 = .ok (.lload 19, 2) := by decide +kernel
theorem dX5_hair_217 : decode cX5_hair 217 = .ok (.lsub, 1) := by decide +kernel
theorem dX5_hair_218 : decode cX5_hair 218 = .ok (.lload 11, 2) := by decide +kernel
theorem dX5_hair_220 : decode cX5_hair 220 = .ok (.lload 21, 2) := by decide +kernel
theorem dX5_hair_222 : decode cX5_hair 222 = .ok (.lsub, 1) := by decide +kernel
theorem dX5_hair_223 : decode cX5_hair 223 = .ok (.iconst 1, 1) := by decide +kernel
theorem dX5_hair_224 : decode cX5_hair 224 = .ok (.invokevirtual 69, 3) := by decide +kernel
theorem dX5_hair_227 : decode cX5_hair 227 = .ok (.aload_n 0, 1) := by decide +kernel
theorem dX5_hair_228 : decode cX5_hair 228 = .ok (.lload 13, 2) := by decide +kernel
theorem dX5_hair_230 : decode cX5_hair 230 = .ok (.lload 19, 2) := by decide +kernel
theorem dX5_hair_232 : decode cX5_hair 232 = .ok (.lsub, 1) := by decide +kernel
theorem dX5_hair_233 : decode cX5_hair 233 = .ok (.lload 15, 2) := by decide +kernel
theorem dX5_hair_235 : decode cX5_hair 235 = .ok (.lload 21, 2) := by decide +kernel
theorem dX5_hair_237 : decode cX5_hair 237 = .ok (.lsub, 1) := by decide +kernel
theorem dX5_hair_238 : decode cX5_hair 238 = .ok (.iconst 0, 1) := by decide +kernel
theorem dX5_hair_239 : decode cX5_hair 239 = .ok (.invokevirtual 69, 3) := by decide +kernel
theorem dX5_hair_242 : decode cX5_hair 242 = .ok (.aload_n 0, 1) := by decide +kernel
theorem dX5_hair_243 : decode cX5_hair 243 = .ok (.lload 13, 2) := by decide +kernel
theorem dX5_hair_245 : decode cX5_hair 245 = .ok (.lload 19, 2) := by decide +kernel
theorem dX5_hair_247 : decode cX5_hair 247 = .ok (.ladd, 1) := by decide +kernel
theorem dX5_hair_248 : decode cX5_hair 248 = .ok (.lload 15, 2) := by decide +kernel
theorem dX5_hair_250 : decode cX5_hair 250 = .ok (.lload 21, 2) := by decide +kernel
theorem dX5_hair_252 : decode cX5_hair 252 = .ok (.ladd, 1) := by decide +kernel
theorem dX5_hair_253 : decode cX5_hair 253 = .ok (.iconst 0, 1) := by decide +kernel
theorem dX5_hair_254 : decode cX5_hair 254 = .ok (.invokevirtual 69, 3) := by decide +kernel
theorem dX5_hair_257 : decode cX5_hair 257 = .ok (.aload_n 0, 1) := by decide +kernel
theorem dX5_hair_258 : decode cX5_hair 258 = .ok (.lload 9, 2) := by decide +kernel
theorem dX5_hair_260 : decode cX5_hair 260 = .ok (.lload 19, 2) := by decide +kernel
theorem dX5_hair_262 : decode cX5_hair 262 = .ok (.ladd, 1) := by decide +kernel
theorem dX5_hair_263 : decode cX5_hair 263 = .ok (.lload 11, 2) := by decide +kernel
theorem dX5_hair_265 : decode cX5_hair 265 = .ok (.lload 21, 2) := by decide +kernel
theorem dX5_hair_267 : decode cX5_hair 267 = .ok (.ladd, 1) := by decide +kernel
theorem dX5_hair_268 : decode cX5_hair 268 = .ok (.iconst 0, 1) := by decide +kernel
theorem dX5_hair_269 : decode cX5_hair 269 = .ok (.invokevirtual 69, 3) := by decide +kernel
theorem dX5_hair_272 : decode cX5_hair 272 = .ok (.aload_n 0, 1) := by decide +kernel
theorem dX5_hair_273 : decode cX5_hair 273 = .ok (.getfield 62, 3) := by decide +kernel
theorem dX5_hair_276 : decode cX5_hair 276 = .ok (.ireturn, 1) := by decide +kernel
theorem dX5_down_0 : decode cX5_down 0 = .ok (.lload_n 0, 1) := by decide +kernel
theorem dX5_down_1 : decode cX5_down 1 = .ok (.lload_n 2, 1) := by decide +kernel
theorem dX5_down_2 : decode cX5_down 2 = .ok (.ldiv, 1) := by decide +kernel
theorem dX5_down_3 : decode cX5_down 3 = .ok (.lstore 4, 2) := by decide +kernel
theorem dX5_down_5 : decode cX5_down 5 = .ok (.lload_n 0, 1) := by decide +kernel
theorem dX5_down_6 : decode cX5_down 6 = .ok (.lload_n 2, 1) := by decide +kernel
theorem dX5_down_7 : decode cX5_down 7 = .ok (.lrem, 1) := by decide +kernel
theorem dX5_down_8 : decode cX5_down 8 = .ok (.lconst 0, 1) := by decide +kernel
theorem dX5_down_9 : decode cX5_down 9 = .ok (.lcmp, 1) := by decide +kernel
theorem dX5_down_10 : decode cX5_down 10 = .ok (.ifCond .ge 10, 3) := by decide +kernel
theorem dX5_down_13 : decode cX5_down 13 = .ok (.lload 4, 2) := by decide +kernel
theorem dX5_down_15 : decode cX5_down 15 = .ok (.lconst 1, 1) := by decide +kernel
theorem dX5_down_16 : decode cX5_down 16 = .ok (.lsub, 1) := by decide +kernel
theorem dX5_down_17 : decode cX5_down 17 = .ok (.goto 5, 3) := by decide +kernel
theorem dX5_down_20 : decode cX5_down 20 = .ok (.lload 4, 2) := by decide +kernel
theorem dX5_down_22 : decode cX5_down 22 = .ok (.lreturn, 1) := by decide +kernel
set_option maxRecDepth 20000 in
theorem ggX5_cross_X5_down : GoodIn wsX5_cross wsX5_down := goodIn_r _ [9] (by decide +kernel) (by decide +kernel)
set_option maxRecDepth 20000 in
theorem gX5_cross_X5_down : GoodIn wsX5_cross (va_wsS RX5 81 yX5_down wsX5_down) := goodIn_app (goodIn_of _ (by decide +kernel)) ggX5_cross_X5_down
theorem dX5_cross_0 : decode cX5_cross 0 = .ok (.aload_n 0, 1) := by decide +kernel
theorem dX5_cross_1 : decode cX5_cross 1 = .ok (.getfield 24, 3) := by decide +kernel
theorem dX5_cross_4 : decode cX5_cross 4 = .ok (.iload_n 1, 1) := by decide +kernel
theorem dX5_cross_5 : decode cX5_cross 5 = .ok (.laload, 1) := by decide +kernel
theorem dX5_cross_6 : decode cX5_cross 6 = .ok (.aload_n 0, 1) := by decide +kernel
theorem dX5_cross_7 : decode cX5_cross 7 = .ok (.getfield 24, 3) := by decide +kernel
theorem dX5_cross_10 : decode cX5_cross 10 = .ok (.iload_n 2, 1) := by decide +kernel
theorem dX5_cross_11 : decode cX5_cross 11 = .ok (.laload, 1) := by decide +kernel
theorem dX5_cross_12 : decode cX5_cross 12 = .ok (.lcmp, 1) := by decide +kernel
theorem dX5_cross_13 : decode cX5_cross 13 = .ok (.ifCond .gt 7, 3) := by decide +kernel
theorem dX5_cross_16 : decode cX5_cross 16 = .ok (.iconst 1, 1) := by decide +kernel
theorem dX5_cross_17 : decode cX5_cross 17 = .ok (.goto 4, 3) := by decide +kernel
theorem dX5_cross_20 : decode cX5_cross 20 = .ok (.iconst 0, 1) := by decide +kernel
theorem dX5_cross_21 : decode cX5_cross 21 = .ok (.istore 5, 2) := by decide +kernel
theorem dX5_cross_23 : decode cX5_cross 23 = .ok (.iload 5, 2) := by decide +kernel
theorem dX5_cross_25 : decode cX5_cross 25 = .ok (.ifCond .eq 7, 3) := by decide +kernel
theorem dX5_cross_28 : decode cX5_cross 28 = .ok (.iload_n 1, 1) := by decide +kernel
theorem dX5_cross_29 : decode cX5_cross 29 = .ok (.goto 4, 3) := by decide +kernel
theorem dX5_cross_32 : decode cX5_cross 32 = .ok (.iload_n 2, 1) := by decide +kernel
theorem dX5_cross_33 : decode cX5_cross 33 = .ok (.istore 6, 2) := by decide +kernel
theorem dX5_cross_35 : decode cX5_cross 35 = .ok (.iload 5, 2) := by decide +kernel
theorem dX5_cross_37 : decode cX5_cross 37 = .ok (.ifCond .eq 7, 3) := by decide +kernel
theorem dX5_cross_40 : decode cX5_cross 40 = .ok (.iload_n 2, 1) := by decide +kernel
theorem dX5_cross_41 : decode cX5_cross 41 = .ok (.goto 4, 3) := by decide +kernel
theorem dX5_cross_44 : decode cX5_cross 44 = .ok (.iload_n 1, 1) := by decide +kernel
theorem dX5_cross_45 : decode cX5_cross 45 = .ok (.istore 7, 2) := by decide +kernel
theorem dX5_cross_47 : decode cX5_cross 47 = .ok (.aload_n 0, 1) := by decide +kernel
theorem dX5_cross_48 : decode cX5_cross 48 = .ok (.getfield 24, 3) := by decide +kernel
theorem dX5_cross_51 : decode cX5_cross 51 = .ok (.iload 6, 2) := by decide +kernel
theorem dX5_cross_53 : decode cX5_cross 53 = .ok (.laload, 1) := by decide +kernel
theorem dX5_cross_54 : decode cX5_cross 54 = .ok (.lload_n 3, 1) := by decide +kernel
theorem dX5_cross_55 : decode cX5_cross 55 = .ok (.lcmp, 1) := by decide +kernel
theorem dX5_cross_56 : decode cX5_cross 56 = .ok (.ifCond .gt 15, 3) := by decide +kernel
theorem dX5_cross_59 : decode cX5_cross 59 = .ok (.aload_n 0, 1) := by decide +kernel
theorem dX5_cross_60 : decode cX5_cross 60 = .ok (.getfield 24, 3) := by decide +kernel
theorem dX5_cross_63 : decode cX5_cross 63 = .ok (.iload 7, 2) := by decide +kernel
theorem dX5_cross_65 : decode cX5_cross 65 = .ok (.laload, 1) := by decide +kernel
theorem dX5_cross_66 : decode cX5_cross 66 = .ok (.lload_n 3, 1) := by decide +kernel
theorem dX5_cross_67 : decode cX5_cross 67 = .ok (.lcmp, 1) := by decide +kernel
theorem dX5_cross_68 : decode cX5_cross 68 = .ok (.ifCond .gt 4, 3) := by decide +kernel
theorem dX5_cross_71 : decode cX5_cross 71 = .ok (.return_, 1) := by decide +kernel
theorem dX5_cross_72 : decode cX5_cross 72 = .ok (.aload_n 0, 1) := by decide +kernel
theorem dX5_cross_73 : decode cX5_cross 73 = .ok (.getfield 30, 3) := by decide +kernel
theorem dX5_cross_76 : decode cX5_cross 76 = .ok (.aload_n 0, 1) := by decide +kernel
theorem dX5_cross_77 : decode cX5_cross 77 = .ok (.getfield 78, 3) := by decide +kernel
theorem dX5_cross_80 : decode cX5_cross 80 = .ok (.aload_n 0, 1) := by decide +kernel
theorem dX5_cross_81 : decode cX5_cross 81 = .ok (.getfield 20, 3) := by decide +kernel
theorem dX5_cross_84 : decode cX5_cross 84 = .ok (.iload 6, 2) := by decide +kernel
theorem dX5_cross_86 : decode cX5_cross 86 = .ok (.laload, 1) := by decide +kernel
theorem dX5_cross_87 : decode cX5_cross 87 = .ok (.lload_n 3, 1) := by decide +kernel
theorem dX5_cross_88 : decode cX5_cross 88 = .ok (.aload_n 0, 1) := by decide +kernel
theorem dX5_cross_89 : decode cX5_cross 89 = .ok (.getfield 24, 3) := by decide +kernel
theorem dX5_cross_92 : decode cX5_cross 92 = .ok (.iload 6, 2) := by decide +kernel
theorem dX5_cross_94 : decode cX5_cross 94 = .ok (.laload, 1) := by decide +kernel
theorem dX5_cross_95 : decode cX5_cross 95 = .ok (.lsub, 1) := by decide +kernel
theorem dX5_cross_96 : decode cX5_cross 96 = .ok (.aload_n 0, 1) := by decide +kernel
theorem dX5_cross_97 : decode cX5_cross 97 = .ok (.getfield 20, 3) := by decide +kernel
theorem dX5_cross_100 : decode cX5_cross 100 = .ok (.iload 7, 2) := by decide +kernel
theorem dX5_cross_102 : decode cX5_cross 102 = .ok (.laload, 1) := by decide +kernel
theorem dX5_cross_103 : decode cX5_cross 103 = .ok (.aload_n 0, 1) := by decide +kernel
theorem dX5_cross_104 : decode cX5_cross 104 = .ok (.getfield 20, 3) := by decide +kernel
theorem dX5_cross_107 : decode cX5_cross 107 = .ok (.iload 6, 2) := by decide +kernel
theorem dX5_cross_109 : decode cX5_cross 109 = .ok (.laload, 1) := by decide +kernel
theorem dX5_cross_110 : decode cX5_cross 110 = .ok (.lsub, 1) := by decide +kernel
theorem dX5_cross_111 : decode cX5_cross 111 = .ok (.lmul, 1) := by decide +kernel
theorem dX5_cross_112 : decode cX5_cross 112 = .ok (.aload_n 0, 1) := by decide +kernel
theorem dX5_cross_113 : decode cX5_cross 113 = .ok (.getfield 24, 3) := by decide +kernel
theorem dX5_cross_116 : decode cX5_cross 116 = .ok (.iload 7, 2) := by decide +kernel
theorem dX5_cross_118 : decode cX5_cross 118 = .ok (.laload, 1) := by decide +kernel
theorem dX5_cross_119 : decode cX5_cross 119 = .ok (.aload_n 0, 1) := by decide +kernel
theorem dX5_cross_120 : decode cX5_cross 120 = .ok (.getfield 24, 3) := by decide +kernel
theorem dX5_cross_123 : decode cX5_cross 123 = .ok (.iload 6, 2) := by decide +kernel
theorem dX5_cross_125 : decode cX5_cross 125 = .ok (.laload, 1) := by decide +kernel
theorem dX5_cross_126 : decode cX5_cross 126 = .ok (.lsub, 1) := by decide +kernel
theorem dX5_cross_127 : decode cX5_cross 127 = .ok (.invokestatic 81, 3) := by decide +kernel
theorem dX5_cross_130 : decode cX5_cross 130 = .ok (.ladd, 1) := by decide +kernel
theorem dX5_cross_131 : decode cX5_cross 131 = .ok (.lastore, 1) := by decide +kernel
theorem dX5_cross_132 : decode cX5_cross 132 = .ok (.aload_n 0, 1) := by decide +kernel
theorem dX5_cross_133 : decode cX5_cross 133 = .ok (.getfield 33, 3) := by decide +kernel
theorem dX5_cross_136 : decode cX5_cross 136 = .ok (.aload_n 0, 1) := by decide +kernel
theorem dX5_cross_137 : decode cX5_cross 137 = .ok (.getfield 78, 3) := by decide +kernel
theorem dX5_cross_140 : decode cX5_cross 140 = .ok (.iload 5, 2) := by decide +kernel
theorem dX5_cross_142 : decode cX5_cross 142 = .ok (.ifCond .eq 7, 3) := by decide +kernel
theorem dX5_cross_145 : decode cX5_cross 145 = .ok (.iconst 1, 1) := by decide +kernel
theorem dX5_cross_146 : decode cX5_cross 146 = .ok (.goto 4, 3) := by decide +kernel
theorem dX5_cross_149 : decode cX5_cross 149 = .ok (.iconst (-1), 1) := by decide +kernel
theorem dX5_cross_150 : decode cX5_cross 150 = .ok (.iastore, 1) := by decide +kernel
theorem dX5_cross_151 : decode cX5_cross 151 = .ok (.aload_n 0, 1) := by decide +kernel
theorem dX5_cross_152 : decode cX5_cross 152 = .ok (.dup, 1) := by decide +kernel
theorem dX5_cross_153 : decode cX5_cross 153 = .ok (.getfield 78, 3) := by decide +kernel
theorem dX5_cross_156 : decode cX5_cross 156 = .ok (.iconst 1, 1) := by decide +kernel
theorem dX5_cross_157 : decode cX5_cross 157 = .ok (.iadd, 1) := by decide +kernel
theorem dX5_cross_158 : decode cX5_cross 158 = .ok (.putfield 78, 3) := by decide +kernel
theorem dX5_cross_161 : decode cX5_cross 161 = .ok (.return_, 1) := by decide +kernel
set_option maxRecDepth 20000 in
theorem ggX5_crossAll_X5_cross : GoodIn wsX5_crossAll wsX5_cross := goodIn_ca (goodIn_r _ [8, 9, 10, 1, 11, 12, 13, 14, 7, 15, 16, 17, 18, 19, 20, 21, 22, 23, 24, 25, 26, 27, 28, 29, 30, 31, 32, 33, 34, 35, 36] (by decide +kernel) (by decide +kernel)) (goodIn_sub (fun _ h => List.mem_cons_of_mem _ (List.mem_append_right _ h)) (by decide +kernel))
set_option maxRecDepth 20000 in
theorem gX5_crossAll_X5_cross : GoodIn wsX5_crossAll (wsV RX5 85 RX5 yX5_cross wsX5_cross) := goodIn_app (goodIn_of _ (by decide +kernel)) ggX5_crossAll_X5_cross
theorem dX5_crossAll_0 : decode cX5_crossAll 0 = .ok (.aload_n 0, 1) := by decide +kernel
theorem dX5_crossAll_1 : decode cX5_crossAll 1 = .ok (.iconst 0, 1) := by decide +kernel
theorem dX5_crossAll_2 : decode cX5_crossAll 2 = .ok (.putfield 78, 3) := by decide +kernel
theorem dX5_crossAll_5 : decode cX5_crossAll 5 = .ok (.iconst 0, 1) := by decide +kernel
theorem dX5_crossAll_6 : decode cX5_crossAll 6 = .ok (.istore_n 3, 1) := by decide +kernel
theorem dX5_crossAll_7 : decode cX5_crossAll 7 = .ok (.iconst 0, 1) := by decide +kernel
theorem dX5_crossAll_8 : decode cX5_crossAll 8 = .ok (.istore 4, 2) := by decide +kernel
theorem dX5_crossAll_10 : decode cX5_crossAll 10 = .ok (.iload 4, 2) := by decide +kernel
theorem dX5_crossAll_12 : decode cX5_crossAll 12 = .ok (.aload_n 0, 1) := by decide +kernel
theorem dX5_crossAll_13 : decode cX5_crossAll 13 = .ok (.getfield 62, 3) := by decide +kernel
theorem dX5_crossAll_16 : decode cX5_crossAll 16 = .ok (.if_icmp .ge 76, 3) := by decide +kernel
theorem dX5_crossAll_19 : decode cX5_crossAll 19 = .ok (.aload_n 0, 1) := by decide +kernel
theorem dX5_crossAll_20 : decode cX5_crossAll 20 = .ok (.getfield 27, 3) := by decide +kernel
theorem dX5_crossAll_23 : decode cX5_crossAll 23 = .ok (.iload 4, 2) := by decide +kernel
theorem dX5_crossAll_25 : decode cX5_crossAll 25 = .ok (.baload, 1) := by decide +kernel
theorem dX5_crossAll_26 : decode cX5_crossAll 26 = .ok (.ifCond .eq 8, 3) := by decide +kernel
theorem dX5_crossAll_29 : decode cX5_crossAll 29 = .ok (.iload 4, 2) := by decide +kernel
theorem dX5_crossAll_31 : decode cX5_crossAll 31 = .ok (.goto 4, 3) := by decide +kernel
theorem dX5_crossAll_34 : decode cX5_crossAll 34 = .ok (.iload_n 3, 1) := by decide +kernel
theorem dX5_crossAll_35 : decode cX5_crossAll 35 = .ok (.istore_n 3, 1) := by decide +kernel
theorem dX5_crossAll_36 : decode cX5_crossAll 36 = .ok (.iload 4, 2) := by decide +kernel
theorem dX5_crossAll_38 : decode cX5_crossAll 38 = .ok (.iconst 1, 1) := by decide +kernel
theorem dX5_crossAll_39 : decode cX5_crossAll 39 = .ok (.iadd, 1) := by decide +kernel
theorem dX5_crossAll_40 : decode cX5_crossAll 40 = .ok (.aload_n 0, 1) := by decide +kernel
theorem dX5_crossAll_41 : decode cX5_crossAll 41 = .ok (.getfield 62, 3) := by decide +kernel
theorem dX5_crossAll_44 : decode cX5_crossAll 44 = .ok (.if_icmp .eq 15, 3) := by decide +kernel
theorem dX5_crossAll_47 : decode cX5_crossAll 47 = .ok (.aload_n 0, 1) := by decide +kernel
theorem dX5_crossAll_48 : decode cX5_crossAll 48 = .ok (.getfield 27, 3) := by decide +kernel
theorem dX5_crossAll_51 : decode cX5_crossAll 51 = .ok (.iload 4, 2) := by decide +kernel
theorem dX5_crossAll_53 : decode cX5_crossAll 53 = .ok (.iconst 1, 1) := by decide +kernel
theorem dX5_crossAll_54 : decode cX5_crossAll 54 = .ok (.iadd, 1) := by decide +kernel
theorem dX5_crossAll_55 : decode cX5_crossAll 55 = .ok (.baload, 1) := by decide +kernel
theorem dX5_crossAll_56 : decode cX5_crossAll 56 = .ok (.ifCond .eq 7, 3) := by decide +kernel
theorem dX5_crossAll_59 : decode cX5_crossAll 59 = .ok (.iconst 1, 1) := by decide +kernel
theorem dX5_crossAll_60 : decode cX5_crossAll 60 = .ok (.goto 4, 3) := by decide +kernel
theorem dX5_crossAll_63 : decode cX5_crossAll 63 = .ok (.iconst 0, 1) := by decide +kernel
theorem dX5_crossAll_64 : decode cX5_crossAll 64 = .ok (.istore 5, 2) := by decide +kernel
theorem dX5_crossAll_66 : decode cX5_crossAll 66 = .ok (.aload_n 0, 1) := by decide +kernel
theorem dX5_crossAll_67 : decode cX5_crossAll 67 = .ok (.iload 4, 2) := by decide +kernel
theorem dX5_crossAll_69 : decode cX5_crossAll 69 = .ok (.iload 5, 2) := by decide +kernel
theorem dX5_crossAll_71 : decode cX5_crossAll 71 = .ok (.ifCond .eq 7, 3) := by decide +kernel
theorem dX5_crossAll_74 : decode cX5_crossAll 74 = .ok (.iload_n 3, 1) := by decide +kernel
theorem dX5_crossAll_75 : decode cX5_crossAll 75 = .ok (.goto 7, 3) := by decide +kernel
theorem dX5_crossAll_78 : decode cX5_crossAll 78 = .ok (.iload 4, 2) := by decide +kernel
theorem dX5_crossAll_80 : decode cX5_crossAll 80 = .ok (.iconst 1, 1) := by decide +kernel
theorem dX5_crossAll_81 : decode cX5_crossAll 81 = .ok (.iadd, 1) := by decide +kernel
theorem dX5_crossAll_82 : decode cX5_crossAll 82 = .ok (.lload_n 1, 1) := by decide +kernel
theorem dX5_crossAll_83 : decode cX5_crossAll 83 = .ok (.invokevirtual 85, 3) := by decide +kernel
theorem dX5_crossAll_86 : decode cX5_crossAll 86 = .ok (.iinc 4 1, 3) := by decide +kernel
theorem dX5_crossAll_89 : decode cX5_crossAll 89 = .ok (.goto (-79), 3) := by decide +kernel
theorem dX5_crossAll_92 : decode cX5_crossAll 92 = .ok (.return_, 1) := by decide +kernel
theorem dX5_isInside_0 : decode cX5_isInside 0 = .ok (.iconst 0, 1) := by decide +kernel
theorem dX5_isInside_1 : decode cX5_isInside 1 = .ok (.istore 4, 2) := by decide +kernel
theorem dX5_isInside_3 : decode cX5_isInside 3 = .ok (.iconst 0, 1) := by decide +kernel
theorem dX5_isInside_4 : decode cX5_isInside 4 = .ok (.istore 5, 2) := by decide +kernel
theorem dX5_isInside_6 : decode cX5_isInside 6 = .ok (.iconst 0, 1) := by decide +kernel
theorem dX5_isInside_7 : decode cX5_isInside 7 = .ok (.istore 6, 2) := by decide +kernel
theorem dX5_isInside_9 : decode cX5_isInside 9 = .ok (.iload 6, 2) := by decide +kernel
theorem dX5_isInside_11 : decode cX5_isInside 11 = .ok (.aload_n 0, 1) := by decide +kernel
theorem dX5_isInside_12 : decode cX5_isInside 12 = .ok (.getfield 78, 3) := by decide +kernel
theorem dX5_isInside_15 : decode cX5_isInside 15 = .ok (.if_icmp .ge 36, 3) := by decide +kernel
theorem dX5_isInside_18 : decode cX5_isInside 18 = .ok (.aload_n 0, 1) := by decide +kernel
theorem dX5_isInside_19 : decode cX5_isInside 19 = .ok (.getfield 30, 3) := by decide +kernel
theorem dX5_isInside_22 : decode cX5_isInside 22 = .ok (.iload 6, 2) := by decide +kernel
theorem dX5_isInside_24 : decode cX5_isInside 24 = .ok (.laload, 1) := by decide +kernel
theorem dX5_isInside_25 : decode cX5_isInside 25 = .ok (.lload_n 2, 1) := by decide +kernel
theorem dX5_isInside_26 : decode cX5_isInside 26 = .ok (.lcmp, 1) := by decide +kernel
theorem dX5_isInside_27 : decode cX5_isInside 27 = .ok (.ifCond .gt 18, 3) := by decide +kernel
theorem dX5_isInside_30 : decode cX5_isInside 30 = .ok (.iload 4, 2) := by decide +kernel
theorem dX5_isInside_32 : decode cX5_isInside 32 = .ok (.aload_n 0, 1) := by decide +kernel
theorem dX5_isInside_33 : decode cX5_isInside 33 = .ok (.getfield 33, 3) := by decide +kernel
theorem dX5_isInside_36 : decode cX5_isInside 36 = .ok (.iload 6, 2) := by decide +kernel
theorem dX5_isInside_38 : decode cX5_isInside 38 = .ok (.iaload, 1) := by decide +kernel
theorem dX5_isInside_39 : decode cX5_isInside 39 = .ok (.iadd, 1) := by decide +kernel
theorem dX5_isInside_40 : decode cX5_isInside 40 = .ok (.istore 4, 2) := by decide +kernel
theorem dX5_isInside_42 : decode cX5_isInside 42 = .ok (.iinc 5 1, 3) := by decide +kernel
theorem dX5_isInside_45 : decode cX5_isInside 45 = .ok (.iinc 6 1, 3) := by decide +kernel
theorem dX5_isInside_48 : decode cX5_isInside 48 = .ok (.goto (-39), 3) := by decide +kernel
theorem dX5_isInside_51 : decode cX5_isInside 51 = .ok (.iload_n 1, 1) := by decide +kernel
theorem dX5_isInside_52 : decode cX5_isInside 52 = .ok (.ifCond .ne 16, 3) := by decide +kernel
theorem dX5_isInside_55 : decode cX5_isInside 55 = .ok (.iload 4, 2) := by decide +kernel
theorem dX5_isInside_57 : decode cX5_isInside 57 = .ok (.ifCond .eq 7, 3) := by decide +kernel
theorem dX5_isInside_60 : decode cX5_isInside 60 = .ok (.iconst 1, 1) := by decide +kernel
theorem dX5_isInside_61 : decode cX5_isInside 61 = .ok (.goto 20, 3) := by decide +kernel
theorem dX5_isInside_64 : decode cX5_isInside 64 = .ok (.iconst 0, 1) := by decide +kernel
theorem dX5_isInside_65 : decode cX5_isInside 65 = .ok (.goto 16, 3) := by decide +kernel
theorem dX5_isInside_68 : decode cX5_isInside 68 = .ok (.iload 5, 2) := by decide +kernel
theorem dX5_isInside_70 : decode cX5_isInside 70 = .ok (.iconst 2, 1) := by decide +kernel
theorem dX5_isInside_71 : decode cX5_isInside 71 = .ok (.irem, 1) := by decide +kernel
theorem dX5_isInside_72 : decode cX5_isInside 72 = .ok (.iconst 1, 1) := by decide +kernel
theorem dX5_isInside_73 : decode cX5_isInside 73 = .ok (.if_icmp .ne 7, 3) := by decide +kernel
theorem dX5_isInside_76 : decode cX5_isInside 76 = .ok (.iconst 1, 1) := by decide +kernel
theorem dX5_isInside_77 : decode cX5_isInside 77 = .ok (.goto 4, 3) := by decide +kernel
theorem dX5_isInside_80 : decode cX5_isInside 80 = .ok (.iconst 0, 1) := by decide +kernel
theorem dX5_isInside_81 : decode cX5_isInside 81 = .ok (.ireturn, 1) := by decide +kernel
theorem dX5_addUnits_0 : decode cX5_addUnits 0 = .ok (.iconst 0, 1) := by decide +kernel
theorem dX5_addUnits_1 : decode cX5_addUnits 1 = .ok (.istore 5, 2) := by decide +kernel
theorem dX5_addUnits_3 : decode cX5_addUnits 3 = .ok (.iload 5, 2) := by decide +kernel
theorem dX5_addUnits_5 : decode cX5_addUnits 5 = .ok (.aload_n 0, 1) := by decide +kernel
theorem dX5_addUnits_6 : decode cX5_addUnits 6 = .ok (.getfield 42, 3) := by decide +kernel
theorem dX5_addUnits_9 : decode cX5_addUnits 9 = .ok (.if_icmp .ge 106, 3) := by decide +kernel
theorem dX5_addUnits_12 : decode cX5_addUnits 12 = .ok (.lload_n 1, 1) := by decide +kernel
theorem dX5_addUnits_13 : decode cX5_addUnits 13 = .ok (.ldc2_w 89, 3) := by decide +kernel
theorem dX5_addUnits_16 : decode cX5_addUnits 16 = .ok (.iload 5, 2) := by decide +kernel
theorem dX5_addUnits_18 : decode cX5_addUnits 18 = .ok (.i2l, 1) := by decide +kernel
theorem dX5_addUnits_19 : decode cX5_addUnits 19 = .ok (.lmul, 1) := by decide +kernel
theorem dX5_addUnits_20 : decode cX5_addUnits 20 = .ok (.lcmp, 1) := by decide +kernel
theorem dX5_addUnits_21 : decode cX5_addUnits 21 = .ok (.ifCond .le 7, 3) := by decide +kernel
theorem dX5_addUnits_24 : decode cX5_addUnits 24 = .ok (.lload_n 1, 1) := by decide +kernel
theorem dX5_addUnits_25 : decode cX5_addUnits 25 = .ok (.goto 10, 3) := by decide +kernel
theorem dX5_addUnits_28 : decode cX5_addUnits 28 = .ok (.ldc2_w 89, 3) := by decide +kernel
theorem dX5_addUnits_31 : decode cX5_addUnits 31 = .ok (.iload 5, 2) := by decide +kernel
theorem dX5_addUnits_33 : decode cX5_addUnits 33 = .ok (.i2l, 1) := by decide +kernel
theorem dX5_addUnits_34 : decode cX5_addUnits 34 = .ok (.lmul, 1) := by decide +kernel
theorem dX5_addUnits_35 : decode cX5_addUnits 35 = .ok (.lstore 6, 2) := by decide +kernel
theorem dX5_addUnits_37 : decode cX5_addUnits 37 = .ok (.lload_n 3, 1) := by decide +kernel
theorem dX5_addUnits_38 : decode cX5_addUnits 38 = .ok (.ldc2_w 89, 3) := by decide +kernel
theorem dX5_addUnits_41 : decode cX5_addUnits 41 = .ok (.iload 5, 2) := by decide +kernel
theorem dX5_addUnits_43 : decode cX5_addUnits 43 = .ok (.i2l, 1) := by decide +kernel
theorem dX5_addUnits_44 : decode cX5_addUnits 44 = .ok (.lmul, 1) := by decide +kernel
theorem dX5_addUnits_45 : decode cX5_addUnits 45 = .ok (.ldc2_w 89, 3) := by decide +kernel
theorem dX5_addUnits_48 : decode cX5_addUnits 48 = .ok (.ladd, 1) := by decide +kernel
theorem dX5_addUnits_49 : decode cX5_addUnits 49 = .ok (.lcmp, 1) := by decide +kernel
theorem dX5_addUnits_50 : decode cX5_addUnits 50 = .ok (.ifCond .ge 7, 3) := by decide +kernel
theorem dX5_addUnits_53 : decode cX5_addUnits 53 = .ok (.lload_n 3, 1) := by decide +kernel
theorem dX5_addUnits_54 : decode cX5_addUnits 54 = .ok (.goto 14, 3) := by decide +kernel
theorem dX5_addUnits_57 : decode cX5_addUnits 57 = .ok (.ldc2_w 89, 3) := by decide +kernel
theorem dX5_addUnits_60 : decode cX5_addUnits 60 = .ok (.iload 5, 2) := by decide +kernel
theorem dX5_addUnits_62 : decode cX5_addUnits 62 = .ok (.i2l, 1) := by decide +kernel
theorem dX5_addUnits_63 : decode cX5_addUnits 63 = .ok (.lmul, 1) := by decide +kernel
theorem dX5_addUnits_64 : decode cX5_addUnits 64 = .ok (.ldc2_w 89, 3) := by decide +kernel
theorem dX5_addUnits_67 : decode cX5_addUnits 67 = .ok (.ladd, 1) := by decide +kernel
theorem dX5_addUnits_68 : decode cX5_addUnits 68 = .ok (.lstore 8, 2) := by decide +kernel
theorem dX5_addUnits_70 : decode cX5_addUnits 70 = .ok (.aload_n 0, 1) := by decide +kernel
theorem dX5_addUnits_71 : decode cX5_addUnits 71 = .ok (.getfield 36, 3) := by decide +kernel
theorem dX5_addUnits_74 : decode cX5_addUnits 74 = .ok (.iload 5, 2) := by decide +kernel
theorem dX5_addUnits_76 : decode cX5_addUnits 76 = .ok (.lload 8, 2) := by decide +kernel
theorem dX5_addUnits_78 : decode cX5_addUnits 78 = .ok (.lload 6, 2) := by decide +kernel
theorem dX5_addUnits_80 : decode cX5_addUnits 80 = .ok (.lcmp, 1) := by decide +kernel
theorem dX5_addUnits_81 : decode cX5_addUnits 81 = .ok (.ifCond .le 20, 3) := by decide +kernel
theorem dX5_addUnits_84 : decode cX5_addUnits 84 = .ok (.aload_n 0, 1) := by decide +kernel
theorem dX5_addUnits_85 : decode cX5_addUnits 85 = .ok (.getfield 36, 3) := by decide +kernel
theorem dX5_addUnits_88 : decode cX5_addUnits 88 = .ok (.iload 5, 2) := by decide +kernel
theorem dX5_addUnits_90 : decode cX5_addUnits 90 = .ok (.iaload, 1) := by decide +kernel
theorem dX5_addUnits_91 : decode cX5_addUnits 91 = .ok (.lload 8, 2) := by decide +kernel
theorem dX5_addUnits_93 : decode cX5_addUnits 93 = .ok (.lload 6, 2) := by decide +kernel
theorem dX5_addUnits_95 : decode cX5_addUnits 95 = .ok (.lsub, 1) := by decide +kernel
theorem dX5_addUnits_96 : decode cX5_addUnits 96 = .ok (.l2i, 1) := by decide +kernel
theorem dX5_addUnits_97 : decode cX5_addUnits 97 = .ok (.iadd, 1) := by decide +kernel
theorem dX5_addUnits_98 : decode cX5_addUnits 98 = .ok (.goto 10, 3) := by decide +kernel
theorem dX5_addUnits_101 : decode cX5_addUnits 101 = .ok (.aload_n 0, 1) := by decide +kernel
theorem dX5_addUnits_102 : decode cX5_addUnits 102 = .ok (.getfield 36, 3) := by decide +kernel
theorem dX5_addUnits_105 : decode cX5_addUnits 105 = .ok (.iload 5, 2) := by decide +kernel
theorem dX5_addUnits_107 : decode cX5_addUnits 107 = .ok (.iaload, 1) := by decide +kernel
theorem dX5_addUnits_108 : decode cX5_addUnits 108 = .ok (.iastore, 1) := by decide +kernel
theorem dX5_addUnits_109 : decode cX5_addUnits 109 = .ok (.iinc 5 1, 3) := by decide +kernel
theorem dX5_addUnits_112 : decode cX5_addUnits 112 = .ok (.goto (-109), 3) := by decide +kernel
theorem dX5_addUnits_115 : decode cX5_addUnits 115 = .ok (.return_, 1) := by decide +kernel
set_option maxRecDepth 20000 in
theorem ggX5_coverRow_X5_crossAll : GoodIn wsX5_coverRow wsX5_crossAll := goodIn_ca (goodIn_r _ [12, 5, 13, 14, 15, 16, 17, 11, 18, 19, 7, 20, 21, 22, 23, 24, 34, 35, 36, 37, 38, 39, 40, 41, 42, 43, 44, 45, 46, 47, 48, 49, 50, 51, 52, 53, 54] (by decide +kernel) (by decide +kernel)) (goodIn_sub (fun _ h => List.mem_cons_of_mem _ (List.mem_append_right _ h)) (by decide +kernel))
set_option maxRecDepth 20000 in
theorem gX5_coverRow_X5_crossAll : GoodIn wsX5_coverRow (wsV RX5 95 RX5 yX5_crossAll wsX5_crossAll) := goodIn_app (goodIn_of _ (by decide +kernel)) ggX5_coverRow_X5_crossAll
set_option maxRecDepth 20000 in
theorem ggX5_coverRow_X5_isInside : GoodIn wsX5_coverRow wsX5_isInside := goodIn_ca (goodIn_r _ [28, 5, 7, 21, 34, 35, 36, 37, 38, 39, 40, 41, 42, 43, 44, 45, 46, 47, 48, 49, 50, 51, 52, 53, 54] (by decide +kernel) (by decide +kernel)) (goodIn_sub (fun _ h => List.mem_cons_of_mem _ (List.mem_append_right _ h)) (by decide +kernel))
set_option maxRecDepth 20000 in
theorem gX5_coverRow_X5_isInside : GoodIn wsX5_coverRow (wsV RX5 101 RX5 yX5_isInside wsX5_isInside) := goodIn_app (goodIn_of _ (by decide +kernel)) ggX5_coverRow_X5_isInside
set_option maxRecDepth 20000 in
theorem ggX5_coverRow_X5_addUnits : GoodIn wsX5_coverRow wsX5_addUnits := goodIn_ca (goodIn_r _ [32, 1, 33, 2, 34, 35, 36, 37, 38, 39, 40, 41, 42, 43, 44, 45, 46, 47, 48, 49, 50, 51, 52, 53, 54] (by decide +kernel) (by decide +kernel)) (goodIn_sub (fun _ h => List.mem_cons_of_mem _ (List.mem_append_right _ h)) (by decide +kernel))
set_option maxRecDepth 20000 in
theorem gX5_coverRow_X5_addUnits : GoodIn wsX5_coverRow (wsV RX5 105 RX5 yX5_addUnits wsX5_addUnits) := goodIn_app (goodIn_of _ (by decide +kernel)) ggX5_coverRow_X5_addUnits
theorem dX5_coverRow_0 : decode cX5_coverRow 0 = .ok (.iconst 0, 1) := by decide +kernel
theorem dX5_coverRow_1 : decode cX5_coverRow 1 = .ok (.istore_n 3, 1) := by decide +kernel
theorem dX5_coverRow_2 : decode cX5_coverRow 2 = .ok (.iload_n 3, 1) := by decide +kernel
theorem dX5_coverRow_3 : decode cX5_coverRow 3 = .ok (.aload_n 0, 1) := by decide +kernel
theorem dX5_coverRow_4 : decode cX5_coverRow 4 = .ok (.getfield 42, 3) := by decide +kernel
theorem dX5_coverRow_7 : decode cX5_coverRow 7 = .ok (.if_icmp .ge 16, 3) := by decide +kernel
theorem dX5_coverRow_10 : decode cX5_coverRow 10 = .ok (.aload_n 0, 1) := by decide +kernel
theorem dX5_coverRow_11 : decode cX5_coverRow 11 = .ok (.getfield 36, 3) := by decide +kernel
theorem dX5_coverRow_14 : decode cX5_coverRow 14 = .ok (.iload_n 3, 1) := by decide +kernel
theorem dX5_coverRow_15 : decode cX5_coverRow 15 = .ok (.iconst 0, 1) := by decide +kernel
theorem dX5_coverRow_16 : decode cX5_coverRow 16 = .ok (.iastore, 1) := by decide +kernel
theorem dX5_coverRow_17 : decode cX5_coverRow 17 = .ok (.iinc 3 1, 3) := by decide +kernel
theorem dX5_coverRow_20 : decode cX5_coverRow 20 = .ok (.goto (-18), 3) := by decide +kernel
theorem dX5_coverRow_23 : decode cX5_coverRow 23 = .ok (.iconst 0, 1) := by decide +kernel
theorem dX5_coverRow_24 : decode cX5_coverRow 24 = .ok (.istore_n 3, 1) := by decide +kernel
theorem dX5_coverRow_25 : decode cX5_coverRow 25 = .ok (.iload_n 3, 1) := by decide +kernel
theorem dX5_coverRow_26 : decode cX5_coverRow 26 = .ok (.bipush 16, 2) := by decide +kernel
theorem dX5_coverRow_28 : decode cX5_coverRow 28 = .ok (.if_icmp .ge 198, 3) := by decide +kernel
theorem dX5_coverRow_31 : decode cX5_coverRow 31 = .ok (.aload_n 0, 1) := by decide +kernel
theorem dX5_coverRow_32 : decode cX5_coverRow 32 = .ok (.ldc2_w 91, 3) := by decide +kernel
theorem dX5_coverRow_35 : decode cX5_coverRow 35 = .ok (.ldc2_w 91, 3) := by decide +kernel
theorem dX5_coverRow_38 : decode cX5_coverRow 38 = .ok (.iload_n 2, 1) := by decide +kernel
theorem dX5_coverRow_39 : decode cX5_coverRow 39 = .ok (.i2l, 1) := by decide +kernel
theorem dX5_coverRow_40 : decode cX5_coverRow 40 = .ok (.lmul, 1) := by decide +kernel
theorem dX5_coverRow_41 : decode cX5_coverRow 41 = .ok (.iload_n 3, 1) := by decide +kernel
theorem dX5_coverRow_42 : decode cX5_coverRow 42 = .ok (.i2l, 1) := by decide +kernel
theorem dX5_coverRow_43 : decode cX5_coverRow 43 = .ok (.ladd, 1) := by decide +kernel
theorem dX5_coverRow_44 : decode cX5_coverRow 44 = .ok (.lmul, 1) := by decide +kernel
theorem dX5_coverRow_45 : decode cX5_coverRow 45 = .ok (.ldc2_w 93, 3) := by decide +kernel
theorem dX5_coverRow_48 : decode cX5_coverRow 48 = .ok (.ladd, 1) := by decide +kernel
theorem dX5_coverRow_49 : decode cX5_coverRow 49 = .ok (.invokevirtual 95, 3) := by decide +kernel
theorem dX5_coverRow_52 : decode cX5_coverRow 52 = .ok (.iconst 0, 1) := by decide +kernel
theorem dX5_coverRow_53 : decode cX5_coverRow 53 = .ok (.istore 4, 2) := by decide +kernel
theorem dX5_coverRow_55 : decode cX5_coverRow 55 = .ok (.iload 4, 2) := by decide +kernel
theorem dX5_coverRow_57 : decode cX5_coverRow 57 = .ok (.aload_n 0, 1) := by decide +kernel
theorem dX5_coverRow_58 : decode cX5_coverRow 58 = .ok (.getfield 78, 3) := by decide +kernel
theorem dX5_coverRow_61 : decode cX5_coverRow 61 = .ok (.if_icmp .ge 159, 3) := by decide +kernel
theorem dX5_coverRow_64 : decode cX5_coverRow 64 = .ok (.iconst 0, 1) := by decide +kernel
theorem dX5_coverRow_65 : decode cX5_coverRow 65 = .ok (.istore 5, 2) := by decide +kernel
theorem dX5_coverRow_67 : decode cX5_coverRow 67 = .ok (.ldc2_w 99, 3) := by decide +kernel
theorem dX5_coverRow_70 : decode cX5_coverRow 70 = .ok (.lstore 6, 2) := by decide +kernel
theorem dX5_coverRow_72 : decode cX5_coverRow 72 = .ok (.iconst 0, 1) := by decide +kernel
theorem dX5_coverRow_73 : decode cX5_coverRow 73 = .ok (.istore 8, 2) := by decide +kernel
theorem dX5_coverRow_75 : decode cX5_coverRow 75 = .ok (.iload 8, 2) := by decide +kernel
theorem dX5_coverRow_77 : decode cX5_coverRow 77 = .ok (.aload_n 0, 1) := by decide +kernel
theorem dX5_coverRow_78 : decode cX5_coverRow 78 = .ok (.getfield 78, 3) := by decide +kernel
theorem dX5_coverRow_81 : decode cX5_coverRow 81 = .ok (.if_icmp .ge 91, 3) := by decide +kernel
theorem dX5_coverRow_84 : decode cX5_coverRow 84 = .ok (.iload 5, 2) := by decide +kernel
theorem dX5_coverRow_86 : decode cX5_coverRow 86 = .ok (.ifCond .ne 28, 3) := by decide +kernel
theorem dX5_coverRow_89 : decode cX5_coverRow 89 = .ok (.iload 8, 2) := by decide +kernel
theorem dX5_coverRow_91 : decode cX5_coverRow 91 = .ok (.iload 4, 2) := by decide +kernel
theorem dX5_coverRow_93 : decode cX5_coverRow 93 = .ok (.if_icmp .ge 25, 3) := by decide +kernel
theorem dX5_coverRow_96 : decode cX5_coverRow 96 = .ok (.aload_n 0, 1) := by decide +kernel
theorem dX5_coverRow_97 : decode cX5_coverRow 97 = .ok (.getfield 30, 3) := by decide +kernel
theorem dX5_coverRow_100 : decode cX5_coverRow 100 = .ok (.iload 8, 2) := by decide +kernel
theorem dX5_coverRow_102 : decode cX5_coverRow 102 = .ok (.laload, 1) := by decide +kernel
theorem dX5_coverRow_103 : decode cX5_coverRow 103 = .ok (.aload_n 0, 1) := by decide +kernel
theorem dX5_coverRow_104 : decode cX5_coverRow 104 = .ok (.getfield 30, 3) := by decide +kernel
theorem dX5_coverRow_107 : decode cX5_coverRow 107 = .ok (.iload 4, 2) := by decide +kernel
theorem dX5_coverRow_109 : decode cX5_coverRow 109 = .ok (.laload, 1) := by decide +kernel
theorem dX5_coverRow_110 : decode cX5_coverRow 110 = .ok (.lcmp, 1) := by decide +kernel
theorem dX5_coverRow_111 : decode cX5_coverRow 111 = .ok (.ifCond .ne 7, 3) := by decide +kernel
theorem dX5_coverRow_114 : decode cX5_coverRow 114 = .ok (.iconst 1, 1) := by decide +kernel
theorem dX5_coverRow_115 : decode cX5_coverRow 115 = .ok (.goto 4, 3) := by decide +kernel
theorem dX5_coverRow_118 : decode cX5_coverRow 118 = .ok (.iconst 0, 1) := by decide +kernel
theorem dX5_coverRow_119 : decode cX5_coverRow 119 = .ok (.istore 5, 2) := by decide +kernel
theorem dX5_coverRow_121 : decode cX5_coverRow 121 = .ok (.aload_n 0, 1) := by decide +kernel
theorem dX5_coverRow_122 : decode cX5_coverRow 122 = .ok (.getfield 30, 3) := by decide +kernel
theorem dX5_coverRow_125 : decode cX5_coverRow 125 = .ok (.iload 8, 2) := by decide +kernel
theorem dX5_coverRow_127 : decode cX5_coverRow 127 = .ok (.laload, 1) := by decide +kernel
theorem dX5_coverRow_128 : decode cX5_coverRow 128 = .ok (.aload_n 0, 1) := by decide +kernel
theorem dX5_coverRow_129 : decode cX5_coverRow 129 = .ok (.getfield 30, 3) := by decide +kernel
theorem dX5_coverRow_132 : decode cX5_coverRow 132 = .ok (.iload 4, 2) := by decide +kernel
theorem dX5_coverRow_134 : decode cX5_coverRow 134 = .ok (.laload, 1) := by decide +kernel
theorem dX5_coverRow_135 : decode cX5_coverRow 135 = .ok (.lcmp, 1) := by decide +kernel
theorem dX5_coverRow_136 : decode cX5_coverRow 136 = .ok (.ifCond .le 26, 3) := by decide +kernel
theorem dX5_coverRow_139 : decode cX5_coverRow 139 = .ok (.aload_n 0, 1) := by decide +kernel
theorem dX5_coverRow_140 : decode cX5_coverRow 140 = .ok (.getfield 30, 3) := by decide +kernel
theorem dX5_coverRow_143 : decode cX5_coverRow 143 = .ok (.iload 8, 2) := by decide +kernel
theorem dX5_coverRow_145 : decode cX5_coverRow 145 = .ok (.laload, 1) := by decide +kernel
theorem dX5_coverRow_146 : decode cX5_coverRow 146 = .ok (.lload 6, 2) := by decide +kernel
theorem dX5_coverRow_148 : decode cX5_coverRow 148 = .ok (.lcmp, 1) := by decide +kernel
theorem dX5_coverRow_149 : decode cX5_coverRow 149 = .ok (.ifCond .ge 13, 3) := by decide +kernel
theorem dX5_coverRow_152 : decode cX5_coverRow 152 = .ok (.aload_n 0, 1) := by decide +kernel
theorem dX5_coverRow_153 : decode cX5_coverRow 153 = .ok (.getfield 30, 3) := by decide +kernel
theorem dX5_coverRow_156 : decode cX5_coverRow 156 = .ok (.iload 8, 2) := by decide +kernel
theorem dX5_coverRow_158 : decode cX5_coverRow 158 = .ok (.laload, 1) := by decide +kernel
theorem dX5_coverRow_159 : decode cX5_coverRow 159 = .ok (.goto 5, 3) := by decide +kernel
theorem dX5_coverRow_162 : decode cX5_coverRow 162 = .ok (.lload 6, 2) := by decide +kernel
theorem dX5_coverRow_164 : decode cX5_coverRow 164 = .ok (.lstore 6, 2) := by decide +kernel
theorem dX5_coverRow_166 : decode cX5_coverRow 166 = .ok (.iinc 8 1, 3) := by decide +kernel
theorem dX5_coverRow_169 : decode cX5_coverRow 169 = .ok (.goto (-94), 3) := by decide +kernel
theorem dX5_coverRow_172 : decode cX5_coverRow 172 = .ok (.iload 5, 2) := by decide +kernel
theorem dX5_coverRow_174 : decode cX5_coverRow 174 = .ok (.ifCond .ne 40, 3) := by decide +kernel
theorem dX5_coverRow_177 : decode cX5_coverRow 177 = .ok (.lload 6, 2) := by decide +kernel
theorem dX5_coverRow_179 : decode cX5_coverRow 179 = .ok (.ldc2_w 99, 3) := by decide +kernel
theorem dX5_coverRow_182 : decode cX5_coverRow 182 = .ok (.lcmp, 1) := by decide +kernel
theorem dX5_coverRow_183 : decode cX5_coverRow 183 = .ok (.ifCond .ge 31, 3) := by decide +kernel
theorem dX5_coverRow_186 : decode cX5_coverRow 186 = .ok (.aload_n 0, 1) := by decide +kernel
theorem dX5_coverRow_187 : decode cX5_coverRow 187 = .ok (.iload_n 1, 1) := by decide +kernel
theorem dX5_coverRow_188 : decode cX5_coverRow 188 = .ok (.aload_n 0, 1) := by decide +kernel
theorem dX5_coverRow_189 : decode cX5_coverRow 189 = .ok (.getfield 30, 3) := by decide +kernel
theorem dX5_coverRow_192 : decode cX5_coverRow 192 = .ok (.iload 4, 2) := by decide +kernel
theorem dX5_coverRow_194 : decode cX5_coverRow 194 = .ok (.laload, 1) := by decide +kernel
theorem dX5_coverRow_195 : decode cX5_coverRow 195 = .ok (.invokevirtual 101, 3) := by decide +kernel
theorem dX5_coverRow_198 : decode cX5_coverRow 198 = .ok (.ifCond .eq 16, 3) := by decide +kernel
theorem dX5_coverRow_201 : decode cX5_coverRow 201 = .ok (.aload_n 0, 1) := by decide +kernel
theorem dX5_coverRow_202 : decode cX5_coverRow 202 = .ok (.aload_n 0, 1) := by decide +kernel
theorem dX5_coverRow_203 : decode cX5_coverRow 203 = .ok (.getfield 30, 3) := by decide +kernel
theorem dX5_coverRow_206 : decode cX5_coverRow 206 = .ok (.iload 4, 2) := by decide +kernel
theorem dX5_coverRow_208 : decode cX5_coverRow 208 = .ok (.laload, 1) := by decide +kernel
theorem dX5_coverRow_209 : decode cX5_coverRow 209 = .ok (.lload 6, 2) := by decide +kernel
theorem dX5_coverRow_211 : decode cX5_coverRow 211 = .ok (.invokevirtual 105, 3) := by decide +kernel
theorem dX5_coverRow_214 : decode cX5_coverRow 214 = .ok (.iinc 4 1, 3) := by decide +kernel
theorem dX5_coverRow_217 : decode cX5_coverRow 217 = .ok (.goto (-162), 3) := by decide +kernel
theorem dX5_coverRow_220 : decode cX5_coverRow 220 = .ok (.iinc 3 1, 3) := by decide +kernel
theorem dX5_coverRow_223 : decode cX5_coverRow 223 = .ok (.goto (-198), 3) := by decide +kernel
theorem dX5_coverRow_226 : decode cX5_coverRow 226 = .ok (.return_, 1) := by decide +kernel
theorem dX5_coverAt_0 : decode cX5_coverAt 0 = .ok (.aload_n 0, 1) := by decide +kernel
theorem dX5_coverAt_1 : decode cX5_coverAt 1 = .ok (.getfield 36, 3) := by decide +kernel
theorem dX5_coverAt_4 : decode cX5_coverAt 4 = .ok (.iload_n 1, 1) := by decide +kernel
theorem dX5_coverAt_5 : decode cX5_coverAt 5 = .ok (.iaload, 1) := by decide +kernel
theorem dX5_coverAt_6 : decode cX5_coverAt 6 = .ok (.sipush 255, 3) := by decide +kernel
theorem dX5_coverAt_9 : decode cX5_coverAt 9 = .ok (.imul, 1) := by decide +kernel
theorem dX5_coverAt_10 : decode cX5_coverAt 10 = .ok (.sipush 2048, 3) := by decide +kernel
theorem dX5_coverAt_13 : decode cX5_coverAt 13 = .ok (.iadd, 1) := by decide +kernel
theorem dX5_coverAt_14 : decode cX5_coverAt 14 = .ok (.sipush 4096, 3) := by decide +kernel
theorem dX5_coverAt_17 : decode cX5_coverAt 17 = .ok (.idiv, 1) := by decide +kernel
theorem dX5_coverAt_18 : decode cX5_coverAt 18 = .ok (.ireturn, 1) := by decide +kernel
theorem dX5_mul_0 : decode cX5_mul 0 = .ok (.iload_n 0, 1) := by decide +kernel
theorem dX5_mul_1 : decode cX5_mul 1 = .ok (.iload_n 1, 1) := by decide +kernel
theorem dX5_mul_2 : decode cX5_mul 2 = .ok (.imul, 1) := by decide +kernel
theorem dX5_mul_3 : decode cX5_mul 3 = .ok (.bipush 127, 2) := by decide +kernel
theorem dX5_mul_5 : decode cX5_mul 5 = .ok (.iadd, 1) := by decide +kernel
theorem dX5_mul_6 : decode cX5_mul 6 = .ok (.sipush 255, 3) := by decide +kernel
theorem dX5_mul_9 : decode cX5_mul 9 = .ok (.idiv, 1) := by decide +kernel
theorem dX5_mul_10 : decode cX5_mul 10 = .ok (.ireturn, 1) := by decide +kernel
set_option maxRecDepth 20000 in
theorem ggX5_fill_X5_coverRow : GoodIn wsX5_fill wsX5_coverRow := goodIn_ca (goodIn_r _ [16, 5, 17, 18, 19, 20, 21, 22, 23, 24, 25, 15, 26, 9, 27, 28, 29, 30, 31, 32, 33, 34, 35, 36, 37, 38, 39, 40, 41, 42, 43, 44, 45, 46, 54, 55, 56, 57, 58, 59, 60, 61, 62, 63, 64, 65, 66, 67, 68, 69, 70, 71, 72, 73, 74] (by decide +kernel) (by decide +kernel)) (goodIn_sub (fun _ h => List.mem_cons_of_mem _ (List.mem_append_right _ h)) (by decide +kernel))
set_option maxRecDepth 20000 in
theorem gX5_fill_X5_coverRow : GoodIn wsX5_fill (wsV RX5 112 RX5 yX5_coverRow wsX5_coverRow) := goodIn_app (goodIn_of _ (by decide +kernel)) ggX5_fill_X5_coverRow
set_option maxRecDepth 20000 in
theorem ggX5_fill_X5_coverAt : GoodIn wsX5_fill wsX5_coverAt := goodIn_ca (goodIn_r _ [50, 17, 54, 55, 56, 57, 58, 59, 60, 61, 62, 63, 64, 65, 66, 67, 68, 69, 70, 71, 72, 73, 74] (by decide +kernel) (by decide +kernel)) (goodIn_sub (fun _ h => List.mem_cons_of_mem _ (List.mem_append_right _ h)) (by decide +kernel))
set_option maxRecDepth 20000 in
theorem gX5_fill_X5_coverAt : GoodIn wsX5_fill (wsV RX5 116 RX5 yX5_coverAt wsX5_coverAt) := goodIn_app (goodIn_of _ (by decide +kernel)) ggX5_fill_X5_coverAt
set_option maxRecDepth 20000 in
theorem ggX5_fill_X5_mul : GoodIn wsX5_fill wsX5_mul := goodIn_r _ [53] (by decide +kernel) (by decide +kernel)
set_option maxRecDepth 20000 in
theorem gX5_fill_X5_mul : GoodIn wsX5_fill (va_wsS RX5 120 yX5_mul wsX5_mul) := goodIn_app (goodIn_of _ (by decide +kernel)) ggX5_fill_X5_mul
theorem dX5_fill_0 : decode cX5_fill 0 = .ok (.aload_n 0, 1) := by decide +kernel
theorem dX5_fill_1 : decode cX5_fill 1 = .ok (.iload_n 1, 1) := by decide +kernel
theorem dX5_fill_2 : decode cX5_fill 2 = .ok (.ifCond .lt 8, 3) := by decide +kernel
theorem dX5_fill_5 : decode cX5_fill 5 = .ok (.iload_n 1, 1) := by decide +kernel
theorem dX5_fill_6 : decode cX5_fill 6 = .ok (.iconst 1, 1) := by decide +kernel
theorem dX5_fill_7 : decode cX5_fill 7 = .ok (.if_icmp .le 7, 3) := by decide +kernel
theorem dX5_fill_10 : decode cX5_fill 10 = .ok (.iconst 1, 1) := by decide +kernel
theorem dX5_fill_11 : decode cX5_fill 11 = .ok (.goto 20, 3) := by decide +kernel
theorem dX5_fill_14 : decode cX5_fill 14 = .ok (.iload_n 2, 1) := by decide +kernel
theorem dX5_fill_15 : decode cX5_fill 15 = .ok (.ifCond .lt 11, 3) := by decide +kernel
theorem dX5_fill_18 : decode cX5_fill 18 = .ok (.iload_n 2, 1) := by decide +kernel
theorem dX5_fill_19 : decode cX5_fill 19 = .ok (.aload_n 0, 1) := by decide +kernel
theorem dX5_fill_20 : decode cX5_fill 20 = .ok (.getfield 49, 3) := by decide +kernel
theorem dX5_fill_23 : decode cX5_fill 23 = .ok (.if_icmp .lt 7, 3) := by decide +kernel
theorem dX5_fill_26 : decode cX5_fill 26 = .ok (.iconst 2, 1) := by decide +kernel
theorem dX5_fill_27 : decode cX5_fill 27 = .ok (.goto 4, 3) := by decide +kernel
theorem dX5_fill_30 : decode cX5_fill 30 = .ok (.iconst 0, 1) := by decide +kernel
theorem dX5_fill_31 : decode cX5_fill 31 = .ok (.putfield 55, 3) := by decide +kernel
theorem dX5_fill_34 : decode cX5_fill 34 = .ok (.aload_n 0, 1) := by decide +kernel
theorem dX5_fill_35 : decode cX5_fill 35 = .ok (.getfield 55, 3) := by decide +kernel
theorem dX5_fill_38 : decode cX5_fill 38 = .ok (.ifCond .le 5, 3) := by decide +kernel
theorem dX5_fill_41 : decode cX5_fill 41 = .ok (.iconst 0, 1) := by decide +kernel
theorem dX5_fill_42 : decode cX5_fill 42 = .ok (.ireturn, 1) := by decide +kernel
theorem dX5_fill_43 : decode cX5_fill 43 = .ok (.iconst 0, 1) := by decide +kernel
theorem dX5_fill_44 : decode cX5_fill 44 = .ok (.istore 4, 2) := by decide +kernel
theorem dX5_fill_46 : decode cX5_fill 46 = .ok (.aload_n 0, 1) := by decide +kernel
theorem dX5_fill_47 : decode cX5_fill 47 = .ok (.getfield 109, 3) := by decide +kernel
theorem dX5_fill_50 : decode cX5_fill 50 = .ok (.istore 5, 2) := by decide +kernel
theorem dX5_fill_52 : decode cX5_fill 52 = .ok (.iload 5, 2) := by decide +kernel
theorem dX5_fill_54 : decode cX5_fill 54 = .ok (.aload_n 0, 1) := by decide +kernel
theorem dX5_fill_55 : decode cX5_fill 55 = .ok (.getfield 52, 3) := by decide +kernel
theorem dX5_fill_58 : decode cX5_fill 58 = .ok (.if_icmp .ge 191, 3) := by decide +kernel
theorem dX5_fill_61 : decode cX5_fill 61 = .ok (.aload_n 0, 1) := by decide +kernel
theorem dX5_fill_62 : decode cX5_fill 62 = .ok (.iload_n 1, 1) := by decide +kernel
theorem dX5_fill_63 : decode cX5_fill 63 = .ok (.iload 5, 2) := by decide +kernel
theorem dX5_fill_65 : decode cX5_fill 65 = .ok (.invokevirtual 112, 3) := by decide +kernel
theorem dX5_fill_68 : decode cX5_fill 68 = .ok (.iconst 0, 1) := by decide +kernel
theorem dX5_fill_69 : decode cX5_fill 69 = .ok (.istore 6, 2) := by decide +kernel
theorem dX5_fill_71 : decode cX5_fill 71 = .ok (.iload 6, 2) := by decide +kernel
theorem dX5_fill_73 : decode cX5_fill 73 = .ok (.aload_n 0, 1) := by decide +kernel
theorem dX5_fill_74 : decode cX5_fill 74 = .ok (.getfield 42, 3) := by decide +kernel
theorem dX5_fill_77 : decode cX5_fill 77 = .ok (.if_icmp .ge 166, 3) := by decide +kernel
theorem dX5_fill_80 : decode cX5_fill 80 = .ok (.aload_n 0, 1) := by decide +kernel
theorem dX5_fill_81 : decode cX5_fill 81 = .ok (.iload 6, 2) := by decide +kernel
theorem dX5_fill_83 : decode cX5_fill 83 = .ok (.invokevirtual 116, 3) := by decide +kernel
theorem dX5_fill_86 : decode cX5_fill 86 = .ok (.aload_n 0, 1) := by decide +kernel
theorem dX5_fill_87 : decode cX5_fill 87 = .ok (.getfield 13, 3) := by decide +kernel
theorem dX5_fill_90 : decode cX5_fill 90 = .ok (.bipush 48, 2) := by decide +kernel
theorem dX5_fill_92 : decode cX5_fill 92 = .ok (.iload 5, 2) := by decide +kernel
theorem dX5_fill_94 : decode cX5_fill 94 = .ok (.imul, 1) := by decide +kernel
theorem dX5_fill_95 : decode cX5_fill 95 = .ok (.iload 6, 2) := by decide +kernel
theorem dX5_fill_97 : decode cX5_fill 97 = .ok (.iadd, 1) := by decide +kernel
theorem dX5_fill_98 : decode cX5_fill 98 = .ok (.iaload, 1) := by decide +kernel
theorem dX5_fill_99 : decode cX5_fill 99 = .ok (.invokestatic 120, 3) := by decide +kernel
theorem dX5_fill_102 : decode cX5_fill 102 = .ok (.istore 7, 2) := by decide +kernel
theorem dX5_fill_104 : decode cX5_fill 104 = .ok (.iload 7, 2) := by decide +kernel
theorem dX5_fill_106 : decode cX5_fill 106 = .ok (.ifCond .le 10, 3) := by decide +kernel
theorem dX5_fill_109 : decode cX5_fill 109 = .ok (.iload 4, 2) := by decide +kernel
theorem dX5_fill_111 : decode cX5_fill 111 = .ok (.iconst 1, 1) := by decide +kernel
theorem dX5_fill_112 : decode cX5_fill 112 = .ok (.iadd, 1) := by decide +kernel
theorem dX5_fill_113 : decode cX5_fill 113 = .ok (.goto 5, 3) := by decide +kernel
theorem dX5_fill_116 : decode cX5_fill 116 = .ok (.iload 4, 2) := by decide +kernel
theorem dX5_fill_118 : decode cX5_fill 118 = .ok (.istore 4, 2) := by decide +kernel
theorem dX5_fill_120 : decode cX5_fill 120 = .ok (.iconst 0, 1) := by decide +kernel
theorem dX5_fill_121 : decode cX5_fill 121 = .ok (.istore 8, 2) := by decide +kernel
theorem dX5_fill_123 : decode cX5_fill 123 = .ok (.iload 8, 2) := by decide +kernel
theorem dX5_fill_125 : decode cX5_fill 125 = .ok (.aload_n 0, 1) := by decide +kernel
theorem dX5_fill_126 : decode cX5_fill 126 = .ok (.getfield 49, 3) := by decide +kernel
theorem dX5_fill_129 : decode cX5_fill 129 = .ok (.if_icmp .ge 108, 3) := by decide +kernel
theorem dX5_fill_132 : decode cX5_fill 132 = .ok (.iload 7, 2) := by decide +kernel
theorem dX5_fill_134 : decode cX5_fill 134 = .ok (.ifCond .le 103, 3) := by decide +kernel
theorem dX5_fill_137 : decode cX5_fill 137 = .ok (.sipush 2304, 3) := by decide +kernel
theorem dX5_fill_140 : decode cX5_fill 140 = .ok (.iload 8, 2) := by decide +kernel
theorem dX5_fill_142 : decode cX5_fill 142 = .ok (.imul, 1) := by decide +kernel
theorem dX5_fill_143 : decode cX5_fill 143 = .ok (.bipush 48, 2) := by decide +kernel
theorem dX5_fill_145 : decode cX5_fill 145 = .ok (.iload 5, 2) := by decide +kernel
theorem dX5_fill_147 : decode cX5_fill 147 = .ok (.imul, 1) := by decide +kernel
theorem dX5_fill_148 : decode cX5_fill 148 = .ok (.iadd, 1) := by decide +kernel
theorem dX5_fill_149 : decode cX5_fill 149 = .ok (.iload 6, 2) := by decide +kernel
theorem dX5_fill_151 : decode cX5_fill 151 = .ok (.iadd, 1) := by decide +kernel
theorem dX5_fill_152 : decode cX5_fill 152 = .ok (.istore 9, 2) := by decide +kernel
theorem dX5_fill_154 : decode cX5_fill 154 = .ok (.iload 8, 2) := by decide +kernel
theorem dX5_fill_156 : decode cX5_fill 156 = .ok (.iload_n 2, 1) := by decide +kernel
theorem dX5_fill_157 : decode cX5_fill 157 = .ok (.if_icmp .ne 11, 3) := by decide +kernel
theorem dX5_fill_160 : decode cX5_fill 160 = .ok (.iload_n 3, 1) := by decide +kernel
theorem dX5_fill_161 : decode cX5_fill 161 = .ok (.sipush 255, 3) := by decide +kernel
theorem dX5_fill_164 : decode cX5_fill 164 = .ok (.iand, 1) := by decide +kernel
theorem dX5_fill_165 : decode cX5_fill 165 = .ok (.goto 4, 3) := by decide +kernel
theorem dX5_fill_168 : decode cX5_fill 168 = .ok (.iconst 0, 1) := by decide +kernel
theorem dX5_fill_169 : decode cX5_fill 169 = .ok (.istore 10, 2) := by decide +kernel
theorem dX5_fill_171 : decode cX5_fill 171 = .ok (.aload_n 0, 1) := by decide +kernel
theorem dX5_fill_172 : decode cX5_fill 172 = .ok (.getfield 7, 3) := by decide +kernel
theorem dX5_fill_175 : decode cX5_fill 175 = .ok (.iload 9, 2) := by decide +kernel
theorem dX5_fill_177 : decode cX5_fill 177 = .ok (.iload 8, 2) := by decide +kernel
theorem dX5_fill_179 : decode cX5_fill 179 = .ok (.iload_n 2, 1) := by decide +kernel
theorem dX5_fill_180 : decode cX5_fill 180 = .ok (.if_icmp .eq 13, 3) := by decide +kernel
theorem dX5_fill_183 : decode cX5_fill 183 = .ok (.aload_n 0, 1) := by decide +kernel
theorem dX5_fill_184 : decode cX5_fill 184 = .ok (.getfield 16, 3) := by decide +kernel
theorem dX5_fill_187 : decode cX5_fill 187 = .ok (.iload 8, 2) := by decide +kernel
theorem dX5_fill_189 : decode cX5_fill 189 = .ok (.baload, 1) := by decide +kernel
theorem dX5_fill_190 : decode cX5_fill 190 = .ok (.ifCond .ne 33, 3) := by decide +kernel
theorem dX5_fill_193 : decode cX5_fill 193 = .ok (.aload_n 0, 1) := by decide +kernel
theorem dX5_fill_194 : decode cX5_fill 194 = .ok (.getfield 7, 3) := by decide +kernel
theorem dX5_fill_197 : decode cX5_fill 197 = .ok (.iload 9, 2) := by decide +kernel
theorem dX5_fill_199 : decode cX5_fill 199 = .ok (.iaload, 1) := by decide +kernel
theorem dX5_fill_200 : decode cX5_fill 200 = .ok (.sipush 255, 3) := by decide +kernel
theorem dX5_fill_203 : decode cX5_fill 203 = .ok (.iload 7, 2) := by decide +kernel
theorem dX5_fill_205 : decode cX5_fill 205 = .ok (.isub, 1) := by decide +kernel
theorem dX5_fill_206 : decode cX5_fill 206 = .ok (.imul, 1) := by decide +kernel
theorem dX5_fill_207 : decode cX5_fill 207 = .ok (.iload 10, 2) := by decide +kernel
theorem dX5_fill_209 : decode cX5_fill 209 = .ok (.iload 7, 2) := by decide +kernel
theorem dX5_fill_211 : decode cX5_fill 211 = .ok (.imul, 1) := by decide +kernel
theorem dX5_fill_212 : decode cX5_fill 212 = .ok (.iadd, 1) := by decide +kernel
theorem dX5_fill_213 : decode cX5_fill 213 = .ok (.bipush 127, 2) := by decide +kernel
theorem dX5_fill_215 : decode cX5_fill 215 = .ok (.iadd, 1) := by decide +kernel
theorem dX5_fill_216 : decode cX5_fill 216 = .ok (.sipush 255, 3) := by decide +kernel
theorem dX5_fill_219 : decode cX5_fill 219 = .ok (.idiv, 1) := by decide +kernel
theorem dX5_fill_220 : decode cX5_fill 220 = .ok (.goto 10, 3) := by decide +kernel
theorem dX5_fill_223 : decode cX5_fill 223 = .ok (.aload_n 0, 1) := by decide +kernel
theorem dX5_fill_224 : decode cX5_fill 224 = .ok (.getfield 7, 3) := by decide +kernel
theorem dX5_fill_227 : decode cX5_fill 227 = .ok (.iload 9, 2) := by decide +kernel
theorem dX5_fill_229 : decode cX5_fill 229 = .ok (.iaload, 1) := by decide +kernel
theorem dX5_fill_230 : decode cX5_fill 230 = .ok (.iastore, 1) := by decide +kernel
theorem dX5_fill_231 : decode cX5_fill 231 = .ok (.iinc 8 1, 3) := by decide +kernel
theorem dX5_fill_234 : decode cX5_fill 234 = .ok (.goto (-111), 3) := by decide +kernel
theorem dX5_fill_237 : decode cX5_fill 237 = .ok (.iinc 6 1, 3) := by decide +kernel
theorem dX5_fill_240 : decode cX5_fill 240 = .ok (.goto (-169), 3) := by decide +kernel
theorem dX5_fill_243 : decode cX5_fill 243 = .ok (.iinc 5 1, 3) := by decide +kernel
theorem dX5_fill_246 : decode cX5_fill 246 = .ok (.goto (-194), 3) := by decide +kernel
theorem dX5_fill_249 : decode cX5_fill 249 = .ok (.aload_n 0, 1) := by decide +kernel
theorem dX5_fill_250 : decode cX5_fill 250 = .ok (.iconst 0, 1) := by decide +kernel
theorem dX5_fill_251 : decode cX5_fill 251 = .ok (.putfield 62, 3) := by decide +kernel
theorem dX5_fill_254 : decode cX5_fill 254 = .ok (.aload_n 0, 1) := by decide +kernel
theorem dX5_fill_255 : decode cX5_fill 255 = .ok (.dup, 1) := by decide +kernel
theorem dX5_fill_256 : decode cX5_fill 256 = .ok (.getfield 124, 3) := by decide +kernel
theorem dX5_fill_259 : decode cX5_fill 259 = .ok (.iconst 1, 1) := by decide +kernel
theorem dX5_fill_260 : decode cX5_fill 260 = .ok (.iadd, 1) := by decide +kernel
theorem dX5_fill_261 : decode cX5_fill 261 = .ok (.putfield 124, 3) := by decide +kernel
theorem dX5_fill_264 : decode cX5_fill 264 = .ok (.aload_n 0, 1) := by decide +kernel
theorem dX5_fill_265 : decode cX5_fill 265 = .ok (.iconst 0, 1) := by decide +kernel
theorem dX5_fill_266 : decode cX5_fill 266 = .ok (.putfield 127, 3) := by decide +kernel
theorem dX5_fill_269 : decode cX5_fill 269 = .ok (.iload 4, 2) := by decide +kernel
theorem dX5_fill_271 : decode cX5_fill 271 = .ok (.ireturn, 1) := by decide +kernel
set_option maxRecDepth 20000 in
theorem ggX5_clip_X5_coverRow : GoodIn wsX5_clip wsX5_coverRow := goodIn_ca (goodIn_r _ [10, 3, 11, 12, 13, 14, 15, 16, 17, 18, 19, 9, 20, 5, 21, 22, 23, 24, 25, 26, 27, 28, 29, 30, 31, 32, 33, 34, 35, 36, 37, 38, 39, 40, 48, 49, 50, 51, 52, 53, 54, 55, 56, 57, 58, 59, 60, 61, 62, 63, 64, 65, 66, 67, 68] (by decide +kernel) (by decide +kernel)) (goodIn_sub (fun _ h => List.mem_cons_of_mem _ (List.mem_append_right _ h)) (by decide +kernel))
set_option maxRecDepth 20000 in
theorem gX5_clip_X5_coverRow : GoodIn wsX5_clip (wsV RX5 112 RX5 yX5_coverRow wsX5_coverRow) := goodIn_app (goodIn_of _ (by decide +kernel)) ggX5_clip_X5_coverRow
set_option maxRecDepth 20000 in
theorem ggX5_clip_X5_coverAt : GoodIn wsX5_clip wsX5_coverAt := goodIn_ca (goodIn_r _ [44, 11, 48, 49, 50, 51, 52, 53, 54, 55, 56, 57, 58, 59, 60, 61, 62, 63, 64, 65, 66, 67, 68] (by decide +kernel) (by decide +kernel)) (goodIn_sub (fun _ h => List.mem_cons_of_mem _ (List.mem_append_right _ h)) (by decide +kernel))
set_option maxRecDepth 20000 in
theorem gX5_clip_X5_coverAt : GoodIn wsX5_clip (wsV RX5 116 RX5 yX5_coverAt wsX5_coverAt) := goodIn_app (goodIn_of _ (by decide +kernel)) ggX5_clip_X5_coverAt
set_option maxRecDepth 20000 in
theorem ggX5_clip_X5_mul : GoodIn wsX5_clip wsX5_mul := goodIn_r _ [47] (by decide +kernel) (by decide +kernel)
set_option maxRecDepth 20000 in
theorem gX5_clip_X5_mul : GoodIn wsX5_clip (va_wsS RX5 120 yX5_mul wsX5_mul) := goodIn_app (goodIn_of _ (by decide +kernel)) ggX5_clip_X5_mul
theorem dX5_clip_0 : decode cX5_clip 0 = .ok (.aload_n 0, 1) := by decide +kernel
theorem dX5_clip_1 : decode cX5_clip 1 = .ok (.iload_n 1, 1) := by decide +kernel
theorem dX5_clip_2 : decode cX5_clip 2 = .ok (.ifCond .lt 8, 3) := by decide +kernel
theorem dX5_clip_5 : decode cX5_clip 5 = .ok (.iload_n 1, 1) := by decide +kernel
theorem dX5_clip_6 : decode cX5_clip 6 = .ok (.iconst 1, 1) := by decide +kernel
theorem dX5_clip_7 : decode cX5_clip 7 = .ok (.if_icmp .le 7, 3) := by decide +kernel
theorem dX5_clip_10 : decode cX5_clip 10 = .ok (.iconst 1, 1) := by decide +kernel
theorem dX5_clip_11 : decode cX5_clip 11 = .ok (.goto 4, 3) := by decide +kernel
theorem dX5_clip_14 : decode cX5_clip 14 = .ok (.iconst 0, 1) := by decide +kernel
theorem dX5_clip_15 : decode cX5_clip 15 = .ok (.putfield 55, 3) := by decide +kernel
theorem dX5_clip_18 : decode cX5_clip 18 = .ok (.aload_n 0, 1) := by decide +kernel
theorem dX5_clip_19 : decode cX5_clip 19 = .ok (.getfield 55, 3) := by decide +kernel
theorem dX5_clip_22 : decode cX5_clip 22 = .ok (.ifCond .le 5, 3) := by decide +kernel
theorem dX5_clip_25 : decode cX5_clip 25 = .ok (.iconst 0, 1) := by decide +kernel
theorem dX5_clip_26 : decode cX5_clip 26 = .ok (.ireturn, 1) := by decide +kernel
theorem dX5_clip_27 : decode cX5_clip 27 = .ok (.iconst 0, 1) := by decide +kernel
theorem dX5_clip_28 : decode cX5_clip 28 = .ok (.istore_n 2, 1) := by decide +kernel
theorem dX5_clip_29 : decode cX5_clip 29 = .ok (.iconst 0, 1) := by decide +kernel
theorem dX5_clip_30 : decode cX5_clip 30 = .ok (.istore_n 3, 1) := by decide +kernel
theorem dX5_clip_31 : decode cX5_clip 31 = .ok (.iload_n 3, 1) := by decide +kernel
theorem dX5_clip_32 : decode cX5_clip 32 = .ok (.aload_n 0, 1) := by decide +kernel
theorem dX5_clip_33 : decode cX5_clip 33 = .ok (.getfield 46, 3) := by decide +kernel
theorem dX5_clip_36 : decode cX5_clip 36 = .ok (.if_icmp .ge 89, 3) := by decide +kernel
theorem dX5_clip_39 : decode cX5_clip 39 = .ok (.aload_n 0, 1) := by decide +kernel
theorem dX5_clip_40 : decode cX5_clip 40 = .ok (.iload_n 1, 1) := by decide +kernel
theorem dX5_clip_41 : decode cX5_clip 41 = .ok (.iload_n 3, 1) := by decide +kernel
theorem dX5_clip_42 : decode cX5_clip 42 = .ok (.invokevirtual 112, 3) := by decide +kernel
theorem dX5_clip_45 : decode cX5_clip 45 = .ok (.iconst 0, 1) := by decide +kernel
theorem dX5_clip_46 : decode cX5_clip 46 = .ok (.istore 4, 2) := by decide +kernel
theorem dX5_clip_48 : decode cX5_clip 48 = .ok (.iload 4, 2) := by decide +kernel
theorem dX5_clip_50 : decode cX5_clip 50 = .ok (.aload_n 0, 1) := by decide +kernel
theorem dX5_clip_51 : decode cX5_clip 51 = .ok (.getfield 42, 3) := by decide +kernel
theorem dX5_clip_54 : decode cX5_clip 54 = .ok (.if_icmp .ge 65, 3) := by decide +kernel
theorem dX5_clip_57 : decode cX5_clip 57 = .ok (.aload_n 0, 1) := by decide +kernel
theorem dX5_clip_58 : decode cX5_clip 58 = .ok (.getfield 13, 3) := by decide +kernel
theorem dX5_clip_61 : decode cX5_clip 61 = .ok (.bipush 48, 2) := by decide +kernel
theorem dX5_clip_63 : decode cX5_clip 63 = .ok (.iload_n 3, 1) := by decide +kernel
theorem dX5_clip_64 : decode cX5_clip 64 = .ok (.imul, 1) := by decide +kernel
theorem dX5_clip_65 : decode cX5_clip 65 = .ok (.iload 4, 2) := by decide +kernel
theorem dX5_clip_67 : decode cX5_clip 67 = .ok (.iadd, 1) := by decide +kernel
theorem dX5_clip_68 : decode cX5_clip 68 = .ok (.aload_n 0, 1) := by decide +kernel
theorem dX5_clip_69 : decode cX5_clip 69 = .ok (.getfield 13, 3) := by decide +kernel
theorem dX5_clip_72 : decode cX5_clip 72 = .ok (.bipush 48, 2) := by decide +kernel
theorem dX5_clip_74 : decode cX5_clip 74 = .ok (.iload_n 3, 1) := by decide +kernel
theorem dX5_clip_75 : decode cX5_clip 75 = .ok (.imul, 1) := by decide +kernel
theorem dX5_clip_76 : decode cX5_clip 76 = .ok (.iload 4, 2) := by decide +kernel
theorem dX5_clip_78 : decode cX5_clip 78 = .ok (.iadd, 1) := by decide +kernel
theorem dX5_clip_79 : decode cX5_clip 79 = .ok (.iaload, 1) := by decide +kernel
theorem dX5_clip_80 : decode cX5_clip 80 = .ok (.aload_n 0, 1) := by decide +kernel
theorem dX5_clip_81 : decode cX5_clip 81 = .ok (.iload 4, 2) := by decide +kernel
theorem dX5_clip_83 : decode cX5_clip 83 = .ok (.invokevirtual 116, 3) := by decide +kernel
theorem dX5_clip_86 : decode cX5_clip 86 = .ok (.invokestatic 120, 3) := by decide +kernel
theorem dX5_clip_89 : decode cX5_clip 89 = .ok (.iastore, 1) := by decide +kernel
theorem dX5_clip_90 : decode cX5_clip 90 = .ok (.aload_n 0, 1) := by decide +kernel
theorem dX5_clip_91 : decode cX5_clip 91 = .ok (.getfield 13, 3) := by decide +kernel
theorem dX5_clip_94 : decode cX5_clip 94 = .ok (.bipush 48, 2) := by decide +kernel
theorem dX5_clip_96 : decode cX5_clip 96 = .ok (.iload_n 3, 1) := by decide +kernel
theorem dX5_clip_97 : decode cX5_clip 97 = .ok (.imul, 1) := by decide +kernel
theorem dX5_clip_98 : decode cX5_clip 98 = .ok (.iload 4, 2) := by decide +kernel
theorem dX5_clip_100 : decode cX5_clip 100 = .ok (.iadd, 1) := by decide +kernel
theorem dX5_clip_101 : decode cX5_clip 101 = .ok (.iaload, 1) := by decide +kernel
theorem dX5_clip_102 : decode cX5_clip 102 = .ok (.ifCond .le 9, 3) := by decide +kernel
theorem dX5_clip_105 : decode cX5_clip 105 = .ok (.iload_n 2, 1) := by decide +kernel
theorem dX5_clip_106 : decode cX5_clip 106 = .ok (.iconst 1, 1) := by decide +kernel
theorem dX5_clip_107 : decode cX5_clip 107 = .ok (.iadd, 1) := by decide +kernel
theorem dX5_clip_108 : decode cX5_clip 108 = .ok (.goto 4, 3) := by decide +kernel
theorem dX5_clip_111 : decode cX5_clip 111 = .ok (.iload_n 2, 1) := by decide +kernel
theorem dX5_clip_112 : decode cX5_clip 112 = .ok (.istore_n 2, 1) := by decide +kernel
theorem dX5_clip_113 : decode cX5_clip 113 = .ok (.iinc 4 1, 3) := by decide +kernel
theorem dX5_clip_116 : decode cX5_clip 116 = .ok (.goto (-68), 3) := by decide +kernel
theorem dX5_clip_119 : decode cX5_clip 119 = .ok (.iinc 3 1, 3) := by decide +kernel
theorem dX5_clip_122 : decode cX5_clip 122 = .ok (.goto (-91), 3) := by decide +kernel
theorem dX5_clip_125 : decode cX5_clip 125 = .ok (.aload_n 0, 1) := by decide +kernel
theorem dX5_clip_126 : decode cX5_clip 126 = .ok (.iconst 0, 1) := by decide +kernel
theorem dX5_clip_127 : decode cX5_clip 127 = .ok (.putfield 62, 3) := by decide +kernel
theorem dX5_clip_130 : decode cX5_clip 130 = .ok (.iload_n 2, 1) := by decide +kernel
theorem dX5_clip_131 : decode cX5_clip 131 = .ok (.ireturn, 1) := by decide +kernel
theorem dX5_end_0 : decode cX5_end 0 = .ok (.aload_n 0, 1) := by decide +kernel
theorem dX5_end_1 : decode cX5_end 1 = .ok (.iconst 0, 1) := by decide +kernel
theorem dX5_end_2 : decode cX5_end 2 = .ok (.putfield 55, 3) := by decide +kernel
theorem dX5_end_5 : decode cX5_end 5 = .ok (.aload_n 0, 1) := by decide +kernel
theorem dX5_end_6 : decode cX5_end 6 = .ok (.getfield 124, 3) := by decide +kernel
theorem dX5_end_9 : decode cX5_end 9 = .ok (.istore_n 1, 1) := by decide +kernel
theorem dX5_end_10 : decode cX5_end 10 = .ok (.aload_n 0, 1) := by decide +kernel
theorem dX5_end_11 : decode cX5_end 11 = .ok (.iconst 0, 1) := by decide +kernel
theorem dX5_end_12 : decode cX5_end 12 = .ok (.putfield 124, 3) := by decide +kernel
theorem dX5_end_15 : decode cX5_end 15 = .ok (.aload_n 0, 1) := by decide +kernel
theorem dX5_end_16 : decode cX5_end 16 = .ok (.iconst 0, 1) := by decide +kernel
theorem dX5_end_17 : decode cX5_end 17 = .ok (.putfield 62, 3) := by decide +kernel
theorem dX5_end_20 : decode cX5_end 20 = .ok (.iconst 0, 1) := by decide +kernel
theorem dX5_end_21 : decode cX5_end 21 = .ok (.istore_n 2, 1) := by decide +kernel
theorem dX5_end_22 : decode cX5_end 22 = .ok (.iload_n 2, 1) := by decide +kernel
theorem dX5_end_23 : decode cX5_end 23 = .ok (.sipush 2304, 3) := by decide +kernel
theorem dX5_end_26 : decode cX5_end 26 = .ok (.if_icmp .ge 18, 3) := by decide +kernel
theorem dX5_end_29 : decode cX5_end 29 = .ok (.aload_n 0, 1) := by decide +kernel
theorem dX5_end_30 : decode cX5_end 30 = .ok (.getfield 13, 3) := by decide +kernel
theorem dX5_end_33 : decode cX5_end 33 = .ok (.iload_n 2, 1) := by decide +kernel
theorem dX5_end_34 : decode cX5_end 34 = .ok (.sipush 255, 3) := by decide +kernel
theorem dX5_end_37 : decode cX5_end 37 = .ok (.iastore, 1) := by decide +kernel
theorem dX5_end_38 : decode cX5_end 38 = .ok (.iinc 2 1, 3) := by decide +kernel
theorem dX5_end_41 : decode cX5_end 41 = .ok (.goto (-19), 3) := by decide +kernel
theorem dX5_end_44 : decode cX5_end 44 = .ok (.iload_n 1, 1) := by decide +kernel
theorem dX5_end_45 : decode cX5_end 45 = .ok (.ireturn, 1) := by decide +kernel
theorem dX5_isPoint_0 : decode cX5_isPoint 0 = .ok (.iload_n 1, 1) := by decide +kernel
theorem dX5_isPoint_1 : decode cX5_isPoint 1 = .ok (.ifCond .lt 27, 3) := by decide +kernel
theorem dX5_isPoint_4 : decode cX5_isPoint 4 = .ok (.iload_n 1, 1) := by decide +kernel
theorem dX5_isPoint_5 : decode cX5_isPoint 5 = .ok (.aload_n 0, 1) := by decide +kernel
theorem dX5_isPoint_6 : decode cX5_isPoint 6 = .ok (.getfield 42, 3) := by decide +kernel
theorem dX5_isPoint_9 : decode cX5_isPoint 9 = .ok (.if_icmp .ge 19, 3) := by decide +kernel
theorem dX5_isPoint_12 : decode cX5_isPoint 12 = .ok (.iload_n 2, 1) := by decide +kernel
theorem dX5_isPoint_13 : decode cX5_isPoint 13 = .ok (.ifCond .lt 15, 3) := by decide +kernel
theorem dX5_isPoint_16 : decode cX5_isPoint 16 = .ok (.iload_n 2, 1) := by decide +kernel
theorem dX5_isPoint_17 : decode cX5_isPoint 17 = .ok (.aload_n 0, 1) := by decide +kernel
theorem dX5_isPoint_18 : decode cX5_isPoint 18 = .ok (.getfield 46, 3) := by decide +kernel
theorem dX5_isPoint_21 : decode cX5_isPoint 21 = .ok (.if_icmp .ge 7, 3) := by decide +kernel
theorem dX5_isPoint_24 : decode cX5_isPoint 24 = .ok (.iconst 1, 1) := by decide +kernel
theorem dX5_isPoint_25 : decode cX5_isPoint 25 = .ok (.goto 4, 3) := by decide +kernel
theorem dX5_isPoint_28 : decode cX5_isPoint 28 = .ok (.iconst 0, 1) := by decide +kernel
theorem dX5_isPoint_29 : decode cX5_isPoint 29 = .ok (.ireturn, 1) := by decide +kernel
set_option maxRecDepth 20000 in
theorem ggX5_point_X5_isPoint : GoodIn wsX5_point wsX5_isPoint := goodIn_r _ [8, 9, 10, 11, 12, 13, 14, 15, 16, 17, 18, 19, 20, 21, 22, 23, 24, 25, 26, 27, 28, 29, 30, 31] (by decide +kernel) (by decide +kernel)
set_option maxRecDepth 20000 in
theorem gX5_point_X5_isPoint : GoodIn wsX5_point (wsV RX5 131 RX5 yX5_isPoint wsX5_isPoint) := goodIn_app (goodIn_of _ (by decide +kernel)) ggX5_point_X5_isPoint
theorem dX5_point_0 : decode cX5_point 0 = .ok (.aload_n 0, 1) := by decide +kernel
theorem dX5_point_1 : decode cX5_point 1 = .ok (.aload_n 0, 1) := by decide +kernel
theorem dX5_point_2 : decode cX5_point 2 = .ok (.iload_n 1, 1) := by decide +kernel
theorem dX5_point_3 : decode cX5_point 3 = .ok (.iload_n 2, 1) := by decide +kernel
theorem dX5_point_4 : decode cX5_point 4 = .ok (.invokevirtual 131, 3) := by decide +kernel
theorem dX5_point_7 : decode cX5_point 7 = .ok (.ifCond .eq 19, 3) := by decide +kernel
theorem dX5_point_10 : decode cX5_point 10 = .ok (.iload_n 3, 1) := by decide +kernel
theorem dX5_point_11 : decode cX5_point 11 = .ok (.ifCond .lt 15, 3) := by decide +kernel
theorem dX5_point_14 : decode cX5_point 14 = .ok (.iload_n 3, 1) := by decide +kernel
theorem dX5_point_15 : decode cX5_point 15 = .ok (.aload_n 0, 1) := by decide +kernel
theorem dX5_point_16 : decode cX5_point 16 = .ok (.getfield 49, 3) := by decide +kernel
theorem dX5_point_19 : decode cX5_point 19 = .ok (.if_icmp .ge 7, 3) := by decide +kernel
theorem dX5_point_22 : decode cX5_point 22 = .ok (.iconst 0, 1) := by decide +kernel
theorem dX5_point_23 : decode cX5_point 23 = .ok (.goto 4, 3) := by decide +kernel
theorem dX5_point_26 : decode cX5_point 26 = .ok (.iconst 1, 1) := by decide +kernel
theorem dX5_point_27 : decode cX5_point 27 = .ok (.putfield 55, 3) := by decide +kernel
theorem dX5_point_30 : decode cX5_point 30 = .ok (.aload_n 0, 1) := by decide +kernel
theorem dX5_point_31 : decode cX5_point 31 = .ok (.getfield 55, 3) := by decide +kernel
theorem dX5_point_34 : decode cX5_point 34 = .ok (.ifCond .le 7, 3) := by decide +kernel
theorem dX5_point_37 : decode cX5_point 37 = .ok (.iconst 0, 1) := by decide +kernel
theorem dX5_point_38 : decode cX5_point 38 = .ok (.goto 20, 3) := by decide +kernel
theorem dX5_point_41 : decode cX5_point 41 = .ok (.aload_n 0, 1) := by decide +kernel
theorem dX5_point_42 : decode cX5_point 42 = .ok (.getfield 7, 3) := by decide +kernel
theorem dX5_point_45 : decode cX5_point 45 = .ok (.sipush 2304, 3) := by decide +kernel
theorem dX5_point_48 : decode cX5_point 48 = .ok (.iload_n 3, 1) := by decide +kernel
theorem dX5_point_49 : decode cX5_point 49 = .ok (.imul, 1) := by decide +kernel
theorem dX5_point_50 : decode cX5_point 50 = .ok (.bipush 48, 2) := by decide +kernel
theorem dX5_point_52 : decode cX5_point 52 = .ok (.iload_n 2, 1) := by decide +kernel
theorem dX5_point_53 : decode cX5_point 53 = .ok (.imul, 1) := by decide +kernel
theorem dX5_point_54 : decode cX5_point 54 = .ok (.iadd, 1) := by decide +kernel
theorem dX5_point_55 : decode cX5_point 55 = .ok (.iload_n 1, 1) := by decide +kernel
theorem dX5_point_56 : decode cX5_point 56 = .ok (.iadd, 1) := by decide +kernel
theorem dX5_point_57 : decode cX5_point 57 = .ok (.iaload, 1) := by decide +kernel
theorem dX5_point_58 : decode cX5_point 58 = .ok (.ireturn, 1) := by decide +kernel
set_option maxRecDepth 20000 in
theorem ggX5_cover_X5_isPoint : GoodIn wsX5_cover wsX5_isPoint := goodIn_r _ [6, 7, 8, 48, 49, 50, 51, 52, 53, 54, 55, 56, 57, 58, 59, 60, 61, 62, 63, 64, 65, 66, 67, 68] (by decide +kernel) (by decide +kernel)
set_option maxRecDepth 20000 in
theorem gX5_cover_X5_isPoint : GoodIn wsX5_cover (wsV RX5 131 RX5 yX5_isPoint wsX5_isPoint) := goodIn_app (goodIn_of _ (by decide +kernel)) ggX5_cover_X5_isPoint
set_option maxRecDepth 20000 in
theorem ggX5_cover_X5_coverRow : GoodIn wsX5_cover wsX5_coverRow := goodIn_ca (goodIn_r _ [12, 7, 13, 14, 15, 16, 17, 18, 19, 20, 21, 5, 22, 23, 24, 25, 26, 27, 28, 29, 30, 31, 32, 33, 34, 35, 36, 37, 38, 39, 40, 41, 42, 43, 48, 49, 50, 51, 52, 53, 54, 55, 56, 57, 58, 59, 60, 61, 62, 63, 64, 65, 66, 67, 68] (by decide +kernel) (by decide +kernel)) (goodIn_sub (fun _ h => List.mem_cons_of_mem _ (List.mem_append_right _ h)) (by decide +kernel))
set_option maxRecDepth 20000 in
theorem gX5_cover_X5_coverRow : GoodIn wsX5_cover (wsV RX5 112 RX5 yX5_coverRow wsX5_coverRow) := goodIn_app (goodIn_of _ (by decide +kernel)) ggX5_cover_X5_coverRow
set_option maxRecDepth 20000 in
theorem ggX5_cover_X5_coverAt : GoodIn wsX5_cover wsX5_coverAt := goodIn_ca (goodIn_r _ [47, 13, 48, 49, 50, 51, 52, 53, 54, 55, 56, 57, 58, 59, 60, 61, 62, 63, 64, 65, 66, 67, 68] (by decide +kernel) (by decide +kernel)) (goodIn_sub (fun _ h => List.mem_cons_of_mem _ (List.mem_append_right _ h)) (by decide +kernel))
set_option maxRecDepth 20000 in
theorem gX5_cover_X5_coverAt : GoodIn wsX5_cover (wsV RX5 116 RX5 yX5_coverAt wsX5_coverAt) := goodIn_app (goodIn_of _ (by decide +kernel)) ggX5_cover_X5_coverAt
theorem dX5_cover_0 : decode cX5_cover 0 = .ok (.aload_n 0, 1) := by decide +kernel
theorem dX5_cover_1 : decode cX5_cover 1 = .ok (.aload_n 0, 1) := by decide +kernel
theorem dX5_cover_2 : decode cX5_cover 2 = .ok (.iload_n 1, 1) := by decide +kernel
theorem dX5_cover_3 : decode cX5_cover 3 = .ok (.iload_n 2, 1) := by decide +kernel
theorem dX5_cover_4 : decode cX5_cover 4 = .ok (.invokevirtual 131, 3) := by decide +kernel
theorem dX5_cover_7 : decode cX5_cover 7 = .ok (.ifCond .eq 7, 3) := by decide +kernel
theorem dX5_cover_10 : decode cX5_cover 10 = .ok (.iconst 0, 1) := by decide +kernel
theorem dX5_cover_11 : decode cX5_cover 11 = .ok (.goto 4, 3) := by decide +kernel
theorem dX5_cover_14 : decode cX5_cover 14 = .ok (.iconst 1, 1) := by decide +kernel
theorem dX5_cover_15 : decode cX5_cover 15 = .ok (.putfield 55, 3) := by decide +kernel
theorem dX5_cover_18 : decode cX5_cover 18 = .ok (.aload_n 0, 1) := by decide +kernel
theorem dX5_cover_19 : decode cX5_cover 19 = .ok (.getfield 55, 3) := by decide +kernel
theorem dX5_cover_22 : decode cX5_cover 22 = .ok (.ifCond .le 5, 3) := by decide +kernel
theorem dX5_cover_25 : decode cX5_cover 25 = .ok (.iconst 0, 1) := by decide +kernel
theorem dX5_cover_26 : decode cX5_cover 26 = .ok (.ireturn, 1) := by decide +kernel
theorem dX5_cover_27 : decode cX5_cover 27 = .ok (.aload_n 0, 1) := by decide +kernel
theorem dX5_cover_28 : decode cX5_cover 28 = .ok (.iconst 0, 1) := by decide +kernel
theorem dX5_cover_29 : decode cX5_cover 29 = .ok (.iload_n 2, 1) := by decide +kernel
theorem dX5_cover_30 : decode cX5_cover 30 = .ok (.invokevirtual 112, 3) := by decide +kernel
theorem dX5_cover_33 : decode cX5_cover 33 = .ok (.aload_n 0, 1) := by decide +kernel
theorem dX5_cover_34 : decode cX5_cover 34 = .ok (.iload_n 1, 1) := by decide +kernel
theorem dX5_cover_35 : decode cX5_cover 35 = .ok (.invokevirtual 116, 3) := by decide +kernel
theorem dX5_cover_38 : decode cX5_cover 38 = .ok (.ireturn, 1) := by decide +kernel
theorem dX5_band_0 : decode cX5_band 0 = .ok (.aload_n 0, 1) := by decide +kernel
theorem dX5_band_1 : decode cX5_band 1 = .ok (.iconst 0, 1) := by decide +kernel
theorem dX5_band_2 : decode cX5_band 2 = .ok (.putfield 55, 3) := by decide +kernel
theorem dX5_band_5 : decode cX5_band 5 = .ok (.aload_n 0, 1) := by decide +kernel
theorem dX5_band_6 : decode cX5_band 6 = .ok (.iload_n 1, 1) := by decide +kernel
theorem dX5_band_7 : decode cX5_band 7 = .ok (.ifCond .ge 7, 3) := by decide +kernel
theorem dX5_band_10 : decode cX5_band 10 = .ok (.iconst 0, 1) := by decide +kernel
theorem dX5_band_11 : decode cX5_band 11 = .ok (.goto 19, 3) := by decide +kernel
theorem dX5_band_14 : decode cX5_band 14 = .ok (.iload_n 1, 1) := by decide +kernel
theorem dX5_band_15 : decode cX5_band 15 = .ok (.aload_n 0, 1) := by decide +kernel
theorem dX5_band_16 : decode cX5_band 16 = .ok (.getfield 46, 3) := by decide +kernel
theorem dX5_band_19 : decode cX5_band 19 = .ok (.if_icmp .le 10, 3) := by decide +kernel
theorem dX5_band_22 : decode cX5_band 22 = .ok (.aload_n 0, 1) := by decide +kernel
theorem dX5_band_23 : decode cX5_band 23 = .ok (.getfield 46, 3) := by decide +kernel
theorem dX5_band_26 : decode cX5_band 26 = .ok (.goto 4, 3) := by decide +kernel
theorem dX5_band_29 : decode cX5_band 29 = .ok (.iload_n 1, 1) := by decide +kernel
theorem dX5_band_30 : decode cX5_band 30 = .ok (.putfield 109, 3) := by decide +kernel
theorem dX5_band_33 : decode cX5_band 33 = .ok (.aload_n 0, 1) := by decide +kernel
theorem dX5_band_34 : decode cX5_band 34 = .ok (.iload_n 2, 1) := by decide +kernel
theorem dX5_band_35 : decode cX5_band 35 = .ok (.aload_n 0, 1) := by decide +kernel
theorem dX5_band_36 : decode cX5_band 36 = .ok (.getfield 109, 3) := by decide +kernel
theorem dX5_band_39 : decode cX5_band 39 = .ok (.if_icmp .ge 10, 3) := by decide +kernel
theorem dX5_band_42 : decode cX5_band 42 = .ok (.aload_n 0, 1) := by decide +kernel
theorem dX5_band_43 : decode cX5_band 43 = .ok (.getfield 109, 3) := by decide +kernel
theorem dX5_band_46 : decode cX5_band 46 = .ok (.goto 19, 3) := by decide +kernel
theorem dX5_band_49 : decode cX5_band 49 = .ok (.iload_n 2, 1) := by decide +kernel
theorem dX5_band_50 : decode cX5_band 50 = .ok (.aload_n 0, 1) := by decide +kernel
theorem dX5_band_51 : decode cX5_band 51 = .ok (.getfield 46, 3) := by decide +kernel
theorem dX5_band_54 : decode cX5_band 54 = .ok (.if_icmp .le 10, 3) := by decide +kernel
theorem dX5_band_57 : decode cX5_band 57 = .ok (.aload_n 0, 1) := by decide +kernel
theorem dX5_band_58 : decode cX5_band 58 = .ok (.getfield 46, 3) := by decide +kernel
theorem dX5_band_61 : decode cX5_band 61 = .ok (.goto 4, 3) := by decide +kernel
theorem dX5_band_64 : decode cX5_band 64 = .ok (.iload_n 2, 1) := by decide +kernel
theorem dX5_band_65 : decode cX5_band 65 = .ok (.putfield 52, 3) := by decide +kernel
theorem dX5_band_68 : decode cX5_band 68 = .ok (.aload_n 0, 1) := by decide +kernel
theorem dX5_band_69 : decode cX5_band 69 = .ok (.getfield 52, 3) := by decide +kernel
theorem dX5_band_72 : decode cX5_band 72 = .ok (.aload_n 0, 1) := by decide +kernel
theorem dX5_band_73 : decode cX5_band 73 = .ok (.getfield 109, 3) := by decide +kernel
theorem dX5_band_76 : decode cX5_band 76 = .ok (.isub, 1) := by decide +kernel
theorem dX5_band_77 : decode cX5_band 77 = .ok (.ireturn, 1) := by decide +kernel
theorem dX5_same_0 : decode cX5_same 0 = .ok (.aload_n 0, 1) := by decide +kernel
theorem dX5_same_1 : decode cX5_same 1 = .ok (.iconst 0, 1) := by decide +kernel
theorem dX5_same_2 : decode cX5_same 2 = .ok (.putfield 55, 3) := by decide +kernel
theorem dX5_same_5 : decode cX5_same 5 = .ok (.iload_n 1, 1) := by decide +kernel
theorem dX5_same_6 : decode cX5_same 6 = .ok (.iconst 1, 1) := by decide +kernel
theorem dX5_same_7 : decode cX5_same 7 = .ok (.if_icmp .lt 15, 3) := by decide +kernel
theorem dX5_same_10 : decode cX5_same 10 = .ok (.iload_n 1, 1) := by decide +kernel
theorem dX5_same_11 : decode cX5_same 11 = .ok (.aload_n 0, 1) := by decide +kernel
theorem dX5_same_12 : decode cX5_same 12 = .ok (.getfield 46, 3) := by decide +kernel
theorem dX5_same_15 : decode cX5_same 15 = .ok (.if_icmp .gt 7, 3) := by decide +kernel
theorem dX5_same_18 : decode cX5_same 18 = .ok (.iconst 1, 1) := by decide +kernel
theorem dX5_same_19 : decode cX5_same 19 = .ok (.goto 4, 3) := by decide +kernel
theorem dX5_same_22 : decode cX5_same 22 = .ok (.iconst 0, 1) := by decide +kernel
theorem dX5_same_23 : decode cX5_same 23 = .ok (.ireturn, 1) := by decide +kernel
theorem dX5_put_0 : decode cX5_put 0 = .ok (.aload_n 0, 1) := by decide +kernel
theorem dX5_put_1 : decode cX5_put 1 = .ok (.getfield 39, 3) := by decide +kernel
theorem dX5_put_4 : decode cX5_put 4 = .ok (.aload_n 0, 1) := by decide +kernel
theorem dX5_put_5 : decode cX5_put 5 = .ok (.getfield 135, 3) := by decide +kernel
theorem dX5_put_8 : decode cX5_put 8 = .ok (.iload_n 1, 1) := by decide +kernel
theorem dX5_put_9 : decode cX5_put 9 = .ok (.sipush 255, 3) := by decide +kernel
theorem dX5_put_12 : decode cX5_put 12 = .ok (.iand, 1) := by decide +kernel
theorem dX5_put_13 : decode cX5_put 13 = .ok (.iastore, 1) := by decide +kernel
theorem dX5_put_14 : decode cX5_put 14 = .ok (.aload_n 0, 1) := by decide +kernel
theorem dX5_put_15 : decode cX5_put 15 = .ok (.dup, 1) := by decide +kernel
theorem dX5_put_16 : decode cX5_put 16 = .ok (.getfield 135, 3) := by decide +kernel
theorem dX5_put_19 : decode cX5_put 19 = .ok (.iconst 1, 1) := by decide +kernel
theorem dX5_put_20 : decode cX5_put 20 = .ok (.iadd, 1) := by decide +kernel
theorem dX5_put_21 : decode cX5_put 21 = .ok (.putfield 135, 3) := by decide +kernel
theorem dX5_put_24 : decode cX5_put 24 = .ok (.return_, 1) := by decide +kernel
theorem dX5_runAt_0 : decode cX5_runAt 0 = .ok (.iconst 1, 1) := by decide +kernel
theorem dX5_runAt_1 : decode cX5_runAt 1 = .ok (.istore_n 3, 1) := by decide +kernel
theorem dX5_runAt_2 : decode cX5_runAt 2 = .ok (.iload_n 3, 1) := by decide +kernel
theorem dX5_runAt_3 : decode cX5_runAt 3 = .ok (.iload_n 2, 1) := by decide +kernel
theorem dX5_runAt_4 : decode cX5_runAt 4 = .ok (.if_icmp .ge 32, 3) := by decide +kernel
theorem dX5_runAt_7 : decode cX5_runAt 7 = .ok (.iload_n 3, 1) := by decide +kernel
theorem dX5_runAt_8 : decode cX5_runAt 8 = .ok (.bipush 64, 2) := by decide +kernel
theorem dX5_runAt_10 : decode cX5_runAt 10 = .ok (.if_icmp .ge 26, 3) := by decide +kernel
theorem dX5_runAt_13 : decode cX5_runAt 13 = .ok (.aload_n 0, 1) := by decide +kernel
theorem dX5_runAt_14 : decode cX5_runAt 14 = .ok (.getfield 7, 3) := by decide +kernel
theorem dX5_runAt_17 : decode cX5_runAt 17 = .ok (.iload_n 1, 1) := by decide +kernel
theorem dX5_runAt_18 : decode cX5_runAt 18 = .ok (.iload_n 3, 1) := by decide +kernel
theorem dX5_runAt_19 : decode cX5_runAt 19 = .ok (.iadd, 1) := by decide +kernel
theorem dX5_runAt_20 : decode cX5_runAt 20 = .ok (.iaload, 1) := by decide +kernel
theorem dX5_runAt_21 : decode cX5_runAt 21 = .ok (.aload_n 0, 1) := by decide +kernel
theorem dX5_runAt_22 : decode cX5_runAt 22 = .ok (.getfield 7, 3) := by decide +kernel
theorem dX5_runAt_25 : decode cX5_runAt 25 = .ok (.iload_n 1, 1) := by decide +kernel
theorem dX5_runAt_26 : decode cX5_runAt 26 = .ok (.iaload, 1) := by decide +kernel
theorem dX5_runAt_27 : decode cX5_runAt 27 = .ok (.if_icmp .ne 9, 3) := by decide +kernel
theorem dX5_runAt_30 : decode cX5_runAt 30 = .ok (.iinc 3 1, 3) := by decide +kernel
theorem dX5_runAt_33 : decode cX5_runAt 33 = .ok (.goto (-31), 3) := by decide +kernel
theorem dX5_runAt_36 : decode cX5_runAt 36 = .ok (.iload_n 3, 1) := by decide +kernel
theorem dX5_runAt_37 : decode cX5_runAt 37 = .ok (.ireturn, 1) := by decide +kernel
set_option maxRecDepth 20000 in
theorem ggX5_packAll_X5_runAt : GoodIn wsX5_packAll wsX5_runAt := goodIn_ca (goodIn_r _ [11, 5, 17, 18, 19, 20, 21, 22, 23, 24, 25, 26, 27, 28, 29, 30, 31, 32, 33, 34, 35, 36, 37] (by decide +kernel) (by decide +kernel)) (goodIn_sub (fun _ h => List.mem_cons_of_mem _ (List.mem_append_right _ h)) (by decide +kernel))
set_option maxRecDepth 20000 in
theorem gX5_packAll_X5_runAt : GoodIn wsX5_packAll (wsV RX5 137 RX5 yX5_runAt wsX5_runAt) := goodIn_app (goodIn_of _ (by decide +kernel)) ggX5_packAll_X5_runAt
set_option maxRecDepth 20000 in
theorem ggX5_packAll_X5_put : GoodIn wsX5_packAll wsX5_put := goodIn_ca (goodIn_r _ [15, 16, 1, 17, 18, 19, 20, 21, 22, 23, 24, 25, 26, 27, 28, 29, 30, 31, 32, 33, 34, 35, 36, 37] (by decide +kernel) (by decide +kernel)) (goodIn_sub (fun _ h => List.mem_cons_of_mem _ (List.mem_append_right _ h)) (by decide +kernel))
set_option maxRecDepth 20000 in
theorem gX5_packAll_X5_put : GoodIn wsX5_packAll (wsV RX5 140 RX5 yX5_put wsX5_put) := goodIn_app (goodIn_of _ (by decide +kernel)) ggX5_packAll_X5_put
theorem dX5_packAll_0 : decode cX5_packAll 0 = .ok (.aload_n 0, 1) := by decide +kernel
theorem dX5_packAll_1 : decode cX5_packAll 1 = .ok (.iconst 0, 1) := by decide +kernel
theorem dX5_packAll_2 : decode cX5_packAll 2 = .ok (.putfield 135, 3) := by decide +kernel
theorem dX5_packAll_5 : decode cX5_packAll 5 = .ok (.iconst 0, 1) := by decide +kernel
theorem dX5_packAll_6 : decode cX5_packAll 6 = .ok (.istore_n 1, 1) := by decide +kernel
theorem dX5_packAll_7 : decode cX5_packAll 7 = .ok (.iload_n 1, 1) := by decide +kernel
theorem dX5_packAll_8 : decode cX5_packAll 8 = .ok (.aload_n 0, 1) := by decide +kernel
theorem dX5_packAll_9 : decode cX5_packAll 9 = .ok (.getfield 49, 3) := by decide +kernel
theorem dX5_packAll_12 : decode cX5_packAll 12 = .ok (.if_icmp .ge 183, 3) := by decide +kernel
theorem dX5_packAll_15 : decode cX5_packAll 15 = .ok (.iconst 0, 1) := by decide +kernel
theorem dX5_packAll_16 : decode cX5_packAll 16 = .ok (.istore_n 2, 1) := by decide +kernel
theorem dX5_packAll_17 : decode cX5_packAll 17 = .ok (.iload_n 2, 1) := by decide +kernel
theorem dX5_packAll_18 : decode cX5_packAll 18 = .ok (.aload_n 0, 1) := by decide +kernel
theorem dX5_packAll_19 : decode cX5_packAll 19 = .ok (.getfield 46, 3) := by decide +kernel
theorem dX5_packAll_22 : decode cX5_packAll 22 = .ok (.if_icmp .ge 167, 3) := by decide +kernel
theorem dX5_packAll_25 : decode cX5_packAll 25 = .ok (.iconst 0, 1) := by decide +kernel
theorem dX5_packAll_26 : decode cX5_packAll 26 = .ok (.istore_n 3, 1) := by decide +kernel
theorem dX5_packAll_27 : decode cX5_packAll 27 = .ok (.iload_n 3, 1) := by decide +kernel
theorem dX5_packAll_28 : decode cX5_packAll 28 = .ok (.aload_n 0, 1) := by decide +kernel
theorem dX5_packAll_29 : decode cX5_packAll 29 = .ok (.getfield 42, 3) := by decide +kernel
theorem dX5_packAll_32 : decode cX5_packAll 32 = .ok (.if_icmp .ge 151, 3) := by decide +kernel
theorem dX5_packAll_35 : decode cX5_packAll 35 = .ok (.sipush 2304, 3) := by decide +kernel
theorem dX5_packAll_38 : decode cX5_packAll 38 = .ok (.iload_n 1, 1) := by decide +kernel
theorem dX5_packAll_39 : decode cX5_packAll 39 = .ok (.imul, 1) := by decide +kernel
theorem dX5_packAll_40 : decode cX5_packAll 40 = .ok (.bipush 48, 2) := by decide +kernel
theorem dX5_packAll_42 : decode cX5_packAll 42 = .ok (.iload_n 2, 1) := by decide +kernel
theorem dX5_packAll_43 : decode cX5_packAll 43 = .ok (.imul, 1) := by decide +kernel
theorem dX5_packAll_44 : decode cX5_packAll 44 = .ok (.iadd, 1) := by decide +kernel
theorem dX5_packAll_45 : decode cX5_packAll 45 = .ok (.iload_n 3, 1) := by decide +kernel
theorem dX5_packAll_46 : decode cX5_packAll 46 = .ok (.iadd, 1) := by decide +kernel
theorem dX5_packAll_47 : decode cX5_packAll 47 = .ok (.istore 4, 2) := by decide +kernel
theorem dX5_packAll_49 : decode cX5_packAll 49 = .ok (.aload_n 0, 1) := by decide +kernel
theorem dX5_packAll_50 : decode cX5_packAll 50 = .ok (.iload 4, 2) := by decide +kernel
theorem dX5_packAll_52 : decode cX5_packAll 52 = .ok (.aload_n 0, 1) := by decide +kernel
theorem dX5_packAll_53 : decode cX5_packAll 53 = .ok (.getfield 42, 3) := by decide +kernel
theorem dX5_packAll_56 : decode cX5_packAll 56 = .ok (.iload_n 3, 1) := by decide +kernel
theorem dX5_packAll_57 : decode cX5_packAll 57 = .ok (.isub, 1) := by decide +kernel
theorem dX5_packAll_58 : decode cX5_packAll 58 = .ok (.invokevirtual 137, 3) := by decide +kernel
theorem dX5_packAll_61 : decode cX5_packAll 61 = .ok (.istore 5, 2) := by decide +kernel
theorem dX5_packAll_63 : decode cX5_packAll 63 = .ok (.iload 5, 2) := by decide +kernel
theorem dX5_packAll_65 : decode cX5_packAll 65 = .ok (.iconst 1, 1) := by decide +kernel
theorem dX5_packAll_66 : decode cX5_packAll 66 = .ok (.if_icmp .le 27, 3) := by decide +kernel
theorem dX5_packAll_69 : decode cX5_packAll 69 = .ok (.aload_n 0, 1) := by decide +kernel
theorem dX5_packAll_70 : decode cX5_packAll 70 = .ok (.sipush 128, 3) := by decide +kernel
theorem dX5_packAll_73 : decode cX5_packAll 73 = .ok (.iload 5, 2) := by decide +kernel
theorem dX5_packAll_75 : decode cX5_packAll 75 = .ok (.isub, 1) := by decide +kernel
theorem dX5_packAll_76 : decode cX5_packAll 76 = .ok (.invokevirtual 140, 3) := by decide +kernel
theorem dX5_packAll_79 : decode cX5_packAll 79 = .ok (.aload_n 0, 1) := by decide +kernel
theorem dX5_packAll_80 : decode cX5_packAll 80 = .ok (.aload_n 0, 1) := by decide +kernel
theorem dX5_packAll_81 : decode cX5_packAll 81 = .ok (.getfield 7, 3) := by decide +kernel
theorem dX5_packAll_84 : decode cX5_packAll 84 = .ok (.iload 4, 2) := by decide +kernel
theorem dX5_packAll_86 : decode cX5_packAll 86 = .ok (.iaload, 1) := by decide +kernel
theorem dX5_packAll_87 : decode cX5_packAll 87 = .ok (.invokevirtual 140, 3) := by decide +kernel
theorem dX5_packAll_90 : decode cX5_packAll 90 = .ok (.goto 85, 3) := by decide +kernel
theorem dX5_packAll_93 : decode cX5_packAll 93 = .ok (.iload_n 3, 1) := by decide +kernel
theorem dX5_packAll_94 : decode cX5_packAll 94 = .ok (.iload 5, 2) := by decide +kernel
theorem dX5_packAll_96 : decode cX5_packAll 96 = .ok (.iadd, 1) := by decide +kernel
theorem dX5_packAll_97 : decode cX5_packAll 97 = .ok (.aload_n 0, 1) := by decide +kernel
theorem dX5_packAll_98 : decode cX5_packAll 98 = .ok (.getfield 42, 3) := by decide +kernel
theorem dX5_packAll_101 : decode cX5_packAll 101 = .ok (.if_icmp .ge 38, 3) := by decide +kernel
theorem dX5_packAll_104 : decode cX5_packAll 104 = .ok (.iload 5, 2) := by decide +kernel
theorem dX5_packAll_106 : decode cX5_packAll 106 = .ok (.bipush 64, 2) := by decide +kernel
theorem dX5_packAll_108 : decode cX5_packAll 108 = .ok (.if_icmp .ge 31, 3) := by decide +kernel
theorem dX5_packAll_111 : decode cX5_packAll 111 = .ok (.aload_n 0, 1) := by decide +kernel
theorem dX5_packAll_112 : decode cX5_packAll 112 = .ok (.iload 4, 2) := by decide +kernel
theorem dX5_packAll_114 : decode cX5_packAll 114 = .ok (.iload 5, 2) := by decide +kernel
theorem dX5_packAll_116 : decode cX5_packAll 116 = .ok (.iadd, 1) := by decide +kernel
theorem dX5_packAll_117 : decode cX5_packAll 117 = .ok (.aload_n 0, 1) := by decide +kernel
theorem dX5_packAll_118 : decode cX5_packAll 118 = .ok (.getfield 42, 3) := by decide +kernel
theorem dX5_packAll_121 : decode cX5_packAll 121 = .ok (.iload_n 3, 1) := by decide +kernel
theorem dX5_packAll_122 : decode cX5_packAll 122 = .ok (.isub, 1) := by decide +kernel
theorem dX5_packAll_123 : decode cX5_packAll 123 = .ok (.iload 5, 2) := by decide +kernel
theorem dX5_packAll_125 : decode cX5_packAll 125 = .ok (.isub, 1) := by decide +kernel
theorem dX5_packAll_126 : decode cX5_packAll 126 = .ok (.invokevirtual 137, 3) := by decide +kernel
theorem dX5_packAll_129 : decode cX5_packAll 129 = .ok (.iconst 1, 1) := by decide +kernel
theorem dX5_packAll_130 : decode cX5_packAll 130 = .ok (.if_icmp .ne 9, 3) := by decide +kernel
theorem dX5_packAll_133 : decode cX5_packAll 133 = .ok (.iinc 5 1, 3) := by decide +kernel
theorem dX5_packAll_136 : decode cX5_packAll 136 = .ok (.goto (-43), 3) := by decide +kernel
theorem dX5_packAll_139 : decode cX5_packAll 139 = .ok (.aload_n 0, 1) := by decide +kernel
theorem dX5_packAll_140 : decode cX5_packAll 140 = .ok (.iload 5, 2) := by decide +kernel
theorem dX5_packAll_142 : decode cX5_packAll 142 = .ok (.invokevirtual 140, 3) := by decide +kernel
theorem dX5_packAll_145 : decode cX5_packAll 145 = .ok (.iconst 0, 1) := by decide +kernel
theorem dX5_packAll_146 : decode cX5_packAll 146 = .ok (.istore 6, 2) := by decide +kernel
theorem dX5_packAll_148 : decode cX5_packAll 148 = .ok (.iload 6, 2) := by decide +kernel
theorem dX5_packAll_150 : decode cX5_packAll 150 = .ok (.iload 5, 2) := by decide +kernel
theorem dX5_packAll_152 : decode cX5_packAll 152 = .ok (.if_icmp .ge 23, 3) := by decide +kernel
theorem dX5_packAll_155 : decode cX5_packAll 155 = .ok (.aload_n 0, 1) := by decide +kernel
theorem dX5_packAll_156 : decode cX5_packAll 156 = .ok (.aload_n 0, 1) := by decide +kernel
theorem dX5_packAll_157 : decode cX5_packAll 157 = .ok (.getfield 7, 3) := by decide +kernel
theorem dX5_packAll_160 : decode cX5_packAll 160 = .ok (.iload 4, 2) := by decide +kernel
theorem dX5_packAll_162 : decode cX5_packAll 162 = .ok (.iload 6, 2) := by decide +kernel
theorem dX5_packAll_164 : decode cX5_packAll 164 = .ok (.iadd, 1) := by decide +kernel
theorem dX5_packAll_165 : decode cX5_packAll 165 = .ok (.iaload, 1) := by decide +kernel
theorem dX5_packAll_166 : decode cX5_packAll 166 = .ok (.invokevirtual 140, 3) := by decide +kernel
theorem dX5_packAll_169 : decode cX5_packAll 169 = .ok (.iinc 6 1, 3) := by decide +kernel
theorem dX5_packAll_172 : decode cX5_packAll 172 = .ok (.goto (-24), 3) := by decide +kernel
theorem dX5_packAll_175 : decode cX5_packAll 175 = .ok (.iload_n 3, 1) := by decide +kernel
theorem dX5_packAll_176 : decode cX5_packAll 176 = .ok (.iload 5, 2) := by decide +kernel
theorem dX5_packAll_178 : decode cX5_packAll 178 = .ok (.iadd, 1) := by decide +kernel
theorem dX5_packAll_179 : decode cX5_packAll 179 = .ok (.istore_n 3, 1) := by decide +kernel
theorem dX5_packAll_180 : decode cX5_packAll 180 = .ok (.goto (-153), 3) := by decide +kernel
theorem dX5_packAll_183 : decode cX5_packAll 183 = .ok (.iinc 2 1, 3) := by decide +kernel
theorem dX5_packAll_186 : decode cX5_packAll 186 = .ok (.goto (-169), 3) := by decide +kernel
theorem dX5_packAll_189 : decode cX5_packAll 189 = .ok (.iinc 1 1, 3) := by decide +kernel
theorem dX5_packAll_192 : decode cX5_packAll 192 = .ok (.goto (-185), 3) := by decide +kernel
theorem dX5_packAll_195 : decode cX5_packAll 195 = .ok (.aload_n 0, 1) := by decide +kernel
theorem dX5_packAll_196 : decode cX5_packAll 196 = .ok (.iconst 1, 1) := by decide +kernel
theorem dX5_packAll_197 : decode cX5_packAll 197 = .ok (.putfield 127, 3) := by decide +kernel
theorem dX5_packAll_200 : decode cX5_packAll 200 = .ok (.return_, 1) := by decide +kernel
set_option maxRecDepth 20000 in
theorem ggX5_packed_X5_packAll : GoodIn wsX5_packed wsX5_packAll := goodIn_ca (goodIn_r _ [9, 2, 10, 11, 12, 13, 1, 14, 15, 16, 8, 17, 18, 19, 20, 21, 4, 22, 23, 24, 25, 26, 27, 28, 29, 30, 31, 32, 33, 34, 35, 36, 37, 38, 39, 40, 41, 42] (by decide +kernel) (by decide +kernel)) (goodIn_sub (fun _ h => List.mem_cons_of_mem _ (List.mem_append_right _ h)) (by decide +kernel))
set_option maxRecDepth 20000 in
theorem gX5_packed_X5_packAll : GoodIn wsX5_packed (wsV RX5 144 RX5 yX5_packAll wsX5_packAll) := goodIn_app (goodIn_of _ (by decide +kernel)) ggX5_packed_X5_packAll
theorem dX5_packed_0 : decode cX5_packed 0 = .ok (.aload_n 0, 1) := by decide +kernel
theorem dX5_packed_1 : decode cX5_packed 1 = .ok (.getfield 127, 3) := by decide +kernel
theorem dX5_packed_4 : decode cX5_packed 4 = .ok (.ifCond .ne 7, 3) := by decide +kernel
theorem dX5_packed_7 : decode cX5_packed 7 = .ok (.aload_n 0, 1) := by decide +kernel
theorem dX5_packed_8 : decode cX5_packed 8 = .ok (.invokevirtual 144, 3) := by decide +kernel
theorem dX5_packed_11 : decode cX5_packed 11 = .ok (.aload_n 0, 1) := by decide +kernel
theorem dX5_packed_12 : decode cX5_packed 12 = .ok (.iload_n 1, 1) := by decide +kernel
theorem dX5_packed_13 : decode cX5_packed 13 = .ok (.ifCond .lt 11, 3) := by decide +kernel
theorem dX5_packed_16 : decode cX5_packed 16 = .ok (.iload_n 1, 1) := by decide +kernel
theorem dX5_packed_17 : decode cX5_packed 17 = .ok (.aload_n 0, 1) := by decide +kernel
theorem dX5_packed_18 : decode cX5_packed 18 = .ok (.getfield 135, 3) := by decide +kernel
theorem dX5_packed_21 : decode cX5_packed 21 = .ok (.if_icmp .lt 7, 3) := by decide +kernel
theorem dX5_packed_24 : decode cX5_packed 24 = .ok (.iconst 1, 1) := by decide +kernel
theorem dX5_packed_25 : decode cX5_packed 25 = .ok (.goto 4, 3) := by decide +kernel
theorem dX5_packed_28 : decode cX5_packed 28 = .ok (.iconst 0, 1) := by decide +kernel
theorem dX5_packed_29 : decode cX5_packed 29 = .ok (.putfield 55, 3) := by decide +kernel
theorem dX5_packed_32 : decode cX5_packed 32 = .ok (.aload_n 0, 1) := by decide +kernel
theorem dX5_packed_33 : decode cX5_packed 33 = .ok (.getfield 55, 3) := by decide +kernel
theorem dX5_packed_36 : decode cX5_packed 36 = .ok (.ifCond .le 7, 3) := by decide +kernel
theorem dX5_packed_39 : decode cX5_packed 39 = .ok (.iconst 0, 1) := by decide +kernel
theorem dX5_packed_40 : decode cX5_packed 40 = .ok (.goto 10, 3) := by decide +kernel
theorem dX5_packed_43 : decode cX5_packed 43 = .ok (.aload_n 0, 1) := by decide +kernel
theorem dX5_packed_44 : decode cX5_packed 44 = .ok (.getfield 39, 3) := by decide +kernel
theorem dX5_packed_47 : decode cX5_packed 47 = .ok (.iload_n 1, 1) := by decide +kernel
theorem dX5_packed_48 : decode cX5_packed 48 = .ok (.iaload, 1) := by decide +kernel
theorem dX5_packed_49 : decode cX5_packed 49 = .ok (.i2b, 1) := by decide +kernel
theorem dX5_packed_50 : decode cX5_packed 50 = .ok (.ireturn, 1) := by decide +kernel
theorem dX5_over_0 : decode cX5_over 0 = .ok (.aload_n 0, 1) := by decide +kernel
theorem dX5_over_1 : decode cX5_over 1 = .ok (.iload_n 1, 1) := by decide +kernel
theorem dX5_over_2 : decode cX5_over 2 = .ok (.ifCond .lt 11, 3) := by decide +kernel
theorem dX5_over_5 : decode cX5_over 5 = .ok (.iload_n 1, 1) := by decide +kernel
theorem dX5_over_6 : decode cX5_over 6 = .ok (.aload_n 0, 1) := by decide +kernel
theorem dX5_over_7 : decode cX5_over 7 = .ok (.getfield 49, 3) := by decide +kernel
theorem dX5_over_10 : decode cX5_over 10 = .ok (.if_icmp .lt 7, 3) := by decide +kernel
theorem dX5_over_13 : decode cX5_over 13 = .ok (.iconst 1, 1) := by decide +kernel
theorem dX5_over_14 : decode cX5_over 14 = .ok (.goto 4, 3) := by decide +kernel
theorem dX5_over_17 : decode cX5_over 17 = .ok (.iconst 0, 1) := by decide +kernel
theorem dX5_over_18 : decode cX5_over 18 = .ok (.putfield 55, 3) := by decide +kernel
theorem dX5_over_21 : decode cX5_over 21 = .ok (.aload_n 0, 1) := by decide +kernel
theorem dX5_over_22 : decode cX5_over 22 = .ok (.getfield 55, 3) := by decide +kernel
theorem dX5_over_25 : decode cX5_over 25 = .ok (.ifCond .le 5, 3) := by decide +kernel
theorem dX5_over_28 : decode cX5_over 28 = .ok (.iconst 0, 1) := by decide +kernel
theorem dX5_over_29 : decode cX5_over 29 = .ok (.ireturn, 1) := by decide +kernel
theorem dX5_over_30 : decode cX5_over 30 = .ok (.aload_n 0, 1) := by decide +kernel
theorem dX5_over_31 : decode cX5_over 31 = .ok (.getfield 16, 3) := by decide +kernel
theorem dX5_over_34 : decode cX5_over 34 = .ok (.iload_n 1, 1) := by decide +kernel
theorem dX5_over_35 : decode cX5_over 35 = .ok (.baload, 1) := by decide +kernel
theorem dX5_over_36 : decode cX5_over 36 = .ok (.ifCond .eq 7, 3) := by decide +kernel
theorem dX5_over_39 : decode cX5_over 39 = .ok (.iconst 1, 1) := by decide +kernel
theorem dX5_over_40 : decode cX5_over 40 = .ok (.goto 4, 3) := by decide +kernel
theorem dX5_over_43 : decode cX5_over 43 = .ok (.iconst 0, 1) := by decide +kernel
theorem dX5_over_44 : decode cX5_over 44 = .ok (.istore_n 3, 1) := by decide +kernel
theorem dX5_over_45 : decode cX5_over 45 = .ok (.aload_n 0, 1) := by decide +kernel
theorem dX5_over_46 : decode cX5_over 46 = .ok (.getfield 16, 3) := by decide +kernel
theorem dX5_over_49 : decode cX5_over 49 = .ok (.iload_n 1, 1) := by decide +kernel
theorem dX5_over_50 : decode cX5_over 50 = .ok (.iload_n 2, 1) := by decide +kernel
theorem dX5_over_51 : decode cX5_over 51 = .ok (.bastore, 1) := by decide +kernel
theorem dX5_over_52 : decode cX5_over 52 = .ok (.iload_n 3, 1) := by decide +kernel
theorem dX5_over_53 : decode cX5_over 53 = .ok (.ireturn, 1) := by decide +kernel
theorem dJx00060_init_a7421_0 : decode cJx00060_init_a7421 0 = .ok (.aload_n 0, 1) := by decide +kernel
theorem dJx00060_init_a7421_1 : decode cJx00060_init_a7421 1 = .ok (.aload_n 1, 1) := by decide +kernel
theorem dJx00060_init_a7421_2 : decode cJx00060_init_a7421 2 = .ok (.invokespecial 7, 3) := by decide +kernel
theorem dJx00060_init_a7421_5 : decode cJx00060_init_a7421 5 = .ok (.return_, 1) := by decide +kernel
theorem dJ9_floorDiv_f86c9_0 : decode cJ9_floorDiv_f86c9 0 = .ok (.lload_n 0, 1) := by decide +kernel
theorem dJ9_floorDiv_f86c9_1 : decode cJ9_floorDiv_f86c9 1 = .ok (.lload_n 2, 1) := by decide +kernel
theorem dJ9_floorDiv_f86c9_2 : decode cJ9_floorDiv_f86c9 2 = .ok (.ldiv, 1) := by decide +kernel
theorem dJ9_floorDiv_f86c9_3 : decode cJ9_floorDiv_f86c9 3 = .ok (.lstore 4, 2) := by decide +kernel
theorem dJ9_floorDiv_f86c9_5 : decode cJ9_floorDiv_f86c9 5 = .ok (.lload_n 0, 1) := by decide +kernel
theorem dJ9_floorDiv_f86c9_6 : decode cJ9_floorDiv_f86c9 6 = .ok (.lload_n 2, 1) := by decide +kernel
theorem dJ9_floorDiv_f86c9_7 : decode cJ9_floorDiv_f86c9 7 = .ok (.lxor, 1) := by decide +kernel
theorem dJ9_floorDiv_f86c9_8 : decode cJ9_floorDiv_f86c9 8 = .ok (.lconst 0, 1) := by decide +kernel
theorem dJ9_floorDiv_f86c9_9 : decode cJ9_floorDiv_f86c9 9 = .ok (.lcmp, 1) := by decide +kernel
theorem dJ9_floorDiv_f86c9_10 : decode cJ9_floorDiv_f86c9 10 = .ok (.ifCond .ge 17, 3) := by decide +kernel
theorem dJ9_floorDiv_f86c9_13 : decode cJ9_floorDiv_f86c9 13 = .ok (.lload 4, 2) := by decide +kernel
theorem dJ9_floorDiv_f86c9_15 : decode cJ9_floorDiv_f86c9 15 = .ok (.lload_n 2, 1) := by decide +kernel
theorem dJ9_floorDiv_f86c9_16 : decode cJ9_floorDiv_f86c9 16 = .ok (.lmul, 1) := by decide +kernel
theorem dJ9_floorDiv_f86c9_17 : decode cJ9_floorDiv_f86c9 17 = .ok (.lload_n 0, 1) := by decide +kernel
theorem dJ9_floorDiv_f86c9_18 : decode cJ9_floorDiv_f86c9 18 = .ok (.lcmp, 1) := by decide +kernel
theorem dJ9_floorDiv_f86c9_19 : decode cJ9_floorDiv_f86c9 19 = .ok (.ifCond .eq 8, 3) := by decide +kernel
theorem dJ9_floorDiv_f86c9_22 : decode cJ9_floorDiv_f86c9 22 = .ok (.lload 4, 2) := by decide +kernel
theorem dJ9_floorDiv_f86c9_24 : decode cJ9_floorDiv_f86c9 24 = .ok (.lconst 1, 1) := by decide +kernel
theorem dJ9_floorDiv_f86c9_25 : decode cJ9_floorDiv_f86c9 25 = .ok (.lsub, 1) := by decide +kernel
theorem dJ9_floorDiv_f86c9_26 : decode cJ9_floorDiv_f86c9 26 = .ok (.lreturn, 1) := by decide +kernel
theorem dJ9_floorDiv_f86c9_27 : decode cJ9_floorDiv_f86c9 27 = .ok (.lload 4, 2) := by decide +kernel
theorem dJ9_floorDiv_f86c9_29 : decode cJ9_floorDiv_f86c9 29 = .ok (.lreturn, 1) := by decide +kernel
theorem dJ9_abs_0f7a4_0 : decode cJ9_abs_0f7a4 0 = .ok (.iload_n 0, 1) := by decide +kernel
theorem dJ9_abs_0f7a4_1 : decode cJ9_abs_0f7a4 1 = .ok (.ifCond .ge 8, 3) := by decide +kernel
theorem dJ9_abs_0f7a4_4 : decode cJ9_abs_0f7a4 4 = .ok (.iload_n 0, 1) := by decide +kernel
theorem dJ9_abs_0f7a4_5 : decode cJ9_abs_0f7a4 5 = .ok (.ineg, 1) := by decide +kernel
theorem dJ9_abs_0f7a4_6 : decode cJ9_abs_0f7a4 6 = .ok (.goto 4, 3) := by decide +kernel
theorem dJ9_abs_0f7a4_9 : decode cJ9_abs_0f7a4 9 = .ok (.iload_n 0, 1) := by decide +kernel
theorem dJ9_abs_0f7a4_10 : decode cJ9_abs_0f7a4 10 = .ok (.ireturn, 1) := by decide +kernel
theorem dJ9_max_7cf53_0 : decode cJ9_max_7cf53 0 = .ok (.iload_n 0, 1) := by decide +kernel
theorem dJ9_max_7cf53_1 : decode cJ9_max_7cf53 1 = .ok (.iload_n 1, 1) := by decide +kernel
theorem dJ9_max_7cf53_2 : decode cJ9_max_7cf53 2 = .ok (.if_icmp .lt 7, 3) := by decide +kernel
theorem dJ9_max_7cf53_5 : decode cJ9_max_7cf53 5 = .ok (.iload_n 0, 1) := by decide +kernel
theorem dJ9_max_7cf53_6 : decode cJ9_max_7cf53 6 = .ok (.goto 4, 3) := by decide +kernel
theorem dJ9_max_7cf53_9 : decode cJ9_max_7cf53 9 = .ok (.iload_n 1, 1) := by decide +kernel
theorem dJ9_max_7cf53_10 : decode cJ9_max_7cf53 10 = .ok (.ireturn, 1) := by decide +kernel
theorem dJ9_max_f86c9_0 : decode cJ9_max_f86c9 0 = .ok (.lload_n 0, 1) := by decide +kernel
theorem dJ9_max_f86c9_1 : decode cJ9_max_f86c9 1 = .ok (.lload_n 2, 1) := by decide +kernel
theorem dJ9_max_f86c9_2 : decode cJ9_max_f86c9 2 = .ok (.lcmp, 1) := by decide +kernel
theorem dJ9_max_f86c9_3 : decode cJ9_max_f86c9 3 = .ok (.ifCond .lt 7, 3) := by decide +kernel
theorem dJ9_max_f86c9_6 : decode cJ9_max_f86c9 6 = .ok (.lload_n 0, 1) := by decide +kernel
theorem dJ9_max_f86c9_7 : decode cJ9_max_f86c9 7 = .ok (.goto 4, 3) := by decide +kernel
theorem dJ9_max_f86c9_10 : decode cJ9_max_f86c9 10 = .ok (.lload_n 2, 1) := by decide +kernel
theorem dJ9_max_f86c9_11 : decode cJ9_max_f86c9 11 = .ok (.lreturn, 1) := by decide +kernel
theorem dJ9_min_7cf53_0 : decode cJ9_min_7cf53 0 = .ok (.iload_n 0, 1) := by decide +kernel
theorem dJ9_min_7cf53_1 : decode cJ9_min_7cf53 1 = .ok (.iload_n 1, 1) := by decide +kernel
theorem dJ9_min_7cf53_2 : decode cJ9_min_7cf53 2 = .ok (.if_icmp .gt 7, 3) := by decide +kernel
theorem dJ9_min_7cf53_5 : decode cJ9_min_7cf53 5 = .ok (.iload_n 0, 1) := by decide +kernel
theorem dJ9_min_7cf53_6 : decode cJ9_min_7cf53 6 = .ok (.goto 4, 3) := by decide +kernel
theorem dJ9_min_7cf53_9 : decode cJ9_min_7cf53 9 = .ok (.iload_n 1, 1) := by decide +kernel
theorem dJ9_min_7cf53_10 : decode cJ9_min_7cf53 10 = .ok (.ireturn, 1) := by decide +kernel
theorem dJ9_min_f86c9_0 : decode cJ9_min_f86c9 0 = .ok (.lload_n 0, 1) := by decide +kernel
theorem dJ9_min_f86c9_1 : decode cJ9_min_f86c9 1 = .ok (.lload_n 2, 1) := by decide +kernel
theorem dJ9_min_f86c9_2 : decode cJ9_min_f86c9 2 = .ok (.lcmp, 1) := by decide +kernel
theorem dJ9_min_f86c9_3 : decode cJ9_min_f86c9 3 = .ok (.ifCond .gt 7, 3) := by decide +kernel
theorem dJ9_min_f86c9_6 : decode cJ9_min_f86c9 6 = .ok (.lload_n 0, 1) := by decide +kernel
theorem dJ9_min_f86c9_7 : decode cJ9_min_f86c9 7 = .ok (.goto 4, 3) := by decide +kernel
theorem dJ9_min_f86c9_10 : decode cJ9_min_f86c9 10 = .ok (.lload_n 2, 1) := by decide +kernel
theorem dJ9_min_f86c9_11 : decode cJ9_min_f86c9 11 = .ok (.lreturn, 1) := by decide +kernel
theorem dJ7_fill_53178_0 : decode cJ7_fill_53178 0 = .ok (.iconst 0, 1) := by decide +kernel
theorem dJ7_fill_53178_1 : decode cJ7_fill_53178 1 = .ok (.istore_n 2, 1) := by decide +kernel
theorem dJ7_fill_53178_2 : decode cJ7_fill_53178 2 = .ok (.aload_n 0, 1) := by decide +kernel
theorem dJ7_fill_53178_3 : decode cJ7_fill_53178 3 = .ok (.arraylength, 1) := by decide +kernel
theorem dJ7_fill_53178_4 : decode cJ7_fill_53178 4 = .ok (.istore_n 3, 1) := by decide +kernel
theorem dJ7_fill_53178_5 : decode cJ7_fill_53178 5 = .ok (.iload_n 2, 1) := by decide +kernel
theorem dJ7_fill_53178_6 : decode cJ7_fill_53178 6 = .ok (.iload_n 3, 1) := by decide +kernel
theorem dJ7_fill_53178_7 : decode cJ7_fill_53178 7 = .ok (.if_icmp .ge 13, 3) := by decide +kernel
theorem dJ7_fill_53178_10 : decode cJ7_fill_53178 10 = .ok (.aload_n 0, 1) := by decide +kernel
theorem dJ7_fill_53178_11 : decode cJ7_fill_53178 11 = .ok (.iload_n 2, 1) := by decide +kernel
theorem dJ7_fill_53178_12 : decode cJ7_fill_53178 12 = .ok (.iload_n 1, 1) := by decide +kernel
theorem dJ7_fill_53178_13 : decode cJ7_fill_53178 13 = .ok (.iastore, 1) := by decide +kernel
theorem dJ7_fill_53178_14 : decode cJ7_fill_53178 14 = .ok (.iinc 2 1, 3) := by decide +kernel
theorem dJ7_fill_53178_17 : decode cJ7_fill_53178 17 = .ok (.goto (-12), 3) := by decide +kernel
theorem dJ7_fill_53178_20 : decode cJ7_fill_53178 20 = .ok (.return_, 1) := by decide +kernel
