theorem dX0_init_0 : decode cX0_init 0 = .ok (.aload_n 0, 1) := by decide +kernel
theorem dX0_init_1 : decode cX0_init 1 = .ok (.invokespecial 1, 3) := by decide +kernel
theorem dX0_init_4 : decode cX0_init 4 = .ok (.aload_n 0, 1) := by decide +kernel
theorem dX0_init_5 : decode cX0_init 5 = .ok (.bipush 100, 2) := by decide +kernel
theorem dX0_init_7 : decode cX0_init 7 = .ok (.newarray .int, 2) := by decide +kernel
theorem dX0_init_9 : decode cX0_init 9 = .ok (.putfield 9, 3) := by decide +kernel
theorem dX0_init_12 : decode cX0_init 12 = .ok (.aload_n 0, 1) := by decide +kernel
theorem dX0_init_13 : decode cX0_init 13 = .ok (.bipush 100, 2) := by decide +kernel
theorem dX0_init_15 : decode cX0_init 15 = .ok (.newarray .int, 2) := by decide +kernel
theorem dX0_init_17 : decode cX0_init 17 = .ok (.putfield 15, 3) := by decide +kernel
theorem dX0_init_20 : decode cX0_init 20 = .ok (.aload_n 0, 1) := by decide +kernel
theorem dX0_init_21 : decode cX0_init 21 = .ok (.iconst 0, 1) := by decide +kernel
theorem dX0_init_22 : decode cX0_init 22 = .ok (.putfield 18, 3) := by decide +kernel
theorem dX0_init_25 : decode cX0_init 25 = .ok (.return_, 1) := by decide +kernel
set_option maxRecDepth 20000 in
theorem ggX0_collect_X0_cross : GoodIn wsX0_collect wsX0_cross := goodIn_ca (goodIn_r _ [6, 7, 8, 9, 10, 11, 12, 13, 5, 14, 1, 15, 16, 20, 21, 22, 23, 17, 18, 19] (by decide +kernel) (by decide +kernel)) (goodIn_sub (fun _ h => List.mem_cons_of_mem _ (List.mem_append_right _ h)) (by decide +kernel))
set_option maxRecDepth 20000 in
theorem gX0_collect_X0_cross : GoodIn wsX0_collect (wsV RX0 30 RX0 yX0_cross wsX0_cross) := goodIn_app (goodIn_of _ (by decide +kernel)) ggX0_collect_X0_cross
theorem dX0_collect_0 : decode cX0_collect 0 = .ok (.aload_n 0, 1) := by decide +kernel
theorem dX0_collect_1 : decode cX0_collect 1 = .ok (.iconst 0, 1) := by decide +kernel
theorem dX0_collect_2 : decode cX0_collect 2 = .ok (.putfield 18, 3) := by decide +kernel
theorem dX0_collect_5 : decode cX0_collect 5 = .ok (.iconst 0, 1) := by decide +kernel
theorem dX0_collect_6 : decode cX0_collect 6 = .ok (.istore_n 3, 1) := by decide +kernel
theorem dX0_collect_7 : decode cX0_collect 7 = .ok (.iconst 0, 1) := by decide +kernel
theorem dX0_collect_8 : decode cX0_collect 8 = .ok (.istore 4, 2) := by decide +kernel
theorem dX0_collect_10 : decode cX0_collect 10 = .ok (.iload 4, 2) := by decide +kernel
theorem dX0_collect_12 : decode cX0_collect 12 = .ok (.aload_n 1, 1) := by decide +kernel
theorem dX0_collect_13 : decode cX0_collect 13 = .ok (.getfield 22, 3) := by decide +kernel
theorem dX0_collect_16 : decode cX0_collect 16 = .ok (.if_icmp .ge 109, 3) := by decide +kernel
theorem dX0_collect_19 : decode cX0_collect 19 = .ok (.aload_n 1, 1) := by decide +kernel
theorem dX0_collect_20 : decode cX0_collect 20 = .ok (.getfield 23, 3) := by decide +kernel
theorem dX0_collect_23 : decode cX0_collect 23 = .ok (.iload 4, 2) := by decide +kernel
theorem dX0_collect_25 : decode cX0_collect 25 = .ok (.baload, 1) := by decide +kernel
theorem dX0_collect_26 : decode cX0_collect 26 = .ok (.ifCond .eq 6, 3) := by decide +kernel
theorem dX0_collect_29 : decode cX0_collect 29 = .ok (.iload 4, 2) := by decide +kernel
theorem dX0_collect_31 : decode cX0_collect 31 = .ok (.istore_n 3, 1) := by decide +kernel
theorem dX0_collect_32 : decode cX0_collect 32 = .ok (.iload 4, 2) := by decide +kernel
theorem dX0_collect_34 : decode cX0_collect 34 = .ok (.iconst 1, 1) := by decide +kernel
theorem dX0_collect_35 : decode cX0_collect 35 = .ok (.iadd, 1) := by decide +kernel
theorem dX0_collect_36 : decode cX0_collect 36 = .ok (.aload_n 1, 1) := by decide +kernel
theorem dX0_collect_37 : decode cX0_collect 37 = .ok (.getfield 22, 3) := by decide +kernel
theorem dX0_collect_40 : decode cX0_collect 40 = .ok (.if_icmp .eq 15, 3) := by decide +kernel
theorem dX0_collect_43 : decode cX0_collect 43 = .ok (.aload_n 1, 1) := by decide +kernel
theorem dX0_collect_44 : decode cX0_collect 44 = .ok (.getfield 23, 3) := by decide +kernel
theorem dX0_collect_47 : decode cX0_collect 47 = .ok (.iload 4, 2) := by decide +kernel
theorem dX0_collect_49 : decode cX0_collect 49 = .ok (.iconst 1, 1) := by decide +kernel
theorem dX0_collect_50 : decode cX0_collect 50 = .ok (.iadd, 1) := by decide +kernel
theorem dX0_collect_51 : decode cX0_collect 51 = .ok (.baload, 1) := by decide +kernel
theorem dX0_collect_52 : decode cX0_collect 52 = .ok (.ifCond .eq 7, 3) := by decide +kernel
theorem dX0_collect_55 : decode cX0_collect 55 = .ok (.iconst 1, 1) := by decide +kernel
theorem dX0_collect_56 : decode cX0_collect 56 = .ok (.goto 4, 3) := by decide +kernel
theorem dX0_collect_59 : decode cX0_collect 59 = .ok (.iconst 0, 1) := by decide +kernel
theorem dX0_collect_60 : decode cX0_collect 60 = .ok (.istore 5, 2) := by decide +kernel
theorem dX0_collect_62 : decode cX0_collect 62 = .ok (.iload 5, 2) := by decide +kernel
theorem dX0_collect_64 : decode cX0_collect 64 = .ok (.ifCond .eq 7, 3) := by decide +kernel
theorem dX0_collect_67 : decode cX0_collect 67 = .ok (.iload_n 3, 1) := by decide +kernel
theorem dX0_collect_68 : decode cX0_collect 68 = .ok (.goto 7, 3) := by decide +kernel
theorem dX0_collect_71 : decode cX0_collect 71 = .ok (.iload 4, 2) := by decide +kernel
theorem dX0_collect_73 : decode cX0_collect 73 = .ok (.iconst 1, 1) := by decide +kernel
theorem dX0_collect_74 : decode cX0_collect 74 = .ok (.iadd, 1) := by decide +kernel
theorem dX0_collect_75 : decode cX0_collect 75 = .ok (.istore 6, 2) := by decide +kernel
theorem dX0_collect_77 : decode cX0_collect 77 = .ok (.aload_n 1, 1) := by decide +kernel
theorem dX0_collect_78 : decode cX0_collect 78 = .ok (.getfield 27, 3) := by decide +kernel
theorem dX0_collect_81 : decode cX0_collect 81 = .ok (.iload 4, 2) := by decide +kernel
theorem dX0_collect_83 : decode cX0_collect 83 = .ok (.iaload, 1) := by decide +kernel
theorem dX0_collect_84 : decode cX0_collect 84 = .ok (.aload_n 1, 1) := by decide +kernel
theorem dX0_collect_85 : decode cX0_collect 85 = .ok (.getfield 27, 3) := by decide +kernel
theorem dX0_collect_88 : decode cX0_collect 88 = .ok (.iload 6, 2) := by decide +kernel
theorem dX0_collect_90 : decode cX0_collect 90 = .ok (.iaload, 1) := by decide +kernel
theorem dX0_collect_91 : decode cX0_collect 91 = .ok (.if_icmp .gt 17, 3) := by decide +kernel
theorem dX0_collect_94 : decode cX0_collect 94 = .ok (.aload_n 0, 1) := by decide +kernel
theorem dX0_collect_95 : decode cX0_collect 95 = .ok (.aload_n 1, 1) := by decide +kernel
theorem dX0_collect_96 : decode cX0_collect 96 = .ok (.iload 4, 2) := by decide +kernel
theorem dX0_collect_98 : decode cX0_collect 98 = .ok (.iload 6, 2) := by decide +kernel
theorem dX0_collect_100 : decode cX0_collect 100 = .ok (.iload_n 2, 1) := by decide +kernel
theorem dX0_collect_101 : decode cX0_collect 101 = .ok (.iconst 1, 1) := by decide +kernel
theorem dX0_collect_102 : decode cX0_collect 102 = .ok (.invokevirtual 30, 3) := by decide +kernel
theorem dX0_collect_105 : decode cX0_collect 105 = .ok (.goto 14, 3) := by decide +kernel
theorem dX0_collect_108 : decode cX0_collect 108 = .ok (.aload_n 0, 1) := by decide +kernel
theorem dX0_collect_109 : decode cX0_collect 109 = .ok (.aload_n 1, 1) := by decide +kernel
theorem dX0_collect_110 : decode cX0_collect 110 = .ok (.iload 6, 2) := by decide +kernel
theorem dX0_collect_112 : decode cX0_collect 112 = .ok (.iload 4, 2) := by decide +kernel
theorem dX0_collect_114 : decode cX0_collect 114 = .ok (.iload_n 2, 1) := by decide +kernel
theorem dX0_collect_115 : decode cX0_collect 115 = .ok (.iconst (-1), 1) := by decide +kernel
theorem dX0_collect_116 : decode cX0_collect 116 = .ok (.invokevirtual 30, 3) := by decide +kernel
theorem dX0_collect_119 : decode cX0_collect 119 = .ok (.iinc 4 1, 3) := by decide +kernel
theorem dX0_collect_122 : decode cX0_collect 122 = .ok (.goto (-112), 3) := by decide +kernel
theorem dX0_collect_125 : decode cX0_collect 125 = .ok (.return_, 1) := by decide +kernel
set_option maxRecDepth 20000 in
theorem ggX0_cross_J9_floorDiv_f86c9 : GoodIn wsX0_cross wsJ9_floorDiv_f86c9 := goodIn_r _ [4] (by decide +kernel) (by decide +kernel)
set_option maxRecDepth 20000 in
theorem gX0_cross_J9_floorDiv_f86c9 : GoodIn wsX0_cross (va_wsS RX0 35 yJ9_floorDiv_f86c9 wsJ9_floorDiv_f86c9) := goodIn_app (goodIn_of _ (by decide +kernel)) ggX0_cross_J9_floorDiv_f86c9
set_option maxRecDepth 20000 in
theorem ggX0_cross_X0_insert : GoodIn wsX0_cross wsX0_insert := goodIn_ca (goodIn_r _ [9, 10, 11, 12, 17, 18, 19] (by decide +kernel) (by decide +kernel)) (goodIn_sub (fun _ h => List.mem_cons_of_mem _ (List.mem_append_right _ h)) (by decide +kernel))
set_option maxRecDepth 20000 in
theorem gX0_cross_X0_insert : GoodIn wsX0_cross (wsV RX0 41 RX0 yX0_insert wsX0_insert) := goodIn_app (goodIn_of _ (by decide +kernel)) ggX0_cross_X0_insert
theorem dX0_cross_0 : decode cX0_cross 0 = .ok (.aload_n 1, 1) := by decide +kernel
theorem dX0_cross_1 : decode cX0_cross 1 = .ok (.getfield 27, 3) := by decide +kernel
theorem dX0_cross_4 : decode cX0_cross 4 = .ok (.iload_n 2, 1) := by decide +kernel
theorem dX0_cross_5 : decode cX0_cross 5 = .ok (.iaload, 1) := by decide +kernel
theorem dX0_cross_6 : decode cX0_cross 6 = .ok (.istore 6, 2) := by decide +kernel
theorem dX0_cross_8 : decode cX0_cross 8 = .ok (.aload_n 1, 1) := by decide +kernel
theorem dX0_cross_9 : decode cX0_cross 9 = .ok (.getfield 27, 3) := by decide +kernel
theorem dX0_cross_12 : decode cX0_cross 12 = .ok (.iload_n 3, 1) := by decide +kernel
theorem dX0_cross_13 : decode cX0_cross 13 = .ok (.iaload, 1) := by decide +kernel
theorem dX0_cross_14 : decode cX0_cross 14 = .ok (.istore 7, 2) := by decide +kernel
theorem dX0_cross_16 : decode cX0_cross 16 = .ok (.iload 6, 2) := by decide +kernel
theorem dX0_cross_18 : decode cX0_cross 18 = .ok (.iload 4, 2) := by decide +kernel
theorem dX0_cross_20 : decode cX0_cross 20 = .ok (.if_icmp .gt 58, 3) := by decide +kernel
theorem dX0_cross_23 : decode cX0_cross 23 = .ok (.iload 4, 2) := by decide +kernel
theorem dX0_cross_25 : decode cX0_cross 25 = .ok (.iload 7, 2) := by decide +kernel
theorem dX0_cross_27 : decode cX0_cross 27 = .ok (.if_icmp .ge 51, 3) := by decide +kernel
theorem dX0_cross_30 : decode cX0_cross 30 = .ok (.iload 4, 2) := by decide +kernel
theorem dX0_cross_32 : decode cX0_cross 32 = .ok (.iload 6, 2) := by decide +kernel
theorem dX0_cross_34 : decode cX0_cross 34 = .ok (.isub, 1) := by decide +kernel
theorem dX0_cross_35 : decode cX0_cross 35 = .ok (.i2l, 1) := by decide +kernel
theorem dX0_cross_36 : decode cX0_cross 36 = .ok (.aload_n 1, 1) := by decide +kernel
theorem dX0_cross_37 : decode cX0_cross 37 = .ok (.getfield 34, 3) := by decide +kernel
theorem dX0_cross_40 : decode cX0_cross 40 = .ok (.iload_n 3, 1) := by decide +kernel
theorem dX0_cross_41 : decode cX0_cross 41 = .ok (.iaload, 1) := by decide +kernel
theorem dX0_cross_42 : decode cX0_cross 42 = .ok (.aload_n 1, 1) := by decide +kernel
theorem dX0_cross_43 : decode cX0_cross 43 = .ok (.getfield 34, 3) := by decide +kernel
theorem dX0_cross_46 : decode cX0_cross 46 = .ok (.iload_n 2, 1) := by decide +kernel
theorem dX0_cross_47 : decode cX0_cross 47 = .ok (.iaload, 1) := by decide +kernel
theorem dX0_cross_48 : decode cX0_cross 48 = .ok (.isub, 1) := by decide +kernel
theorem dX0_cross_49 : decode cX0_cross 49 = .ok (.i2l, 1) := by decide +kernel
theorem dX0_cross_50 : decode cX0_cross 50 = .ok (.lmul, 1) := by decide +kernel
theorem dX0_cross_51 : decode cX0_cross 51 = .ok (.lstore 8, 2) := by decide +kernel
theorem dX0_cross_53 : decode cX0_cross 53 = .ok (.aload_n 0, 1) := by decide +kernel
theorem dX0_cross_54 : decode cX0_cross 54 = .ok (.aload_n 1, 1) := by decide +kernel
theorem dX0_cross_55 : decode cX0_cross 55 = .ok (.getfield 34, 3) := by decide +kernel
theorem dX0_cross_58 : decode cX0_cross 58 = .ok (.iload_n 2, 1) := by decide +kernel
theorem dX0_cross_59 : decode cX0_cross 59 = .ok (.iaload, 1) := by decide +kernel
theorem dX0_cross_60 : decode cX0_cross 60 = .ok (.lload 8, 2) := by decide +kernel
theorem dX0_cross_62 : decode cX0_cross 62 = .ok (.iload 7, 2) := by decide +kernel
theorem dX0_cross_64 : decode cX0_cross 64 = .ok (.iload 6, 2) := by decide +kernel
theorem dX0_cross_66 : decode cX0_cross 66 = .ok (.isub, 1) := by decide +kernel
theorem dX0_cross_67 : decode cX0_cross 67 = .ok (.i2l, 1) := by decide +kernel
theorem dX0_cross_68 : decode cX0_cross 68 = .ok (.invokestatic 35, 3) := by decide +kernel
theorem dX0_cross_71 : decode cX0_cross 71 = .ok (.l2i, 1) := by decide +kernel
theorem dX0_cross_72 : decode cX0_cross 72 = .ok (.iadd, 1) := by decide +kernel
theorem dX0_cross_73 : decode cX0_cross 73 = .ok (.iload 5, 2) := by decide +kernel
theorem dX0_cross_75 : decode cX0_cross 75 = .ok (.invokevirtual 41, 3) := by decide +kernel
theorem dX0_cross_78 : decode cX0_cross 78 = .ok (.return_, 1) := by decide +kernel
theorem dX0_insert_0 : decode cX0_insert 0 = .ok (.aload_n 0, 1) := by decide +kernel
theorem dX0_insert_1 : decode cX0_insert 1 = .ok (.getfield 18, 3) := by decide +kernel
theorem dX0_insert_4 : decode cX0_insert 4 = .ok (.bipush 100, 2) := by decide +kernel
theorem dX0_insert_6 : decode cX0_insert 6 = .ok (.if_icmp .lt 4, 3) := by decide +kernel
theorem dX0_insert_9 : decode cX0_insert 9 = .ok (.return_, 1) := by decide +kernel
theorem dX0_insert_10 : decode cX0_insert 10 = .ok (.aload_n 0, 1) := by decide +kernel
theorem dX0_insert_11 : decode cX0_insert 11 = .ok (.getfield 18, 3) := by decide +kernel
theorem dX0_insert_14 : decode cX0_insert 14 = .ok (.istore_n 3, 1) := by decide +kernel
theorem dX0_insert_15 : decode cX0_insert 15 = .ok (.iload_n 3, 1) := by decide +kernel
theorem dX0_insert_16 : decode cX0_insert 16 = .ok (.ifCond .le 49, 3) := by decide +kernel
theorem dX0_insert_19 : decode cX0_insert 19 = .ok (.aload_n 0, 1) := by decide +kernel
theorem dX0_insert_20 : decode cX0_insert 20 = .ok (.getfield 9, 3) := by decide +kernel
theorem dX0_insert_23 : decode cX0_insert 23 = .ok (.iload_n 3, 1) := by decide +kernel
theorem dX0_insert_24 : decode cX0_insert 24 = .ok (.iconst 1, 1) := by decide +kernel
theorem dX0_insert_25 : decode cX0_insert 25 = .ok (.isub, 1) := by decide +kernel
theorem dX0_insert_26 : decode cX0_insert 26 = .ok (.iaload, 1) := by decide +kernel
theorem dX0_insert_27 : decode cX0_insert 27 = .ok (.iload_n 1, 1) := by decide +kernel
theorem dX0_insert_28 : decode cX0_insert 28 = .ok (.if_icmp .le 37, 3) := by decide +kernel
theorem dX0_insert_31 : decode cX0_insert 31 = .ok (.aload_n 0, 1) := by decide +kernel
theorem dX0_insert_32 : decode cX0_insert 32 = .ok (.getfield 9, 3) := by decide +kernel
theorem dX0_insert_35 : decode cX0_insert 35 = .ok (.iload_n 3, 1) := by decide +kernel
theorem dX0_insert_36 : decode cX0_insert 36 = .ok (.aload_n 0, 1) := by decide +kernel
theorem dX0_insert_37 : decode cX0_insert 37 = .ok (.getfield 9, 3) := by decide +kernel
theorem dX0_insert_40 : decode cX0_insert 40 = .ok (.iload_n 3, 1) := by decide +kernel
theorem dX0_insert_41 : decode cX0_insert 41 = .ok (.iconst 1, 1) := by decide +kernel
theorem dX0_insert_42 : decode cX0_insert 42 = .ok (.isub, 1) := by decide +kernel
theorem dX0_insert_43 : decode cX0_insert 43 = .ok (.iaload, 1) := by decide +kernel
theorem dX0_insert_44 : decode cX0_insert 44 = .ok (.iastore, 1) := by decide +kernel
theorem dX0_insert_45 : decode cX0_insert 45 = .ok (.aload_n 0, 1) := by decide +kernel
theorem dX0_insert_46 : decode cX0_insert 46 = .ok (.getfield 15, 3) := by decide +kernel
theorem dX0_insert_49 : decode cX0_insert 49 = .ok (.iload_n 3, 1) := by decide +kernel
theorem dX0_insert_50 : decode cX0_insert 50 = .ok (.aload_n 0, 1) := by decide +kernel
theorem dX0_insert_51 : decode cX0_insert 51 = .ok (.getfield 15, 3) := by decide +kernel
theorem dX0_insert_54 : decode cX0_insert 54 = .ok (.iload_n 3, 1) := by decide +kernel
theorem dX0_insert_55 : decode cX0_insert 55 = .ok (.iconst 1, 1) := by decide +kernel
theorem dX0_insert_56 : decode cX0_insert 56 = .ok (.isub, 1) := by decide +kernel
theorem dX0_insert_57 : decode cX0_insert 57 = .ok (.iaload, 1) := by decide +kernel
theorem dX0_insert_58 : decode cX0_insert 58 = .ok (.iastore, 1) := by decide +kernel
theorem dX0_insert_59 : decode cX0_insert 59 = .ok (.iinc 3 (-1), 3) := by decide +kernel
theorem dX0_insert_62 : decode cX0_insert 62 = .ok (.goto (-47), 3) := by decide +kernel
theorem dX0_insert_65 : decode cX0_insert 65 = .ok (.aload_n 0, 1) := by decide +kernel
theorem dX0_insert_66 : decode cX0_insert 66 = .ok (.getfield 9, 3) := by decide +kernel
theorem dX0_insert_69 : decode cX0_insert 69 = .ok (.iload_n 3, 1) := by decide +kernel
theorem dX0_insert_70 : decode cX0_insert 70 = .ok (.iload_n 1, 1) := by decide +kernel
theorem dX0_insert_71 : decode cX0_insert 71 = .ok (.iastore, 1) := by decide +kernel
theorem dX0_insert_72 : decode cX0_insert 72 = .ok (.aload_n 0, 1) := by decide +kernel
theorem dX0_insert_73 : decode cX0_insert 73 = .ok (.getfield 15, 3) := by decide +kernel
theorem dX0_insert_76 : decode cX0_insert 76 = .ok (.iload_n 3, 1) := by decide +kernel
theorem dX0_insert_77 : decode cX0_insert 77 = .ok (.iload_n 2, 1) := by decide +kernel
theorem dX0_insert_78 : decode cX0_insert 78 = .ok (.iastore, 1) := by decide +kernel
theorem dX0_insert_79 : decode cX0_insert 79 = .ok (.aload_n 0, 1) := by decide +kernel
theorem dX0_insert_80 : decode cX0_insert 80 = .ok (.dup, 1) := by decide +kernel
theorem dX0_insert_81 : decode cX0_insert 81 = .ok (.getfield 18, 3) := by decide +kernel
theorem dX0_insert_84 : decode cX0_insert 84 = .ok (.iconst 1, 1) := by decide +kernel
theorem dX0_insert_85 : decode cX0_insert 85 = .ok (.iadd, 1) := by decide +kernel
theorem dX0_insert_86 : decode cX0_insert 86 = .ok (.putfield 18, 3) := by decide +kernel
theorem dX0_insert_89 : decode cX0_insert 89 = .ok (.return_, 1) := by decide +kernel
theorem dX1_init_0 : decode cX1_init 0 = .ok (.aload_n 0, 1) := by decide +kernel
theorem dX1_init_1 : decode cX1_init 1 = .ok (.invokespecial 1, 3) := by decide +kernel
theorem dX1_init_4 : decode cX1_init 4 = .ok (.aload_n 0, 1) := by decide +kernel
theorem dX1_init_5 : decode cX1_init 5 = .ok (.iconst 0, 1) := by decide +kernel
theorem dX1_init_6 : decode cX1_init 6 = .ok (.putfield 7, 3) := by decide +kernel
theorem dX1_init_9 : decode cX1_init 9 = .ok (.aload_n 0, 1) := by decide +kernel
theorem dX1_init_10 : decode cX1_init 10 = .ok (.iconst 2, 1) := by decide +kernel
theorem dX1_init_11 : decode cX1_init 11 = .ok (.iload_n 1, 1) := by decide +kernel
theorem dX1_init_12 : decode cX1_init 12 = .ok (.imul, 1) := by decide +kernel
theorem dX1_init_13 : decode cX1_init 13 = .ok (.newarray .byte, 2) := by decide +kernel
theorem dX1_init_15 : decode cX1_init 15 = .ok (.putfield 13, 3) := by decide +kernel
theorem dX1_init_18 : decode cX1_init 18 = .ok (.return_, 1) := by decide +kernel
set_option maxRecDepth 20000 in
theorem ggX1_pack_X1_put : GoodIn wsX1_pack wsX1_put := goodIn_ca (goodIn_r _ [7, 1, 2, 8, 9] (by decide +kernel) (by decide +kernel)) (goodIn_sub (fun _ h => List.mem_cons_of_mem _ (List.mem_append_right _ h)) (by decide +kernel))
set_option maxRecDepth 20000 in
theorem gX1_pack_X1_put : GoodIn wsX1_pack (wsV RX1 17 RX1 yX1_put wsX1_put) := goodIn_app (goodIn_of _ (by decide +kernel)) ggX1_pack_X1_put
theorem dX1_pack_0 : decode cX1_pack 0 = .ok (.aload_n 0, 1) := by decide +kernel
theorem dX1_pack_1 : decode cX1_pack 1 = .ok (.iconst 0, 1) := by decide +kernel
theorem dX1_pack_2 : decode cX1_pack 2 = .ok (.putfield 7, 3) := by decide +kernel
theorem dX1_pack_5 : decode cX1_pack 5 = .ok (.iconst 0, 1) := by decide +kernel
theorem dX1_pack_6 : decode cX1_pack 6 = .ok (.istore 4, 2) := by decide +kernel
theorem dX1_pack_8 : decode cX1_pack 8 = .ok (.iconst 0, 1) := by decide +kernel
theorem dX1_pack_9 : decode cX1_pack 9 = .ok (.istore 5, 2) := by decide +kernel
theorem dX1_pack_11 : decode cX1_pack 11 = .ok (.iload_n 2, 1) := by decide +kernel
theorem dX1_pack_12 : decode cX1_pack 12 = .ok (.istore 6, 2) := by decide +kernel
theorem dX1_pack_14 : decode cX1_pack 14 = .ok (.iload 6, 2) := by decide +kernel
theorem dX1_pack_16 : decode cX1_pack 16 = .ok (.iload_n 3, 1) := by decide +kernel
theorem dX1_pack_17 : decode cX1_pack 17 = .ok (.if_icmp .ge 129, 3) := by decide +kernel
theorem dX1_pack_20 : decode cX1_pack 20 = .ok (.iload 6, 2) := by decide +kernel
theorem dX1_pack_22 : decode cX1_pack 22 = .ok (.iload_n 2, 1) := by decide +kernel
theorem dX1_pack_23 : decode cX1_pack 23 = .ok (.if_icmp .le 31, 3) := by decide +kernel
theorem dX1_pack_26 : decode cX1_pack 26 = .ok (.aload_n 1, 1) := by decide +kernel
theorem dX1_pack_27 : decode cX1_pack 27 = .ok (.iload 6, 2) := by decide +kernel
theorem dX1_pack_29 : decode cX1_pack 29 = .ok (.iaload, 1) := by decide +kernel
theorem dX1_pack_30 : decode cX1_pack 30 = .ok (.aload_n 1, 1) := by decide +kernel
theorem dX1_pack_31 : decode cX1_pack 31 = .ok (.iload 6, 2) := by decide +kernel
theorem dX1_pack_33 : decode cX1_pack 33 = .ok (.iconst 1, 1) := by decide +kernel
theorem dX1_pack_34 : decode cX1_pack 34 = .ok (.isub, 1) := by decide +kernel
theorem dX1_pack_35 : decode cX1_pack 35 = .ok (.iaload, 1) := by decide +kernel
theorem dX1_pack_36 : decode cX1_pack 36 = .ok (.if_icmp .ne 18, 3) := by decide +kernel
theorem dX1_pack_39 : decode cX1_pack 39 = .ok (.aload_n 0, 1) := by decide +kernel
theorem dX1_pack_40 : decode cX1_pack 40 = .ok (.getfield 13, 3) := by decide +kernel
theorem dX1_pack_43 : decode cX1_pack 43 = .ok (.iload 4, 2) := by decide +kernel
theorem dX1_pack_45 : decode cX1_pack 45 = .ok (.dup2, 1) := by decide +kernel
theorem dX1_pack_46 : decode cX1_pack 46 = .ok (.baload, 1) := by decide +kernel
theorem dX1_pack_47 : decode cX1_pack 47 = .ok (.iconst 1, 1) := by decide +kernel
theorem dX1_pack_48 : decode cX1_pack 48 = .ok (.isub, 1) := by decide +kernel
theorem dX1_pack_49 : decode cX1_pack 49 = .ok (.i2b, 1) := by decide +kernel
theorem dX1_pack_50 : decode cX1_pack 50 = .ok (.bastore, 1) := by decide +kernel
theorem dX1_pack_51 : decode cX1_pack 51 = .ok (.goto 89, 3) := by decide +kernel
theorem dX1_pack_54 : decode cX1_pack 54 = .ok (.iload 6, 2) := by decide +kernel
theorem dX1_pack_56 : decode cX1_pack 56 = .ok (.iconst 1, 1) := by decide +kernel
theorem dX1_pack_57 : decode cX1_pack 57 = .ok (.iadd, 1) := by decide +kernel
theorem dX1_pack_58 : decode cX1_pack 58 = .ok (.iload_n 3, 1) := by decide +kernel
theorem dX1_pack_59 : decode cX1_pack 59 = .ok (.if_icmp .ge 42, 3) := by decide +kernel
theorem dX1_pack_62 : decode cX1_pack 62 = .ok (.aload_n 1, 1) := by decide +kernel
theorem dX1_pack_63 : decode cX1_pack 63 = .ok (.iload 6, 2) := by decide +kernel
theorem dX1_pack_65 : decode cX1_pack 65 = .ok (.iaload, 1) := by decide +kernel
theorem dX1_pack_66 : decode cX1_pack 66 = .ok (.aload_n 1, 1) := by decide +kernel
theorem dX1_pack_67 : decode cX1_pack 67 = .ok (.iload 6, 2) := by decide +kernel
theorem dX1_pack_69 : decode cX1_pack 69 = .ok (.iconst 1, 1) := by decide +kernel
theorem dX1_pack_70 : decode cX1_pack 70 = .ok (.iadd, 1) := by decide +kernel
theorem dX1_pack_71 : decode cX1_pack 71 = .ok (.iaload, 1) := by decide +kernel
theorem dX1_pack_72 : decode cX1_pack 72 = .ok (.if_icmp .ne 29, 3) := by decide +kernel
theorem dX1_pack_75 : decode cX1_pack 75 = .ok (.aload_n 0, 1) := by decide +kernel
theorem dX1_pack_76 : decode cX1_pack 76 = .ok (.getfield 7, 3) := by decide +kernel
theorem dX1_pack_79 : decode cX1_pack 79 = .ok (.istore 4, 2) := by decide +kernel
theorem dX1_pack_81 : decode cX1_pack 81 = .ok (.aload_n 0, 1) := by decide +kernel
theorem dX1_pack_82 : decode cX1_pack 82 = .ok (.bipush 127, 2) := by decide +kernel
theorem dX1_pack_84 : decode cX1_pack 84 = .ok (.invokevirtual 17, 3) := by decide +kernel
theorem dX1_pack_87 : decode cX1_pack 87 = .ok (.aload_n 0, 1) := by decide +kernel
theorem dX1_pack_88 : decode cX1_pack 88 = .ok (.aload_n 1, 1) := by decide +kernel
theorem dX1_pack_89 : decode cX1_pack 89 = .ok (.iload 6, 2) := by decide +kernel
theorem dX1_pack_91 : decode cX1_pack 91 = .ok (.iaload, 1) := by decide +kernel
theorem dX1_pack_92 : decode cX1_pack 92 = .ok (.invokevirtual 17, 3) := by decide +kernel
theorem dX1_pack_95 : decode cX1_pack 95 = .ok (.iconst 0, 1) := by decide +kernel
theorem dX1_pack_96 : decode cX1_pack 96 = .ok (.istore 5, 2) := by decide +kernel
theorem dX1_pack_98 : decode cX1_pack 98 = .ok (.goto 42, 3) := by decide +kernel
theorem dX1_pack_101 : decode cX1_pack 101 = .ok (.iload 5, 2) := by decide +kernel
theorem dX1_pack_103 : decode cX1_pack 103 = .ok (.ifCond .ne 14, 3) := by decide +kernel
theorem dX1_pack_106 : decode cX1_pack 106 = .ok (.aload_n 0, 1) := by decide +kernel
theorem dX1_pack_107 : decode cX1_pack 107 = .ok (.getfield 7, 3) := by decide +kernel
theorem dX1_pack_110 : decode cX1_pack 110 = .ok (.istore 4, 2) := by decide +kernel
theorem dX1_pack_112 : decode cX1_pack 112 = .ok (.aload_n 0, 1) := by decide +kernel
theorem dX1_pack_113 : decode cX1_pack 113 = .ok (.iconst 0, 1) := by decide +kernel
theorem dX1_pack_114 : decode cX1_pack 114 = .ok (.invokevirtual 17, 3) := by decide +kernel
theorem dX1_pack_117 : decode cX1_pack 117 = .ok (.aload_n 0, 1) := by decide +kernel
theorem dX1_pack_118 : decode cX1_pack 118 = .ok (.getfield 13, 3) := by decide +kernel
theorem dX1_pack_121 : decode cX1_pack 121 = .ok (.iload 4, 2) := by decide +kernel
theorem dX1_pack_123 : decode cX1_pack 123 = .ok (.dup2, 1) := by decide +kernel
theorem dX1_pack_124 : decode cX1_pack 124 = .ok (.baload, 1) := by decide +kernel
theorem dX1_pack_125 : decode cX1_pack 125 = .ok (.iconst 1, 1) := by decide +kernel
theorem dX1_pack_126 : decode cX1_pack 126 = .ok (.iadd, 1) := by decide +kernel
theorem dX1_pack_127 : decode cX1_pack 127 = .ok (.i2b, 1) := by decide +kernel
theorem dX1_pack_128 : decode cX1_pack 128 = .ok (.bastore, 1) := by decide +kernel
theorem dX1_pack_129 : decode cX1_pack 129 = .ok (.aload_n 0, 1) := by decide +kernel
theorem dX1_pack_130 : decode cX1_pack 130 = .ok (.aload_n 1, 1) := by decide +kernel
theorem dX1_pack_131 : decode cX1_pack 131 = .ok (.iload 6, 2) := by decide +kernel
theorem dX1_pack_133 : decode cX1_pack 133 = .ok (.iaload, 1) := by decide +kernel
theorem dX1_pack_134 : decode cX1_pack 134 = .ok (.invokevirtual 17, 3) := by decide +kernel
theorem dX1_pack_137 : decode cX1_pack 137 = .ok (.iconst 1, 1) := by decide +kernel
theorem dX1_pack_138 : decode cX1_pack 138 = .ok (.istore 5, 2) := by decide +kernel
theorem dX1_pack_140 : decode cX1_pack 140 = .ok (.iinc 6 1, 3) := by decide +kernel
theorem dX1_pack_143 : decode cX1_pack 143 = .ok (.goto (-129), 3) := by decide +kernel
theorem dX1_pack_146 : decode cX1_pack 146 = .ok (.return_, 1) := by decide +kernel
theorem dX1_put_0 : decode cX1_put 0 = .ok (.aload_n 0, 1) := by decide +kernel
theorem dX1_put_1 : decode cX1_put 1 = .ok (.getfield 7, 3) := by decide +kernel
theorem dX1_put_4 : decode cX1_put 4 = .ok (.aload_n 0, 1) := by decide +kernel
theorem dX1_put_5 : decode cX1_put 5 = .ok (.getfield 13, 3) := by decide +kernel
theorem dX1_put_8 : decode cX1_put 8 = .ok (.arraylength, 1) := by decide +kernel
theorem dX1_put_9 : decode cX1_put 9 = .ok (.if_icmp .ge 24, 3) := by decide +kernel
theorem dX1_put_12 : decode cX1_put 12 = .ok (.aload_n 0, 1) := by decide +kernel
theorem dX1_put_13 : decode cX1_put 13 = .ok (.getfield 13, 3) := by decide +kernel
theorem dX1_put_16 : decode cX1_put 16 = .ok (.aload_n 0, 1) := by decide +kernel
theorem dX1_put_17 : decode cX1_put 17 = .ok (.getfield 7, 3) := by decide +kernel
theorem dX1_put_20 : decode cX1_put 20 = .ok (.iload_n 1, 1) := by decide +kernel
theorem dX1_put_21 : decode cX1_put 21 = .ok (.i2b, 1) := by decide +kernel
theorem dX1_put_22 : decode cX1_put 22 = .ok (.bastore, 1) := by decide +kernel
theorem dX1_put_23 : decode cX1_put 23 = .ok (.aload_n 0, 1) := by decide +kernel
theorem dX1_put_24 : decode cX1_put 24 = .ok (.dup, 1) := by decide +kernel
theorem dX1_put_25 : decode cX1_put 25 = .ok (.getfield 7, 3) := by decide +kernel
theorem dX1_put_28 : decode cX1_put 28 = .ok (.iconst 1, 1) := by decide +kernel
theorem dX1_put_29 : decode cX1_put 29 = .ok (.iadd, 1) := by decide +kernel
theorem dX1_put_30 : decode cX1_put 30 = .ok (.putfield 7, 3) := by decide +kernel
theorem dX1_put_33 : decode cX1_put 33 = .ok (.return_, 1) := by decide +kernel
theorem dX2_init_0 : decode cX2_init 0 = .ok (.aload_n 0, 1) := by decide +kernel
theorem dX2_init_1 : decode cX2_init 1 = .ok (.invokespecial 1, 3) := by decide +kernel
theorem dX2_init_4 : decode cX2_init 4 = .ok (.aload_n 0, 1) := by decide +kernel
theorem dX2_init_5 : decode cX2_init 5 = .ok (.bipush 100, 2) := by decide +kernel
theorem dX2_init_7 : decode cX2_init 7 = .ok (.newarray .int, 2) := by decide +kernel
theorem dX2_init_9 : decode cX2_init 9 = .ok (.putfield 9, 3) := by decide +kernel
theorem dX2_init_12 : decode cX2_init 12 = .ok (.aload_n 0, 1) := by decide +kernel
theorem dX2_init_13 : decode cX2_init 13 = .ok (.bipush 100, 2) := by decide +kernel
theorem dX2_init_15 : decode cX2_init 15 = .ok (.newarray .int, 2) := by decide +kernel
theorem dX2_init_17 : decode cX2_init 17 = .ok (.putfield 13, 3) := by decide +kernel
theorem dX2_init_20 : decode cX2_init 20 = .ok (.aload_n 0, 1) := by decide +kernel
theorem dX2_init_21 : decode cX2_init 21 = .ok (.bipush 100, 2) := by decide +kernel
theorem dX2_init_23 : decode cX2_init 23 = .ok (.newarray .boolean, 2) := by decide +kernel
theorem dX2_init_25 : decode cX2_init 25 = .ok (.putfield 16, 3) := by decide +kernel
theorem dX2_init_28 : decode cX2_init 28 = .ok (.aload_n 0, 1) := by decide +kernel
theorem dX2_init_29 : decode cX2_init 29 = .ok (.iconst 0, 1) := by decide +kernel
theorem dX2_init_30 : decode cX2_init 30 = .ok (.putfield 20, 3) := by decide +kernel
theorem dX2_init_33 : decode cX2_init 33 = .ok (.return_, 1) := by decide +kernel
set_option maxRecDepth 20000 in
theorem ggX2_begin_X2_add : GoodIn wsX2_begin wsX2_add := goodIn_ca (goodIn_r _ [5, 6, 7, 8, 9, 10, 11, 12, 13] (by decide +kernel) (by decide +kernel)) (goodIn_sub (fun _ h => List.mem_cons_of_mem _ (List.mem_append_right _ h)) (by decide +kernel))
set_option maxRecDepth 20000 in
theorem gX2_begin_X2_add : GoodIn wsX2_begin (wsV RX2 24 RX2 yX2_add wsX2_add) := goodIn_app (goodIn_of _ (by decide +kernel)) ggX2_begin_X2_add
theorem dX2_begin_0 : decode cX2_begin 0 = .ok (.aload_n 0, 1) := by decide +kernel
theorem dX2_begin_1 : decode cX2_begin 1 = .ok (.iload_n 1, 1) := by decide +kernel
theorem dX2_begin_2 : decode cX2_begin 2 = .ok (.iload_n 2, 1) := by decide +kernel
theorem dX2_begin_3 : decode cX2_begin 3 = .ok (.iconst 1, 1) := by decide +kernel
theorem dX2_begin_4 : decode cX2_begin 4 = .ok (.invokevirtual 24, 3) := by decide +kernel
theorem dX2_begin_7 : decode cX2_begin 7 = .ok (.return_, 1) := by decide +kernel
set_option maxRecDepth 20000 in
theorem ggX2_join_X2_add : GoodIn wsX2_join wsX2_add := goodIn_ca (goodIn_r _ [5, 6, 7, 8, 9, 10, 11, 12, 13] (by decide +kernel) (by decide +kernel)) (goodIn_sub (fun _ h => List.mem_cons_of_mem _ (List.mem_append_right _ h)) (by decide +kernel))
set_option maxRecDepth 20000 in
theorem gX2_join_X2_add : GoodIn wsX2_join (wsV RX2 24 RX2 yX2_add wsX2_add) := goodIn_app (goodIn_of _ (by decide +kernel)) ggX2_join_X2_add
theorem dX2_join_0 : decode cX2_join 0 = .ok (.aload_n 0, 1) := by decide +kernel
theorem dX2_join_1 : decode cX2_join 1 = .ok (.iload_n 1, 1) := by decide +kernel
theorem dX2_join_2 : decode cX2_join 2 = .ok (.iload_n 2, 1) := by decide +kernel
theorem dX2_join_3 : decode cX2_join 3 = .ok (.iconst 0, 1) := by decide +kernel
theorem dX2_join_4 : decode cX2_join 4 = .ok (.invokevirtual 24, 3) := by decide +kernel
theorem dX2_join_7 : decode cX2_join 7 = .ok (.return_, 1) := by decide +kernel
theorem dX2_add_0 : decode cX2_add 0 = .ok (.aload_n 0, 1) := by decide +kernel
theorem dX2_add_1 : decode cX2_add 1 = .ok (.getfield 20, 3) := by decide +kernel
theorem dX2_add_4 : decode cX2_add 4 = .ok (.bipush 100, 2) := by decide +kernel
theorem dX2_add_6 : decode cX2_add 6 = .ok (.if_icmp .ge 43, 3) := by decide +kernel
theorem dX2_add_9 : decode cX2_add 9 = .ok (.aload_n 0, 1) := by decide +kernel
theorem dX2_add_10 : decode cX2_add 10 = .ok (.getfield 9, 3) := by decide +kernel
theorem dX2_add_13 : decode cX2_add 13 = .ok (.aload_n 0, 1) := by decide +kernel
theorem dX2_add_14 : decode cX2_add 14 = .ok (.getfield 20, 3) := by decide +kernel
theorem dX2_add_17 : decode cX2_add 17 = .ok (.iload_n 1, 1) := by decide +kernel
theorem dX2_add_18 : decode cX2_add 18 = .ok (.iastore, 1) := by decide +kernel
theorem dX2_add_19 : decode cX2_add 19 = .ok (.aload_n 0, 1) := by decide +kernel
theorem dX2_add_20 : decode cX2_add 20 = .ok (.getfield 13, 3) := by decide +kernel
theorem dX2_add_23 : decode cX2_add 23 = .ok (.aload_n 0, 1) := by decide +kernel
theorem dX2_add_24 : decode cX2_add 24 = .ok (.getfield 20, 3) := by decide +kernel
theorem dX2_add_27 : decode cX2_add 27 = .ok (.iload_n 2, 1) := by decide +kernel
theorem dX2_add_28 : decode cX2_add 28 = .ok (.iastore, 1) := by decide +kernel
theorem dX2_add_29 : decode cX2_add 29 = .ok (.aload_n 0, 1) := by decide +kernel
theorem dX2_add_30 : decode cX2_add 30 = .ok (.getfield 16, 3) := by decide +kernel
theorem dX2_add_33 : decode cX2_add 33 = .ok (.aload_n 0, 1) := by decide +kernel
theorem dX2_add_34 : decode cX2_add 34 = .ok (.getfield 20, 3) := by decide +kernel
theorem dX2_add_37 : decode cX2_add 37 = .ok (.iload_n 3, 1) := by decide +kernel
theorem dX2_add_38 : decode cX2_add 38 = .ok (.bastore, 1) := by decide +kernel
theorem dX2_add_39 : decode cX2_add 39 = .ok (.aload_n 0, 1) := by decide +kernel
theorem dX2_add_40 : decode cX2_add 40 = .ok (.dup, 1) := by decide +kernel
theorem dX2_add_41 : decode cX2_add 41 = .ok (.getfield 20, 3) := by decide +kernel
theorem dX2_add_44 : decode cX2_add 44 = .ok (.iconst 1, 1) := by decide +kernel
theorem dX2_add_45 : decode cX2_add 45 = .ok (.iadd, 1) := by decide +kernel
theorem dX2_add_46 : decode cX2_add 46 = .ok (.putfield 20, 3) := by decide +kernel
theorem dX2_add_49 : decode cX2_add 49 = .ok (.return_, 1) := by decide +kernel
theorem dX2_clear_0 : decode cX2_clear 0 = .ok (.aload_n 0, 1) := by decide +kernel
theorem dX2_clear_1 : decode cX2_clear 1 = .ok (.iconst 0, 1) := by decide +kernel
theorem dX2_clear_2 : decode cX2_clear 2 = .ok (.putfield 20, 3) := by decide +kernel
theorem dX2_clear_5 : decode cX2_clear 5 = .ok (.return_, 1) := by decide +kernel
set_option maxRecDepth 20000 in
theorem ggX3_init_X0_init : GoodIn wsX3_init wsX0_init := goodIn_r _ [11, 12, 2, 3, 8, 13, 14, 15, 16, 17, 18] (by decide +kernel) (by decide +kernel)
set_option maxRecDepth 20000 in
theorem gX3_init_X0_init_n11 : GoodIn wsX3_init (wsX0_init) := ggX3_init_X0_init
theorem dX3_init_0 : decode cX3_init 0 = .ok (.aload_n 0, 1) := by decide +kernel
theorem dX3_init_1 : decode cX3_init 1 = .ok (.invokespecial 3, 3) := by decide +kernel
theorem dX3_init_4 : decode cX3_init 4 = .ok (.aload_n 0, 1) := by decide +kernel
theorem dX3_init_5 : decode cX3_init 5 = .ok (.new 9, 3) := by decide +kernel
theorem dX3_init_8 : decode cX3_init 8 = .ok (.dup, 1) := by decide +kernel
theorem dX3_init_9 : decode cX3_init 9 = .ok (.invokespecial 11, 3) := by decide +kernel
theorem dX3_init_12 : decode cX3_init 12 = .ok (.putfield 12, 3) := by decide +kernel
theorem dX3_init_15 : decode cX3_init 15 = .ok (.aload_n 0, 1) := by decide +kernel
theorem dX3_init_16 : decode cX3_init 16 = .ok (.iload_n 1, 1) := by decide +kernel
theorem dX3_init_17 : decode cX3_init 17 = .ok (.newarray .int, 2) := by decide +kernel
theorem dX3_init_19 : decode cX3_init 19 = .ok (.putfield 18, 3) := by decide +kernel
theorem dX3_init_22 : decode cX3_init 22 = .ok (.return_, 1) := by decide +kernel
theorem dX3_at_0 : decode cX3_at 0 = .ok (.aload_n 0, 1) := by decide +kernel
theorem dX3_at_1 : decode cX3_at 1 = .ok (.getfield 18, 3) := by decide +kernel
theorem dX3_at_4 : decode cX3_at 4 = .ok (.iload_n 1, 1) := by decide +kernel
theorem dX3_at_5 : decode cX3_at 5 = .ok (.iaload, 1) := by decide +kernel
theorem dX3_at_6 : decode cX3_at 6 = .ok (.sipush 255, 3) := by decide +kernel
theorem dX3_at_9 : decode cX3_at 9 = .ok (.imul, 1) := by decide +kernel
theorem dX3_at_10 : decode cX3_at 10 = .ok (.sipush 2048, 3) := by decide +kernel
theorem dX3_at_13 : decode cX3_at 13 = .ok (.iadd, 1) := by decide +kernel
theorem dX3_at_14 : decode cX3_at 14 = .ok (.sipush 4096, 3) := by decide +kernel
theorem dX3_at_17 : decode cX3_at 17 = .ok (.idiv, 1) := by decide +kernel
theorem dX3_at_18 : decode cX3_at 18 = .ok (.ireturn, 1) := by decide +kernel
set_option maxRecDepth 20000 in
theorem ggX3_measure_J7_fill_53178 : GoodIn wsX3_measure wsJ7_fill_53178 := goodIn_r _ [6] (by decide +kernel) (by decide +kernel)
set_option maxRecDepth 20000 in
theorem gX3_measure_J7_fill_53178 : GoodIn wsX3_measure (va_wsS RX3 22 yJ7_fill_53178 wsJ7_fill_53178) := goodIn_app (goodIn_of _ (by decide +kernel)) ggX3_measure_J7_fill_53178
set_option maxRecDepth 20000 in
theorem ggX3_measure_X0_collect : GoodIn wsX3_measure wsX0_collect := goodIn_ca (goodIn_r _ [10, 11, 12, 13, 14, 8, 15, 16, 17, 18, 19, 20, 21, 22, 23, 24, 25, 44, 45, 46, 47, 48, 49, 50] (by decide +kernel) (by decide +kernel)) (goodIn_sub (fun _ h => List.mem_cons_of_mem _ (List.mem_append_right _ h)) (by decide +kernel))
set_option maxRecDepth 20000 in
theorem gX3_measure_X0_collect_n28 : GoodIn wsX3_measure (wsX0_collect) := ggX3_measure_X0_collect
set_option maxRecDepth 20000 in
theorem ggX3_measure_X3_addSubRow : GoodIn wsX3_measure wsX3_addSubRow := goodIn_ca (goodIn_r _ [30, 2, 31, 32, 33, 29, 34, 35, 36, 37, 38, 1, 39, 40, 41, 42, 43, 44, 45, 46] (by decide +kernel) (by decide +kernel)) (goodIn_sub (fun _ h => List.mem_cons_of_mem _ (List.mem_append_right _ h)) (by decide +kernel))
set_option maxRecDepth 20000 in
theorem gX3_measure_X3_addSubRow : GoodIn wsX3_measure (wsV RX3 32 RX3 yX3_addSubRow wsX3_addSubRow) := goodIn_app (goodIn_of _ (by decide +kernel)) ggX3_measure_X3_addSubRow
theorem dX3_measure_0 : decode cX3_measure 0 = .ok (.aload_n 0, 1) := by decide +kernel
theorem dX3_measure_1 : decode cX3_measure 1 = .ok (.getfield 18, 3) := by decide +kernel
theorem dX3_measure_4 : decode cX3_measure 4 = .ok (.iconst 0, 1) := by decide +kernel
theorem dX3_measure_5 : decode cX3_measure 5 = .ok (.invokestatic 22, 3) := by decide +kernel
theorem dX3_measure_8 : decode cX3_measure 8 = .ok (.iconst 0, 1) := by decide +kernel
theorem dX3_measure_9 : decode cX3_measure 9 = .ok (.istore 4, 2) := by decide +kernel
theorem dX3_measure_11 : decode cX3_measure 11 = .ok (.iload 4, 2) := by decide +kernel
theorem dX3_measure_13 : decode cX3_measure 13 = .ok (.bipush 16, 2) := by decide +kernel
theorem dX3_measure_15 : decode cX3_measure 15 = .ok (.if_icmp .ge 35, 3) := by decide +kernel
theorem dX3_measure_18 : decode cX3_measure 18 = .ok (.aload_n 0, 1) := by decide +kernel
theorem dX3_measure_19 : decode cX3_measure 19 = .ok (.getfield 12, 3) := by decide +kernel
theorem dX3_measure_22 : decode cX3_measure 22 = .ok (.aload_n 1, 1) := by decide +kernel
theorem dX3_measure_23 : decode cX3_measure 23 = .ok (.iload_n 2, 1) := by decide +kernel
theorem dX3_measure_24 : decode cX3_measure 24 = .ok (.bipush 16, 2) := by decide +kernel
theorem dX3_measure_26 : decode cX3_measure 26 = .ok (.imul, 1) := by decide +kernel
theorem dX3_measure_27 : decode cX3_measure 27 = .ok (.iload 4, 2) := by decide +kernel
theorem dX3_measure_29 : decode cX3_measure 29 = .ok (.iadd, 1) := by decide +kernel
theorem dX3_measure_30 : decode cX3_measure 30 = .ok (.bipush 16, 2) := by decide +kernel
theorem dX3_measure_32 : decode cX3_measure 32 = .ok (.imul, 1) := by decide +kernel
theorem dX3_measure_33 : decode cX3_measure 33 = .ok (.bipush 8, 2) := by decide +kernel
theorem dX3_measure_35 : decode cX3_measure 35 = .ok (.iadd, 1) := by decide +kernel
theorem dX3_measure_36 : decode cX3_measure 36 = .ok (.invokevirtual 28, 3) := by decide +kernel
theorem dX3_measure_39 : decode cX3_measure 39 = .ok (.aload_n 0, 1) := by decide +kernel
theorem dX3_measure_40 : decode cX3_measure 40 = .ok (.iload_n 3, 1) := by decide +kernel
theorem dX3_measure_41 : decode cX3_measure 41 = .ok (.invokevirtual 32, 3) := by decide +kernel
theorem dX3_measure_44 : decode cX3_measure 44 = .ok (.iinc 4 1, 3) := by decide +kernel
theorem dX3_measure_47 : decode cX3_measure 47 = .ok (.goto (-36), 3) := by decide +kernel
theorem dX3_measure_50 : decode cX3_measure 50 = .ok (.return_, 1) := by decide +kernel
set_option maxRecDepth 20000 in
theorem ggX3_addSubRow_X3_addSpan : GoodIn wsX3_addSubRow wsX3_addSpan := goodIn_ca (goodIn_r _ [6, 7, 8, 9, 10, 11, 12, 13, 14, 15, 16] (by decide +kernel) (by decide +kernel)) (goodIn_sub (fun _ h => List.mem_cons_of_mem _ (List.mem_append_right _ h)) (by decide +kernel))
set_option maxRecDepth 20000 in
theorem gX3_addSubRow_X3_addSpan : GoodIn wsX3_addSubRow (wsV RX3 46 RX3 yX3_addSpan wsX3_addSpan) := goodIn_app (goodIn_of _ (by decide +kernel)) ggX3_addSubRow_X3_addSpan
theorem dX3_addSubRow_0 : decode cX3_addSubRow 0 = .ok (.iconst 0, 1) := by decide +kernel
theorem dX3_addSubRow_1 : decode cX3_addSubRow 1 = .ok (.istore_n 2, 1) := by decide +kernel
theorem dX3_addSubRow_2 : decode cX3_addSubRow 2 = .ok (.iconst 0, 1) := by decide +kernel
theorem dX3_addSubRow_3 : decode cX3_addSubRow 3 = .ok (.istore_n 3, 1) := by decide +kernel
theorem dX3_addSubRow_4 : decode cX3_addSubRow 4 = .ok (.iload_n 3, 1) := by decide +kernel
theorem dX3_addSubRow_5 : decode cX3_addSubRow 5 = .ok (.iconst 1, 1) := by decide +kernel
theorem dX3_addSubRow_6 : decode cX3_addSubRow 6 = .ok (.iadd, 1) := by decide +kernel
theorem dX3_addSubRow_7 : decode cX3_addSubRow 7 = .ok (.aload_n 0, 1) := by decide +kernel
theorem dX3_addSubRow_8 : decode cX3_addSubRow 8 = .ok (.getfield 12, 3) := by decide +kernel
theorem dX3_addSubRow_11 : decode cX3_addSubRow 11 = .ok (.getfield 36, 3) := by decide +kernel
theorem dX3_addSubRow_14 : decode cX3_addSubRow 14 = .ok (.if_icmp .ge 74, 3) := by decide +kernel
theorem dX3_addSubRow_17 : decode cX3_addSubRow 17 = .ok (.iload_n 2, 1) := by decide +kernel
theorem dX3_addSubRow_18 : decode cX3_addSubRow 18 = .ok (.aload_n 0, 1) := by decide +kernel
theorem dX3_addSubRow_19 : decode cX3_addSubRow 19 = .ok (.getfield 12, 3) := by decide +kernel
theorem dX3_addSubRow_22 : decode cX3_addSubRow 22 = .ok (.getfield 40, 3) := by decide +kernel
theorem dX3_addSubRow_25 : decode cX3_addSubRow 25 = .ok (.iload_n 3, 1) := by decide +kernel
theorem dX3_addSubRow_26 : decode cX3_addSubRow 26 = .ok (.iaload, 1) := by decide +kernel
theorem dX3_addSubRow_27 : decode cX3_addSubRow 27 = .ok (.iadd, 1) := by decide +kernel
theorem dX3_addSubRow_28 : decode cX3_addSubRow 28 = .ok (.istore_n 2, 1) := by decide +kernel
theorem dX3_addSubRow_29 : decode cX3_addSubRow 29 = .ok (.iload_n 3, 1) := by decide +kernel
theorem dX3_addSubRow_30 : decode cX3_addSubRow 30 = .ok (.iconst 2, 1) := by decide +kernel
theorem dX3_addSubRow_31 : decode cX3_addSubRow 31 = .ok (.irem, 1) := by decide +kernel
theorem dX3_addSubRow_32 : decode cX3_addSubRow 32 = .ok (.ifCond .ne 7, 3) := by decide +kernel
theorem dX3_addSubRow_35 : decode cX3_addSubRow 35 = .ok (.iconst 1, 1) := by decide +kernel
theorem dX3_addSubRow_36 : decode cX3_addSubRow 36 = .ok (.goto 4, 3) := by decide +kernel
theorem dX3_addSubRow_39 : decode cX3_addSubRow 39 = .ok (.iconst 0, 1) := by decide +kernel
theorem dX3_addSubRow_40 : decode cX3_addSubRow 40 = .ok (.istore 4, 2) := by decide +kernel
theorem dX3_addSubRow_42 : decode cX3_addSubRow 42 = .ok (.iload_n 1, 1) := by decide +kernel
theorem dX3_addSubRow_43 : decode cX3_addSubRow 43 = .ok (.ifCond .ne 10, 3) := by decide +kernel
theorem dX3_addSubRow_46 : decode cX3_addSubRow 46 = .ok (.iload_n 2, 1) := by decide +kernel
theorem dX3_addSubRow_47 : decode cX3_addSubRow 47 = .ok (.ifCond .eq 35, 3) := by decide +kernel
theorem dX3_addSubRow_50 : decode cX3_addSubRow 50 = .ok (.goto 8, 3) := by decide +kernel
theorem dX3_addSubRow_53 : decode cX3_addSubRow 53 = .ok (.iload 4, 2) := by decide +kernel
theorem dX3_addSubRow_55 : decode cX3_addSubRow 55 = .ok (.ifCond .eq 27, 3) := by decide +kernel
theorem dX3_addSubRow_58 : decode cX3_addSubRow 58 = .ok (.aload_n 0, 1) := by decide +kernel
theorem dX3_addSubRow_59 : decode cX3_addSubRow 59 = .ok (.aload_n 0, 1) := by decide +kernel
theorem dX3_addSubRow_60 : decode cX3_addSubRow 60 = .ok (.getfield 12, 3) := by decide +kernel
theorem dX3_addSubRow_63 : decode cX3_addSubRow 63 = .ok (.getfield 43, 3) := by decide +kernel
theorem dX3_addSubRow_66 : decode cX3_addSubRow 66 = .ok (.iload_n 3, 1) := by decide +kernel
theorem dX3_addSubRow_67 : decode cX3_addSubRow 67 = .ok (.iaload, 1) := by decide +kernel
theorem dX3_addSubRow_68 : decode cX3_addSubRow 68 = .ok (.aload_n 0, 1) := by decide +kernel
theorem dX3_addSubRow_69 : decode cX3_addSubRow 69 = .ok (.getfield 12, 3) := by decide +kernel
theorem dX3_addSubRow_72 : decode cX3_addSubRow 72 = .ok (.getfield 43, 3) := by decide +kernel
theorem dX3_addSubRow_75 : decode cX3_addSubRow 75 = .ok (.iload_n 3, 1) := by decide +kernel
theorem dX3_addSubRow_76 : decode cX3_addSubRow 76 = .ok (.iconst 1, 1) := by decide +kernel
theorem dX3_addSubRow_77 : decode cX3_addSubRow 77 = .ok (.iadd, 1) := by decide +kernel
theorem dX3_addSubRow_78 : decode cX3_addSubRow 78 = .ok (.iaload, 1) := by decide +kernel
theorem dX3_addSubRow_79 : decode cX3_addSubRow 79 = .ok (.invokevirtual 46, 3) := by decide +kernel
theorem dX3_addSubRow_82 : decode cX3_addSubRow 82 = .ok (.iinc 3 1, 3) := by decide +kernel
theorem dX3_addSubRow_85 : decode cX3_addSubRow 85 = .ok (.goto (-81), 3) := by decide +kernel
theorem dX3_addSubRow_88 : decode cX3_addSubRow 88 = .ok (.return_, 1) := by decide +kernel
theorem dX3_addSpan_0 : decode cX3_addSpan 0 = .ok (.iconst 0, 1) := by decide +kernel
theorem dX3_addSpan_1 : decode cX3_addSpan 1 = .ok (.iload_n 1, 1) := by decide +kernel
theorem dX3_addSpan_2 : decode cX3_addSpan 2 = .ok (.invokestatic 50, 3) := by decide +kernel
theorem dX3_addSpan_5 : decode cX3_addSpan 5 = .ok (.istore_n 3, 1) := by decide +kernel
theorem dX3_addSpan_6 : decode cX3_addSpan 6 = .ok (.aload_n 0, 1) := by decide +kernel
theorem dX3_addSpan_7 : decode cX3_addSpan 7 = .ok (.getfield 18, 3) := by decide +kernel
theorem dX3_addSpan_10 : decode cX3_addSpan 10 = .ok (.arraylength, 1) := by decide +kernel
theorem dX3_addSpan_11 : decode cX3_addSpan 11 = .ok (.sipush 256, 3) := by decide +kernel
theorem dX3_addSpan_14 : decode cX3_addSpan 14 = .ok (.imul, 1) := by decide +kernel
theorem dX3_addSpan_15 : decode cX3_addSpan 15 = .ok (.iload_n 2, 1) := by decide +kernel
theorem dX3_addSpan_16 : decode cX3_addSpan 16 = .ok (.invokestatic 56, 3) := by decide +kernel
theorem dX3_addSpan_19 : decode cX3_addSpan 19 = .ok (.istore 4, 2) := by decide +kernel
theorem dX3_addSpan_21 : decode cX3_addSpan 21 = .ok (.iload_n 3, 1) := by decide +kernel
theorem dX3_addSpan_22 : decode cX3_addSpan 22 = .ok (.sipush 256, 3) := by decide +kernel
theorem dX3_addSpan_25 : decode cX3_addSpan 25 = .ok (.idiv, 1) := by decide +kernel
theorem dX3_addSpan_26 : decode cX3_addSpan 26 = .ok (.istore 5, 2) := by decide +kernel
theorem dX3_addSpan_28 : decode cX3_addSpan 28 = .ok (.iload 5, 2) := by decide +kernel
theorem dX3_addSpan_30 : decode cX3_addSpan 30 = .ok (.aload_n 0, 1) := by decide +kernel
theorem dX3_addSpan_31 : decode cX3_addSpan 31 = .ok (.getfield 18, 3) := by decide +kernel
theorem dX3_addSpan_34 : decode cX3_addSpan 34 = .ok (.arraylength, 1) := by decide +kernel
theorem dX3_addSpan_35 : decode cX3_addSpan 35 = .ok (.if_icmp .ge 56, 3) := by decide +kernel
theorem dX3_addSpan_38 : decode cX3_addSpan 38 = .ok (.iload 5, 2) := by decide +kernel
theorem dX3_addSpan_40 : decode cX3_addSpan 40 = .ok (.sipush 256, 3) := by decide +kernel
theorem dX3_addSpan_43 : decode cX3_addSpan 43 = .ok (.imul, 1) := by decide +kernel
theorem dX3_addSpan_44 : decode cX3_addSpan 44 = .ok (.iload 4, 2) := by decide +kernel
theorem dX3_addSpan_46 : decode cX3_addSpan 46 = .ok (.if_icmp .ge 45, 3) := by decide +kernel
theorem dX3_addSpan_49 : decode cX3_addSpan 49 = .ok (.iload 5, 2) := by decide +kernel
theorem dX3_addSpan_51 : decode cX3_addSpan 51 = .ok (.sipush 256, 3) := by decide +kernel
theorem dX3_addSpan_54 : decode cX3_addSpan 54 = .ok (.imul, 1) := by decide +kernel
theorem dX3_addSpan_55 : decode cX3_addSpan 55 = .ok (.istore 6, 2) := by decide +kernel
theorem dX3_addSpan_57 : decode cX3_addSpan 57 = .ok (.aload_n 0, 1) := by decide +kernel
theorem dX3_addSpan_58 : decode cX3_addSpan 58 = .ok (.getfield 18, 3) := by decide +kernel
theorem dX3_addSpan_61 : decode cX3_addSpan 61 = .ok (.iload 5, 2) := by decide +kernel
theorem dX3_addSpan_63 : decode cX3_addSpan 63 = .ok (.dup2, 1) := by decide +kernel
theorem dX3_addSpan_64 : decode cX3_addSpan 64 = .ok (.iaload, 1) := by decide +kernel
theorem dX3_addSpan_65 : decode cX3_addSpan 65 = .ok (.iload 4, 2) := by decide +kernel
theorem dX3_addSpan_67 : decode cX3_addSpan 67 = .ok (.iload 6, 2) := by decide +kernel
theorem dX3_addSpan_69 : decode cX3_addSpan 69 = .ok (.sipush 256, 3) := by decide +kernel
theorem dX3_addSpan_72 : decode cX3_addSpan 72 = .ok (.iadd, 1) := by decide +kernel
theorem dX3_addSpan_73 : decode cX3_addSpan 73 = .ok (.invokestatic 56, 3) := by decide +kernel
theorem dX3_addSpan_76 : decode cX3_addSpan 76 = .ok (.iload_n 3, 1) := by decide +kernel
theorem dX3_addSpan_77 : decode cX3_addSpan 77 = .ok (.iload 6, 2) := by decide +kernel
theorem dX3_addSpan_79 : decode cX3_addSpan 79 = .ok (.invokestatic 50, 3) := by decide +kernel
theorem dX3_addSpan_82 : decode cX3_addSpan 82 = .ok (.isub, 1) := by decide +kernel
theorem dX3_addSpan_83 : decode cX3_addSpan 83 = .ok (.iadd, 1) := by decide +kernel
theorem dX3_addSpan_84 : decode cX3_addSpan 84 = .ok (.iastore, 1) := by decide +kernel
theorem dX3_addSpan_85 : decode cX3_addSpan 85 = .ok (.iinc 5 1, 3) := by decide +kernel
theorem dX3_addSpan_88 : decode cX3_addSpan 88 = .ok (.goto (-60), 3) := by decide +kernel
theorem dX3_addSpan_91 : decode cX3_addSpan 91 = .ok (.return_, 1) := by decide +kernel
set_option maxRecDepth 20000 in
theorem ggX4_init_X4_cut : GoodIn wsX4_init wsX4_cut := goodIn_r _ [30, 31, 32, 33, 34, 35, 36, 37] (by decide +kernel) (by decide +kernel)
set_option maxRecDepth 20000 in
theorem gX4_init_X4_cut : GoodIn wsX4_init (va_wsS RX4 9 yX4_cut wsX4_cut) := goodIn_app (goodIn_of _ (by decide +kernel)) ggX4_init_X4_cut
set_option maxRecDepth 20000 in
theorem ggX4_init_X2_init : GoodIn wsX4_init wsX2_init := goodIn_r _ [39, 40, 2, 3, 7, 41, 42, 10, 43, 44, 81, 82, 83, 84] (by decide +kernel) (by decide +kernel)
set_option maxRecDepth 20000 in
theorem gX4_init_X2_init_n36 : GoodIn wsX4_init (wsX2_init) := ggX4_init_X2_init
set_option maxRecDepth 20000 in
theorem ggX4_init_X3_init : GoodIn wsX4_init wsX3_init := goodIn_r _ [46, 47, 2, 3, 48, 49, 50, 51, 7, 52, 53, 54, 55, 56, 57, 58, 89, 90, 91, 85, 86] (by decide +kernel) (by decide +kernel)
set_option maxRecDepth 20000 in
theorem gX4_init_X3_init_n43 : GoodIn wsX4_init (wsX3_init) := ggX4_init_X3_init
set_option maxRecDepth 20000 in
theorem ggX4_init_X1_init : GoodIn wsX4_init wsX1_init := goodIn_r _ [60, 61, 2, 3, 62, 63, 64, 87, 88] (by decide +kernel) (by decide +kernel)
set_option maxRecDepth 20000 in
theorem gX4_init_X1_init_n52 : GoodIn wsX4_init (wsX1_init) := ggX4_init_X1_init
set_option maxRecDepth 20000 in
theorem ggX4_init_J7_fill_53178 : GoodIn wsX4_init wsJ7_fill_53178 := goodIn_r _ [68] (by decide +kernel) (by decide +kernel)
set_option maxRecDepth 20000 in
theorem gX4_init_J7_fill_53178 : GoodIn wsX4_init (va_wsS RX4 66 yJ7_fill_53178 wsJ7_fill_53178) := goodIn_app (goodIn_of _ (by decide +kernel)) ggX4_init_J7_fill_53178
theorem dX4_init_0 : decode cX4_init 0 = .ok (.aload_n 0, 1) := by decide +kernel
theorem dX4_init_1 : decode cX4_init 1 = .ok (.invokespecial 1, 3) := by decide +kernel
theorem dX4_init_4 : decode cX4_init 4 = .ok (.aload_n 0, 1) := by decide +kernel
theorem dX4_init_5 : decode cX4_init 5 = .ok (.iload_n 1, 1) := by decide +kernel
theorem dX4_init_6 : decode cX4_init 6 = .ok (.bipush 48, 2) := by decide +kernel
theorem dX4_init_8 : decode cX4_init 8 = .ok (.invokestatic 9, 3) := by decide +kernel
theorem dX4_init_11 : decode cX4_init 11 = .ok (.putfield 13, 3) := by decide +kernel
theorem dX4_init_14 : decode cX4_init 14 = .ok (.aload_n 0, 1) := by decide +kernel
theorem dX4_init_15 : decode cX4_init 15 = .ok (.iload_n 2, 1) := by decide +kernel
theorem dX4_init_16 : decode cX4_init 16 = .ok (.bipush 48, 2) := by decide +kernel
theorem dX4_init_18 : decode cX4_init 18 = .ok (.invokestatic 9, 3) := by decide +kernel
theorem dX4_init_21 : decode cX4_init 21 = .ok (.putfield 17, 3) := by decide +kernel
theorem dX4_init_24 : decode cX4_init 24 = .ok (.aload_n 0, 1) := by decide +kernel
theorem dX4_init_25 : decode cX4_init 25 = .ok (.iload_n 3, 1) := by decide +kernel
theorem dX4_init_26 : decode cX4_init 26 = .ok (.iconst 4, 1) := by decide +kernel
theorem dX4_init_27 : decode cX4_init 27 = .ok (.invokestatic 9, 3) := by decide +kernel
theorem dX4_init_30 : decode cX4_init 30 = .ok (.putfield 20, 3) := by decide +kernel
theorem dX4_init_33 : decode cX4_init 33 = .ok (.aload_n 0, 1) := by decide +kernel
theorem dX4_init_34 : decode cX4_init 34 = .ok (.aload_n 0, 1) := by decide +kernel
theorem dX4_init_35 : decode cX4_init 35 = .ok (.getfield 20, 3) := by decide +kernel
theorem dX4_init_38 : decode cX4_init 38 = .ok (.aload_n 0, 1) := by decide +kernel
theorem dX4_init_39 : decode cX4_init 39 = .ok (.getfield 17, 3) := by decide +kernel
theorem dX4_init_42 : decode cX4_init 42 = .ok (.imul, 1) := by decide +kernel
theorem dX4_init_43 : decode cX4_init 43 = .ok (.aload_n 0, 1) := by decide +kernel
theorem dX4_init_44 : decode cX4_init 44 = .ok (.getfield 13, 3) := by decide +kernel
theorem dX4_init_47 : decode cX4_init 47 = .ok (.imul, 1) := by decide +kernel
theorem dX4_init_48 : decode cX4_init 48 = .ok (.newarray .int, 2) := by decide +kernel
theorem dX4_init_50 : decode cX4_init 50 = .ok (.putfield 23, 3) := by decide +kernel
theorem dX4_init_53 : decode cX4_init 53 = .ok (.aload_n 0, 1) := by decide +kernel
theorem dX4_init_54 : decode cX4_init 54 = .ok (.aload_n 0, 1) := by decide +kernel
theorem dX4_init_55 : decode cX4_init 55 = .ok (.getfield 17, 3) := by decide +kernel
theorem dX4_init_58 : decode cX4_init 58 = .ok (.aload_n 0, 1) := by decide +kernel
theorem dX4_init_59 : decode cX4_init 59 = .ok (.getfield 13, 3) := by decide +kernel
theorem dX4_init_62 : decode cX4_init 62 = .ok (.imul, 1) := by decide +kernel
theorem dX4_init_63 : decode cX4_init 63 = .ok (.newarray .int, 2) := by decide +kernel
theorem dX4_init_65 : decode cX4_init 65 = .ok (.putfield 27, 3) := by decide +kernel
theorem dX4_init_68 : decode cX4_init 68 = .ok (.aload_n 0, 1) := by decide +kernel
theorem dX4_init_69 : decode cX4_init 69 = .ok (.aload_n 0, 1) := by decide +kernel
theorem dX4_init_70 : decode cX4_init 70 = .ok (.getfield 20, 3) := by decide +kernel
theorem dX4_init_73 : decode cX4_init 73 = .ok (.newarray .boolean, 2) := by decide +kernel
theorem dX4_init_75 : decode cX4_init 75 = .ok (.putfield 30, 3) := by decide +kernel
theorem dX4_init_78 : decode cX4_init 78 = .ok (.aload_n 0, 1) := by decide +kernel
theorem dX4_init_79 : decode cX4_init 79 = .ok (.new 34, 3) := by decide +kernel
theorem dX4_init_82 : decode cX4_init 82 = .ok (.dup, 1) := by decide +kernel
theorem dX4_init_83 : decode cX4_init 83 = .ok (.invokespecial 36, 3) := by decide +kernel
theorem dX4_init_86 : decode cX4_init 86 = .ok (.putfield 37, 3) := by decide +kernel
theorem dX4_init_89 : decode cX4_init 89 = .ok (.aload_n 0, 1) := by decide +kernel
theorem dX4_init_90 : decode cX4_init 90 = .ok (.new 41, 3) := by decide +kernel
theorem dX4_init_93 : decode cX4_init 93 = .ok (.dup, 1) := by decide +kernel
theorem dX4_init_94 : decode cX4_init 94 = .ok (.aload_n 0, 1) := by decide +kernel
theorem dX4_init_95 : decode cX4_init 95 = .ok (.getfield 13, 3) := by decide +kernel
theorem dX4_init_98 : decode cX4_init 98 = .ok (.invokespecial 43, 3) := by decide +kernel
theorem dX4_init_101 : decode cX4_init 101 = .ok (.putfield 46, 3) := by decide +kernel
theorem dX4_init_104 : decode cX4_init 104 = .ok (.aload_n 0, 1) := by decide +kernel
theorem dX4_init_105 : decode cX4_init 105 = .ok (.new 50, 3) := by decide +kernel
theorem dX4_init_108 : decode cX4_init 108 = .ok (.dup, 1) := by decide +kernel
theorem dX4_init_109 : decode cX4_init 109 = .ok (.aload_n 0, 1) := by decide +kernel
theorem dX4_init_110 : decode cX4_init 110 = .ok (.getfield 13, 3) := by decide +kernel
theorem dX4_init_113 : decode cX4_init 113 = .ok (.invokespecial 52, 3) := by decide +kernel
theorem dX4_init_116 : decode cX4_init 116 = .ok (.putfield 53, 3) := by decide +kernel
theorem dX4_init_119 : decode cX4_init 119 = .ok (.aload_n 0, 1) := by decide +kernel
theorem dX4_init_120 : decode cX4_init 120 = .ok (.iconst 0, 1) := by decide +kernel
theorem dX4_init_121 : decode cX4_init 121 = .ok (.putfield 57, 3) := by decide +kernel
theorem dX4_init_124 : decode cX4_init 124 = .ok (.aload_n 0, 1) := by decide +kernel
theorem dX4_init_125 : decode cX4_init 125 = .ok (.aload_n 0, 1) := by decide +kernel
theorem dX4_init_126 : decode cX4_init 126 = .ok (.getfield 17, 3) := by decide +kernel
theorem dX4_init_129 : decode cX4_init 129 = .ok (.putfield 60, 3) := by decide +kernel
theorem dX4_init_132 : decode cX4_init 132 = .ok (.aload_n 0, 1) := by decide +kernel
theorem dX4_init_133 : decode cX4_init 133 = .ok (.iconst 0, 1) := by decide +kernel
theorem dX4_init_134 : decode cX4_init 134 = .ok (.putfield 63, 3) := by decide +kernel
theorem dX4_init_137 : decode cX4_init 137 = .ok (.aload_n 0, 1) := by decide +kernel
theorem dX4_init_138 : decode cX4_init 138 = .ok (.getfield 27, 3) := by decide +kernel
theorem dX4_init_141 : decode cX4_init 141 = .ok (.sipush 255, 3) := by decide +kernel
theorem dX4_init_144 : decode cX4_init 144 = .ok (.invokestatic 66, 3) := by decide +kernel
theorem dX4_init_147 : decode cX4_init 147 = .ok (.return_, 1) := by decide +kernel
set_option maxRecDepth 20000 in
theorem ggX4_move_X4_needRoom : GoodIn wsX4_move wsX4_needRoom := goodIn_ca (goodIn_r _ [6, 7, 8, 1, 33, 34, 35, 36, 37, 38, 39, 40, 41, 42, 43, 44, 45, 46, 47, 48] (by decide +kernel) (by decide +kernel)) (goodIn_sub (fun _ h => List.mem_cons_of_mem _ (List.mem_append_left _ (List.mem_append_right _ h))) (by decide +kernel))
set_option maxRecDepth 20000 in
theorem gX4_move_X4_needRoom : GoodIn wsX4_move (wsV RX4 72 RX4 yX4_needRoom wsX4_needRoom) := goodIn_app (goodIn_of _ (by decide +kernel)) ggX4_move_X4_needRoom
set_option maxRecDepth 20000 in
theorem ggX4_move_X4_cutPlace : GoodIn wsX4_move wsX4_cutPlace := goodIn_r _ [11, 12, 13, 14, 15, 16, 17, 18, 19, 20] (by decide +kernel) (by decide +kernel)
set_option maxRecDepth 20000 in
theorem gX4_move_X4_cutPlace : GoodIn wsX4_move (va_wsS RX4 75 yX4_cutPlace wsX4_cutPlace) := goodIn_app (goodIn_of _ (by decide +kernel)) ggX4_move_X4_cutPlace
set_option maxRecDepth 20000 in
theorem ggX4_move_X2_begin : GoodIn wsX4_move wsX2_begin := goodIn_ca (goodIn_r _ [24, 25, 26, 27, 22, 28, 29, 30, 31, 32, 45, 46, 47, 48] (by decide +kernel) (by decide +kernel)) (goodIn_sub (fun _ h => List.mem_cons_of_mem _ (List.mem_append_right _ h)) (by decide +kernel))
set_option maxRecDepth 20000 in
theorem gX4_move_X2_begin_n79 : GoodIn wsX4_move (wsX2_begin) := ggX4_move_X2_begin
theorem dX4_move_0 : decode cX4_move 0 = .ok (.aload_n 0, 1) := by decide +kernel
theorem dX4_move_1 : decode cX4_move 1 = .ok (.iconst 1, 1) := by decide +kernel
theorem dX4_move_2 : decode cX4_move 2 = .ok (.invokevirtual 72, 3) := by decide +kernel
theorem dX4_move_5 : decode cX4_move 5 = .ok (.aload_n 0, 1) := by decide +kernel
theorem dX4_move_6 : decode cX4_move 6 = .ok (.getfield 37, 3) := by decide +kernel
theorem dX4_move_9 : decode cX4_move 9 = .ok (.lload_n 1, 1) := by decide +kernel
theorem dX4_move_10 : decode cX4_move 10 = .ok (.invokestatic 75, 3) := by decide +kernel
theorem dX4_move_13 : decode cX4_move 13 = .ok (.lload_n 3, 1) := by decide +kernel
theorem dX4_move_14 : decode cX4_move 14 = .ok (.invokestatic 75, 3) := by decide +kernel
theorem dX4_move_17 : decode cX4_move 17 = .ok (.invokevirtual 79, 3) := by decide +kernel
theorem dX4_move_20 : decode cX4_move 20 = .ok (.aload_n 0, 1) := by decide +kernel
theorem dX4_move_21 : decode cX4_move 21 = .ok (.getfield 37, 3) := by decide +kernel
theorem dX4_move_24 : decode cX4_move 24 = .ok (.getfield 83, 3) := by decide +kernel
theorem dX4_move_27 : decode cX4_move 27 = .ok (.ireturn, 1) := by decide +kernel
set_option maxRecDepth 20000 in
theorem ggX4_line_X4_needRoom : GoodIn wsX4_line wsX4_needRoom := goodIn_ca (goodIn_r _ [8, 9, 10, 3, 35, 36, 37, 38, 39, 40, 41, 42, 43, 44, 45, 46, 47, 48, 49, 50] (by decide +kernel) (by decide +kernel)) (goodIn_sub (fun _ h => List.mem_cons_of_mem _ (List.mem_append_left _ (List.mem_append_right _ h))) (by decide +kernel))
set_option maxRecDepth 20000 in
theorem gX4_line_X4_needRoom : GoodIn wsX4_line (wsV RX4 72 RX4 yX4_needRoom wsX4_needRoom) := goodIn_app (goodIn_of _ (by decide +kernel)) ggX4_line_X4_needRoom
set_option maxRecDepth 20000 in
theorem ggX4_line_X4_cutPlace : GoodIn wsX4_line wsX4_cutPlace := goodIn_r _ [13, 14, 15, 16, 17, 18, 19, 20, 21, 22] (by decide +kernel) (by decide +kernel)
set_option maxRecDepth 20000 in
theorem gX4_line_X4_cutPlace : GoodIn wsX4_line (va_wsS RX4 75 yX4_cutPlace wsX4_cutPlace) := goodIn_app (goodIn_of _ (by decide +kernel)) ggX4_line_X4_cutPlace
set_option maxRecDepth 20000 in
theorem ggX4_line_X2_join : GoodIn wsX4_line wsX2_join := goodIn_ca (goodIn_r _ [26, 27, 28, 29, 24, 30, 31, 32, 33, 34, 47, 48, 49, 50] (by decide +kernel) (by decide +kernel)) (goodIn_sub (fun _ h => List.mem_cons_of_mem _ (List.mem_append_right _ h)) (by decide +kernel))
set_option maxRecDepth 20000 in
theorem gX4_line_X2_join_n93 : GoodIn wsX4_line (wsX2_join) := ggX4_line_X2_join
theorem dX4_line_0 : decode cX4_line 0 = .ok (.aload_n 0, 1) := by decide +kernel
theorem dX4_line_1 : decode cX4_line 1 = .ok (.getfield 37, 3) := by decide +kernel
theorem dX4_line_4 : decode cX4_line 4 = .ok (.getfield 83, 3) := by decide +kernel
theorem dX4_line_7 : decode cX4_line 7 = .ok (.ifCond .ne 13, 3) := by decide +kernel
theorem dX4_line_10 : decode cX4_line 10 = .ok (.new 86, 3) := by decide +kernel
theorem dX4_line_13 : decode cX4_line 13 = .ok (.dup, 1) := by decide +kernel
theorem dX4_line_14 : decode cX4_line 14 = .ok (.ldc 88, 2) := by decide +kernel
theorem dX4_line_16 : decode cX4_line 16 = .ok (.invokespecial 90, 3) := by decide +kernel
theorem dX4_line_19 : decode cX4_line 19 = .ok (.athrow, 1) := by decide +kernel
theorem dX4_line_20 : decode cX4_line 20 = .ok (.aload_n 0, 1) := by decide +kernel
theorem dX4_line_21 : decode cX4_line 21 = .ok (.iconst 1, 1) := by decide +kernel
theorem dX4_line_22 : decode cX4_line 22 = .ok (.invokevirtual 72, 3) := by decide +kernel
theorem dX4_line_25 : decode cX4_line 25 = .ok (.aload_n 0, 1) := by decide +kernel
theorem dX4_line_26 : decode cX4_line 26 = .ok (.getfield 37, 3) := by decide +kernel
theorem dX4_line_29 : decode cX4_line 29 = .ok (.lload_n 1, 1) := by decide +kernel
theorem dX4_line_30 : decode cX4_line 30 = .ok (.invokestatic 75, 3) := by decide +kernel
theorem dX4_line_33 : decode cX4_line 33 = .ok (.lload_n 3, 1) := by decide +kernel
theorem dX4_line_34 : decode cX4_line 34 = .ok (.invokestatic 75, 3) := by decide +kernel
theorem dX4_line_37 : decode cX4_line 37 = .ok (.invokevirtual 93, 3) := by decide +kernel
theorem dX4_line_40 : decode cX4_line 40 = .ok (.aload_n 0, 1) := by decide +kernel
theorem dX4_line_41 : decode cX4_line 41 = .ok (.getfield 37, 3) := by decide +kernel
theorem dX4_line_44 : decode cX4_line 44 = .ok (.getfield 83, 3) := by decide +kernel
theorem dX4_line_47 : decode cX4_line 47 = .ok (.ireturn, 1) := by decide +kernel
set_option maxRecDepth 20000 in
theorem ggX4_hair_X4_needRoom : GoodIn wsX4_hair wsX4_needRoom := goodIn_ca (goodIn_r _ [6, 7, 8, 1, 43, 44, 45, 46, 47, 48, 49, 50, 51, 52, 53, 54, 55, 56, 57, 58] (by decide +kernel) (by decide +kernel)) (goodIn_sub (fun _ h => List.mem_cons_of_mem _ (List.mem_append_left _ (List.mem_append_right _ h))) (by decide +kernel))
set_option maxRecDepth 20000 in
theorem gX4_hair_X4_needRoom : GoodIn wsX4_hair (wsV RX4 72 RX4 yX4_needRoom wsX4_needRoom) := goodIn_app (goodIn_of _ (by decide +kernel)) ggX4_hair_X4_needRoom
set_option maxRecDepth 20000 in
theorem ggX4_hair_X4_cutPlace : GoodIn wsX4_hair wsX4_cutPlace := goodIn_r _ [11, 12, 13, 14, 15, 16, 17, 18, 19, 20] (by decide +kernel) (by decide +kernel)
set_option maxRecDepth 20000 in
theorem gX4_hair_X4_cutPlace : GoodIn wsX4_hair (va_wsS RX4 75 yX4_cutPlace wsX4_cutPlace) := goodIn_app (goodIn_of _ (by decide +kernel)) ggX4_hair_X4_cutPlace
set_option maxRecDepth 20000 in
theorem ggX4_hair_X4_addHair : GoodIn wsX4_hair wsX4_addHair := goodIn_ca (goodIn_r _ [24, 1, 25, 26, 16, 27, 28, 29, 30, 31, 32, 33, 34, 35, 36, 37, 38, 39, 40, 41, 42, 43, 44, 45, 46, 47, 48, 49, 50, 51, 52, 53, 54, 55, 56, 57, 58] (by decide +kernel) (by decide +kernel)) (goodIn_sub (fun _ h => List.mem_cons_of_mem _ (List.mem_append_right _ h)) (by decide +kernel))
set_option maxRecDepth 20000 in
theorem gX4_hair_X4_addHair : GoodIn wsX4_hair (wsV RX4 96 RX4 yX4_addHair wsX4_addHair) := goodIn_app (goodIn_of _ (by decide +kernel)) ggX4_hair_X4_addHair
theorem dX4_hair_0 : decode cX4_hair 0 = .ok (.aload_n 0, 1) := by decide +kernel
theorem dX4_hair_1 : decode cX4_hair 1 = .ok (.iconst 4, 1) := by decide +kernel
theorem dX4_hair_2 : decode cX4_hair 2 = .ok (.invokevirtual 72, 3) := by decide +kernel
theorem dX4_hair_5 : decode cX4_hair 5 = .ok (.aload_n 0, 1) := by decide +kernel
theorem dX4_hair_6 : decode cX4_hair 6 = .ok (.lload_n 1, 1) := by decide +kernel
theorem dX4_hair_7 : decode cX4_hair 7 = .ok (.invokestatic 75, 3) := by decide +kernel
theorem dX4_hair_10 : decode cX4_hair 10 = .ok (.lload_n 3, 1) := by decide +kernel
theorem dX4_hair_11 : decode cX4_hair 11 = .ok (.invokestatic 75, 3) := by decide +kernel
theorem dX4_hair_14 : decode cX4_hair 14 = .ok (.lload 5, 2) := by decide +kernel
theorem dX4_hair_16 : decode cX4_hair 16 = .ok (.invokestatic 75, 3) := by decide +kernel
theorem dX4_hair_19 : decode cX4_hair 19 = .ok (.lload 7, 2) := by decide +kernel
theorem dX4_hair_21 : decode cX4_hair 21 = .ok (.invokestatic 75, 3) := by decide +kernel
theorem dX4_hair_24 : decode cX4_hair 24 = .ok (.invokevirtual 96, 3) := by decide +kernel
theorem dX4_hair_27 : decode cX4_hair 27 = .ok (.aload_n 0, 1) := by decide +kernel
theorem dX4_hair_28 : decode cX4_hair 28 = .ok (.getfield 37, 3) := by decide +kernel
theorem dX4_hair_31 : decode cX4_hair 31 = .ok (.getfield 83, 3) := by decide +kernel
theorem dX4_hair_34 : decode cX4_hair 34 = .ok (.ireturn, 1) := by decide +kernel
set_option maxRecDepth 20000 in
theorem ggX4_fill_X4_needRule : GoodIn wsX4_fill wsX4_needRule := goodIn_ca (goodIn_r _ [9, 10, 11] (by decide +kernel) (by decide +kernel)) (goodIn_sub (fun _ h => List.mem_cons_of_mem _ (List.mem_append_left _ (List.mem_append_right _ h))) (by decide +kernel))
set_option maxRecDepth 20000 in
theorem gX4_fill_X4_needRule : GoodIn wsX4_fill (va_wsS RX4 100 yX4_needRule wsX4_needRule) := goodIn_app (goodIn_of _ (by decide +kernel)) ggX4_fill_X4_needRule
set_option maxRecDepth 20000 in
theorem ggX4_fill_X4_needPlane : GoodIn wsX4_fill wsX4_needPlane := goodIn_r _ [15, 16, 17, 18, 19, 91, 92, 93, 94, 95, 96, 97, 98, 99, 100, 101, 102, 103, 104, 105, 106, 107, 108] (by decide +kernel) (by decide +kernel)
set_option maxRecDepth 20000 in
theorem gX4_fill_X4_needPlane : GoodIn wsX4_fill (wsV RX4 103 RX4 yX4_needPlane wsX4_needPlane) := goodIn_app (goodIn_of _ (by decide +kernel)) ggX4_fill_X4_needPlane
set_option maxRecDepth 20000 in
theorem ggX4_fill_X3_measure : GoodIn wsX4_fill wsX3_measure := goodIn_ca (goodIn_r _ [23, 24, 25, 26, 27, 28, 29, 30, 31, 32, 33, 34, 35, 36, 37, 38, 39, 40, 41, 42, 43, 44, 45, 46, 47, 48, 49, 50, 51, 21, 52, 53, 54, 55, 56, 57, 58, 59, 60, 61, 62, 63, 109, 110, 111, 112, 113, 114, 115, 116, 117] (by decide +kernel) (by decide +kernel)) (goodIn_sub (fun _ h => List.mem_cons_of_mem _ (List.mem_append_right _ h)) (by decide +kernel))
set_option maxRecDepth 20000 in
theorem gX4_fill_X3_measure_n106 : GoodIn wsX4_fill (wsX3_measure) := ggX4_fill_X3_measure
set_option maxRecDepth 20000 in
theorem ggX4_fill_X4_paintRow : GoodIn wsX4_fill wsX4_paintRow := goodIn_ca (goodIn_r _ [67, 68, 3, 69, 70, 21, 71, 72, 24, 73, 74, 8, 75, 76, 77, 78, 79, 16, 80, 81, 82, 83, 84, 85, 91, 92, 93, 94, 95, 96, 97, 98, 99, 100, 101, 102, 109, 110] (by decide +kernel) (by decide +kernel)) (goodIn_sub (fun _ h => List.mem_cons_of_mem _ (List.mem_append_right _ h)) (by decide +kernel))
set_option maxRecDepth 20000 in
theorem gX4_fill_X4_paintRow : GoodIn wsX4_fill (wsV RX4 110 RX4 yX4_paintRow wsX4_paintRow) := goodIn_app (goodIn_of _ (by decide +kernel)) ggX4_fill_X4_paintRow
set_option maxRecDepth 20000 in
theorem ggX4_fill_X2_clear : GoodIn wsX4_fill wsX2_clear := goodIn_r _ [89, 90, 114, 115, 116, 117] (by decide +kernel) (by decide +kernel)
set_option maxRecDepth 20000 in
theorem gX4_fill_X2_clear_n114 : GoodIn wsX4_fill (wsX2_clear) := ggX4_fill_X2_clear
theorem dX4_fill_0 : decode cX4_fill 0 = .ok (.iload_n 1, 1) := by decide +kernel
theorem dX4_fill_1 : decode cX4_fill 1 = .ok (.invokestatic 100, 3) := by decide +kernel
theorem dX4_fill_4 : decode cX4_fill 4 = .ok (.aload_n 0, 1) := by decide +kernel
theorem dX4_fill_5 : decode cX4_fill 5 = .ok (.iload_n 2, 1) := by decide +kernel
theorem dX4_fill_6 : decode cX4_fill 6 = .ok (.invokevirtual 103, 3) := by decide +kernel
theorem dX4_fill_9 : decode cX4_fill 9 = .ok (.iconst 0, 1) := by decide +kernel
theorem dX4_fill_10 : decode cX4_fill 10 = .ok (.istore 4, 2) := by decide +kernel
theorem dX4_fill_12 : decode cX4_fill 12 = .ok (.aload_n 0, 1) := by decide +kernel
theorem dX4_fill_13 : decode cX4_fill 13 = .ok (.getfield 57, 3) := by decide +kernel
theorem dX4_fill_16 : decode cX4_fill 16 = .ok (.istore 5, 2) := by decide +kernel
theorem dX4_fill_18 : decode cX4_fill 18 = .ok (.iload 5, 2) := by decide +kernel
theorem dX4_fill_20 : decode cX4_fill 20 = .ok (.aload_n 0, 1) := by decide +kernel
theorem dX4_fill_21 : decode cX4_fill 21 = .ok (.getfield 60, 3) := by decide +kernel
theorem dX4_fill_24 : decode cX4_fill 24 = .ok (.if_icmp .ge 40, 3) := by decide +kernel
theorem dX4_fill_27 : decode cX4_fill 27 = .ok (.aload_n 0, 1) := by decide +kernel
theorem dX4_fill_28 : decode cX4_fill 28 = .ok (.getfield 46, 3) := by decide +kernel
theorem dX4_fill_31 : decode cX4_fill 31 = .ok (.aload_n 0, 1) := by decide +kernel
theorem dX4_fill_32 : decode cX4_fill 32 = .ok (.getfield 37, 3) := by decide +kernel
theorem dX4_fill_35 : decode cX4_fill 35 = .ok (.iload 5, 2) := by decide +kernel
theorem dX4_fill_37 : decode cX4_fill 37 = .ok (.iload_n 1, 1) := by decide +kernel
theorem dX4_fill_38 : decode cX4_fill 38 = .ok (.invokevirtual 106, 3) := by decide +kernel
theorem dX4_fill_41 : decode cX4_fill 41 = .ok (.iload 4, 2) := by decide +kernel
theorem dX4_fill_43 : decode cX4_fill 43 = .ok (.aload_n 0, 1) := by decide +kernel
theorem dX4_fill_44 : decode cX4_fill 44 = .ok (.iload 5, 2) := by decide +kernel
theorem dX4_fill_46 : decode cX4_fill 46 = .ok (.iload_n 2, 1) := by decide +kernel
theorem dX4_fill_47 : decode cX4_fill 47 = .ok (.iload_n 3, 1) := by decide +kernel
theorem dX4_fill_48 : decode cX4_fill 48 = .ok (.sipush 255, 3) := by decide +kernel
theorem dX4_fill_51 : decode cX4_fill 51 = .ok (.iand, 1) := by decide +kernel
theorem dX4_fill_52 : decode cX4_fill 52 = .ok (.invokevirtual 110, 3) := by decide +kernel
theorem dX4_fill_55 : decode cX4_fill 55 = .ok (.iadd, 1) := by decide +kernel
theorem dX4_fill_56 : decode cX4_fill 56 = .ok (.istore 4, 2) := by decide +kernel
theorem dX4_fill_58 : decode cX4_fill 58 = .ok (.iinc 5 1, 3) := by decide +kernel
theorem dX4_fill_61 : decode cX4_fill 61 = .ok (.goto (-43), 3) := by decide +kernel
theorem dX4_fill_64 : decode cX4_fill 64 = .ok (.aload_n 0, 1) := by decide +kernel
theorem dX4_fill_65 : decode cX4_fill 65 = .ok (.getfield 37, 3) := by decide +kernel
theorem dX4_fill_68 : decode cX4_fill 68 = .ok (.invokevirtual 114, 3) := by decide +kernel
theorem dX4_fill_71 : decode cX4_fill 71 = .ok (.aload_n 0, 1) := by decide +kernel
theorem dX4_fill_72 : decode cX4_fill 72 = .ok (.dup, 1) := by decide +kernel
theorem dX4_fill_73 : decode cX4_fill 73 = .ok (.getfield 63, 3) := by decide +kernel
theorem dX4_fill_76 : decode cX4_fill 76 = .ok (.iconst 1, 1) := by decide +kernel
theorem dX4_fill_77 : decode cX4_fill 77 = .ok (.iadd, 1) := by decide +kernel
theorem dX4_fill_78 : decode cX4_fill 78 = .ok (.putfield 63, 3) := by decide +kernel
theorem dX4_fill_81 : decode cX4_fill 81 = .ok (.iload 4, 2) := by decide +kernel
theorem dX4_fill_83 : decode cX4_fill 83 = .ok (.ireturn, 1) := by decide +kernel
set_option maxRecDepth 20000 in
theorem ggX4_clip_X4_needRule : GoodIn wsX4_clip wsX4_needRule := goodIn_ca (goodIn_r _ [7, 8, 9] (by decide +kernel) (by decide +kernel)) (goodIn_sub (fun _ h => List.mem_cons_of_mem _ (List.mem_append_left _ (List.mem_append_right _ h))) (by decide +kernel))
set_option maxRecDepth 20000 in
theorem gX4_clip_X4_needRule : GoodIn wsX4_clip (va_wsS RX4 100 yX4_needRule wsX4_needRule) := goodIn_app (goodIn_of _ (by decide +kernel)) ggX4_clip_X4_needRule
set_option maxRecDepth 20000 in
theorem ggX4_clip_X3_measure : GoodIn wsX4_clip wsX3_measure := goodIn_ca (goodIn_r _ [13, 14, 15, 16, 17, 18, 19, 20, 21, 22, 23, 24, 25, 26, 27, 28, 29, 30, 31, 32, 33, 34, 35, 36, 37, 38, 39, 40, 41, 11, 42, 43, 44, 45, 46, 47, 48, 49, 50, 51, 52, 53, 83, 84, 85, 86, 87, 88, 89, 90, 91] (by decide +kernel) (by decide +kernel)) (goodIn_sub (fun _ h => List.mem_cons_of_mem _ (List.mem_append_right _ h)) (by decide +kernel))
set_option maxRecDepth 20000 in
theorem gX4_clip_X3_measure_n106 : GoodIn wsX4_clip (wsX3_measure) := ggX4_clip_X3_measure
set_option maxRecDepth 20000 in
theorem ggX4_clip_X4_clipRow : GoodIn wsX4_clip wsX4_clipRow := goodIn_ca (goodIn_r _ [57, 58, 59, 2, 60, 11, 61, 62, 14, 63, 64, 6, 65, 71, 72, 73, 74, 75, 76, 77, 78, 79, 80, 81, 82, 83, 84] (by decide +kernel) (by decide +kernel)) (goodIn_sub (fun _ h => List.mem_cons_of_mem _ (List.mem_append_right _ h)) (by decide +kernel))
set_option maxRecDepth 20000 in
theorem gX4_clip_X4_clipRow : GoodIn wsX4_clip (wsV RX4 117 RX4 yX4_clipRow wsX4_clipRow) := goodIn_app (goodIn_of _ (by decide +kernel)) ggX4_clip_X4_clipRow
set_option maxRecDepth 20000 in
theorem ggX4_clip_X2_clear : GoodIn wsX4_clip wsX2_clear := goodIn_r _ [69, 70, 88, 89, 90, 91] (by decide +kernel) (by decide +kernel)
set_option maxRecDepth 20000 in
theorem gX4_clip_X2_clear_n114 : GoodIn wsX4_clip (wsX2_clear) := ggX4_clip_X2_clear
theorem dX4_clip_0 : decode cX4_clip 0 = .ok (.iload_n 1, 1) := by decide +kernel
theorem dX4_clip_1 : decode cX4_clip 1 = .ok (.invokestatic 100, 3) := by decide +kernel
theorem dX4_clip_4 : decode cX4_clip 4 = .ok (.iconst 0, 1) := by decide +kernel
theorem dX4_clip_5 : decode cX4_clip 5 = .ok (.istore_n 2, 1) := by decide +kernel
theorem dX4_clip_6 : decode cX4_clip 6 = .ok (.iconst 0, 1) := by decide +kernel
theorem dX4_clip_7 : decode cX4_clip 7 = .ok (.istore_n 3, 1) := by decide +kernel
theorem dX4_clip_8 : decode cX4_clip 8 = .ok (.iload_n 3, 1) := by decide +kernel
theorem dX4_clip_9 : decode cX4_clip 9 = .ok (.aload_n 0, 1) := by decide +kernel
theorem dX4_clip_10 : decode cX4_clip 10 = .ok (.getfield 17, 3) := by decide +kernel
theorem dX4_clip_13 : decode cX4_clip 13 = .ok (.if_icmp .ge 30, 3) := by decide +kernel
theorem dX4_clip_16 : decode cX4_clip 16 = .ok (.aload_n 0, 1) := by decide +kernel
theorem dX4_clip_17 : decode cX4_clip 17 = .ok (.getfield 46, 3) := by decide +kernel
theorem dX4_clip_20 : decode cX4_clip 20 = .ok (.aload_n 0, 1) := by decide +kernel
theorem dX4_clip_21 : decode cX4_clip 21 = .ok (.getfield 37, 3) := by decide +kernel
theorem dX4_clip_24 : decode cX4_clip 24 = .ok (.iload_n 3, 1) := by decide +kernel
theorem dX4_clip_25 : decode cX4_clip 25 = .ok (.iload_n 1, 1) := by decide +kernel
theorem dX4_clip_26 : decode cX4_clip 26 = .ok (.invokevirtual 106, 3) := by decide +kernel
theorem dX4_clip_29 : decode cX4_clip 29 = .ok (.iload_n 2, 1) := by decide +kernel
theorem dX4_clip_30 : decode cX4_clip 30 = .ok (.aload_n 0, 1) := by decide +kernel
theorem dX4_clip_31 : decode cX4_clip 31 = .ok (.iload_n 3, 1) := by decide +kernel
theorem dX4_clip_32 : decode cX4_clip 32 = .ok (.invokevirtual 117, 3) := by decide +kernel
theorem dX4_clip_35 : decode cX4_clip 35 = .ok (.iadd, 1) := by decide +kernel
theorem dX4_clip_36 : decode cX4_clip 36 = .ok (.istore_n 2, 1) := by decide +kernel
theorem dX4_clip_37 : decode cX4_clip 37 = .ok (.iinc 3 1, 3) := by decide +kernel
theorem dX4_clip_40 : decode cX4_clip 40 = .ok (.goto (-32), 3) := by decide +kernel
theorem dX4_clip_43 : decode cX4_clip 43 = .ok (.aload_n 0, 1) := by decide +kernel
theorem dX4_clip_44 : decode cX4_clip 44 = .ok (.getfield 37, 3) := by decide +kernel
theorem dX4_clip_47 : decode cX4_clip 47 = .ok (.invokevirtual 114, 3) := by decide +kernel
theorem dX4_clip_50 : decode cX4_clip 50 = .ok (.iload_n 2, 1) := by decide +kernel
theorem dX4_clip_51 : decode cX4_clip 51 = .ok (.ireturn, 1) := by decide +kernel
set_option maxRecDepth 20000 in
theorem ggX4_end_X2_clear : GoodIn wsX4_end wsX2_clear := goodIn_r _ [7, 8, 25, 26, 27, 28] (by decide +kernel) (by decide +kernel)
set_option maxRecDepth 20000 in
theorem gX4_end_X2_clear_n114 : GoodIn wsX4_end (wsX2_clear) := ggX4_end_X2_clear
set_option maxRecDepth 20000 in
theorem ggX4_end_J7_fill_53178 : GoodIn wsX4_end wsJ7_fill_53178 := goodIn_r _ [12] (by decide +kernel) (by decide +kernel)
set_option maxRecDepth 20000 in
theorem gX4_end_J7_fill_53178 : GoodIn wsX4_end (va_wsS RX4 66 yJ7_fill_53178 wsJ7_fill_53178) := goodIn_app (goodIn_of _ (by decide +kernel)) ggX4_end_J7_fill_53178
theorem dX4_end_0 : decode cX4_end 0 = .ok (.aload_n 0, 1) := by decide +kernel
theorem dX4_end_1 : decode cX4_end 1 = .ok (.getfield 63, 3) := by decide +kernel
theorem dX4_end_4 : decode cX4_end 4 = .ok (.istore_n 1, 1) := by decide +kernel
theorem dX4_end_5 : decode cX4_end 5 = .ok (.aload_n 0, 1) := by decide +kernel
theorem dX4_end_6 : decode cX4_end 6 = .ok (.iconst 0, 1) := by decide +kernel
theorem dX4_end_7 : decode cX4_end 7 = .ok (.putfield 63, 3) := by decide +kernel
theorem dX4_end_10 : decode cX4_end 10 = .ok (.aload_n 0, 1) := by decide +kernel
theorem dX4_end_11 : decode cX4_end 11 = .ok (.getfield 37, 3) := by decide +kernel
theorem dX4_end_14 : decode cX4_end 14 = .ok (.invokevirtual 114, 3) := by decide +kernel
theorem dX4_end_17 : decode cX4_end 17 = .ok (.aload_n 0, 1) := by decide +kernel
theorem dX4_end_18 : decode cX4_end 18 = .ok (.getfield 27, 3) := by decide +kernel
theorem dX4_end_21 : decode cX4_end 21 = .ok (.sipush 255, 3) := by decide +kernel
theorem dX4_end_24 : decode cX4_end 24 = .ok (.invokestatic 66, 3) := by decide +kernel
theorem dX4_end_27 : decode cX4_end 27 = .ok (.iload_n 1, 1) := by decide +kernel
theorem dX4_end_28 : decode cX4_end 28 = .ok (.ireturn, 1) := by decide +kernel
set_option maxRecDepth 20000 in
theorem ggX4_point_X4_needPoint : GoodIn wsX4_point wsX4_needPoint := goodIn_r _ [8, 3, 2, 9, 10, 11, 17, 18, 19, 20, 21, 22, 23, 24, 25, 26, 27, 28, 29, 30, 31, 32, 33, 34] (by decide +kernel) (by decide +kernel)
set_option maxRecDepth 20000 in
theorem gX4_point_X4_needPoint : GoodIn wsX4_point (wsV RX4 121 RX4 yX4_needPoint wsX4_needPoint) := goodIn_app (goodIn_of _ (by decide +kernel)) ggX4_point_X4_needPoint
set_option maxRecDepth 20000 in
theorem ggX4_point_X4_needPlane : GoodIn wsX4_point wsX4_needPlane := goodIn_r _ [15, 16, 9, 10, 11, 17, 18, 19, 20, 21, 22, 23, 24, 25, 26, 27, 28, 29, 30, 31, 32, 33, 34] (by decide +kernel) (by decide +kernel)
set_option maxRecDepth 20000 in
theorem gX4_point_X4_needPlane : GoodIn wsX4_point (wsV RX4 103 RX4 yX4_needPlane wsX4_needPlane) := goodIn_app (goodIn_of _ (by decide +kernel)) ggX4_point_X4_needPlane
theorem dX4_point_0 : decode cX4_point 0 = .ok (.aload_n 0, 1) := by decide +kernel
theorem dX4_point_1 : decode cX4_point 1 = .ok (.iload_n 1, 1) := by decide +kernel
theorem dX4_point_2 : decode cX4_point 2 = .ok (.iload_n 2, 1) := by decide +kernel
theorem dX4_point_3 : decode cX4_point 3 = .ok (.invokevirtual 121, 3) := by decide +kernel
theorem dX4_point_6 : decode cX4_point 6 = .ok (.aload_n 0, 1) := by decide +kernel
theorem dX4_point_7 : decode cX4_point 7 = .ok (.iload_n 3, 1) := by decide +kernel
theorem dX4_point_8 : decode cX4_point 8 = .ok (.invokevirtual 103, 3) := by decide +kernel
theorem dX4_point_11 : decode cX4_point 11 = .ok (.aload_n 0, 1) := by decide +kernel
theorem dX4_point_12 : decode cX4_point 12 = .ok (.getfield 23, 3) := by decide +kernel
theorem dX4_point_15 : decode cX4_point 15 = .ok (.iload_n 3, 1) := by decide +kernel
theorem dX4_point_16 : decode cX4_point 16 = .ok (.aload_n 0, 1) := by decide +kernel
theorem dX4_point_17 : decode cX4_point 17 = .ok (.getfield 17, 3) := by decide +kernel
theorem dX4_point_20 : decode cX4_point 20 = .ok (.imul, 1) := by decide +kernel
theorem dX4_point_21 : decode cX4_point 21 = .ok (.iload_n 2, 1) := by decide +kernel
theorem dX4_point_22 : decode cX4_point 22 = .ok (.iadd, 1) := by decide +kernel
theorem dX4_point_23 : decode cX4_point 23 = .ok (.aload_n 0, 1) := by decide +kernel
theorem dX4_point_24 : decode cX4_point 24 = .ok (.getfield 13, 3) := by decide +kernel
theorem dX4_point_27 : decode cX4_point 27 = .ok (.imul, 1) := by decide +kernel
theorem dX4_point_28 : decode cX4_point 28 = .ok (.iload_n 1, 1) := by decide +kernel
theorem dX4_point_29 : decode cX4_point 29 = .ok (.iadd, 1) := by decide +kernel
theorem dX4_point_30 : decode cX4_point 30 = .ok (.iaload, 1) := by decide +kernel
theorem dX4_point_31 : decode cX4_point 31 = .ok (.ireturn, 1) := by decide +kernel
set_option maxRecDepth 20000 in
theorem ggX4_cover_X4_needPoint : GoodIn wsX4_cover wsX4_needPoint := goodIn_r _ [7, 8, 9, 10, 11, 12, 60, 61, 62, 63, 64, 65, 66, 67, 68, 69, 70, 71, 72, 73, 74, 75, 76, 77] (by decide +kernel) (by decide +kernel)
set_option maxRecDepth 20000 in
theorem gX4_cover_X4_needPoint : GoodIn wsX4_cover (wsV RX4 121 RX4 yX4_needPoint wsX4_needPoint) := goodIn_app (goodIn_of _ (by decide +kernel)) ggX4_cover_X4_needPoint
set_option maxRecDepth 20000 in
theorem ggX4_cover_X3_measure : GoodIn wsX4_cover wsX3_measure := goodIn_ca (goodIn_r _ [16, 17, 18, 19, 20, 21, 22, 23, 24, 25, 26, 27, 28, 29, 30, 31, 32, 33, 34, 35, 36, 37, 38, 39, 40, 41, 42, 43, 44, 14, 45, 46, 47, 48, 49, 50, 51, 52, 53, 54, 55, 56, 78, 79, 80, 81, 82, 83, 84, 85, 86] (by decide +kernel) (by decide +kernel)) (goodIn_sub (fun _ h => List.mem_cons_of_mem _ (List.mem_append_right _ h)) (by decide +kernel))
set_option maxRecDepth 20000 in
theorem gX4_cover_X3_measure_n106 : GoodIn wsX4_cover (wsX3_measure) := ggX4_cover_X3_measure
set_option maxRecDepth 20000 in
theorem ggX4_cover_X3_at : GoodIn wsX4_cover wsX3_at := goodIn_ca (goodIn_r _ [59, 17, 78, 79] (by decide +kernel) (by decide +kernel)) (goodIn_sub (fun _ h => List.mem_cons_of_mem _ (List.mem_append_right _ h)) (by decide +kernel))
set_option maxRecDepth 20000 in
theorem gX4_cover_X3_at_n124 : GoodIn wsX4_cover (wsX3_at) := ggX4_cover_X3_at
theorem dX4_cover_0 : decode cX4_cover 0 = .ok (.aload_n 0, 1) := by decide +kernel
theorem dX4_cover_1 : decode cX4_cover 1 = .ok (.iload_n 1, 1) := by decide +kernel
theorem dX4_cover_2 : decode cX4_cover 2 = .ok (.iload_n 2, 1) := by decide +kernel
theorem dX4_cover_3 : decode cX4_cover 3 = .ok (.invokevirtual 121, 3) := by decide +kernel
theorem dX4_cover_6 : decode cX4_cover 6 = .ok (.aload_n 0, 1) := by decide +kernel
theorem dX4_cover_7 : decode cX4_cover 7 = .ok (.getfield 46, 3) := by decide +kernel
theorem dX4_cover_10 : decode cX4_cover 10 = .ok (.aload_n 0, 1) := by decide +kernel
theorem dX4_cover_11 : decode cX4_cover 11 = .ok (.getfield 37, 3) := by decide +kernel
theorem dX4_cover_14 : decode cX4_cover 14 = .ok (.iload_n 2, 1) := by decide +kernel
theorem dX4_cover_15 : decode cX4_cover 15 = .ok (.iconst 0, 1) := by decide +kernel
theorem dX4_cover_16 : decode cX4_cover 16 = .ok (.invokevirtual 106, 3) := by decide +kernel
theorem dX4_cover_19 : decode cX4_cover 19 = .ok (.aload_n 0, 1) := by decide +kernel
theorem dX4_cover_20 : decode cX4_cover 20 = .ok (.getfield 46, 3) := by decide +kernel
theorem dX4_cover_23 : decode cX4_cover 23 = .ok (.iload_n 1, 1) := by decide +kernel
theorem dX4_cover_24 : decode cX4_cover 24 = .ok (.invokevirtual 124, 3) := by decide +kernel
theorem dX4_cover_27 : decode cX4_cover 27 = .ok (.ireturn, 1) := by decide +kernel
set_option maxRecDepth 20000 in
theorem ggX4_band_X4_cut : GoodIn wsX4_band wsX4_cut := goodIn_r _ [11, 12, 13, 5, 14, 3, 4, 6] (by decide +kernel) (by decide +kernel)
set_option maxRecDepth 20000 in
theorem gX4_band_X4_cut : GoodIn wsX4_band (va_wsS RX4 9 yX4_cut wsX4_cut) := goodIn_app (goodIn_of _ (by decide +kernel)) ggX4_band_X4_cut
theorem dX4_band_0 : decode cX4_band 0 = .ok (.aload_n 0, 1) := by decide +kernel
theorem dX4_band_1 : decode cX4_band 1 = .ok (.iload_n 1, 1) := by decide +kernel
theorem dX4_band_2 : decode cX4_band 2 = .ok (.aload_n 0, 1) := by decide +kernel
theorem dX4_band_3 : decode cX4_band 3 = .ok (.getfield 17, 3) := by decide +kernel
theorem dX4_band_6 : decode cX4_band 6 = .ok (.invokestatic 9, 3) := by decide +kernel
theorem dX4_band_9 : decode cX4_band 9 = .ok (.putfield 57, 3) := by decide +kernel
theorem dX4_band_12 : decode cX4_band 12 = .ok (.aload_n 0, 1) := by decide +kernel
theorem dX4_band_13 : decode cX4_band 13 = .ok (.aload_n 0, 1) := by decide +kernel
theorem dX4_band_14 : decode cX4_band 14 = .ok (.getfield 57, 3) := by decide +kernel
theorem dX4_band_17 : decode cX4_band 17 = .ok (.iload_n 2, 1) := by decide +kernel
theorem dX4_band_18 : decode cX4_band 18 = .ok (.aload_n 0, 1) := by decide +kernel
theorem dX4_band_19 : decode cX4_band 19 = .ok (.getfield 17, 3) := by decide +kernel
theorem dX4_band_22 : decode cX4_band 22 = .ok (.invokestatic 9, 3) := by decide +kernel
theorem dX4_band_25 : decode cX4_band 25 = .ok (.invokestatic 127, 3) := by decide +kernel
theorem dX4_band_28 : decode cX4_band 28 = .ok (.putfield 60, 3) := by decide +kernel
theorem dX4_band_31 : decode cX4_band 31 = .ok (.aload_n 0, 1) := by decide +kernel
theorem dX4_band_32 : decode cX4_band 32 = .ok (.getfield 60, 3) := by decide +kernel
theorem dX4_band_35 : decode cX4_band 35 = .ok (.aload_n 0, 1) := by decide +kernel
theorem dX4_band_36 : decode cX4_band 36 = .ok (.getfield 57, 3) := by decide +kernel
theorem dX4_band_39 : decode cX4_band 39 = .ok (.isub, 1) := by decide +kernel
theorem dX4_band_40 : decode cX4_band 40 = .ok (.ireturn, 1) := by decide +kernel
theorem dX4_same_0 : decode cX4_same 0 = .ok (.iload_n 1, 1) := by decide +kernel
theorem dX4_same_1 : decode cX4_same 1 = .ok (.iconst 1, 1) := by decide +kernel
theorem dX4_same_2 : decode cX4_same 2 = .ok (.if_icmp .lt 15, 3) := by decide +kernel
theorem dX4_same_5 : decode cX4_same 5 = .ok (.iload_n 1, 1) := by decide +kernel
theorem dX4_same_6 : decode cX4_same 6 = .ok (.aload_n 0, 1) := by decide +kernel
theorem dX4_same_7 : decode cX4_same 7 = .ok (.getfield 17, 3) := by decide +kernel
theorem dX4_same_10 : decode cX4_same 10 = .ok (.if_icmp .gt 7, 3) := by decide +kernel
theorem dX4_same_13 : decode cX4_same 13 = .ok (.iconst 1, 1) := by decide +kernel
theorem dX4_same_14 : decode cX4_same 14 = .ok (.goto 4, 3) := by decide +kernel
theorem dX4_same_17 : decode cX4_same 17 = .ok (.iconst 0, 1) := by decide +kernel
theorem dX4_same_18 : decode cX4_same 18 = .ok (.ireturn, 1) := by decide +kernel
set_option maxRecDepth 20000 in
theorem ggX4_packed_X1_pack : GoodIn wsX4_packed wsX1_pack := goodIn_ca (goodIn_r _ [12, 13, 14, 15, 16, 17, 10, 18, 31, 32] (by decide +kernel) (by decide +kernel)) (goodIn_sub (fun _ h => List.mem_cons_of_mem _ (List.mem_append_right _ h)) (by decide +kernel))
set_option maxRecDepth 20000 in
theorem gX4_packed_X1_pack_n132 : GoodIn wsX4_packed (wsX1_pack) := ggX4_packed_X1_pack
theorem dX4_packed_0 : decode cX4_packed 0 = .ok (.iload_n 1, 1) := by decide +kernel
theorem dX4_packed_1 : decode cX4_packed 1 = .ok (.istore_n 2, 1) := by decide +kernel
theorem dX4_packed_2 : decode cX4_packed 2 = .ok (.iconst 0, 1) := by decide +kernel
theorem dX4_packed_3 : decode cX4_packed 3 = .ok (.istore_n 3, 1) := by decide +kernel
theorem dX4_packed_4 : decode cX4_packed 4 = .ok (.iload_n 3, 1) := by decide +kernel
theorem dX4_packed_5 : decode cX4_packed 5 = .ok (.aload_n 0, 1) := by decide +kernel
theorem dX4_packed_6 : decode cX4_packed 6 = .ok (.getfield 20, 3) := by decide +kernel
theorem dX4_packed_9 : decode cX4_packed 9 = .ok (.aload_n 0, 1) := by decide +kernel
theorem dX4_packed_10 : decode cX4_packed 10 = .ok (.getfield 17, 3) := by decide +kernel
theorem dX4_packed_13 : decode cX4_packed 13 = .ok (.imul, 1) := by decide +kernel
theorem dX4_packed_14 : decode cX4_packed 14 = .ok (.if_icmp .ge 69, 3) := by decide +kernel
theorem dX4_packed_17 : decode cX4_packed 17 = .ok (.iload_n 2, 1) := by decide +kernel
theorem dX4_packed_18 : decode cX4_packed 18 = .ok (.ifCond .lt 65, 3) := by decide +kernel
theorem dX4_packed_21 : decode cX4_packed 21 = .ok (.aload_n 0, 1) := by decide +kernel
theorem dX4_packed_22 : decode cX4_packed 22 = .ok (.getfield 53, 3) := by decide +kernel
theorem dX4_packed_25 : decode cX4_packed 25 = .ok (.aload_n 0, 1) := by decide +kernel
theorem dX4_packed_26 : decode cX4_packed 26 = .ok (.getfield 23, 3) := by decide +kernel
theorem dX4_packed_29 : decode cX4_packed 29 = .ok (.iload_n 3, 1) := by decide +kernel
theorem dX4_packed_30 : decode cX4_packed 30 = .ok (.aload_n 0, 1) := by decide +kernel
theorem dX4_packed_31 : decode cX4_packed 31 = .ok (.getfield 13, 3) := by decide +kernel
theorem dX4_packed_34 : decode cX4_packed 34 = .ok (.imul, 1) := by decide +kernel
theorem dX4_packed_35 : decode cX4_packed 35 = .ok (.iload_n 3, 1) := by decide +kernel
theorem dX4_packed_36 : decode cX4_packed 36 = .ok (.iconst 1, 1) := by decide +kernel
theorem dX4_packed_37 : decode cX4_packed 37 = .ok (.iadd, 1) := by decide +kernel
theorem dX4_packed_38 : decode cX4_packed 38 = .ok (.aload_n 0, 1) := by decide +kernel
theorem dX4_packed_39 : decode cX4_packed 39 = .ok (.getfield 13, 3) := by decide +kernel
theorem dX4_packed_42 : decode cX4_packed 42 = .ok (.imul, 1) := by decide +kernel
theorem dX4_packed_43 : decode cX4_packed 43 = .ok (.invokevirtual 132, 3) := by decide +kernel
theorem dX4_packed_46 : decode cX4_packed 46 = .ok (.iload_n 2, 1) := by decide +kernel
theorem dX4_packed_47 : decode cX4_packed 47 = .ok (.aload_n 0, 1) := by decide +kernel
theorem dX4_packed_48 : decode cX4_packed 48 = .ok (.getfield 53, 3) := by decide +kernel
theorem dX4_packed_51 : decode cX4_packed 51 = .ok (.getfield 136, 3) := by decide +kernel
theorem dX4_packed_54 : decode cX4_packed 54 = .ok (.if_icmp .ge 13, 3) := by decide +kernel
theorem dX4_packed_57 : decode cX4_packed 57 = .ok (.aload_n 0, 1) := by decide +kernel
theorem dX4_packed_58 : decode cX4_packed 58 = .ok (.getfield 53, 3) := by decide +kernel
theorem dX4_packed_61 : decode cX4_packed 61 = .ok (.getfield 139, 3) := by decide +kernel
theorem dX4_packed_64 : decode cX4_packed 64 = .ok (.iload_n 2, 1) := by decide +kernel
theorem dX4_packed_65 : decode cX4_packed 65 = .ok (.baload, 1) := by decide +kernel
theorem dX4_packed_66 : decode cX4_packed 66 = .ok (.ireturn, 1) := by decide +kernel
theorem dX4_packed_67 : decode cX4_packed 67 = .ok (.iload_n 2, 1) := by decide +kernel
theorem dX4_packed_68 : decode cX4_packed 68 = .ok (.aload_n 0, 1) := by decide +kernel
theorem dX4_packed_69 : decode cX4_packed 69 = .ok (.getfield 53, 3) := by decide +kernel
theorem dX4_packed_72 : decode cX4_packed 72 = .ok (.getfield 136, 3) := by decide +kernel
theorem dX4_packed_75 : decode cX4_packed 75 = .ok (.isub, 1) := by decide +kernel
theorem dX4_packed_76 : decode cX4_packed 76 = .ok (.istore_n 2, 1) := by decide +kernel
theorem dX4_packed_77 : decode cX4_packed 77 = .ok (.iinc 3 1, 3) := by decide +kernel
theorem dX4_packed_80 : decode cX4_packed 80 = .ok (.goto (-76), 3) := by decide +kernel
theorem dX4_packed_83 : decode cX4_packed 83 = .ok (.new 143, 3) := by decide +kernel
theorem dX4_packed_86 : decode cX4_packed 86 = .ok (.dup, 1) := by decide +kernel
theorem dX4_packed_87 : decode cX4_packed 87 = .ok (.ldc 145, 2) := by decide +kernel
theorem dX4_packed_89 : decode cX4_packed 89 = .ok (.invokespecial 147, 3) := by decide +kernel
theorem dX4_packed_92 : decode cX4_packed 92 = .ok (.athrow, 1) := by decide +kernel
set_option maxRecDepth 20000 in
theorem ggX4_over_X4_needPlane : GoodIn wsX4_over wsX4_needPlane := goodIn_r _ [6, 7, 8, 9, 10, 11, 12, 13, 14, 15, 16, 17, 18, 19, 20, 21, 22, 23, 24, 25, 26, 27, 28] (by decide +kernel) (by decide +kernel)
set_option maxRecDepth 20000 in
theorem gX4_over_X4_needPlane : GoodIn wsX4_over (wsV RX4 103 RX4 yX4_needPlane wsX4_needPlane) := goodIn_app (goodIn_of _ (by decide +kernel)) ggX4_over_X4_needPlane
theorem dX4_over_0 : decode cX4_over 0 = .ok (.aload_n 0, 1) := by decide +kernel
theorem dX4_over_1 : decode cX4_over 1 = .ok (.iload_n 1, 1) := by decide +kernel
theorem dX4_over_2 : decode cX4_over 2 = .ok (.invokevirtual 103, 3) := by decide +kernel
theorem dX4_over_5 : decode cX4_over 5 = .ok (.aload_n 0, 1) := by decide +kernel
theorem dX4_over_6 : decode cX4_over 6 = .ok (.getfield 30, 3) := by decide +kernel
theorem dX4_over_9 : decode cX4_over 9 = .ok (.iload_n 1, 1) := by decide +kernel
theorem dX4_over_10 : decode cX4_over 10 = .ok (.baload, 1) := by decide +kernel
theorem dX4_over_11 : decode cX4_over 11 = .ok (.ifCond .eq 7, 3) := by decide +kernel
theorem dX4_over_14 : decode cX4_over 14 = .ok (.iconst 1, 1) := by decide +kernel
theorem dX4_over_15 : decode cX4_over 15 = .ok (.goto 4, 3) := by decide +kernel
theorem dX4_over_18 : decode cX4_over 18 = .ok (.iconst 0, 1) := by decide +kernel
theorem dX4_over_19 : decode cX4_over 19 = .ok (.istore_n 3, 1) := by decide +kernel
theorem dX4_over_20 : decode cX4_over 20 = .ok (.aload_n 0, 1) := by decide +kernel
theorem dX4_over_21 : decode cX4_over 21 = .ok (.getfield 30, 3) := by decide +kernel
theorem dX4_over_24 : decode cX4_over 24 = .ok (.iload_n 1, 1) := by decide +kernel
theorem dX4_over_25 : decode cX4_over 25 = .ok (.iload_n 2, 1) := by decide +kernel
theorem dX4_over_26 : decode cX4_over 26 = .ok (.bastore, 1) := by decide +kernel
theorem dX4_over_27 : decode cX4_over 27 = .ok (.iload_n 3, 1) := by decide +kernel
theorem dX4_over_28 : decode cX4_over 28 = .ok (.ireturn, 1) := by decide +kernel
theorem dX4_needRoom_0 : decode cX4_needRoom 0 = .ok (.aload_n 0, 1) := by decide +kernel
theorem dX4_needRoom_1 : decode cX4_needRoom 1 = .ok (.getfield 37, 3) := by decide +kernel
theorem dX4_needRoom_4 : decode cX4_needRoom 4 = .ok (.getfield 83, 3) := by decide +kernel
theorem dX4_needRoom_7 : decode cX4_needRoom 7 = .ok (.iload_n 1, 1) := by decide +kernel
theorem dX4_needRoom_8 : decode cX4_needRoom 8 = .ok (.iadd, 1) := by decide +kernel
theorem dX4_needRoom_9 : decode cX4_needRoom 9 = .ok (.bipush 100, 2) := by decide +kernel
theorem dX4_needRoom_11 : decode cX4_needRoom 11 = .ok (.if_icmp .le 13, 3) := by decide +kernel
theorem dX4_needRoom_14 : decode cX4_needRoom 14 = .ok (.new 148, 3) := by decide +kernel
theorem dX4_needRoom_17 : decode cX4_needRoom 17 = .ok (.dup, 1) := by decide +kernel
theorem dX4_needRoom_18 : decode cX4_needRoom 18 = .ok (.ldc 150, 2) := by decide +kernel
theorem dX4_needRoom_20 : decode cX4_needRoom 20 = .ok (.invokespecial 152, 3) := by decide +kernel
theorem dX4_needRoom_23 : decode cX4_needRoom 23 = .ok (.athrow, 1) := by decide +kernel
theorem dX4_needRoom_24 : decode cX4_needRoom 24 = .ok (.return_, 1) := by decide +kernel
theorem dX4_needRule_0 : decode cX4_needRule 0 = .ok (.iload_n 0, 1) := by decide +kernel
theorem dX4_needRule_1 : decode cX4_needRule 1 = .ok (.ifCond .eq 18, 3) := by decide +kernel
theorem dX4_needRule_4 : decode cX4_needRule 4 = .ok (.iload_n 0, 1) := by decide +kernel
theorem dX4_needRule_5 : decode cX4_needRule 5 = .ok (.iconst 1, 1) := by decide +kernel
theorem dX4_needRule_6 : decode cX4_needRule 6 = .ok (.if_icmp .eq 13, 3) := by decide +kernel
theorem dX4_needRule_9 : decode cX4_needRule 9 = .ok (.new 153, 3) := by decide +kernel
theorem dX4_needRule_12 : decode cX4_needRule 12 = .ok (.dup, 1) := by decide +kernel
theorem dX4_needRule_13 : decode cX4_needRule 13 = .ok (.ldc 155, 2) := by decide +kernel
theorem dX4_needRule_15 : decode cX4_needRule 15 = .ok (.invokespecial 157, 3) := by decide +kernel
theorem dX4_needRule_18 : decode cX4_needRule 18 = .ok (.athrow, 1) := by decide +kernel
theorem dX4_needRule_19 : decode cX4_needRule 19 = .ok (.return_, 1) := by decide +kernel
theorem dX4_needPlane_0 : decode cX4_needPlane 0 = .ok (.iload_n 1, 1) := by decide +kernel
theorem dX4_needPlane_1 : decode cX4_needPlane 1 = .ok (.ifCond .lt 11, 3) := by decide +kernel
theorem dX4_needPlane_4 : decode cX4_needPlane 4 = .ok (.iload_n 1, 1) := by decide +kernel
theorem dX4_needPlane_5 : decode cX4_needPlane 5 = .ok (.aload_n 0, 1) := by decide +kernel
theorem dX4_needPlane_6 : decode cX4_needPlane 6 = .ok (.getfield 20, 3) := by decide +kernel
theorem dX4_needPlane_9 : decode cX4_needPlane 9 = .ok (.if_icmp .lt 13, 3) := by decide +kernel
theorem dX4_needPlane_12 : decode cX4_needPlane 12 = .ok (.new 143, 3) := by decide +kernel
theorem dX4_needPlane_15 : decode cX4_needPlane 15 = .ok (.dup, 1) := by decide +kernel
theorem dX4_needPlane_16 : decode cX4_needPlane 16 = .ok (.ldc 158, 2) := by decide +kernel
theorem dX4_needPlane_18 : decode cX4_needPlane 18 = .ok (.invokespecial 147, 3) := by decide +kernel
theorem dX4_needPlane_21 : decode cX4_needPlane 21 = .ok (.athrow, 1) := by decide +kernel
theorem dX4_needPlane_22 : decode cX4_needPlane 22 = .ok (.return_, 1) := by decide +kernel
theorem dX4_needPoint_0 : decode cX4_needPoint 0 = .ok (.iload_n 1, 1) := by decide +kernel
theorem dX4_needPoint_1 : decode cX4_needPoint 1 = .ok (.ifCond .lt 23, 3) := by decide +kernel
theorem dX4_needPoint_4 : decode cX4_needPoint 4 = .ok (.iload_n 1, 1) := by decide +kernel
theorem dX4_needPoint_5 : decode cX4_needPoint 5 = .ok (.aload_n 0, 1) := by decide +kernel
theorem dX4_needPoint_6 : decode cX4_needPoint 6 = .ok (.getfield 13, 3) := by decide +kernel
theorem dX4_needPoint_9 : decode cX4_needPoint 9 = .ok (.if_icmp .ge 15, 3) := by decide +kernel
theorem dX4_needPoint_12 : decode cX4_needPoint 12 = .ok (.iload_n 2, 1) := by decide +kernel
theorem dX4_needPoint_13 : decode cX4_needPoint 13 = .ok (.ifCond .lt 11, 3) := by decide +kernel
theorem dX4_needPoint_16 : decode cX4_needPoint 16 = .ok (.iload_n 2, 1) := by decide +kernel
theorem dX4_needPoint_17 : decode cX4_needPoint 17 = .ok (.aload_n 0, 1) := by decide +kernel
theorem dX4_needPoint_18 : decode cX4_needPoint 18 = .ok (.getfield 17, 3) := by decide +kernel
theorem dX4_needPoint_21 : decode cX4_needPoint 21 = .ok (.if_icmp .lt 13, 3) := by decide +kernel
theorem dX4_needPoint_24 : decode cX4_needPoint 24 = .ok (.new 143, 3) := by decide +kernel
theorem dX4_needPoint_27 : decode cX4_needPoint 27 = .ok (.dup, 1) := by decide +kernel
theorem dX4_needPoint_28 : decode cX4_needPoint 28 = .ok (.ldc 160, 2) := by decide +kernel
theorem dX4_needPoint_30 : decode cX4_needPoint 30 = .ok (.invokespecial 147, 3) := by decide +kernel
theorem dX4_needPoint_33 : decode cX4_needPoint 33 = .ok (.athrow, 1) := by decide +kernel
theorem dX4_needPoint_34 : decode cX4_needPoint 34 = .ok (.return_, 1) := by decide +kernel
theorem dX4_cut_0 : decode cX4_cut 0 = .ok (.iconst 0, 1) := by decide +kernel
theorem dX4_cut_1 : decode cX4_cut 1 = .ok (.iload_n 1, 1) := by decide +kernel
theorem dX4_cut_2 : decode cX4_cut 2 = .ok (.iload_n 0, 1) := by decide +kernel
theorem dX4_cut_3 : decode cX4_cut 3 = .ok (.invokestatic 162, 3) := by decide +kernel
theorem dX4_cut_6 : decode cX4_cut 6 = .ok (.invokestatic 127, 3) := by decide +kernel
theorem dX4_cut_9 : decode cX4_cut 9 = .ok (.ireturn, 1) := by decide +kernel
theorem dX4_cutPlace_0 : decode cX4_cutPlace 0 = .ok (.ldc2_w 165, 3) := by decide +kernel
theorem dX4_cutPlace_3 : decode cX4_cutPlace 3 = .ok (.ldc2_w 167, 3) := by decide +kernel
theorem dX4_cutPlace_6 : decode cX4_cutPlace 6 = .ok (.lload_n 0, 1) := by decide +kernel
theorem dX4_cutPlace_7 : decode cX4_cutPlace 7 = .ok (.invokestatic 169, 3) := by decide +kernel
theorem dX4_cutPlace_10 : decode cX4_cutPlace 10 = .ok (.invokestatic 172, 3) := by decide +kernel
theorem dX4_cutPlace_13 : decode cX4_cutPlace 13 = .ok (.l2i, 1) := by decide +kernel
theorem dX4_cutPlace_14 : decode cX4_cutPlace 14 = .ok (.ireturn, 1) := by decide +kernel
theorem dX4_mul_0 : decode cX4_mul 0 = .ok (.iload_n 0, 1) := by decide +kernel
theorem dX4_mul_1 : decode cX4_mul 1 = .ok (.iload_n 1, 1) := by decide +kernel
theorem dX4_mul_2 : decode cX4_mul 2 = .ok (.imul, 1) := by decide +kernel
theorem dX4_mul_3 : decode cX4_mul 3 = .ok (.bipush 127, 2) := by decide +kernel
theorem dX4_mul_5 : decode cX4_mul 5 = .ok (.iadd, 1) := by decide +kernel
theorem dX4_mul_6 : decode cX4_mul 6 = .ok (.sipush 255, 3) := by decide +kernel
theorem dX4_mul_9 : decode cX4_mul 9 = .ok (.idiv, 1) := by decide +kernel
theorem dX4_mul_10 : decode cX4_mul 10 = .ok (.ireturn, 1) := by decide +kernel
theorem dX4_blend_0 : decode cX4_blend 0 = .ok (.iload_n 0, 1) := by decide +kernel
theorem dX4_blend_1 : decode cX4_blend 1 = .ok (.sipush 255, 3) := by decide +kernel
theorem dX4_blend_4 : decode cX4_blend 4 = .ok (.iload_n 2, 1) := by decide +kernel
theorem dX4_blend_5 : decode cX4_blend 5 = .ok (.isub, 1) := by decide +kernel
theorem dX4_blend_6 : decode cX4_blend 6 = .ok (.imul, 1) := by decide +kernel
theorem dX4_blend_7 : decode cX4_blend 7 = .ok (.iload_n 1, 1) := by decide +kernel
theorem dX4_blend_8 : decode cX4_blend 8 = .ok (.iload_n 2, 1) := by decide +kernel
theorem dX4_blend_9 : decode cX4_blend 9 = .ok (.imul, 1) := by decide +kernel
theorem dX4_blend_10 : decode cX4_blend 10 = .ok (.iadd, 1) := by decide +kernel
theorem dX4_blend_11 : decode cX4_blend 11 = .ok (.bipush 127, 2) := by decide +kernel
theorem dX4_blend_13 : decode cX4_blend 13 = .ok (.iadd, 1) := by decide +kernel
theorem dX4_blend_14 : decode cX4_blend 14 = .ok (.sipush 255, 3) := by decide +kernel
theorem dX4_blend_17 : decode cX4_blend 17 = .ok (.idiv, 1) := by decide +kernel
theorem dX4_blend_18 : decode cX4_blend 18 = .ok (.ireturn, 1) := by decide +kernel
set_option maxRecDepth 20000 in
theorem ggX4_addHair_X2_begin : GoodIn wsX4_addHair wsX2_begin := goodIn_ca (goodIn_r _ [9, 10, 11, 12, 7, 13, 14, 15, 16, 17, 33, 34, 35, 36] (by decide +kernel) (by decide +kernel)) (goodIn_sub (fun _ h => List.mem_cons_of_mem _ (List.mem_append_right _ h)) (by decide +kernel))
set_option maxRecDepth 20000 in
theorem gX4_addHair_X2_begin_n79 : GoodIn wsX4_addHair (wsX2_begin) := ggX4_addHair_X2_begin
set_option maxRecDepth 20000 in
theorem ggX4_addHair_X2_join : GoodIn wsX4_addHair wsX2_join := goodIn_ca (goodIn_r _ [20, 10, 11, 12, 7, 13, 14, 15, 16, 17, 33, 34, 35, 36] (by decide +kernel) (by decide +kernel)) (goodIn_sub (fun _ h => List.mem_cons_of_mem _ (List.mem_append_right _ h)) (by decide +kernel))
set_option maxRecDepth 20000 in
theorem gX4_addHair_X2_join_n93 : GoodIn wsX4_addHair (wsX2_join) := ggX4_addHair_X2_join
theorem dX4_addHair_0 : decode cX4_addHair 0 = .ok (.iload_n 1, 1) := by decide +kernel
theorem dX4_addHair_1 : decode cX4_addHair 1 = .ok (.iload_n 3, 1) := by decide +kernel
theorem dX4_addHair_2 : decode cX4_addHair 2 = .ok (.if_icmp .ne 78, 3) := by decide +kernel
theorem dX4_addHair_5 : decode cX4_addHair 5 = .ok (.iload_n 2, 1) := by decide +kernel
theorem dX4_addHair_6 : decode cX4_addHair 6 = .ok (.iload 4, 2) := by decide +kernel
theorem dX4_addHair_8 : decode cX4_addHair 8 = .ok (.if_icmp .ne 72, 3) := by decide +kernel
theorem dX4_addHair_11 : decode cX4_addHair 11 = .ok (.aload_n 0, 1) := by decide +kernel
theorem dX4_addHair_12 : decode cX4_addHair 12 = .ok (.getfield 37, 3) := by decide +kernel
theorem dX4_addHair_15 : decode cX4_addHair 15 = .ok (.iload_n 1, 1) := by decide +kernel
theorem dX4_addHair_16 : decode cX4_addHair 16 = .ok (.sipush 128, 3) := by decide +kernel
theorem dX4_addHair_19 : decode cX4_addHair 19 = .ok (.isub, 1) := by decide +kernel
theorem dX4_addHair_20 : decode cX4_addHair 20 = .ok (.iload_n 2, 1) := by decide +kernel
theorem dX4_addHair_21 : decode cX4_addHair 21 = .ok (.sipush 128, 3) := by decide +kernel
theorem dX4_addHair_24 : decode cX4_addHair 24 = .ok (.isub, 1) := by decide +kernel
theorem dX4_addHair_25 : decode cX4_addHair 25 = .ok (.invokevirtual 79, 3) := by decide +kernel
theorem dX4_addHair_28 : decode cX4_addHair 28 = .ok (.aload_n 0, 1) := by decide +kernel
theorem dX4_addHair_29 : decode cX4_addHair 29 = .ok (.getfield 37, 3) := by decide +kernel
theorem dX4_addHair_32 : decode cX4_addHair 32 = .ok (.iload_n 1, 1) := by decide +kernel
theorem dX4_addHair_33 : decode cX4_addHair 33 = .ok (.sipush 128, 3) := by decide +kernel
theorem dX4_addHair_36 : decode cX4_addHair 36 = .ok (.iadd, 1) := by decide +kernel
theorem dX4_addHair_37 : decode cX4_addHair 37 = .ok (.iload_n 2, 1) := by decide +kernel
theorem dX4_addHair_38 : decode cX4_addHair 38 = .ok (.sipush 128, 3) := by decide +kernel
theorem dX4_addHair_41 : decode cX4_addHair 41 = .ok (.isub, 1) := by decide +kernel
theorem dX4_addHair_42 : decode cX4_addHair 42 = .ok (.invokevirtual 93, 3) := by decide +kernel
theorem dX4_addHair_45 : decode cX4_addHair 45 = .ok (.aload_n 0, 1) := by decide +kernel
theorem dX4_addHair_46 : decode cX4_addHair 46 = .ok (.getfield 37, 3) := by decide +kernel
theorem dX4_addHair_49 : decode cX4_addHair 49 = .ok (.iload_n 1, 1) := by decide +kernel
theorem dX4_addHair_50 : decode cX4_addHair 50 = .ok (.sipush 128, 3) := by decide +kernel
theorem dX4_addHair_53 : decode cX4_addHair 53 = .ok (.iadd, 1) := by decide +kernel
theorem dX4_addHair_54 : decode cX4_addHair 54 = .ok (.iload_n 2, 1) := by decide +kernel
theorem dX4_addHair_55 : decode cX4_addHair 55 = .ok (.sipush 128, 3) := by decide +kernel
theorem dX4_addHair_58 : decode cX4_addHair 58 = .ok (.iadd, 1) := by decide +kernel
theorem dX4_addHair_59 : decode cX4_addHair 59 = .ok (.invokevirtual 93, 3) := by decide +kernel
theorem dX4_addHair_62 : decode cX4_addHair 62 = .ok (.aload_n 0, 1) := by decide +kernel
theorem dX4_addHair_63 : decode cX4_addHair 63 = .ok (.getfield 37, 3) := by decide +kernel
theorem dX4_addHair_66 : decode cX4_addHair 66 = .ok (.iload_n 1, 1) := by decide +kernel
theorem dX4_addHair_67 : decode cX4_addHair 67 = .ok (.sipush 128, 3) := by decide +kernel
theorem dX4_addHair_70 : decode cX4_addHair 70 = .ok (.isub, 1) := by decide +kernel
theorem dX4_addHair_71 : decode cX4_addHair 71 = .ok (.iload_n 2, 1) := by decide +kernel
theorem dX4_addHair_72 : decode cX4_addHair 72 = .ok (.sipush 128, 3) := by decide +kernel
theorem dX4_addHair_75 : decode cX4_addHair 75 = .ok (.iadd, 1) := by decide +kernel
theorem dX4_addHair_76 : decode cX4_addHair 76 = .ok (.invokevirtual 93, 3) := by decide +kernel
theorem dX4_addHair_79 : decode cX4_addHair 79 = .ok (.return_, 1) := by decide +kernel
theorem dX4_addHair_80 : decode cX4_addHair 80 = .ok (.iload_n 3, 1) := by decide +kernel
theorem dX4_addHair_81 : decode cX4_addHair 81 = .ok (.iload_n 1, 1) := by decide +kernel
theorem dX4_addHair_82 : decode cX4_addHair 82 = .ok (.isub, 1) := by decide +kernel
theorem dX4_addHair_83 : decode cX4_addHair 83 = .ok (.invokestatic 174, 3) := by decide +kernel
theorem dX4_addHair_86 : decode cX4_addHair 86 = .ok (.iload 4, 2) := by decide +kernel
theorem dX4_addHair_88 : decode cX4_addHair 88 = .ok (.iload_n 2, 1) := by decide +kernel
theorem dX4_addHair_89 : decode cX4_addHair 89 = .ok (.isub, 1) := by decide +kernel
theorem dX4_addHair_90 : decode cX4_addHair 90 = .ok (.invokestatic 174, 3) := by decide +kernel
theorem dX4_addHair_93 : decode cX4_addHair 93 = .ok (.if_icmp .lt 7, 3) := by decide +kernel
theorem dX4_addHair_96 : decode cX4_addHair 96 = .ok (.iconst 1, 1) := by decide +kernel
theorem dX4_addHair_97 : decode cX4_addHair 97 = .ok (.goto 4, 3) := by decide +kernel
theorem dX4_addHair_100 : decode cX4_addHair 100 = .ok (.iconst 0, 1) := by decide +kernel
theorem dX4_addHair_101 : decode cX4_addHair 101 = .ok (.istore 5, 2) := by decide +kernel
theorem dX4_addHair_103 : decode cX4_addHair 103 = .ok (.iload 5, 2) := by decide +kernel
theorem dX4_addHair_105 : decode cX4_addHair 105 = .ok (.ifCond .eq 7, 3) := by decide +kernel
theorem dX4_addHair_108 : decode cX4_addHair 108 = .ok (.iconst 0, 1) := by decide +kernel
theorem dX4_addHair_109 : decode cX4_addHair 109 = .ok (.goto 6, 3) := by decide +kernel
theorem dX4_addHair_112 : decode cX4_addHair 112 = .ok (.sipush 128, 3) := by decide +kernel
theorem dX4_addHair_115 : decode cX4_addHair 115 = .ok (.istore 6, 2) := by decide +kernel
theorem dX4_addHair_117 : decode cX4_addHair 117 = .ok (.iload 5, 2) := by decide +kernel
theorem dX4_addHair_119 : decode cX4_addHair 119 = .ok (.ifCond .eq 9, 3) := by decide +kernel
theorem dX4_addHair_122 : decode cX4_addHair 122 = .ok (.sipush 128, 3) := by decide +kernel
theorem dX4_addHair_125 : decode cX4_addHair 125 = .ok (.goto 4, 3) := by decide +kernel
theorem dX4_addHair_128 : decode cX4_addHair 128 = .ok (.iconst 0, 1) := by decide +kernel
theorem dX4_addHair_129 : decode cX4_addHair 129 = .ok (.istore 7, 2) := by decide +kernel
theorem dX4_addHair_131 : decode cX4_addHair 131 = .ok (.aload_n 0, 1) := by decide +kernel
theorem dX4_addHair_132 : decode cX4_addHair 132 = .ok (.getfield 37, 3) := by decide +kernel
theorem dX4_addHair_135 : decode cX4_addHair 135 = .ok (.iload_n 1, 1) := by decide +kernel
theorem dX4_addHair_136 : decode cX4_addHair 136 = .ok (.iload 6, 2) := by decide +kernel
theorem dX4_addHair_138 : decode cX4_addHair 138 = .ok (.isub, 1) := by decide +kernel
theorem dX4_addHair_139 : decode cX4_addHair 139 = .ok (.iload_n 2, 1) := by decide +kernel
theorem dX4_addHair_140 : decode cX4_addHair 140 = .ok (.iload 7, 2) := by decide +kernel
theorem dX4_addHair_142 : decode cX4_addHair 142 = .ok (.isub, 1) := by decide +kernel
theorem dX4_addHair_143 : decode cX4_addHair 143 = .ok (.invokevirtual 79, 3) := by decide +kernel
theorem dX4_addHair_146 : decode cX4_addHair 146 = .ok (.aload_n 0, 1) := by decide +kernel
theorem dX4_addHair_147 : decode cX4_addHair 147 = .ok (.getfield 37, 3) := by decide +kernel
theorem dX4_addHair_150 : decode cX4_addHair 150 = .ok (.iload_n 3, 1) := by decide +kernel
theorem dX4_addHair_151 : decode cX4_addHair 151 = .ok (.iload 6, 2) := by decide +kernel
theorem dX4_addHair_153 : decode cX4_addHair 153 = .ok (.isub, 1) := by decide +kernel
theorem dX4_addHair_154 : decode cX4_addHair 154 = .ok (.iload 4, 2) := by decide +kernel
theorem dX4_addHair_156 : decode cX4_addHair 156 = .ok (.iload 7, 2) := by decide +kernel
theorem dX4_addHair_158 : decode cX4_addHair 158 = .ok (.isub, 1) := by decide +kernel
theorem dX4_addHair_159 : decode cX4_addHair 159 = .ok (.invokevirtual 93, 3) := by decide +kernel
theorem dX4_addHair_162 : decode cX4_addHair 162 = .ok (.aload_n 0, 1) := by decide +kernel
theorem dX4_addHair_163 : decode cX4_addHair 163 = .ok (.getfield 37, 3) := by decide +kernel
theorem dX4_addHair_166 : decode cX4_addHair 166 = .ok (.iload_n 3, 1) := by decide +kernel
theorem dX4_addHair_167 : decode cX4_addHair 167 = .ok (.iload 6, 2) := by decide +kernel
theorem dX4_addHair_169 : decode cX4_addHair 169 = .ok (.iadd, 1) := by decide +kernel
theorem dX4_addHair_170 : decode cX4_addHair 170 = .ok (.iload 4, 2) := by decide +kernel
theorem dX4_addHair_172 : decode cX4_addHair 172 = .ok (.iload 7, 2) := by decide +kernel
theorem dX4_addHair_174 : decode cX4_addHair 174 = .ok (.iadd, 1) := by decide +kernel
theorem dX4_addHair_175 : decode cX4_addHair 175 = .ok (.invokevirtual 93, 3) := by decide +kernel
theorem dX4_addHair_178 : decode cX4_addHair 178 = .ok (.aload_n 0, 1) := by decide +kernel
theorem dX4_addHair_179 : decode cX4_addHair 179 = .ok (.getfield 37, 3) := by decide +kernel
theorem dX4_addHair_182 : decode cX4_addHair 182 = .ok (.iload_n 1, 1) := by decide +kernel
theorem dX4_addHair_183 : decode cX4_addHair 183 = .ok (.iload 6, 2) := by decide +kernel
theorem dX4_addHair_185 : decode cX4_addHair 185 = .ok (.iadd, 1) := by decide +kernel
theorem dX4_addHair_186 : decode cX4_addHair 186 = .ok (.iload_n 2, 1) := by decide +kernel
theorem dX4_addHair_187 : decode cX4_addHair 187 = .ok (.iload 7, 2) := by decide +kernel
theorem dX4_addHair_189 : decode cX4_addHair 189 = .ok (.iadd, 1) := by decide +kernel
theorem dX4_addHair_190 : decode cX4_addHair 190 = .ok (.invokevirtual 93, 3) := by decide +kernel
theorem dX4_addHair_193 : decode cX4_addHair 193 = .ok (.return_, 1) := by decide +kernel
set_option maxRecDepth 20000 in
theorem ggX4_paintRow_X3_at : GoodIn wsX4_paintRow wsX3_at := goodIn_ca (goodIn_r _ [7, 8, 36, 37] (by decide +kernel) (by decide +kernel)) (goodIn_sub (fun _ h => List.mem_cons_of_mem _ (List.mem_append_right _ h)) (by decide +kernel))
set_option maxRecDepth 20000 in
theorem gX4_paintRow_X3_at_n124 : GoodIn wsX4_paintRow (wsX3_at) := ggX4_paintRow_X3_at
set_option maxRecDepth 20000 in
theorem ggX4_paintRow_X4_mul : GoodIn wsX4_paintRow wsX4_mul := goodIn_r _ [12] (by decide +kernel) (by decide +kernel)
set_option maxRecDepth 20000 in
theorem gX4_paintRow_X4_mul : GoodIn wsX4_paintRow (va_wsS RX4 177 yX4_mul wsX4_mul) := goodIn_app (goodIn_of _ (by decide +kernel)) ggX4_paintRow_X4_mul
set_option maxRecDepth 20000 in
theorem ggX4_paintRow_X4_paintPoint : GoodIn wsX4_paintRow wsX4_paintPoint := goodIn_ca (goodIn_r _ [16, 17, 18, 1, 19, 20, 21, 22, 11, 23, 24, 25, 26, 27, 28, 29, 30, 31, 32, 33, 34, 35] (by decide +kernel) (by decide +kernel)) (goodIn_sub (fun _ h => List.mem_cons_of_mem _ (List.mem_append_right _ h)) (by decide +kernel))
set_option maxRecDepth 20000 in
theorem gX4_paintRow_X4_paintPoint : GoodIn wsX4_paintRow (wsV RX4 180 RX4 yX4_paintPoint wsX4_paintPoint) := goodIn_app (goodIn_of _ (by decide +kernel)) ggX4_paintRow_X4_paintPoint
theorem dX4_paintRow_0 : decode cX4_paintRow 0 = .ok (.iconst 0, 1) := by decide +kernel
theorem dX4_paintRow_1 : decode cX4_paintRow 1 = .ok (.istore 4, 2) := by decide +kernel
theorem dX4_paintRow_3 : decode cX4_paintRow 3 = .ok (.iconst 0, 1) := by decide +kernel
theorem dX4_paintRow_4 : decode cX4_paintRow 4 = .ok (.istore 5, 2) := by decide +kernel
theorem dX4_paintRow_6 : decode cX4_paintRow 6 = .ok (.iload 5, 2) := by decide +kernel
theorem dX4_paintRow_8 : decode cX4_paintRow 8 = .ok (.aload_n 0, 1) := by decide +kernel
theorem dX4_paintRow_9 : decode cX4_paintRow 9 = .ok (.getfield 13, 3) := by decide +kernel
theorem dX4_paintRow_12 : decode cX4_paintRow 12 = .ok (.if_icmp .ge 59, 3) := by decide +kernel
theorem dX4_paintRow_15 : decode cX4_paintRow 15 = .ok (.iload_n 1, 1) := by decide +kernel
theorem dX4_paintRow_16 : decode cX4_paintRow 16 = .ok (.aload_n 0, 1) := by decide +kernel
theorem dX4_paintRow_17 : decode cX4_paintRow 17 = .ok (.getfield 13, 3) := by decide +kernel
theorem dX4_paintRow_20 : decode cX4_paintRow 20 = .ok (.imul, 1) := by decide +kernel
theorem dX4_paintRow_21 : decode cX4_paintRow 21 = .ok (.iload 5, 2) := by decide +kernel
theorem dX4_paintRow_23 : decode cX4_paintRow 23 = .ok (.iadd, 1) := by decide +kernel
theorem dX4_paintRow_24 : decode cX4_paintRow 24 = .ok (.istore 6, 2) := by decide +kernel
theorem dX4_paintRow_26 : decode cX4_paintRow 26 = .ok (.aload_n 0, 1) := by decide +kernel
theorem dX4_paintRow_27 : decode cX4_paintRow 27 = .ok (.getfield 46, 3) := by decide +kernel
theorem dX4_paintRow_30 : decode cX4_paintRow 30 = .ok (.iload 5, 2) := by decide +kernel
theorem dX4_paintRow_32 : decode cX4_paintRow 32 = .ok (.invokevirtual 124, 3) := by decide +kernel
theorem dX4_paintRow_35 : decode cX4_paintRow 35 = .ok (.aload_n 0, 1) := by decide +kernel
theorem dX4_paintRow_36 : decode cX4_paintRow 36 = .ok (.getfield 27, 3) := by decide +kernel
theorem dX4_paintRow_39 : decode cX4_paintRow 39 = .ok (.iload 6, 2) := by decide +kernel
theorem dX4_paintRow_41 : decode cX4_paintRow 41 = .ok (.iaload, 1) := by decide +kernel
theorem dX4_paintRow_42 : decode cX4_paintRow 42 = .ok (.invokestatic 177, 3) := by decide +kernel
theorem dX4_paintRow_45 : decode cX4_paintRow 45 = .ok (.istore 7, 2) := by decide +kernel
theorem dX4_paintRow_47 : decode cX4_paintRow 47 = .ok (.iload 7, 2) := by decide +kernel
theorem dX4_paintRow_49 : decode cX4_paintRow 49 = .ok (.ifCond .le 16, 3) := by decide +kernel
theorem dX4_paintRow_52 : decode cX4_paintRow 52 = .ok (.aload_n 0, 1) := by decide +kernel
theorem dX4_paintRow_53 : decode cX4_paintRow 53 = .ok (.iload 6, 2) := by decide +kernel
theorem dX4_paintRow_55 : decode cX4_paintRow 55 = .ok (.iload_n 2, 1) := by decide +kernel
theorem dX4_paintRow_56 : decode cX4_paintRow 56 = .ok (.iload_n 3, 1) := by decide +kernel
theorem dX4_paintRow_57 : decode cX4_paintRow 57 = .ok (.iload 7, 2) := by decide +kernel
theorem dX4_paintRow_59 : decode cX4_paintRow 59 = .ok (.invokevirtual 180, 3) := by decide +kernel
theorem dX4_paintRow_62 : decode cX4_paintRow 62 = .ok (.iinc 4 1, 3) := by decide +kernel
theorem dX4_paintRow_65 : decode cX4_paintRow 65 = .ok (.iinc 5 1, 3) := by decide +kernel
theorem dX4_paintRow_68 : decode cX4_paintRow 68 = .ok (.goto (-62), 3) := by decide +kernel
theorem dX4_paintRow_71 : decode cX4_paintRow 71 = .ok (.iload 4, 2) := by decide +kernel
theorem dX4_paintRow_73 : decode cX4_paintRow 73 = .ok (.ireturn, 1) := by decide +kernel
set_option maxRecDepth 20000 in
theorem ggX4_paintPoint_X4_blend : GoodIn wsX4_paintPoint wsX4_blend := goodIn_r _ [9] (by decide +kernel) (by decide +kernel)
set_option maxRecDepth 20000 in
theorem gX4_paintPoint_X4_blend : GoodIn wsX4_paintPoint (va_wsS RX4 183 yX4_blend wsX4_blend) := goodIn_app (goodIn_of _ (by decide +kernel)) ggX4_paintPoint_X4_blend
theorem dX4_paintPoint_0 : decode cX4_paintPoint 0 = .ok (.iconst 0, 1) := by decide +kernel
theorem dX4_paintPoint_1 : decode cX4_paintPoint 1 = .ok (.istore 5, 2) := by decide +kernel
theorem dX4_paintPoint_3 : decode cX4_paintPoint 3 = .ok (.iload 5, 2) := by decide +kernel
theorem dX4_paintPoint_5 : decode cX4_paintPoint 5 = .ok (.aload_n 0, 1) := by decide +kernel
theorem dX4_paintPoint_6 : decode cX4_paintPoint 6 = .ok (.getfield 20, 3) := by decide +kernel
theorem dX4_paintPoint_9 : decode cX4_paintPoint 9 = .ok (.if_icmp .ge 84, 3) := by decide +kernel
theorem dX4_paintPoint_12 : decode cX4_paintPoint 12 = .ok (.iload 5, 2) := by decide +kernel
theorem dX4_paintPoint_14 : decode cX4_paintPoint 14 = .ok (.aload_n 0, 1) := by decide +kernel
theorem dX4_paintPoint_15 : decode cX4_paintPoint 15 = .ok (.getfield 17, 3) := by decide +kernel
theorem dX4_paintPoint_18 : decode cX4_paintPoint 18 = .ok (.imul, 1) := by decide +kernel
theorem dX4_paintPoint_19 : decode cX4_paintPoint 19 = .ok (.aload_n 0, 1) := by decide +kernel
theorem dX4_paintPoint_20 : decode cX4_paintPoint 20 = .ok (.getfield 13, 3) := by decide +kernel
theorem dX4_paintPoint_23 : decode cX4_paintPoint 23 = .ok (.imul, 1) := by decide +kernel
theorem dX4_paintPoint_24 : decode cX4_paintPoint 24 = .ok (.iload_n 1, 1) := by decide +kernel
theorem dX4_paintPoint_25 : decode cX4_paintPoint 25 = .ok (.iadd, 1) := by decide +kernel
theorem dX4_paintPoint_26 : decode cX4_paintPoint 26 = .ok (.istore 6, 2) := by decide +kernel
theorem dX4_paintPoint_28 : decode cX4_paintPoint 28 = .ok (.iload 5, 2) := by decide +kernel
theorem dX4_paintPoint_30 : decode cX4_paintPoint 30 = .ok (.iload_n 2, 1) := by decide +kernel
theorem dX4_paintPoint_31 : decode cX4_paintPoint 31 = .ok (.if_icmp .ne 26, 3) := by decide +kernel
theorem dX4_paintPoint_34 : decode cX4_paintPoint 34 = .ok (.aload_n 0, 1) := by decide +kernel
theorem dX4_paintPoint_35 : decode cX4_paintPoint 35 = .ok (.getfield 23, 3) := by decide +kernel
theorem dX4_paintPoint_38 : decode cX4_paintPoint 38 = .ok (.iload 6, 2) := by decide +kernel
theorem dX4_paintPoint_40 : decode cX4_paintPoint 40 = .ok (.aload_n 0, 1) := by decide +kernel
theorem dX4_paintPoint_41 : decode cX4_paintPoint 41 = .ok (.getfield 23, 3) := by decide +kernel
theorem dX4_paintPoint_44 : decode cX4_paintPoint 44 = .ok (.iload 6, 2) := by decide +kernel
theorem dX4_paintPoint_46 : decode cX4_paintPoint 46 = .ok (.iaload, 1) := by decide +kernel
theorem dX4_paintPoint_47 : decode cX4_paintPoint 47 = .ok (.iload_n 3, 1) := by decide +kernel
theorem dX4_paintPoint_48 : decode cX4_paintPoint 48 = .ok (.iload 4, 2) := by decide +kernel
theorem dX4_paintPoint_50 : decode cX4_paintPoint 50 = .ok (.invokestatic 183, 3) := by decide +kernel
theorem dX4_paintPoint_53 : decode cX4_paintPoint 53 = .ok (.iastore, 1) := by decide +kernel
theorem dX4_paintPoint_54 : decode cX4_paintPoint 54 = .ok (.goto 33, 3) := by decide +kernel
theorem dX4_paintPoint_57 : decode cX4_paintPoint 57 = .ok (.aload_n 0, 1) := by decide +kernel
theorem dX4_paintPoint_58 : decode cX4_paintPoint 58 = .ok (.getfield 30, 3) := by decide +kernel
theorem dX4_paintPoint_61 : decode cX4_paintPoint 61 = .ok (.iload 5, 2) := by decide +kernel
theorem dX4_paintPoint_63 : decode cX4_paintPoint 63 = .ok (.baload, 1) := by decide +kernel
theorem dX4_paintPoint_64 : decode cX4_paintPoint 64 = .ok (.ifCond .ne 23, 3) := by decide +kernel
theorem dX4_paintPoint_67 : decode cX4_paintPoint 67 = .ok (.aload_n 0, 1) := by decide +kernel
theorem dX4_paintPoint_68 : decode cX4_paintPoint 68 = .ok (.getfield 23, 3) := by decide +kernel
theorem dX4_paintPoint_71 : decode cX4_paintPoint 71 = .ok (.iload 6, 2) := by decide +kernel
theorem dX4_paintPoint_73 : decode cX4_paintPoint 73 = .ok (.aload_n 0, 1) := by decide +kernel
theorem dX4_paintPoint_74 : decode cX4_paintPoint 74 = .ok (.getfield 23, 3) := by decide +kernel
theorem dX4_paintPoint_77 : decode cX4_paintPoint 77 = .ok (.iload 6, 2) := by decide +kernel
theorem dX4_paintPoint_79 : decode cX4_paintPoint 79 = .ok (.iaload, 1) := by decide +kernel
theorem dX4_paintPoint_80 : decode cX4_paintPoint 80 = .ok (.iconst 0, 1) := by decide +kernel
theorem dX4_paintPoint_81 : decode cX4_paintPoint 81 = .ok (.iload 4, 2) := by decide +kernel
theorem dX4_paintPoint_83 : decode cX4_paintPoint 83 = .ok (.invokestatic 183, 3) := by decide +kernel
theorem dX4_paintPoint_86 : decode cX4_paintPoint 86 = .ok (.iastore, 1) := by decide +kernel
theorem dX4_paintPoint_87 : decode cX4_paintPoint 87 = .ok (.iinc 5 1, 3) := by decide +kernel
theorem dX4_paintPoint_90 : decode cX4_paintPoint 90 = .ok (.goto (-87), 3) := by decide +kernel
theorem dX4_paintPoint_93 : decode cX4_paintPoint 93 = .ok (.return_, 1) := by decide +kernel
set_option maxRecDepth 20000 in
theorem ggX4_clipRow_X3_at : GoodIn wsX4_clipRow wsX3_at := goodIn_ca (goodIn_r _ [7, 8, 25, 26] (by decide +kernel) (by decide +kernel)) (goodIn_sub (fun _ h => List.mem_cons_of_mem _ (List.mem_append_right _ h)) (by decide +kernel))
set_option maxRecDepth 20000 in
theorem gX4_clipRow_X3_at_n124 : GoodIn wsX4_clipRow (wsX3_at) := ggX4_clipRow_X3_at
set_option maxRecDepth 20000 in
theorem ggX4_clipRow_X4_mul : GoodIn wsX4_clipRow wsX4_mul := goodIn_r _ [12] (by decide +kernel) (by decide +kernel)
set_option maxRecDepth 20000 in
theorem gX4_clipRow_X4_mul : GoodIn wsX4_clipRow (va_wsS RX4 177 yX4_mul wsX4_mul) := goodIn_app (goodIn_of _ (by decide +kernel)) ggX4_clipRow_X4_mul
theorem dX4_clipRow_0 : decode cX4_clipRow 0 = .ok (.iconst 0, 1) := by decide +kernel
theorem dX4_clipRow_1 : decode cX4_clipRow 1 = .ok (.istore_n 2, 1) := by decide +kernel
theorem dX4_clipRow_2 : decode cX4_clipRow 2 = .ok (.iconst 0, 1) := by decide +kernel
theorem dX4_clipRow_3 : decode cX4_clipRow 3 = .ok (.istore_n 3, 1) := by decide +kernel
theorem dX4_clipRow_4 : decode cX4_clipRow 4 = .ok (.iload_n 3, 1) := by decide +kernel
theorem dX4_clipRow_5 : decode cX4_clipRow 5 = .ok (.aload_n 0, 1) := by decide +kernel
theorem dX4_clipRow_6 : decode cX4_clipRow 6 = .ok (.getfield 13, 3) := by decide +kernel
theorem dX4_clipRow_9 : decode cX4_clipRow 9 = .ok (.if_icmp .ge 57, 3) := by decide +kernel
theorem dX4_clipRow_12 : decode cX4_clipRow 12 = .ok (.iload_n 1, 1) := by decide +kernel
theorem dX4_clipRow_13 : decode cX4_clipRow 13 = .ok (.aload_n 0, 1) := by decide +kernel
theorem dX4_clipRow_14 : decode cX4_clipRow 14 = .ok (.getfield 13, 3) := by decide +kernel
theorem dX4_clipRow_17 : decode cX4_clipRow 17 = .ok (.imul, 1) := by decide +kernel
theorem dX4_clipRow_18 : decode cX4_clipRow 18 = .ok (.iload_n 3, 1) := by decide +kernel
theorem dX4_clipRow_19 : decode cX4_clipRow 19 = .ok (.iadd, 1) := by decide +kernel
theorem dX4_clipRow_20 : decode cX4_clipRow 20 = .ok (.istore 4, 2) := by decide +kernel
theorem dX4_clipRow_22 : decode cX4_clipRow 22 = .ok (.aload_n 0, 1) := by decide +kernel
theorem dX4_clipRow_23 : decode cX4_clipRow 23 = .ok (.getfield 27, 3) := by decide +kernel
theorem dX4_clipRow_26 : decode cX4_clipRow 26 = .ok (.iload 4, 2) := by decide +kernel
theorem dX4_clipRow_28 : decode cX4_clipRow 28 = .ok (.aload_n 0, 1) := by decide +kernel
theorem dX4_clipRow_29 : decode cX4_clipRow 29 = .ok (.getfield 27, 3) := by decide +kernel
theorem dX4_clipRow_32 : decode cX4_clipRow 32 = .ok (.iload 4, 2) := by decide +kernel
theorem dX4_clipRow_34 : decode cX4_clipRow 34 = .ok (.iaload, 1) := by decide +kernel
theorem dX4_clipRow_35 : decode cX4_clipRow 35 = .ok (.aload_n 0, 1) := by decide +kernel
theorem dX4_clipRow_36 : decode cX4_clipRow 36 = .ok (.getfield 46, 3) := by decide +kernel
theorem dX4_clipRow_39 : decode cX4_clipRow 39 = .ok (.iload_n 3, 1) := by decide +kernel
theorem dX4_clipRow_40 : decode cX4_clipRow 40 = .ok (.invokevirtual 124, 3) := by decide +kernel
theorem dX4_clipRow_43 : decode cX4_clipRow 43 = .ok (.invokestatic 177, 3) := by decide +kernel
theorem dX4_clipRow_46 : decode cX4_clipRow 46 = .ok (.iastore, 1) := by decide +kernel
theorem dX4_clipRow_47 : decode cX4_clipRow 47 = .ok (.aload_n 0, 1) := by decide +kernel
theorem dX4_clipRow_48 : decode cX4_clipRow 48 = .ok (.getfield 27, 3) := by decide +kernel
theorem dX4_clipRow_51 : decode cX4_clipRow 51 = .ok (.iload 4, 2) := by decide +kernel
theorem dX4_clipRow_53 : decode cX4_clipRow 53 = .ok (.iaload, 1) := by decide +kernel
theorem dX4_clipRow_54 : decode cX4_clipRow 54 = .ok (.ifCond .le 6, 3) := by decide +kernel
theorem dX4_clipRow_57 : decode cX4_clipRow 57 = .ok (.iinc 2 1, 3) := by decide +kernel
theorem dX4_clipRow_60 : decode cX4_clipRow 60 = .ok (.iinc 3 1, 3) := by decide +kernel
theorem dX4_clipRow_63 : decode cX4_clipRow 63 = .ok (.goto (-59), 3) := by decide +kernel
theorem dX4_clipRow_66 : decode cX4_clipRow 66 = .ok (.iload_n 2, 1) := by decide +kernel
theorem dX4_clipRow_67 : decode cX4_clipRow 67 = .ok (.ireturn, 1) := by decide +kernel
