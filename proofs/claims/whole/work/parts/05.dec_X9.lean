theorem dX9_init_0 : decode cX9_init 0 = .ok (.aload_n 0, 1) := by decide +kernel
theorem dX9_init_1 : decode cX9_init 1 = .ok (.invokespecial 1, 3) := by decide +kernel
theorem dX9_init_4 : decode cX9_init 4 = .ok (.aload_n 0, 1) := by decide +kernel
theorem dX9_init_5 : decode cX9_init 5 = .ok (.bipush 72, 2) := by decide +kernel
theorem dX9_init_7 : decode cX9_init 7 = .ok (.newarray .int, 2) := by decide +kernel
theorem dX9_init_9 : decode cX9_init 9 = .ok (.putfield 7, 3) := by decide +kernel
theorem dX9_init_12 : decode cX9_init 12 = .ok (.aload_n 0, 1) := by decide +kernel
theorem dX9_init_13 : decode cX9_init 13 = .ok (.bipush 72, 2) := by decide +kernel
theorem dX9_init_15 : decode cX9_init 15 = .ok (.newarray .int, 2) := by decide +kernel
theorem dX9_init_17 : decode cX9_init 17 = .ok (.putfield 13, 3) := by decide +kernel
theorem dX9_init_20 : decode cX9_init 20 = .ok (.aload_n 0, 1) := by decide +kernel
theorem dX9_init_21 : decode cX9_init 21 = .ok (.bipush 12, 2) := by decide +kernel
theorem dX9_init_23 : decode cX9_init 23 = .ok (.newarray .int, 2) := by decide +kernel
theorem dX9_init_25 : decode cX9_init 25 = .ok (.putfield 16, 3) := by decide +kernel
theorem dX9_init_28 : decode cX9_init 28 = .ok (.aload_n 0, 1) := by decide +kernel
theorem dX9_init_29 : decode cX9_init 29 = .ok (.bipush 12, 2) := by decide +kernel
theorem dX9_init_31 : decode cX9_init 31 = .ok (.newarray .int, 2) := by decide +kernel
theorem dX9_init_33 : decode cX9_init 33 = .ok (.putfield 19, 3) := by decide +kernel
theorem dX9_init_36 : decode cX9_init 36 = .ok (.aload_n 0, 1) := by decide +kernel
theorem dX9_init_37 : decode cX9_init 37 = .ok (.bipush 72, 2) := by decide +kernel
theorem dX9_init_39 : decode cX9_init 39 = .ok (.newarray .int, 2) := by decide +kernel
theorem dX9_init_41 : decode cX9_init 41 = .ok (.putfield 22, 3) := by decide +kernel
theorem dX9_init_44 : decode cX9_init 44 = .ok (.aload_n 0, 1) := by decide +kernel
theorem dX9_init_45 : decode cX9_init 45 = .ok (.sipush 169, 3) := by decide +kernel
theorem dX9_init_48 : decode cX9_init 48 = .ok (.newarray .long, 2) := by decide +kernel
theorem dX9_init_50 : decode cX9_init 50 = .ok (.putfield 25, 3) := by decide +kernel
theorem dX9_init_53 : decode cX9_init 53 = .ok (.aload_n 0, 1) := by decide +kernel
theorem dX9_init_54 : decode cX9_init 54 = .ok (.bipush 13, 2) := by decide +kernel
theorem dX9_init_56 : decode cX9_init 56 = .ok (.newarray .long, 2) := by decide +kernel
theorem dX9_init_58 : decode cX9_init 58 = .ok (.putfield 29, 3) := by decide +kernel
theorem dX9_init_61 : decode cX9_init 61 = .ok (.aload_n 0, 1) := by decide +kernel
theorem dX9_init_62 : decode cX9_init 62 = .ok (.bipush 12, 2) := by decide +kernel
theorem dX9_init_64 : decode cX9_init 64 = .ok (.newarray .int, 2) := by decide +kernel
theorem dX9_init_66 : decode cX9_init 66 = .ok (.putfield 32, 3) := by decide +kernel
theorem dX9_init_69 : decode cX9_init 69 = .ok (.aload_n 0, 1) := by decide +kernel
theorem dX9_init_70 : decode cX9_init 70 = .ok (.bipush 12, 2) := by decide +kernel
theorem dX9_init_72 : decode cX9_init 72 = .ok (.newarray .int, 2) := by decide +kernel
theorem dX9_init_74 : decode cX9_init 74 = .ok (.putfield 35, 3) := by decide +kernel
theorem dX9_init_77 : decode cX9_init 77 = .ok (.aload_n 0, 1) := by decide +kernel
theorem dX9_init_78 : decode cX9_init 78 = .ok (.bipush 10, 2) := by decide +kernel
theorem dX9_init_80 : decode cX9_init 80 = .ok (.newarray .int, 2) := by decide +kernel
theorem dX9_init_82 : decode cX9_init 82 = .ok (.putfield 38, 3) := by decide +kernel
theorem dX9_init_85 : decode cX9_init 85 = .ok (.aload_n 0, 1) := by decide +kernel
theorem dX9_init_86 : decode cX9_init 86 = .ok (.bipush 10, 2) := by decide +kernel
theorem dX9_init_88 : decode cX9_init 88 = .ok (.newarray .boolean, 2) := by decide +kernel
theorem dX9_init_90 : decode cX9_init 90 = .ok (.putfield 41, 3) := by decide +kernel
theorem dX9_init_93 : decode cX9_init 93 = .ok (.aload_n 0, 1) := by decide +kernel
theorem dX9_init_94 : decode cX9_init 94 = .ok (.iconst 2, 1) := by decide +kernel
theorem dX9_init_95 : decode cX9_init 95 = .ok (.newarray .boolean, 2) := by decide +kernel
theorem dX9_init_97 : decode cX9_init 97 = .ok (.putfield 45, 3) := by decide +kernel
theorem dX9_init_100 : decode cX9_init 100 = .ok (.aload_n 0, 1) := by decide +kernel
theorem dX9_init_101 : decode cX9_init 101 = .ok (.bipush 24, 2) := by decide +kernel
theorem dX9_init_103 : decode cX9_init 103 = .ok (.newarray .int, 2) := by decide +kernel
theorem dX9_init_105 : decode cX9_init 105 = .ok (.putfield 48, 3) := by decide +kernel
theorem dX9_init_108 : decode cX9_init 108 = .ok (.aload_n 0, 1) := by decide +kernel
theorem dX9_init_109 : decode cX9_init 109 = .ok (.bipush 24, 2) := by decide +kernel
theorem dX9_init_111 : decode cX9_init 111 = .ok (.newarray .int, 2) := by decide +kernel
theorem dX9_init_113 : decode cX9_init 113 = .ok (.putfield 51, 3) := by decide +kernel
theorem dX9_init_116 : decode cX9_init 116 = .ok (.aload_n 0, 1) := by decide +kernel
theorem dX9_init_117 : decode cX9_init 117 = .ok (.iconst 2, 1) := by decide +kernel
theorem dX9_init_118 : decode cX9_init 118 = .ok (.newarray .long, 2) := by decide +kernel
theorem dX9_init_120 : decode cX9_init 120 = .ok (.putfield 54, 3) := by decide +kernel
theorem dX9_init_123 : decode cX9_init 123 = .ok (.aload_n 0, 1) := by decide +kernel
theorem dX9_init_124 : decode cX9_init 124 = .ok (.bipush 6, 2) := by decide +kernel
theorem dX9_init_126 : decode cX9_init 126 = .ok (.newarray .int, 2) := by decide +kernel
theorem dX9_init_128 : decode cX9_init 128 = .ok (.putfield 57, 3) := by decide +kernel
theorem dX9_init_131 : decode cX9_init 131 = .ok (.aload_n 0, 1) := by decide +kernel
theorem dX9_init_132 : decode cX9_init 132 = .ok (.iconst 5, 1) := by decide +kernel
theorem dX9_init_133 : decode cX9_init 133 = .ok (.putfield 60, 3) := by decide +kernel
theorem dX9_init_136 : decode cX9_init 136 = .ok (.return_, 1) := by decide +kernel
theorem dX9_in_0 : decode cX9_in 0 = .ok (.lload_n 0, 1) := by decide +kernel
theorem dX9_in_1 : decode cX9_in 1 = .ok (.lload_n 2, 1) := by decide +kernel
theorem dX9_in_2 : decode cX9_in 2 = .ok (.lcmp, 1) := by decide +kernel
theorem dX9_in_3 : decode cX9_in 3 = .ok (.ifCond .lt 14, 3) := by decide +kernel
theorem dX9_in_6 : decode cX9_in 6 = .ok (.lload_n 0, 1) := by decide +kernel
theorem dX9_in_7 : decode cX9_in 7 = .ok (.lload 4, 2) := by decide +kernel
theorem dX9_in_9 : decode cX9_in 9 = .ok (.lcmp, 1) := by decide +kernel
theorem dX9_in_10 : decode cX9_in 10 = .ok (.ifCond .gt 7, 3) := by decide +kernel
theorem dX9_in_13 : decode cX9_in 13 = .ok (.iconst 1, 1) := by decide +kernel
theorem dX9_in_14 : decode cX9_in 14 = .ok (.goto 4, 3) := by decide +kernel
theorem dX9_in_17 : decode cX9_in 17 = .ok (.iconst 0, 1) := by decide +kernel
theorem dX9_in_18 : decode cX9_in 18 = .ok (.ireturn, 1) := by decide +kernel
theorem dX9_write_0 : decode cX9_write 0 = .ok (.iload_n 1, 1) := by decide +kernel
theorem dX9_write_1 : decode cX9_write 1 = .ok (.i2l, 1) := by decide +kernel
theorem dX9_write_2 : decode cX9_write 2 = .ok (.lconst 1, 1) := by decide +kernel
theorem dX9_write_3 : decode cX9_write 3 = .ok (.ldc2_w 64, 3) := by decide +kernel
theorem dX9_write_6 : decode cX9_write 6 = .ok (.invokestatic 66, 3) := by decide +kernel
theorem dX9_write_9 : decode cX9_write 9 = .ok (.ifCond .ne 6, 3) := by decide +kernel
theorem dX9_write_12 : decode cX9_write 12 = .ok (.bipush (-2), 2) := by decide +kernel
theorem dX9_write_14 : decode cX9_write 14 = .ok (.ireturn, 1) := by decide +kernel
theorem dX9_write_15 : decode cX9_write 15 = .ok (.aload_n 0, 1) := by decide +kernel
theorem dX9_write_16 : decode cX9_write 16 = .ok (.getfield 70, 3) := by decide +kernel
theorem dX9_write_19 : decode cX9_write 19 = .ok (.iload_n 1, 1) := by decide +kernel
theorem dX9_write_20 : decode cX9_write 20 = .ok (.iadd, 1) := by decide +kernel
theorem dX9_write_21 : decode cX9_write 21 = .ok (.bipush 72, 2) := by decide +kernel
theorem dX9_write_23 : decode cX9_write 23 = .ok (.if_icmp .le 6, 3) := by decide +kernel
theorem dX9_write_26 : decode cX9_write 26 = .ok (.bipush (-4), 2) := by decide +kernel
theorem dX9_write_28 : decode cX9_write 28 = .ok (.ireturn, 1) := by decide +kernel
theorem dX9_write_29 : decode cX9_write 29 = .ok (.iload_n 1, 1) := by decide +kernel
theorem dX9_write_30 : decode cX9_write 30 = .ok (.iconst 1, 1) := by decide +kernel
theorem dX9_write_31 : decode cX9_write 31 = .ok (.isub, 1) := by decide +kernel
theorem dX9_write_32 : decode cX9_write 32 = .ok (.istore 4, 2) := by decide +kernel
theorem dX9_write_34 : decode cX9_write 34 = .ok (.iload 4, 2) := by decide +kernel
theorem dX9_write_36 : decode cX9_write 36 = .ok (.ifCond .lt 40, 3) := by decide +kernel
theorem dX9_write_39 : decode cX9_write 39 = .ok (.aload_n 0, 1) := by decide +kernel
theorem dX9_write_40 : decode cX9_write 40 = .ok (.getfield 22, 3) := by decide +kernel
theorem dX9_write_43 : decode cX9_write 43 = .ok (.aload_n 0, 1) := by decide +kernel
theorem dX9_write_44 : decode cX9_write 44 = .ok (.getfield 70, 3) := by decide +kernel
theorem dX9_write_47 : decode cX9_write 47 = .ok (.lload_n 2, 1) := by decide +kernel
theorem dX9_write_48 : decode cX9_write 48 = .ok (.bipush 8, 2) := by decide +kernel
theorem dX9_write_50 : decode cX9_write 50 = .ok (.iload 4, 2) := by decide +kernel
theorem dX9_write_52 : decode cX9_write 52 = .ok (.imul, 1) := by decide +kernel
theorem dX9_write_53 : decode cX9_write 53 = .ok (.lshr, 1) := by decide +kernel
theorem dX9_write_54 : decode cX9_write 54 = .ok (.ldc2_w 73, 3) := by decide +kernel
theorem dX9_write_57 : decode cX9_write 57 = .ok (.land, 1) := by decide +kernel
theorem dX9_write_58 : decode cX9_write 58 = .ok (.l2i, 1) := by decide +kernel
theorem dX9_write_59 : decode cX9_write 59 = .ok (.iastore, 1) := by decide +kernel
theorem dX9_write_60 : decode cX9_write 60 = .ok (.aload_n 0, 1) := by decide +kernel
theorem dX9_write_61 : decode cX9_write 61 = .ok (.dup, 1) := by decide +kernel
theorem dX9_write_62 : decode cX9_write 62 = .ok (.getfield 70, 3) := by decide +kernel
theorem dX9_write_65 : decode cX9_write 65 = .ok (.iconst 1, 1) := by decide +kernel
theorem dX9_write_66 : decode cX9_write 66 = .ok (.iadd, 1) := by decide +kernel
theorem dX9_write_67 : decode cX9_write 67 = .ok (.putfield 70, 3) := by decide +kernel
theorem dX9_write_70 : decode cX9_write 70 = .ok (.iinc 4 (-1), 3) := by decide +kernel
theorem dX9_write_73 : decode cX9_write 73 = .ok (.goto (-39), 3) := by decide +kernel
theorem dX9_write_76 : decode cX9_write 76 = .ok (.aload_n 0, 1) := by decide +kernel
theorem dX9_write_77 : decode cX9_write 77 = .ok (.getfield 70, 3) := by decide +kernel
theorem dX9_write_80 : decode cX9_write 80 = .ok (.ireturn, 1) := by decide +kernel
theorem dX9_wipe_0 : decode cX9_wipe 0 = .ok (.aload_n 0, 1) := by decide +kernel
theorem dX9_wipe_1 : decode cX9_wipe 1 = .ok (.getfield 70, 3) := by decide +kernel
theorem dX9_wipe_4 : decode cX9_wipe 4 = .ok (.istore_n 1, 1) := by decide +kernel
theorem dX9_wipe_5 : decode cX9_wipe 5 = .ok (.aload_n 0, 1) := by decide +kernel
theorem dX9_wipe_6 : decode cX9_wipe 6 = .ok (.iconst 0, 1) := by decide +kernel
theorem dX9_wipe_7 : decode cX9_wipe 7 = .ok (.putfield 70, 3) := by decide +kernel
theorem dX9_wipe_10 : decode cX9_wipe 10 = .ok (.iload_n 1, 1) := by decide +kernel
theorem dX9_wipe_11 : decode cX9_wipe 11 = .ok (.ireturn, 1) := by decide +kernel
theorem dX9_figure_0 : decode cX9_figure 0 = .ok (.aload_n 0, 1) := by decide +kernel
theorem dX9_figure_1 : decode cX9_figure 1 = .ok (.getfield 75, 3) := by decide +kernel
theorem dX9_figure_4 : decode cX9_figure 4 = .ok (.bipush (-9), 2) := by decide +kernel
theorem dX9_figure_6 : decode cX9_figure 6 = .ok (.if_icmp .ne 29, 3) := by decide +kernel
theorem dX9_figure_9 : decode cX9_figure 9 = .ok (.aload_n 0, 1) := by decide +kernel
theorem dX9_figure_10 : decode cX9_figure 10 = .ok (.getfield 78, 3) := by decide +kernel
theorem dX9_figure_13 : decode cX9_figure 13 = .ok (.aload_n 0, 1) := by decide +kernel
theorem dX9_figure_14 : decode cX9_figure 14 = .ok (.getfield 70, 3) := by decide +kernel
theorem dX9_figure_17 : decode cX9_figure 17 = .ok (.if_icmp .ge 18, 3) := by decide +kernel
theorem dX9_figure_20 : decode cX9_figure 20 = .ok (.aload_n 0, 1) := by decide +kernel
theorem dX9_figure_21 : decode cX9_figure 21 = .ok (.getfield 22, 3) := by decide +kernel
theorem dX9_figure_24 : decode cX9_figure 24 = .ok (.aload_n 0, 1) := by decide +kernel
theorem dX9_figure_25 : decode cX9_figure 25 = .ok (.getfield 78, 3) := by decide +kernel
theorem dX9_figure_28 : decode cX9_figure 28 = .ok (.iaload, 1) := by decide +kernel
theorem dX9_figure_29 : decode cX9_figure 29 = .ok (.bipush 48, 2) := by decide +kernel
theorem dX9_figure_31 : decode cX9_figure 31 = .ok (.isub, 1) := by decide +kernel
theorem dX9_figure_32 : decode cX9_figure 32 = .ok (.goto 4, 3) := by decide +kernel
theorem dX9_figure_35 : decode cX9_figure 35 = .ok (.iconst (-1), 1) := by decide +kernel
theorem dX9_figure_36 : decode cX9_figure 36 = .ok (.istore_n 2, 1) := by decide +kernel
theorem dX9_figure_37 : decode cX9_figure 37 = .ok (.iload_n 2, 1) := by decide +kernel
theorem dX9_figure_38 : decode cX9_figure 38 = .ok (.i2l, 1) := by decide +kernel
theorem dX9_figure_39 : decode cX9_figure 39 = .ok (.lconst 0, 1) := by decide +kernel
theorem dX9_figure_40 : decode cX9_figure 40 = .ok (.ldc2_w 81, 3) := by decide +kernel
theorem dX9_figure_43 : decode cX9_figure 43 = .ok (.invokestatic 66, 3) := by decide +kernel
theorem dX9_figure_46 : decode cX9_figure 46 = .ok (.ifCond .eq 11, 3) := by decide +kernel
theorem dX9_figure_49 : decode cX9_figure 49 = .ok (.iload_n 1, 1) := by decide +kernel
theorem dX9_figure_50 : decode cX9_figure 50 = .ok (.iload_n 2, 1) := by decide +kernel
theorem dX9_figure_51 : decode cX9_figure 51 = .ok (.ishr, 1) := by decide +kernel
theorem dX9_figure_52 : decode cX9_figure 52 = .ok (.iconst 1, 1) := by decide +kernel
theorem dX9_figure_53 : decode cX9_figure 53 = .ok (.iand, 1) := by decide +kernel
theorem dX9_figure_54 : decode cX9_figure 54 = .ok (.ifCond .ne 29, 3) := by decide +kernel
theorem dX9_figure_57 : decode cX9_figure 57 = .ok (.aload_n 0, 1) := by decide +kernel
theorem dX9_figure_58 : decode cX9_figure 58 = .ok (.aload_n 0, 1) := by decide +kernel
theorem dX9_figure_59 : decode cX9_figure 59 = .ok (.getfield 75, 3) := by decide +kernel
theorem dX9_figure_62 : decode cX9_figure 62 = .ok (.bipush (-9), 2) := by decide +kernel
theorem dX9_figure_64 : decode cX9_figure 64 = .ok (.if_icmp .ne 10, 3) := by decide +kernel
theorem dX9_figure_67 : decode cX9_figure 67 = .ok (.aload_n 0, 1) := by decide +kernel
theorem dX9_figure_68 : decode cX9_figure 68 = .ok (.getfield 78, 3) := by decide +kernel
theorem dX9_figure_71 : decode cX9_figure 71 = .ok (.goto 7, 3) := by decide +kernel
theorem dX9_figure_74 : decode cX9_figure 74 = .ok (.aload_n 0, 1) := by decide +kernel
theorem dX9_figure_75 : decode cX9_figure 75 = .ok (.getfield 75, 3) := by decide +kernel
theorem dX9_figure_78 : decode cX9_figure 78 = .ok (.putfield 75, 3) := by decide +kernel
theorem dX9_figure_81 : decode cX9_figure 81 = .ok (.iconst 0, 1) := by decide +kernel
theorem dX9_figure_82 : decode cX9_figure 82 = .ok (.ireturn, 1) := by decide +kernel
theorem dX9_figure_83 : decode cX9_figure 83 = .ok (.aload_n 0, 1) := by decide +kernel
theorem dX9_figure_84 : decode cX9_figure 84 = .ok (.dup, 1) := by decide +kernel
theorem dX9_figure_85 : decode cX9_figure 85 = .ok (.getfield 78, 3) := by decide +kernel
theorem dX9_figure_88 : decode cX9_figure 88 = .ok (.iconst 1, 1) := by decide +kernel
theorem dX9_figure_89 : decode cX9_figure 89 = .ok (.iadd, 1) := by decide +kernel
theorem dX9_figure_90 : decode cX9_figure 90 = .ok (.putfield 78, 3) := by decide +kernel
theorem dX9_figure_93 : decode cX9_figure 93 = .ok (.iload_n 2, 1) := by decide +kernel
theorem dX9_figure_94 : decode cX9_figure 94 = .ok (.ireturn, 1) := by decide +kernel
theorem dX9_free_0 : decode cX9_free 0 = .ok (.bipush 63, 2) := by decide +kernel
theorem dX9_free_2 : decode cX9_free 2 = .ok (.istore_n 2, 1) := by decide +kernel
theorem dX9_free_3 : decode cX9_free 3 = .ok (.iconst 0, 1) := by decide +kernel
theorem dX9_free_4 : decode cX9_free 4 = .ok (.istore_n 3, 1) := by decide +kernel
theorem dX9_free_5 : decode cX9_free 5 = .ok (.iload_n 3, 1) := by decide +kernel
theorem dX9_free_6 : decode cX9_free 6 = .ok (.aload_n 0, 1) := by decide +kernel
theorem dX9_free_7 : decode cX9_free 7 = .ok (.getfield 83, 3) := by decide +kernel
theorem dX9_free_10 : decode cX9_free 10 = .ok (.if_icmp .ge 45, 3) := by decide +kernel
theorem dX9_free_13 : decode cX9_free 13 = .ok (.iload_n 2, 1) := by decide +kernel
theorem dX9_free_14 : decode cX9_free 14 = .ok (.aload_n 0, 1) := by decide +kernel
theorem dX9_free_15 : decode cX9_free 15 = .ok (.getfield 7, 3) := by decide +kernel
theorem dX9_free_18 : decode cX9_free 18 = .ok (.bipush 6, 2) := by decide +kernel
theorem dX9_free_20 : decode cX9_free 20 = .ok (.iload_n 3, 1) := by decide +kernel
theorem dX9_free_21 : decode cX9_free 21 = .ok (.imul, 1) := by decide +kernel
theorem dX9_free_22 : decode cX9_free 22 = .ok (.iaload, 1) := by decide +kernel
theorem dX9_free_23 : decode cX9_free 23 = .ok (.iload_n 1, 1) := by decide +kernel
theorem dX9_free_24 : decode cX9_free 24 = .ok (.if_icmp .ne 21, 3) := by decide +kernel
theorem dX9_free_27 : decode cX9_free 27 = .ok (.iconst 1, 1) := by decide +kernel
theorem dX9_free_28 : decode cX9_free 28 = .ok (.aload_n 0, 1) := by decide +kernel
theorem dX9_free_29 : decode cX9_free 29 = .ok (.getfield 7, 3) := by decide +kernel
theorem dX9_free_32 : decode cX9_free 32 = .ok (.bipush 6, 2) := by decide +kernel
theorem dX9_free_34 : decode cX9_free 34 = .ok (.iload_n 3, 1) := by decide +kernel
theorem dX9_free_35 : decode cX9_free 35 = .ok (.imul, 1) := by decide +kernel
theorem dX9_free_36 : decode cX9_free 36 = .ok (.iconst 1, 1) := by decide +kernel
theorem dX9_free_37 : decode cX9_free 37 = .ok (.iadd, 1) := by decide +kernel
theorem dX9_free_38 : decode cX9_free 38 = .ok (.iaload, 1) := by decide +kernel
theorem dX9_free_39 : decode cX9_free 39 = .ok (.ishl, 1) := by decide +kernel
theorem dX9_free_40 : decode cX9_free 40 = .ok (.iconst (-1), 1) := by decide +kernel
theorem dX9_free_41 : decode cX9_free 41 = .ok (.ixor, 1) := by decide +kernel
theorem dX9_free_42 : decode cX9_free 42 = .ok (.goto 5, 3) := by decide +kernel
theorem dX9_free_45 : decode cX9_free 45 = .ok (.bipush 63, 2) := by decide +kernel
theorem dX9_free_47 : decode cX9_free 47 = .ok (.iand, 1) := by decide +kernel
theorem dX9_free_48 : decode cX9_free 48 = .ok (.istore_n 2, 1) := by decide +kernel
theorem dX9_free_49 : decode cX9_free 49 = .ok (.iinc 3 1, 3) := by decide +kernel
theorem dX9_free_52 : decode cX9_free 52 = .ok (.goto (-47), 3) := by decide +kernel
theorem dX9_free_55 : decode cX9_free 55 = .ok (.iload_n 2, 1) := by decide +kernel
theorem dX9_free_56 : decode cX9_free 56 = .ok (.ireturn, 1) := by decide +kernel
theorem dX9_readText_0 : decode cX9_readText 0 = .ok (.aload_n 0, 1) := by decide +kernel
theorem dX9_readText_1 : decode cX9_readText 1 = .ok (.iconst 0, 1) := by decide +kernel
theorem dX9_readText_2 : decode cX9_readText 2 = .ok (.putfield 78, 3) := by decide +kernel
theorem dX9_readText_5 : decode cX9_readText 5 = .ok (.aload_n 0, 1) := by decide +kernel
theorem dX9_readText_6 : decode cX9_readText 6 = .ok (.bipush (-9), 2) := by decide +kernel
theorem dX9_readText_8 : decode cX9_readText 8 = .ok (.putfield 75, 3) := by decide +kernel
theorem dX9_readText_11 : decode cX9_readText 11 = .ok (.aload_n 0, 1) := by decide +kernel
theorem dX9_readText_12 : decode cX9_readText 12 = .ok (.iconst 0, 1) := by decide +kernel
theorem dX9_readText_13 : decode cX9_readText 13 = .ok (.putfield 83, 3) := by decide +kernel
theorem dX9_readText_16 : decode cX9_readText 16 = .ok (.aload_n 0, 1) := by decide +kernel
theorem dX9_readText_17 : decode cX9_readText 17 = .ok (.getfield 75, 3) := by decide +kernel
theorem dX9_readText_20 : decode cX9_readText 20 = .ok (.bipush (-9), 2) := by decide +kernel
theorem dX9_readText_22 : decode cX9_readText 22 = .ok (.if_icmp .ne 221, 3) := by decide +kernel
theorem dX9_readText_25 : decode cX9_readText 25 = .ok (.aload_n 0, 1) := by decide +kernel
theorem dX9_readText_26 : decode cX9_readText 26 = .ok (.getfield 78, 3) := by decide +kernel
theorem dX9_readText_29 : decode cX9_readText 29 = .ok (.aload_n 0, 1) := by decide +kernel
theorem dX9_readText_30 : decode cX9_readText 30 = .ok (.getfield 70, 3) := by decide +kernel
theorem dX9_readText_33 : decode cX9_readText 33 = .ok (.if_icmp .ge 210, 3) := by decide +kernel
theorem dX9_readText_36 : decode cX9_readText 36 = .ok (.aload_n 0, 1) := by decide +kernel
theorem dX9_readText_37 : decode cX9_readText 37 = .ok (.getfield 22, 3) := by decide +kernel
theorem dX9_readText_40 : decode cX9_readText 40 = .ok (.aload_n 0, 1) := by decide +kernel
theorem dX9_readText_41 : decode cX9_readText 41 = .ok (.getfield 78, 3) := by decide +kernel
theorem dX9_readText_44 : decode cX9_readText 44 = .ok (.iaload, 1) := by decide +kernel
theorem dX9_readText_45 : decode cX9_readText 45 = .ok (.istore_n 1, 1) := by decide +kernel
theorem dX9_readText_46 : decode cX9_readText 46 = .ok (.iload_n 1, 1) := by decide +kernel
theorem dX9_readText_47 : decode cX9_readText 47 = .ok (.bipush 80, 2) := by decide +kernel
theorem dX9_readText_49 : decode cX9_readText 49 = .ok (.if_icmp .eq 9, 3) := by decide +kernel
theorem dX9_readText_52 : decode cX9_readText 52 = .ok (.iload_n 1, 1) := by decide +kernel
theorem dX9_readText_53 : decode cX9_readText 53 = .ok (.bipush 70, 2) := by decide +kernel
theorem dX9_readText_55 : decode cX9_readText 55 = .ok (.if_icmp .ne 177, 3) := by decide +kernel
theorem dX9_readText_58 : decode cX9_readText 58 = .ok (.aload_n 0, 1) := by decide +kernel
theorem dX9_readText_59 : decode cX9_readText 59 = .ok (.getfield 83, 3) := by decide +kernel
theorem dX9_readText_62 : decode cX9_readText 62 = .ok (.bipush 12, 2) := by decide +kernel
theorem dX9_readText_64 : decode cX9_readText 64 = .ok (.if_icmp .ge 168, 3) := by decide +kernel
theorem dX9_readText_67 : decode cX9_readText 67 = .ok (.aload_n 0, 1) := by decide +kernel
theorem dX9_readText_68 : decode cX9_readText 68 = .ok (.dup, 1) := by decide +kernel
theorem dX9_readText_69 : decode cX9_readText 69 = .ok (.getfield 78, 3) := by decide +kernel
theorem dX9_readText_72 : decode cX9_readText 72 = .ok (.iconst 1, 1) := by decide +kernel
theorem dX9_readText_73 : decode cX9_readText 73 = .ok (.iadd, 1) := by decide +kernel
theorem dX9_readText_74 : decode cX9_readText 74 = .ok (.putfield 78, 3) := by decide +kernel
theorem dX9_readText_77 : decode cX9_readText 77 = .ok (.iconst 0, 1) := by decide +kernel
theorem dX9_readText_78 : decode cX9_readText 78 = .ok (.istore_n 2, 1) := by decide +kernel
theorem dX9_readText_79 : decode cX9_readText 79 = .ok (.iconst 0, 1) := by decide +kernel
theorem dX9_readText_80 : decode cX9_readText 80 = .ok (.istore_n 3, 1) := by decide +kernel
theorem dX9_readText_81 : decode cX9_readText 81 = .ok (.iload_n 3, 1) := by decide +kernel
theorem dX9_readText_82 : decode cX9_readText 82 = .ok (.iconst 4, 1) := by decide +kernel
theorem dX9_readText_83 : decode cX9_readText 83 = .ok (.if_icmp .ge 27, 3) := by decide +kernel
theorem dX9_readText_86 : decode cX9_readText 86 = .ok (.iload_n 2, 1) := by decide +kernel
theorem dX9_readText_87 : decode cX9_readText 87 = .ok (.aload_n 0, 1) := by decide +kernel
theorem dX9_readText_88 : decode cX9_readText 88 = .ok (.iload_n 3, 1) := by decide +kernel
theorem dX9_readText_89 : decode cX9_readText 89 = .ok (.invokevirtual 86, 3) := by decide +kernel
theorem dX9_readText_92 : decode cX9_readText 92 = .ok (.ifCond .eq 9, 3) := by decide +kernel
theorem dX9_readText_95 : decode cX9_readText 95 = .ok (.iconst 1, 1) := by decide +kernel
theorem dX9_readText_96 : decode cX9_readText 96 = .ok (.iload_n 3, 1) := by decide +kernel
theorem dX9_readText_97 : decode cX9_readText 97 = .ok (.ishl, 1) := by decide +kernel
theorem dX9_readText_98 : decode cX9_readText 98 = .ok (.goto 4, 3) := by decide +kernel
theorem dX9_readText_101 : decode cX9_readText 101 = .ok (.iconst 0, 1) := by decide +kernel
theorem dX9_readText_102 : decode cX9_readText 102 = .ok (.ior, 1) := by decide +kernel
theorem dX9_readText_103 : decode cX9_readText 103 = .ok (.istore_n 2, 1) := by decide +kernel
theorem dX9_readText_104 : decode cX9_readText 104 = .ok (.iinc 3 1, 3) := by decide +kernel
theorem dX9_readText_107 : decode cX9_readText 107 = .ok (.goto (-26), 3) := by decide +kernel
theorem dX9_readText_110 : decode cX9_readText 110 = .ok (.bipush 6, 2) := by decide +kernel
theorem dX9_readText_112 : decode cX9_readText 112 = .ok (.aload_n 0, 1) := by decide +kernel
theorem dX9_readText_113 : decode cX9_readText 113 = .ok (.getfield 83, 3) := by decide +kernel
theorem dX9_readText_116 : decode cX9_readText 116 = .ok (.imul, 1) := by decide +kernel
theorem dX9_readText_117 : decode cX9_readText 117 = .ok (.istore_n 3, 1) := by decide +kernel
theorem dX9_readText_118 : decode cX9_readText 118 = .ok (.aload_n 0, 1) := by decide +kernel
theorem dX9_readText_119 : decode cX9_readText 119 = .ok (.iload_n 2, 1) := by decide +kernel
theorem dX9_readText_120 : decode cX9_readText 120 = .ok (.invokevirtual 90, 3) := by decide +kernel
theorem dX9_readText_123 : decode cX9_readText 123 = .ok (.istore 4, 2) := by decide +kernel
theorem dX9_readText_125 : decode cX9_readText 125 = .ok (.aload_n 0, 1) := by decide +kernel
theorem dX9_readText_126 : decode cX9_readText 126 = .ok (.aload_n 0, 1) := by decide +kernel
theorem dX9_readText_127 : decode cX9_readText 127 = .ok (.iload 4, 2) := by decide +kernel
theorem dX9_readText_129 : decode cX9_readText 129 = .ok (.invokevirtual 86, 3) := by decide +kernel
theorem dX9_readText_132 : decode cX9_readText 132 = .ok (.invokevirtual 90, 3) := by decide +kernel
theorem dX9_readText_135 : decode cX9_readText 135 = .ok (.istore 5, 2) := by decide +kernel
theorem dX9_readText_137 : decode cX9_readText 137 = .ok (.aload_n 0, 1) := by decide +kernel
theorem dX9_readText_138 : decode cX9_readText 138 = .ok (.getfield 7, 3) := by decide +kernel
theorem dX9_readText_141 : decode cX9_readText 141 = .ok (.iload_n 3, 1) := by decide +kernel
theorem dX9_readText_142 : decode cX9_readText 142 = .ok (.iload 4, 2) := by decide +kernel
theorem dX9_readText_144 : decode cX9_readText 144 = .ok (.iastore, 1) := by decide +kernel
theorem dX9_readText_145 : decode cX9_readText 145 = .ok (.aload_n 0, 1) := by decide +kernel
theorem dX9_readText_146 : decode cX9_readText 146 = .ok (.getfield 7, 3) := by decide +kernel
theorem dX9_readText_149 : decode cX9_readText 149 = .ok (.iload_n 3, 1) := by decide +kernel
theorem dX9_readText_150 : decode cX9_readText 150 = .ok (.iconst 1, 1) := by decide +kernel
theorem dX9_readText_151 : decode cX9_readText 151 = .ok (.iadd, 1) := by decide +kernel
theorem dX9_readText_152 : decode cX9_readText 152 = .ok (.iload 5, 2) := by decide +kernel
theorem dX9_readText_154 : decode cX9_readText 154 = .ok (.iastore, 1) := by decide +kernel
theorem dX9_readText_155 : decode cX9_readText 155 = .ok (.aload_n 0, 1) := by decide +kernel
theorem dX9_readText_156 : decode cX9_readText 156 = .ok (.getfield 7, 3) := by decide +kernel
theorem dX9_readText_159 : decode cX9_readText 159 = .ok (.iload_n 3, 1) := by decide +kernel
theorem dX9_readText_160 : decode cX9_readText 160 = .ok (.iconst 2, 1) := by decide +kernel
theorem dX9_readText_161 : decode cX9_readText 161 = .ok (.iadd, 1) := by decide +kernel
theorem dX9_readText_162 : decode cX9_readText 162 = .ok (.aload_n 0, 1) := by decide +kernel
theorem dX9_readText_163 : decode cX9_readText 163 = .ok (.sipush 1023, 3) := by decide +kernel
theorem dX9_readText_166 : decode cX9_readText 166 = .ok (.invokevirtual 90, 3) := by decide +kernel
theorem dX9_readText_169 : decode cX9_readText 169 = .ok (.iastore, 1) := by decide +kernel
theorem dX9_readText_170 : decode cX9_readText 170 = .ok (.aload_n 0, 1) := by decide +kernel
theorem dX9_readText_171 : decode cX9_readText 171 = .ok (.getfield 7, 3) := by decide +kernel
theorem dX9_readText_174 : decode cX9_readText 174 = .ok (.iload_n 3, 1) := by decide +kernel
theorem dX9_readText_175 : decode cX9_readText 175 = .ok (.iconst 3, 1) := by decide +kernel
theorem dX9_readText_176 : decode cX9_readText 176 = .ok (.iadd, 1) := by decide +kernel
theorem dX9_readText_177 : decode cX9_readText 177 = .ok (.aload_n 0, 1) := by decide +kernel
theorem dX9_readText_178 : decode cX9_readText 178 = .ok (.sipush 1023, 3) := by decide +kernel
theorem dX9_readText_181 : decode cX9_readText 181 = .ok (.invokevirtual 90, 3) := by decide +kernel
theorem dX9_readText_184 : decode cX9_readText 184 = .ok (.iastore, 1) := by decide +kernel
theorem dX9_readText_185 : decode cX9_readText 185 = .ok (.aload_n 0, 1) := by decide +kernel
theorem dX9_readText_186 : decode cX9_readText 186 = .ok (.getfield 7, 3) := by decide +kernel
theorem dX9_readText_189 : decode cX9_readText 189 = .ok (.iload_n 3, 1) := by decide +kernel
theorem dX9_readText_190 : decode cX9_readText 190 = .ok (.iconst 4, 1) := by decide +kernel
theorem dX9_readText_191 : decode cX9_readText 191 = .ok (.iadd, 1) := by decide +kernel
theorem dX9_readText_192 : decode cX9_readText 192 = .ok (.aload_n 0, 1) := by decide +kernel
theorem dX9_readText_193 : decode cX9_readText 193 = .ok (.sipush 1023, 3) := by decide +kernel
theorem dX9_readText_196 : decode cX9_readText 196 = .ok (.invokevirtual 90, 3) := by decide +kernel
theorem dX9_readText_199 : decode cX9_readText 199 = .ok (.iastore, 1) := by decide +kernel
theorem dX9_readText_200 : decode cX9_readText 200 = .ok (.aload_n 0, 1) := by decide +kernel
theorem dX9_readText_201 : decode cX9_readText 201 = .ok (.getfield 7, 3) := by decide +kernel
theorem dX9_readText_204 : decode cX9_readText 204 = .ok (.iload_n 3, 1) := by decide +kernel
theorem dX9_readText_205 : decode cX9_readText 205 = .ok (.iconst 5, 1) := by decide +kernel
theorem dX9_readText_206 : decode cX9_readText 206 = .ok (.iadd, 1) := by decide +kernel
theorem dX9_readText_207 : decode cX9_readText 207 = .ok (.iload_n 1, 1) := by decide +kernel
theorem dX9_readText_208 : decode cX9_readText 208 = .ok (.bipush 70, 2) := by decide +kernel
theorem dX9_readText_210 : decode cX9_readText 210 = .ok (.if_icmp .ne 7, 3) := by decide +kernel
theorem dX9_readText_213 : decode cX9_readText 213 = .ok (.iconst 1, 1) := by decide +kernel
theorem dX9_readText_214 : decode cX9_readText 214 = .ok (.goto 4, 3) := by decide +kernel
theorem dX9_readText_217 : decode cX9_readText 217 = .ok (.iconst 0, 1) := by decide +kernel
theorem dX9_readText_218 : decode cX9_readText 218 = .ok (.iastore, 1) := by decide +kernel
theorem dX9_readText_219 : decode cX9_readText 219 = .ok (.aload_n 0, 1) := by decide +kernel
theorem dX9_readText_220 : decode cX9_readText 220 = .ok (.dup, 1) := by decide +kernel
theorem dX9_readText_221 : decode cX9_readText 221 = .ok (.getfield 83, 3) := by decide +kernel
theorem dX9_readText_224 : decode cX9_readText 224 = .ok (.iconst 1, 1) := by decide +kernel
theorem dX9_readText_225 : decode cX9_readText 225 = .ok (.iadd, 1) := by decide +kernel
theorem dX9_readText_226 : decode cX9_readText 226 = .ok (.putfield 83, 3) := by decide +kernel
theorem dX9_readText_229 : decode cX9_readText 229 = .ok (.goto 11, 3) := by decide +kernel
theorem dX9_readText_232 : decode cX9_readText 232 = .ok (.aload_n 0, 1) := by decide +kernel
theorem dX9_readText_233 : decode cX9_readText 233 = .ok (.aload_n 0, 1) := by decide +kernel
theorem dX9_readText_234 : decode cX9_readText 234 = .ok (.getfield 78, 3) := by decide +kernel
theorem dX9_readText_237 : decode cX9_readText 237 = .ok (.putfield 75, 3) := by decide +kernel
theorem dX9_readText_240 : decode cX9_readText 240 = .ok (.goto (-224), 3) := by decide +kernel
theorem dX9_readText_243 : decode cX9_readText 243 = .ok (.aload_n 0, 1) := by decide +kernel
theorem dX9_readText_244 : decode cX9_readText 244 = .ok (.getfield 75, 3) := by decide +kernel
theorem dX9_readText_247 : decode cX9_readText 247 = .ok (.ireturn, 1) := by decide +kernel
theorem dX9_fault_0 : decode cX9_fault 0 = .ok (.aload_n 0, 1) := by decide +kernel
theorem dX9_fault_1 : decode cX9_fault 1 = .ok (.invokevirtual 93, 3) := by decide +kernel
theorem dX9_fault_4 : decode cX9_fault 4 = .ok (.ireturn, 1) := by decide +kernel
theorem dX9_room_0 : decode cX9_room 0 = .ok (.aload_n 0, 1) := by decide +kernel
theorem dX9_room_1 : decode cX9_room 1 = .ok (.invokevirtual 93, 3) := by decide +kernel
theorem dX9_room_4 : decode cX9_room 4 = .ok (.bipush (-9), 2) := by decide +kernel
theorem dX9_room_6 : decode cX9_room 6 = .ok (.if_icmp .eq 6, 3) := by decide +kernel
theorem dX9_room_9 : decode cX9_room 9 = .ok (.bipush (-3), 2) := by decide +kernel
theorem dX9_room_11 : decode cX9_room 11 = .ok (.ireturn, 1) := by decide +kernel
theorem dX9_room_12 : decode cX9_room 12 = .ok (.iconst 0, 1) := by decide +kernel
theorem dX9_room_13 : decode cX9_room 13 = .ok (.istore_n 1, 1) := by decide +kernel
theorem dX9_room_14 : decode cX9_room 14 = .ok (.iload_n 1, 1) := by decide +kernel
theorem dX9_room_15 : decode cX9_room 15 = .ok (.bipush 72, 2) := by decide +kernel
theorem dX9_room_17 : decode cX9_room 17 = .ok (.if_icmp .ge 21, 3) := by decide +kernel
theorem dX9_room_20 : decode cX9_room 20 = .ok (.aload_n 0, 1) := by decide +kernel
theorem dX9_room_21 : decode cX9_room 21 = .ok (.getfield 13, 3) := by decide +kernel
theorem dX9_room_24 : decode cX9_room 24 = .ok (.iload_n 1, 1) := by decide +kernel
theorem dX9_room_25 : decode cX9_room 25 = .ok (.aload_n 0, 1) := by decide +kernel
theorem dX9_room_26 : decode cX9_room 26 = .ok (.getfield 7, 3) := by decide +kernel
theorem dX9_room_29 : decode cX9_room 29 = .ok (.iload_n 1, 1) := by decide +kernel
theorem dX9_room_30 : decode cX9_room 30 = .ok (.iaload, 1) := by decide +kernel
theorem dX9_room_31 : decode cX9_room 31 = .ok (.iastore, 1) := by decide +kernel
theorem dX9_room_32 : decode cX9_room 32 = .ok (.iinc 1 1, 3) := by decide +kernel
theorem dX9_room_35 : decode cX9_room 35 = .ok (.goto (-21), 3) := by decide +kernel
theorem dX9_room_38 : decode cX9_room 38 = .ok (.aload_n 0, 1) := by decide +kernel
theorem dX9_room_39 : decode cX9_room 39 = .ok (.aload_n 0, 1) := by decide +kernel
theorem dX9_room_40 : decode cX9_room 40 = .ok (.getfield 83, 3) := by decide +kernel
theorem dX9_room_43 : decode cX9_room 43 = .ok (.putfield 97, 3) := by decide +kernel
theorem dX9_room_46 : decode cX9_room 46 = .ok (.iconst 0, 1) := by decide +kernel
theorem dX9_room_47 : decode cX9_room 47 = .ok (.istore_n 1, 1) := by decide +kernel
theorem dX9_room_48 : decode cX9_room 48 = .ok (.iload_n 1, 1) := by decide +kernel
theorem dX9_room_49 : decode cX9_room 49 = .ok (.bipush 12, 2) := by decide +kernel
theorem dX9_room_51 : decode cX9_room 51 = .ok (.if_icmp .ge 33, 3) := by decide +kernel
theorem dX9_room_54 : decode cX9_room 54 = .ok (.aload_n 0, 1) := by decide +kernel
theorem dX9_room_55 : decode cX9_room 55 = .ok (.getfield 16, 3) := by decide +kernel
theorem dX9_room_58 : decode cX9_room 58 = .ok (.iload_n 1, 1) := by decide +kernel
theorem dX9_room_59 : decode cX9_room 59 = .ok (.aload_n 0, 1) := by decide +kernel
theorem dX9_room_60 : decode cX9_room 60 = .ok (.getfield 13, 3) := by decide +kernel
theorem dX9_room_63 : decode cX9_room 63 = .ok (.bipush 6, 2) := by decide +kernel
theorem dX9_room_65 : decode cX9_room 65 = .ok (.iload_n 1, 1) := by decide +kernel
theorem dX9_room_66 : decode cX9_room 66 = .ok (.imul, 1) := by decide +kernel
theorem dX9_room_67 : decode cX9_room 67 = .ok (.iconst 4, 1) := by decide +kernel
theorem dX9_room_68 : decode cX9_room 68 = .ok (.iadd, 1) := by decide +kernel
theorem dX9_room_69 : decode cX9_room 69 = .ok (.iaload, 1) := by decide +kernel
theorem dX9_room_70 : decode cX9_room 70 = .ok (.iastore, 1) := by decide +kernel
theorem dX9_room_71 : decode cX9_room 71 = .ok (.aload_n 0, 1) := by decide +kernel
theorem dX9_room_72 : decode cX9_room 72 = .ok (.getfield 19, 3) := by decide +kernel
theorem dX9_room_75 : decode cX9_room 75 = .ok (.iload_n 1, 1) := by decide +kernel
theorem dX9_room_76 : decode cX9_room 76 = .ok (.iconst 0, 1) := by decide +kernel
theorem dX9_room_77 : decode cX9_room 77 = .ok (.iastore, 1) := by decide +kernel
theorem dX9_room_78 : decode cX9_room 78 = .ok (.iinc 1 1, 3) := by decide +kernel
theorem dX9_room_81 : decode cX9_room 81 = .ok (.goto (-33), 3) := by decide +kernel
theorem dX9_room_84 : decode cX9_room 84 = .ok (.aload_n 0, 1) := by decide +kernel
theorem dX9_room_85 : decode cX9_room 85 = .ok (.lconst 0, 1) := by decide +kernel
theorem dX9_room_86 : decode cX9_room 86 = .ok (.putfield 100, 3) := by decide +kernel
theorem dX9_room_89 : decode cX9_room 89 = .ok (.aload_n 0, 1) := by decide +kernel
theorem dX9_room_90 : decode cX9_room 90 = .ok (.iconst 0, 1) := by decide +kernel
theorem dX9_room_91 : decode cX9_room 91 = .ok (.putfield 104, 3) := by decide +kernel
theorem dX9_room_94 : decode cX9_room 94 = .ok (.aload_n 0, 1) := by decide +kernel
theorem dX9_room_95 : decode cX9_room 95 = .ok (.iconst 0, 1) := by decide +kernel
theorem dX9_room_96 : decode cX9_room 96 = .ok (.putfield 107, 3) := by decide +kernel
theorem dX9_room_99 : decode cX9_room 99 = .ok (.aload_n 0, 1) := by decide +kernel
theorem dX9_room_100 : decode cX9_room 100 = .ok (.iconst 0, 1) := by decide +kernel
theorem dX9_room_101 : decode cX9_room 101 = .ok (.putfield 110, 3) := by decide +kernel
theorem dX9_room_104 : decode cX9_room 104 = .ok (.aload_n 0, 1) := by decide +kernel
theorem dX9_room_105 : decode cX9_room 105 = .ok (.getfield 45, 3) := by decide +kernel
theorem dX9_room_108 : decode cX9_room 108 = .ok (.iconst 0, 1) := by decide +kernel
theorem dX9_room_109 : decode cX9_room 109 = .ok (.iconst 0, 1) := by decide +kernel
theorem dX9_room_110 : decode cX9_room 110 = .ok (.bastore, 1) := by decide +kernel
theorem dX9_room_111 : decode cX9_room 111 = .ok (.aload_n 0, 1) := by decide +kernel
theorem dX9_room_112 : decode cX9_room 112 = .ok (.getfield 45, 3) := by decide +kernel
theorem dX9_room_115 : decode cX9_room 115 = .ok (.iconst 1, 1) := by decide +kernel
theorem dX9_room_116 : decode cX9_room 116 = .ok (.iconst 0, 1) := by decide +kernel
theorem dX9_room_117 : decode cX9_room 117 = .ok (.bastore, 1) := by decide +kernel
theorem dX9_room_118 : decode cX9_room 118 = .ok (.aload_n 0, 1) := by decide +kernel
theorem dX9_room_119 : decode cX9_room 119 = .ok (.getfield 97, 3) := by decide +kernel
theorem dX9_room_122 : decode cX9_room 122 = .ok (.ireturn, 1) := by decide +kernel
theorem dX9_isPupil_0 : decode cX9_isPupil 0 = .ok (.iload_n 1, 1) := by decide +kernel
theorem dX9_isPupil_1 : decode cX9_isPupil 1 = .ok (.i2l, 1) := by decide +kernel
theorem dX9_isPupil_2 : decode cX9_isPupil 2 = .ok (.lconst 0, 1) := by decide +kernel
theorem dX9_isPupil_3 : decode cX9_isPupil 3 = .ok (.aload_n 0, 1) := by decide +kernel
theorem dX9_isPupil_4 : decode cX9_isPupil 4 = .ok (.getfield 97, 3) := by decide +kernel
theorem dX9_isPupil_7 : decode cX9_isPupil 7 = .ok (.iconst 1, 1) := by decide +kernel
theorem dX9_isPupil_8 : decode cX9_isPupil 8 = .ok (.isub, 1) := by decide +kernel
theorem dX9_isPupil_9 : decode cX9_isPupil 9 = .ok (.i2l, 1) := by decide +kernel
theorem dX9_isPupil_10 : decode cX9_isPupil 10 = .ok (.invokestatic 66, 3) := by decide +kernel
theorem dX9_isPupil_13 : decode cX9_isPupil 13 = .ok (.ireturn, 1) := by decide +kernel
theorem dX9_isWait_0 : decode cX9_isWait 0 = .ok (.iload_n 0, 1) := by decide +kernel
theorem dX9_isWait_1 : decode cX9_isWait 1 = .ok (.i2l, 1) := by decide +kernel
theorem dX9_isWait_2 : decode cX9_isWait 2 = .ok (.lconst 0, 1) := by decide +kernel
theorem dX9_isWait_3 : decode cX9_isWait 3 = .ok (.ldc2_w 81, 3) := by decide +kernel
theorem dX9_isWait_6 : decode cX9_isWait 6 = .ok (.invokestatic 66, 3) := by decide +kernel
theorem dX9_isWait_9 : decode cX9_isWait 9 = .ok (.ireturn, 1) := by decide +kernel
theorem dX9_isRule_0 : decode cX9_isRule 0 = .ok (.iload_n 0, 1) := by decide +kernel
theorem dX9_isRule_1 : decode cX9_isRule 1 = .ok (.i2l, 1) := by decide +kernel
theorem dX9_isRule_2 : decode cX9_isRule 2 = .ok (.lconst 0, 1) := by decide +kernel
theorem dX9_isRule_3 : decode cX9_isRule 3 = .ok (.ldc2_w 113, 3) := by decide +kernel
theorem dX9_isRule_6 : decode cX9_isRule 6 = .ok (.invokestatic 66, 3) := by decide +kernel
theorem dX9_isRule_9 : decode cX9_isRule 9 = .ok (.ireturn, 1) := by decide +kernel
theorem dX9_about_0 : decode cX9_about 0 = .ok (.aload_n 0, 1) := by decide +kernel
theorem dX9_about_1 : decode cX9_about 1 = .ok (.iload_n 1, 1) := by decide +kernel
theorem dX9_about_2 : decode cX9_about 2 = .ok (.invokevirtual 115, 3) := by decide +kernel
theorem dX9_about_5 : decode cX9_about 5 = .ok (.ifCond .ne 5, 3) := by decide +kernel
theorem dX9_about_8 : decode cX9_about 8 = .ok (.iconst (-1), 1) := by decide +kernel
theorem dX9_about_9 : decode cX9_about 9 = .ok (.ireturn, 1) := by decide +kernel
theorem dX9_about_10 : decode cX9_about 10 = .ok (.iload_n 2, 1) := by decide +kernel
theorem dX9_about_11 : decode cX9_about 11 = .ok (.i2l, 1) := by decide +kernel
theorem dX9_about_12 : decode cX9_about 12 = .ok (.lconst 0, 1) := by decide +kernel
theorem dX9_about_13 : decode cX9_about 13 = .ok (.ldc2_w 119, 3) := by decide +kernel
theorem dX9_about_16 : decode cX9_about 16 = .ok (.invokestatic 66, 3) := by decide +kernel
theorem dX9_about_19 : decode cX9_about 19 = .ok (.ifCond .ne 6, 3) := by decide +kernel
theorem dX9_about_22 : decode cX9_about 22 = .ok (.bipush (-2), 2) := by decide +kernel
theorem dX9_about_24 : decode cX9_about 24 = .ok (.ireturn, 1) := by decide +kernel
theorem dX9_about_25 : decode cX9_about 25 = .ok (.iload_n 2, 1) := by decide +kernel
theorem dX9_about_26 : decode cX9_about 26 = .ok (.bipush 6, 2) := by decide +kernel
theorem dX9_about_28 : decode cX9_about 28 = .ok (.if_icmp .ge 17, 3) := by decide +kernel
theorem dX9_about_31 : decode cX9_about 31 = .ok (.aload_n 0, 1) := by decide +kernel
theorem dX9_about_32 : decode cX9_about 32 = .ok (.getfield 13, 3) := by decide +kernel
theorem dX9_about_35 : decode cX9_about 35 = .ok (.bipush 6, 2) := by decide +kernel
theorem dX9_about_37 : decode cX9_about 37 = .ok (.iload_n 1, 1) := by decide +kernel
theorem dX9_about_38 : decode cX9_about 38 = .ok (.imul, 1) := by decide +kernel
theorem dX9_about_39 : decode cX9_about 39 = .ok (.iload_n 2, 1) := by decide +kernel
theorem dX9_about_40 : decode cX9_about 40 = .ok (.iadd, 1) := by decide +kernel
theorem dX9_about_41 : decode cX9_about 41 = .ok (.iaload, 1) := by decide +kernel
theorem dX9_about_42 : decode cX9_about 42 = .ok (.goto 24, 3) := by decide +kernel
theorem dX9_about_45 : decode cX9_about 45 = .ok (.iload_n 2, 1) := by decide +kernel
theorem dX9_about_46 : decode cX9_about 46 = .ok (.bipush 6, 2) := by decide +kernel
theorem dX9_about_48 : decode cX9_about 48 = .ok (.if_icmp .ne 12, 3) := by decide +kernel
theorem dX9_about_51 : decode cX9_about 51 = .ok (.aload_n 0, 1) := by decide +kernel
theorem dX9_about_52 : decode cX9_about 52 = .ok (.getfield 16, 3) := by decide +kernel
theorem dX9_about_55 : decode cX9_about 55 = .ok (.iload_n 1, 1) := by decide +kernel
theorem dX9_about_56 : decode cX9_about 56 = .ok (.iaload, 1) := by decide +kernel
theorem dX9_about_57 : decode cX9_about 57 = .ok (.goto 9, 3) := by decide +kernel
theorem dX9_about_60 : decode cX9_about 60 = .ok (.aload_n 0, 1) := by decide +kernel
theorem dX9_about_61 : decode cX9_about 61 = .ok (.getfield 19, 3) := by decide +kernel
theorem dX9_about_64 : decode cX9_about 64 = .ok (.iload_n 1, 1) := by decide +kernel
theorem dX9_about_65 : decode cX9_about 65 = .ok (.iaload, 1) := by decide +kernel
theorem dX9_about_66 : decode cX9_about 66 = .ok (.ireturn, 1) := by decide +kernel
theorem dX9_mood_0 : decode cX9_mood 0 = .ok (.iload_n 1, 1) := by decide +kernel
theorem dX9_mood_1 : decode cX9_mood 1 = .ok (.i2l, 1) := by decide +kernel
theorem dX9_mood_2 : decode cX9_mood 2 = .ok (.lconst 0, 1) := by decide +kernel
theorem dX9_mood_3 : decode cX9_mood 3 = .ok (.ldc2_w 81, 3) := by decide +kernel
theorem dX9_mood_6 : decode cX9_mood 6 = .ok (.invokestatic 66, 3) := by decide +kernel
theorem dX9_mood_9 : decode cX9_mood 9 = .ok (.ifCond .ne 6, 3) := by decide +kernel
theorem dX9_mood_12 : decode cX9_mood 12 = .ok (.bipush (-2), 2) := by decide +kernel
theorem dX9_mood_14 : decode cX9_mood 14 = .ok (.ireturn, 1) := by decide +kernel
theorem dX9_mood_15 : decode cX9_mood 15 = .ok (.aload_n 0, 1) := by decide +kernel
theorem dX9_mood_16 : decode cX9_mood 16 = .ok (.getfield 60, 3) := by decide +kernel
theorem dX9_mood_19 : decode cX9_mood 19 = .ok (.istore_n 2, 1) := by decide +kernel
theorem dX9_mood_20 : decode cX9_mood 20 = .ok (.aload_n 0, 1) := by decide +kernel
theorem dX9_mood_21 : decode cX9_mood 21 = .ok (.iload_n 1, 1) := by decide +kernel
theorem dX9_mood_22 : decode cX9_mood 22 = .ok (.putfield 60, 3) := by decide +kernel
theorem dX9_mood_25 : decode cX9_mood 25 = .ok (.iload_n 2, 1) := by decide +kernel
theorem dX9_mood_26 : decode cX9_mood 26 = .ok (.ireturn, 1) := by decide +kernel
theorem dX9_upOf_0 : decode cX9_upOf 0 = .ok (.aload_n 0, 1) := by decide +kernel
theorem dX9_upOf_1 : decode cX9_upOf 1 = .ok (.getfield 13, 3) := by decide +kernel
theorem dX9_upOf_4 : decode cX9_upOf 4 = .ok (.bipush 6, 2) := by decide +kernel
theorem dX9_upOf_6 : decode cX9_upOf 6 = .ok (.iload_n 1, 1) := by decide +kernel
theorem dX9_upOf_7 : decode cX9_upOf 7 = .ok (.imul, 1) := by decide +kernel
theorem dX9_upOf_8 : decode cX9_upOf 8 = .ok (.iconst 5, 1) := by decide +kernel
theorem dX9_upOf_9 : decode cX9_upOf 9 = .ok (.iadd, 1) := by decide +kernel
theorem dX9_upOf_10 : decode cX9_upOf 10 = .ok (.iaload, 1) := by decide +kernel
theorem dX9_upOf_11 : decode cX9_upOf 11 = .ok (.iconst 1, 1) := by decide +kernel
theorem dX9_upOf_12 : decode cX9_upOf 12 = .ok (.if_icmp .ne 7, 3) := by decide +kernel
theorem dX9_upOf_15 : decode cX9_upOf 15 = .ok (.iconst 1, 1) := by decide +kernel
theorem dX9_upOf_16 : decode cX9_upOf 16 = .ok (.goto 4, 3) := by decide +kernel
theorem dX9_upOf_19 : decode cX9_upOf 19 = .ok (.iconst 0, 1) := by decide +kernel
theorem dX9_upOf_20 : decode cX9_upOf 20 = .ok (.istore_n 3, 1) := by decide +kernel
theorem dX9_upOf_21 : decode cX9_upOf 21 = .ok (.aload_n 0, 1) := by decide +kernel
theorem dX9_upOf_22 : decode cX9_upOf 22 = .ok (.getfield 16, 3) := by decide +kernel
theorem dX9_upOf_25 : decode cX9_upOf 25 = .ok (.iload_n 1, 1) := by decide +kernel
theorem dX9_upOf_26 : decode cX9_upOf 26 = .ok (.iaload, 1) := by decide +kernel
theorem dX9_upOf_27 : decode cX9_upOf 27 = .ok (.aload_n 0, 1) := by decide +kernel
theorem dX9_upOf_28 : decode cX9_upOf 28 = .ok (.getfield 60, 3) := by decide +kernel
theorem dX9_upOf_31 : decode cX9_upOf 31 = .ok (.if_icmp .lt 26, 3) := by decide +kernel
theorem dX9_upOf_34 : decode cX9_upOf 34 = .ok (.iload_n 3, 1) := by decide +kernel
theorem dX9_upOf_35 : decode cX9_upOf 35 = .ok (.ifCond .ne 18, 3) := by decide +kernel
theorem dX9_upOf_38 : decode cX9_upOf 38 = .ok (.aload_n 0, 1) := by decide +kernel
theorem dX9_upOf_39 : decode cX9_upOf 39 = .ok (.getfield 13, 3) := by decide +kernel
theorem dX9_upOf_42 : decode cX9_upOf 42 = .ok (.bipush 6, 2) := by decide +kernel
theorem dX9_upOf_44 : decode cX9_upOf 44 = .ok (.iload_n 1, 1) := by decide +kernel
theorem dX9_upOf_45 : decode cX9_upOf 45 = .ok (.imul, 1) := by decide +kernel
theorem dX9_upOf_46 : decode cX9_upOf 46 = .ok (.iconst 3, 1) := by decide +kernel
theorem dX9_upOf_47 : decode cX9_upOf 47 = .ok (.iadd, 1) := by decide +kernel
theorem dX9_upOf_48 : decode cX9_upOf 48 = .ok (.iaload, 1) := by decide +kernel
theorem dX9_upOf_49 : decode cX9_upOf 49 = .ok (.iload_n 2, 1) := by decide +kernel
theorem dX9_upOf_50 : decode cX9_upOf 50 = .ok (.if_icmp .gt 7, 3) := by decide +kernel
theorem dX9_upOf_53 : decode cX9_upOf 53 = .ok (.iconst 1, 1) := by decide +kernel
theorem dX9_upOf_54 : decode cX9_upOf 54 = .ok (.goto 4, 3) := by decide +kernel
theorem dX9_upOf_57 : decode cX9_upOf 57 = .ok (.iconst 0, 1) := by decide +kernel
theorem dX9_upOf_58 : decode cX9_upOf 58 = .ok (.istore 4, 2) := by decide +kernel
theorem dX9_upOf_60 : decode cX9_upOf 60 = .ok (.iload 4, 2) := by decide +kernel
theorem dX9_upOf_62 : decode cX9_upOf 62 = .ok (.ifCond .ne 7, 3) := by decide +kernel
theorem dX9_upOf_65 : decode cX9_upOf 65 = .ok (.iconst 0, 1) := by decide +kernel
theorem dX9_upOf_66 : decode cX9_upOf 66 = .ok (.goto 23, 3) := by decide +kernel
theorem dX9_upOf_69 : decode cX9_upOf 69 = .ok (.iload_n 3, 1) := by decide +kernel
theorem dX9_upOf_70 : decode cX9_upOf 70 = .ok (.ifCond .eq 8, 3) := by decide +kernel
theorem dX9_upOf_73 : decode cX9_upOf 73 = .ok (.bipush 10, 2) := by decide +kernel
theorem dX9_upOf_75 : decode cX9_upOf 75 = .ok (.goto 14, 3) := by decide +kernel
theorem dX9_upOf_78 : decode cX9_upOf 78 = .ok (.aload_n 0, 1) := by decide +kernel
theorem dX9_upOf_79 : decode cX9_upOf 79 = .ok (.getfield 13, 3) := by decide +kernel
theorem dX9_upOf_82 : decode cX9_upOf 82 = .ok (.bipush 6, 2) := by decide +kernel
theorem dX9_upOf_84 : decode cX9_upOf 84 = .ok (.iload_n 1, 1) := by decide +kernel
theorem dX9_upOf_85 : decode cX9_upOf 85 = .ok (.imul, 1) := by decide +kernel
theorem dX9_upOf_86 : decode cX9_upOf 86 = .ok (.iconst 2, 1) := by decide +kernel
theorem dX9_upOf_87 : decode cX9_upOf 87 = .ok (.iadd, 1) := by decide +kernel
theorem dX9_upOf_88 : decode cX9_upOf 88 = .ok (.iaload, 1) := by decide +kernel
theorem dX9_upOf_89 : decode cX9_upOf 89 = .ok (.ireturn, 1) := by decide +kernel
theorem dX9_up_0 : decode cX9_up 0 = .ok (.aload_n 0, 1) := by decide +kernel
theorem dX9_up_1 : decode cX9_up 1 = .ok (.iload_n 1, 1) := by decide +kernel
theorem dX9_up_2 : decode cX9_up 2 = .ok (.invokevirtual 115, 3) := by decide +kernel
theorem dX9_up_5 : decode cX9_up 5 = .ok (.ifCond .ne 5, 3) := by decide +kernel
theorem dX9_up_8 : decode cX9_up 8 = .ok (.iconst (-1), 1) := by decide +kernel
theorem dX9_up_9 : decode cX9_up 9 = .ok (.ireturn, 1) := by decide +kernel
theorem dX9_up_10 : decode cX9_up 10 = .ok (.iload_n 2, 1) := by decide +kernel
theorem dX9_up_11 : decode cX9_up 11 = .ok (.invokestatic 121, 3) := by decide +kernel
theorem dX9_up_14 : decode cX9_up 14 = .ok (.ifCond .eq 12, 3) := by decide +kernel
theorem dX9_up_17 : decode cX9_up 17 = .ok (.aload_n 0, 1) := by decide +kernel
theorem dX9_up_18 : decode cX9_up 18 = .ok (.iload_n 1, 1) := by decide +kernel
theorem dX9_up_19 : decode cX9_up 19 = .ok (.iload_n 2, 1) := by decide +kernel
theorem dX9_up_20 : decode cX9_up 20 = .ok (.invokevirtual 124, 3) := by decide +kernel
theorem dX9_up_23 : decode cX9_up 23 = .ok (.goto 5, 3) := by decide +kernel
theorem dX9_up_26 : decode cX9_up 26 = .ok (.bipush (-2), 2) := by decide +kernel
theorem dX9_up_28 : decode cX9_up 28 = .ok (.ireturn, 1) := by decide +kernel
theorem dX9_meanOf_0 : decode cX9_meanOf 0 = .ok (.iconst 0, 1) := by decide +kernel
theorem dX9_meanOf_1 : decode cX9_meanOf 1 = .ok (.istore_n 2, 1) := by decide +kernel
theorem dX9_meanOf_2 : decode cX9_meanOf 2 = .ok (.iconst 0, 1) := by decide +kernel
theorem dX9_meanOf_3 : decode cX9_meanOf 3 = .ok (.istore_n 3, 1) := by decide +kernel
theorem dX9_meanOf_4 : decode cX9_meanOf 4 = .ok (.iload_n 3, 1) := by decide +kernel
theorem dX9_meanOf_5 : decode cX9_meanOf 5 = .ok (.aload_n 0, 1) := by decide +kernel
theorem dX9_meanOf_6 : decode cX9_meanOf 6 = .ok (.getfield 97, 3) := by decide +kernel
theorem dX9_meanOf_9 : decode cX9_meanOf 9 = .ok (.if_icmp .ge 18, 3) := by decide +kernel
theorem dX9_meanOf_12 : decode cX9_meanOf 12 = .ok (.iload_n 2, 1) := by decide +kernel
theorem dX9_meanOf_13 : decode cX9_meanOf 13 = .ok (.aload_n 0, 1) := by decide +kernel
theorem dX9_meanOf_14 : decode cX9_meanOf 14 = .ok (.iload_n 3, 1) := by decide +kernel
theorem dX9_meanOf_15 : decode cX9_meanOf 15 = .ok (.iload_n 1, 1) := by decide +kernel
theorem dX9_meanOf_16 : decode cX9_meanOf 16 = .ok (.invokevirtual 124, 3) := by decide +kernel
theorem dX9_meanOf_19 : decode cX9_meanOf 19 = .ok (.iadd, 1) := by decide +kernel
theorem dX9_meanOf_20 : decode cX9_meanOf 20 = .ok (.istore_n 2, 1) := by decide +kernel
theorem dX9_meanOf_21 : decode cX9_meanOf 21 = .ok (.iinc 3 1, 3) := by decide +kernel
theorem dX9_meanOf_24 : decode cX9_meanOf 24 = .ok (.goto (-20), 3) := by decide +kernel
theorem dX9_meanOf_27 : decode cX9_meanOf 27 = .ok (.iload_n 2, 1) := by decide +kernel
theorem dX9_meanOf_28 : decode cX9_meanOf 28 = .ok (.ireturn, 1) := by decide +kernel
theorem dX9_mean_0 : decode cX9_mean 0 = .ok (.iload_n 1, 1) := by decide +kernel
theorem dX9_mean_1 : decode cX9_mean 1 = .ok (.invokestatic 121, 3) := by decide +kernel
theorem dX9_mean_4 : decode cX9_mean 4 = .ok (.ifCond .eq 11, 3) := by decide +kernel
theorem dX9_mean_7 : decode cX9_mean 7 = .ok (.aload_n 0, 1) := by decide +kernel
theorem dX9_mean_8 : decode cX9_mean 8 = .ok (.iload_n 1, 1) := by decide +kernel
theorem dX9_mean_9 : decode cX9_mean 9 = .ok (.invokevirtual 128, 3) := by decide +kernel
theorem dX9_mean_12 : decode cX9_mean 12 = .ok (.goto 5, 3) := by decide +kernel
theorem dX9_mean_15 : decode cX9_mean 15 = .ok (.bipush (-2), 2) := by decide +kernel
theorem dX9_mean_17 : decode cX9_mean 17 = .ok (.ireturn, 1) := by decide +kernel
theorem dX9_quiet_0 : decode cX9_quiet 0 = .ok (.iload_n 1, 1) := by decide +kernel
theorem dX9_quiet_1 : decode cX9_quiet 1 = .ok (.invokestatic 121, 3) := by decide +kernel
theorem dX9_quiet_4 : decode cX9_quiet 4 = .ok (.ifCond .ne 6, 3) := by decide +kernel
theorem dX9_quiet_7 : decode cX9_quiet 7 = .ok (.bipush (-2), 2) := by decide +kernel
theorem dX9_quiet_9 : decode cX9_quiet 9 = .ok (.ireturn, 1) := by decide +kernel
theorem dX9_quiet_10 : decode cX9_quiet 10 = .ok (.iconst 0, 1) := by decide +kernel
theorem dX9_quiet_11 : decode cX9_quiet 11 = .ok (.istore_n 2, 1) := by decide +kernel
theorem dX9_quiet_12 : decode cX9_quiet 12 = .ok (.iconst 0, 1) := by decide +kernel
theorem dX9_quiet_13 : decode cX9_quiet 13 = .ok (.istore_n 3, 1) := by decide +kernel
theorem dX9_quiet_14 : decode cX9_quiet 14 = .ok (.iload_n 3, 1) := by decide +kernel
theorem dX9_quiet_15 : decode cX9_quiet 15 = .ok (.aload_n 0, 1) := by decide +kernel
theorem dX9_quiet_16 : decode cX9_quiet 16 = .ok (.getfield 97, 3) := by decide +kernel
theorem dX9_quiet_19 : decode cX9_quiet 19 = .ok (.if_icmp .ge 82, 3) := by decide +kernel
theorem dX9_quiet_22 : decode cX9_quiet 22 = .ok (.aload_n 0, 1) := by decide +kernel
theorem dX9_quiet_23 : decode cX9_quiet 23 = .ok (.getfield 16, 3) := by decide +kernel
theorem dX9_quiet_26 : decode cX9_quiet 26 = .ok (.iload_n 3, 1) := by decide +kernel
theorem dX9_quiet_27 : decode cX9_quiet 27 = .ok (.iaload, 1) := by decide +kernel
theorem dX9_quiet_28 : decode cX9_quiet 28 = .ok (.aload_n 0, 1) := by decide +kernel
theorem dX9_quiet_29 : decode cX9_quiet 29 = .ok (.getfield 60, 3) := by decide +kernel
theorem dX9_quiet_32 : decode cX9_quiet 32 = .ok (.if_icmp .lt 37, 3) := by decide +kernel
theorem dX9_quiet_35 : decode cX9_quiet 35 = .ok (.aload_n 0, 1) := by decide +kernel
theorem dX9_quiet_36 : decode cX9_quiet 36 = .ok (.getfield 13, 3) := by decide +kernel
theorem dX9_quiet_39 : decode cX9_quiet 39 = .ok (.bipush 6, 2) := by decide +kernel
theorem dX9_quiet_41 : decode cX9_quiet 41 = .ok (.iload_n 3, 1) := by decide +kernel
theorem dX9_quiet_42 : decode cX9_quiet 42 = .ok (.imul, 1) := by decide +kernel
theorem dX9_quiet_43 : decode cX9_quiet 43 = .ok (.iconst 5, 1) := by decide +kernel
theorem dX9_quiet_44 : decode cX9_quiet 44 = .ok (.iadd, 1) := by decide +kernel
theorem dX9_quiet_45 : decode cX9_quiet 45 = .ok (.iaload, 1) := by decide +kernel
theorem dX9_quiet_46 : decode cX9_quiet 46 = .ok (.iconst 1, 1) := by decide +kernel
theorem dX9_quiet_47 : decode cX9_quiet 47 = .ok (.if_icmp .eq 18, 3) := by decide +kernel
theorem dX9_quiet_50 : decode cX9_quiet 50 = .ok (.aload_n 0, 1) := by decide +kernel
theorem dX9_quiet_51 : decode cX9_quiet 51 = .ok (.getfield 13, 3) := by decide +kernel
theorem dX9_quiet_54 : decode cX9_quiet 54 = .ok (.bipush 6, 2) := by decide +kernel
theorem dX9_quiet_56 : decode cX9_quiet 56 = .ok (.iload_n 3, 1) := by decide +kernel
theorem dX9_quiet_57 : decode cX9_quiet 57 = .ok (.imul, 1) := by decide +kernel
theorem dX9_quiet_58 : decode cX9_quiet 58 = .ok (.iconst 3, 1) := by decide +kernel
theorem dX9_quiet_59 : decode cX9_quiet 59 = .ok (.iadd, 1) := by decide +kernel
theorem dX9_quiet_60 : decode cX9_quiet 60 = .ok (.iaload, 1) := by decide +kernel
theorem dX9_quiet_61 : decode cX9_quiet 61 = .ok (.iload_n 1, 1) := by decide +kernel
theorem dX9_quiet_62 : decode cX9_quiet 62 = .ok (.if_icmp .gt 7, 3) := by decide +kernel
theorem dX9_quiet_65 : decode cX9_quiet 65 = .ok (.iconst 1, 1) := by decide +kernel
theorem dX9_quiet_66 : decode cX9_quiet 66 = .ok (.goto 4, 3) := by decide +kernel
theorem dX9_quiet_69 : decode cX9_quiet 69 = .ok (.iconst 0, 1) := by decide +kernel
theorem dX9_quiet_70 : decode cX9_quiet 70 = .ok (.istore 4, 2) := by decide +kernel
theorem dX9_quiet_72 : decode cX9_quiet 72 = .ok (.iload_n 2, 1) := by decide +kernel
theorem dX9_quiet_73 : decode cX9_quiet 73 = .ok (.iload 4, 2) := by decide +kernel
theorem dX9_quiet_75 : decode cX9_quiet 75 = .ok (.ifCond .eq 7, 3) := by decide +kernel
theorem dX9_quiet_78 : decode cX9_quiet 78 = .ok (.iconst 0, 1) := by decide +kernel
theorem dX9_quiet_79 : decode cX9_quiet 79 = .ok (.goto 14, 3) := by decide +kernel
theorem dX9_quiet_82 : decode cX9_quiet 82 = .ok (.aload_n 0, 1) := by decide +kernel
theorem dX9_quiet_83 : decode cX9_quiet 83 = .ok (.getfield 13, 3) := by decide +kernel
theorem dX9_quiet_86 : decode cX9_quiet 86 = .ok (.bipush 6, 2) := by decide +kernel
theorem dX9_quiet_88 : decode cX9_quiet 88 = .ok (.iload_n 3, 1) := by decide +kernel
theorem dX9_quiet_89 : decode cX9_quiet 89 = .ok (.imul, 1) := by decide +kernel
theorem dX9_quiet_90 : decode cX9_quiet 90 = .ok (.iconst 2, 1) := by decide +kernel
theorem dX9_quiet_91 : decode cX9_quiet 91 = .ok (.iadd, 1) := by decide +kernel
theorem dX9_quiet_92 : decode cX9_quiet 92 = .ok (.iaload, 1) := by decide +kernel
theorem dX9_quiet_93 : decode cX9_quiet 93 = .ok (.iadd, 1) := by decide +kernel
theorem dX9_quiet_94 : decode cX9_quiet 94 = .ok (.istore_n 2, 1) := by decide +kernel
theorem dX9_quiet_95 : decode cX9_quiet 95 = .ok (.iinc 3 1, 3) := by decide +kernel
theorem dX9_quiet_98 : decode cX9_quiet 98 = .ok (.goto (-84), 3) := by decide +kernel
theorem dX9_quiet_101 : decode cX9_quiet 101 = .ok (.iload_n 2, 1) := by decide +kernel
theorem dX9_quiet_102 : decode cX9_quiet 102 = .ok (.ireturn, 1) := by decide +kernel
theorem dX9_part_0 : decode cX9_part 0 = .ok (.lload_n 0, 1) := by decide +kernel
theorem dX9_part_1 : decode cX9_part 1 = .ok (.lstore 5, 2) := by decide +kernel
theorem dX9_part_3 : decode cX9_part 3 = .ok (.lload_n 2, 1) := by decide +kernel
theorem dX9_part_4 : decode cX9_part 4 = .ok (.lstore 7, 2) := by decide +kernel
theorem dX9_part_6 : decode cX9_part 6 = .ok (.lload 7, 2) := by decide +kernel
theorem dX9_part_8 : decode cX9_part 8 = .ok (.lconst 0, 1) := by decide +kernel
theorem dX9_part_9 : decode cX9_part 9 = .ok (.lcmp, 1) := by decide +kernel
theorem dX9_part_10 : decode cX9_part 10 = .ok (.ifCond .eq 21, 3) := by decide +kernel
theorem dX9_part_13 : decode cX9_part 13 = .ok (.lload 5, 2) := by decide +kernel
theorem dX9_part_15 : decode cX9_part 15 = .ok (.lload 7, 2) := by decide +kernel
theorem dX9_part_17 : decode cX9_part 17 = .ok (.lrem, 1) := by decide +kernel
theorem dX9_part_18 : decode cX9_part 18 = .ok (.lstore 9, 2) := by decide +kernel
theorem dX9_part_20 : decode cX9_part 20 = .ok (.lload 7, 2) := by decide +kernel
theorem dX9_part_22 : decode cX9_part 22 = .ok (.lstore 5, 2) := by decide +kernel
theorem dX9_part_24 : decode cX9_part 24 = .ok (.lload 9, 2) := by decide +kernel
theorem dX9_part_26 : decode cX9_part 26 = .ok (.lstore 7, 2) := by decide +kernel
theorem dX9_part_28 : decode cX9_part 28 = .ok (.goto (-22), 3) := by decide +kernel
theorem dX9_part_31 : decode cX9_part 31 = .ok (.iload 4, 2) := by decide +kernel
theorem dX9_part_33 : decode cX9_part 33 = .ok (.ifCond .eq 10, 3) := by decide +kernel
theorem dX9_part_36 : decode cX9_part 36 = .ok (.lload_n 0, 1) := by decide +kernel
theorem dX9_part_37 : decode cX9_part 37 = .ok (.lload 5, 2) := by decide +kernel
theorem dX9_part_39 : decode cX9_part 39 = .ok (.ldiv, 1) := by decide +kernel
theorem dX9_part_40 : decode cX9_part 40 = .ok (.goto 7, 3) := by decide +kernel
theorem dX9_part_43 : decode cX9_part 43 = .ok (.lload_n 2, 1) := by decide +kernel
theorem dX9_part_44 : decode cX9_part 44 = .ok (.lload 5, 2) := by decide +kernel
theorem dX9_part_46 : decode cX9_part 46 = .ok (.ldiv, 1) := by decide +kernel
theorem dX9_part_47 : decode cX9_part 47 = .ok (.lreturn, 1) := by decide +kernel
theorem dX9_whole_0 : decode cX9_whole 0 = .ok (.lconst 1, 1) := by decide +kernel
theorem dX9_whole_1 : decode cX9_whole 1 = .ok (.lstore_n 1, 1) := by decide +kernel
theorem dX9_whole_2 : decode cX9_whole 2 = .ok (.iconst 0, 1) := by decide +kernel
theorem dX9_whole_3 : decode cX9_whole 3 = .ok (.istore_n 3, 1) := by decide +kernel
theorem dX9_whole_4 : decode cX9_whole 4 = .ok (.iload_n 3, 1) := by decide +kernel
theorem dX9_whole_5 : decode cX9_whole 5 = .ok (.aload_n 0, 1) := by decide +kernel
theorem dX9_whole_6 : decode cX9_whole 6 = .ok (.getfield 97, 3) := by decide +kernel
theorem dX9_whole_9 : decode cX9_whole 9 = .ok (.if_icmp .ge 15, 3) := by decide +kernel
theorem dX9_whole_12 : decode cX9_whole 12 = .ok (.lload_n 1, 1) := by decide +kernel
theorem dX9_whole_13 : decode cX9_whole 13 = .ok (.ldc2_w 131, 3) := by decide +kernel
theorem dX9_whole_16 : decode cX9_whole 16 = .ok (.lmul, 1) := by decide +kernel
theorem dX9_whole_17 : decode cX9_whole 17 = .ok (.lstore_n 1, 1) := by decide +kernel
theorem dX9_whole_18 : decode cX9_whole 18 = .ok (.iinc 3 1, 3) := by decide +kernel
theorem dX9_whole_21 : decode cX9_whole 21 = .ok (.goto (-17), 3) := by decide +kernel
theorem dX9_whole_24 : decode cX9_whole 24 = .ok (.lload_n 1, 1) := by decide +kernel
theorem dX9_whole_25 : decode cX9_whole 25 = .ok (.lreturn, 1) := by decide +kernel
theorem dX9_layJoint_0 : decode cX9_layJoint 0 = .ok (.iconst 0, 1) := by decide +kernel
theorem dX9_layJoint_1 : decode cX9_layJoint 1 = .ok (.istore_n 2, 1) := by decide +kernel
theorem dX9_layJoint_2 : decode cX9_layJoint 2 = .ok (.iload_n 2, 1) := by decide +kernel
theorem dX9_layJoint_3 : decode cX9_layJoint 3 = .ok (.sipush 169, 3) := by decide +kernel
theorem dX9_layJoint_6 : decode cX9_layJoint 6 = .ok (.if_icmp .ge 16, 3) := by decide +kernel
theorem dX9_layJoint_9 : decode cX9_layJoint 9 = .ok (.aload_n 0, 1) := by decide +kernel
theorem dX9_layJoint_10 : decode cX9_layJoint 10 = .ok (.getfield 25, 3) := by decide +kernel
theorem dX9_layJoint_13 : decode cX9_layJoint 13 = .ok (.iload_n 2, 1) := by decide +kernel
theorem dX9_layJoint_14 : decode cX9_layJoint 14 = .ok (.lconst 0, 1) := by decide +kernel
theorem dX9_layJoint_15 : decode cX9_layJoint 15 = .ok (.lastore, 1) := by decide +kernel
theorem dX9_layJoint_16 : decode cX9_layJoint 16 = .ok (.iinc 2 1, 3) := by decide +kernel
theorem dX9_layJoint_19 : decode cX9_layJoint 19 = .ok (.goto (-17), 3) := by decide +kernel
theorem dX9_layJoint_22 : decode cX9_layJoint 22 = .ok (.aload_n 0, 1) := by decide +kernel
theorem dX9_layJoint_23 : decode cX9_layJoint 23 = .ok (.getfield 25, 3) := by decide +kernel
theorem dX9_layJoint_26 : decode cX9_layJoint 26 = .ok (.iconst 0, 1) := by decide +kernel
theorem dX9_layJoint_27 : decode cX9_layJoint 27 = .ok (.lconst 1, 1) := by decide +kernel
theorem dX9_layJoint_28 : decode cX9_layJoint 28 = .ok (.lastore, 1) := by decide +kernel
theorem dX9_layJoint_29 : decode cX9_layJoint 29 = .ok (.iconst 0, 1) := by decide +kernel
theorem dX9_layJoint_30 : decode cX9_layJoint 30 = .ok (.istore_n 2, 1) := by decide +kernel
theorem dX9_layJoint_31 : decode cX9_layJoint 31 = .ok (.iload_n 2, 1) := by decide +kernel
theorem dX9_layJoint_32 : decode cX9_layJoint 32 = .ok (.aload_n 0, 1) := by decide +kernel
theorem dX9_layJoint_33 : decode cX9_layJoint 33 = .ok (.getfield 97, 3) := by decide +kernel
theorem dX9_layJoint_36 : decode cX9_layJoint 36 = .ok (.if_icmp .ge 214, 3) := by decide +kernel
theorem dX9_layJoint_39 : decode cX9_layJoint 39 = .ok (.aload_n 0, 1) := by decide +kernel
theorem dX9_layJoint_40 : decode cX9_layJoint 40 = .ok (.getfield 13, 3) := by decide +kernel
theorem dX9_layJoint_43 : decode cX9_layJoint 43 = .ok (.bipush 6, 2) := by decide +kernel
theorem dX9_layJoint_45 : decode cX9_layJoint 45 = .ok (.iload_n 2, 1) := by decide +kernel
theorem dX9_layJoint_46 : decode cX9_layJoint 46 = .ok (.imul, 1) := by decide +kernel
theorem dX9_layJoint_47 : decode cX9_layJoint 47 = .ok (.iconst 2, 1) := by decide +kernel
theorem dX9_layJoint_48 : decode cX9_layJoint 48 = .ok (.iadd, 1) := by decide +kernel
theorem dX9_layJoint_49 : decode cX9_layJoint 49 = .ok (.iaload, 1) := by decide +kernel
theorem dX9_layJoint_50 : decode cX9_layJoint 50 = .ok (.istore_n 3, 1) := by decide +kernel
theorem dX9_layJoint_51 : decode cX9_layJoint 51 = .ok (.aload_n 0, 1) := by decide +kernel
theorem dX9_layJoint_52 : decode cX9_layJoint 52 = .ok (.getfield 13, 3) := by decide +kernel
theorem dX9_layJoint_55 : decode cX9_layJoint 55 = .ok (.bipush 6, 2) := by decide +kernel
theorem dX9_layJoint_57 : decode cX9_layJoint 57 = .ok (.iload_n 2, 1) := by decide +kernel
theorem dX9_layJoint_58 : decode cX9_layJoint 58 = .ok (.imul, 1) := by decide +kernel
theorem dX9_layJoint_59 : decode cX9_layJoint 59 = .ok (.iconst 5, 1) := by decide +kernel
theorem dX9_layJoint_60 : decode cX9_layJoint 60 = .ok (.iadd, 1) := by decide +kernel
theorem dX9_layJoint_61 : decode cX9_layJoint 61 = .ok (.iaload, 1) := by decide +kernel
theorem dX9_layJoint_62 : decode cX9_layJoint 62 = .ok (.iconst 1, 1) := by decide +kernel
theorem dX9_layJoint_63 : decode cX9_layJoint 63 = .ok (.if_icmp .ne 7, 3) := by decide +kernel
theorem dX9_layJoint_66 : decode cX9_layJoint 66 = .ok (.iconst 1, 1) := by decide +kernel
theorem dX9_layJoint_67 : decode cX9_layJoint 67 = .ok (.goto 4, 3) := by decide +kernel
theorem dX9_layJoint_70 : decode cX9_layJoint 70 = .ok (.iconst 0, 1) := by decide +kernel
theorem dX9_layJoint_71 : decode cX9_layJoint 71 = .ok (.istore 4, 2) := by decide +kernel
theorem dX9_layJoint_73 : decode cX9_layJoint 73 = .ok (.aload_n 0, 1) := by decide +kernel
theorem dX9_layJoint_74 : decode cX9_layJoint 74 = .ok (.getfield 16, 3) := by decide +kernel
theorem dX9_layJoint_77 : decode cX9_layJoint 77 = .ok (.iload_n 2, 1) := by decide +kernel
theorem dX9_layJoint_78 : decode cX9_layJoint 78 = .ok (.iaload, 1) := by decide +kernel
theorem dX9_layJoint_79 : decode cX9_layJoint 79 = .ok (.aload_n 0, 1) := by decide +kernel
theorem dX9_layJoint_80 : decode cX9_layJoint 80 = .ok (.getfield 60, 3) := by decide +kernel
theorem dX9_layJoint_83 : decode cX9_layJoint 83 = .ok (.if_icmp .lt 27, 3) := by decide +kernel
theorem dX9_layJoint_86 : decode cX9_layJoint 86 = .ok (.iload 4, 2) := by decide +kernel
theorem dX9_layJoint_88 : decode cX9_layJoint 88 = .ok (.ifCond .ne 18, 3) := by decide +kernel
theorem dX9_layJoint_91 : decode cX9_layJoint 91 = .ok (.aload_n 0, 1) := by decide +kernel
theorem dX9_layJoint_92 : decode cX9_layJoint 92 = .ok (.getfield 13, 3) := by decide +kernel
theorem dX9_layJoint_95 : decode cX9_layJoint 95 = .ok (.bipush 6, 2) := by decide +kernel
theorem dX9_layJoint_97 : decode cX9_layJoint 97 = .ok (.iload_n 2, 1) := by decide +kernel
theorem dX9_layJoint_98 : decode cX9_layJoint 98 = .ok (.imul, 1) := by decide +kernel
theorem dX9_layJoint_99 : decode cX9_layJoint 99 = .ok (.iconst 3, 1) := by decide +kernel
theorem dX9_layJoint_100 : decode cX9_layJoint 100 = .ok (.iadd, 1) := by decide +kernel
theorem dX9_layJoint_101 : decode cX9_layJoint 101 = .ok (.iaload, 1) := by decide +kernel
theorem dX9_layJoint_102 : decode cX9_layJoint 102 = .ok (.iload_n 1, 1) := by decide +kernel
theorem dX9_layJoint_103 : decode cX9_layJoint 103 = .ok (.if_icmp .gt 7, 3) := by decide +kernel
theorem dX9_layJoint_106 : decode cX9_layJoint 106 = .ok (.iconst 1, 1) := by decide +kernel
theorem dX9_layJoint_107 : decode cX9_layJoint 107 = .ok (.goto 4, 3) := by decide +kernel
theorem dX9_layJoint_110 : decode cX9_layJoint 110 = .ok (.iconst 0, 1) := by decide +kernel
theorem dX9_layJoint_111 : decode cX9_layJoint 111 = .ok (.istore 5, 2) := by decide +kernel
theorem dX9_layJoint_113 : decode cX9_layJoint 113 = .ok (.iload 5, 2) := by decide +kernel
theorem dX9_layJoint_115 : decode cX9_layJoint 115 = .ok (.ifCond .eq 8, 3) := by decide +kernel
theorem dX9_layJoint_118 : decode cX9_layJoint 118 = .ok (.bipush 14, 2) := by decide +kernel
theorem dX9_layJoint_120 : decode cX9_layJoint 120 = .ok (.goto 4, 3) := by decide +kernel
theorem dX9_layJoint_123 : decode cX9_layJoint 123 = .ok (.iconst 1, 1) := by decide +kernel
theorem dX9_layJoint_124 : decode cX9_layJoint 124 = .ok (.istore 6, 2) := by decide +kernel
theorem dX9_layJoint_126 : decode cX9_layJoint 126 = .ok (.iload 5, 2) := by decide +kernel
theorem dX9_layJoint_128 : decode cX9_layJoint 128 = .ok (.ifCond .eq 13, 3) := by decide +kernel
theorem dX9_layJoint_131 : decode cX9_layJoint 131 = .ok (.iload 4, 2) := by decide +kernel
theorem dX9_layJoint_133 : decode cX9_layJoint 133 = .ok (.ifCond .eq 8, 3) := by decide +kernel
theorem dX9_layJoint_136 : decode cX9_layJoint 136 = .ok (.bipush 13, 2) := by decide +kernel
theorem dX9_layJoint_138 : decode cX9_layJoint 138 = .ok (.goto 4, 3) := by decide +kernel
theorem dX9_layJoint_141 : decode cX9_layJoint 141 = .ok (.iconst 0, 1) := by decide +kernel
theorem dX9_layJoint_142 : decode cX9_layJoint 142 = .ok (.istore 7, 2) := by decide +kernel
theorem dX9_layJoint_144 : decode cX9_layJoint 144 = .ok (.sipush 168, 3) := by decide +kernel
theorem dX9_layJoint_147 : decode cX9_layJoint 147 = .ok (.istore 8, 2) := by decide +kernel
theorem dX9_layJoint_149 : decode cX9_layJoint 149 = .ok (.iload 8, 2) := by decide +kernel
theorem dX9_layJoint_151 : decode cX9_layJoint 151 = .ok (.ifCond .lt 93, 3) := by decide +kernel
theorem dX9_layJoint_154 : decode cX9_layJoint 154 = .ok (.iload 7, 2) := by decide +kernel
theorem dX9_layJoint_156 : decode cX9_layJoint 156 = .ok (.ifCond .ne 19, 3) := by decide +kernel
theorem dX9_layJoint_159 : decode cX9_layJoint 159 = .ok (.aload_n 0, 1) := by decide +kernel
theorem dX9_layJoint_160 : decode cX9_layJoint 160 = .ok (.getfield 25, 3) := by decide +kernel
theorem dX9_layJoint_163 : decode cX9_layJoint 163 = .ok (.iload 8, 2) := by decide +kernel
theorem dX9_layJoint_165 : decode cX9_layJoint 165 = .ok (.laload, 1) := by decide +kernel
theorem dX9_layJoint_166 : decode cX9_layJoint 166 = .ok (.bipush 10, 2) := by decide +kernel
theorem dX9_layJoint_168 : decode cX9_layJoint 168 = .ok (.iload_n 3, 1) := by decide +kernel
theorem dX9_layJoint_169 : decode cX9_layJoint 169 = .ok (.isub, 1) := by decide +kernel
theorem dX9_layJoint_170 : decode cX9_layJoint 170 = .ok (.i2l, 1) := by decide +kernel
theorem dX9_layJoint_171 : decode cX9_layJoint 171 = .ok (.lmul, 1) := by decide +kernel
theorem dX9_layJoint_172 : decode cX9_layJoint 172 = .ok (.goto 30, 3) := by decide +kernel
theorem dX9_layJoint_175 : decode cX9_layJoint 175 = .ok (.iload 8, 2) := by decide +kernel
theorem dX9_layJoint_177 : decode cX9_layJoint 177 = .ok (.iload 7, 2) := by decide +kernel
theorem dX9_layJoint_179 : decode cX9_layJoint 179 = .ok (.if_icmp .lt 22, 3) := by decide +kernel
theorem dX9_layJoint_182 : decode cX9_layJoint 182 = .ok (.aload_n 0, 1) := by decide +kernel
theorem dX9_layJoint_183 : decode cX9_layJoint 183 = .ok (.getfield 25, 3) := by decide +kernel
theorem dX9_layJoint_186 : decode cX9_layJoint 186 = .ok (.iload 8, 2) := by decide +kernel
theorem dX9_layJoint_188 : decode cX9_layJoint 188 = .ok (.iload 7, 2) := by decide +kernel
theorem dX9_layJoint_190 : decode cX9_layJoint 190 = .ok (.isub, 1) := by decide +kernel
theorem dX9_layJoint_191 : decode cX9_layJoint 191 = .ok (.laload, 1) := by decide +kernel
theorem dX9_layJoint_192 : decode cX9_layJoint 192 = .ok (.bipush 10, 2) := by decide +kernel
theorem dX9_layJoint_194 : decode cX9_layJoint 194 = .ok (.iload_n 3, 1) := by decide +kernel
theorem dX9_layJoint_195 : decode cX9_layJoint 195 = .ok (.isub, 1) := by decide +kernel
theorem dX9_layJoint_196 : decode cX9_layJoint 196 = .ok (.i2l, 1) := by decide +kernel
theorem dX9_layJoint_197 : decode cX9_layJoint 197 = .ok (.lmul, 1) := by decide +kernel
theorem dX9_layJoint_198 : decode cX9_layJoint 198 = .ok (.goto 4, 3) := by decide +kernel
theorem dX9_layJoint_201 : decode cX9_layJoint 201 = .ok (.lconst 0, 1) := by decide +kernel
theorem dX9_layJoint_202 : decode cX9_layJoint 202 = .ok (.lstore 9, 2) := by decide +kernel
theorem dX9_layJoint_204 : decode cX9_layJoint 204 = .ok (.aload_n 0, 1) := by decide +kernel
theorem dX9_layJoint_205 : decode cX9_layJoint 205 = .ok (.getfield 25, 3) := by decide +kernel
theorem dX9_layJoint_208 : decode cX9_layJoint 208 = .ok (.iload 8, 2) := by decide +kernel
theorem dX9_layJoint_210 : decode cX9_layJoint 210 = .ok (.lload 9, 2) := by decide +kernel
theorem dX9_layJoint_212 : decode cX9_layJoint 212 = .ok (.iload 8, 2) := by decide +kernel
theorem dX9_layJoint_214 : decode cX9_layJoint 214 = .ok (.iload 6, 2) := by decide +kernel
theorem dX9_layJoint_216 : decode cX9_layJoint 216 = .ok (.if_icmp .lt 19, 3) := by decide +kernel
theorem dX9_layJoint_219 : decode cX9_layJoint 219 = .ok (.aload_n 0, 1) := by decide +kernel
theorem dX9_layJoint_220 : decode cX9_layJoint 220 = .ok (.getfield 25, 3) := by decide +kernel
theorem dX9_layJoint_223 : decode cX9_layJoint 223 = .ok (.iload 8, 2) := by decide +kernel
theorem dX9_layJoint_225 : decode cX9_layJoint 225 = .ok (.iload 6, 2) := by decide +kernel
theorem dX9_layJoint_227 : decode cX9_layJoint 227 = .ok (.isub, 1) := by decide +kernel
theorem dX9_layJoint_228 : decode cX9_layJoint 228 = .ok (.laload, 1) := by decide +kernel
theorem dX9_layJoint_229 : decode cX9_layJoint 229 = .ok (.iload_n 3, 1) := by decide +kernel
theorem dX9_layJoint_230 : decode cX9_layJoint 230 = .ok (.i2l, 1) := by decide +kernel
theorem dX9_layJoint_231 : decode cX9_layJoint 231 = .ok (.lmul, 1) := by decide +kernel
theorem dX9_layJoint_232 : decode cX9_layJoint 232 = .ok (.goto 4, 3) := by decide +kernel
theorem dX9_layJoint_235 : decode cX9_layJoint 235 = .ok (.lconst 0, 1) := by decide +kernel
theorem dX9_layJoint_236 : decode cX9_layJoint 236 = .ok (.ladd, 1) := by decide +kernel
theorem dX9_layJoint_237 : decode cX9_layJoint 237 = .ok (.lastore, 1) := by decide +kernel
theorem dX9_layJoint_238 : decode cX9_layJoint 238 = .ok (.iinc 8 (-1), 3) := by decide +kernel
theorem dX9_layJoint_241 : decode cX9_layJoint 241 = .ok (.goto (-92), 3) := by decide +kernel
theorem dX9_layJoint_244 : decode cX9_layJoint 244 = .ok (.iinc 2 1, 3) := by decide +kernel
theorem dX9_layJoint_247 : decode cX9_layJoint 247 = .ok (.goto (-216), 3) := by decide +kernel
theorem dX9_layJoint_250 : decode cX9_layJoint 250 = .ok (.return_, 1) := by decide +kernel
theorem dX9_handsOf_0 : decode cX9_handsOf 0 = .ok (.lconst 0, 1) := by decide +kernel
theorem dX9_handsOf_1 : decode cX9_handsOf 1 = .ok (.lstore_n 2, 1) := by decide +kernel
theorem dX9_handsOf_2 : decode cX9_handsOf 2 = .ok (.iconst 0, 1) := by decide +kernel
theorem dX9_handsOf_3 : decode cX9_handsOf 3 = .ok (.istore 4, 2) := by decide +kernel
theorem dX9_handsOf_5 : decode cX9_handsOf 5 = .ok (.iload 4, 2) := by decide +kernel
theorem dX9_handsOf_7 : decode cX9_handsOf 7 = .ok (.bipush 13, 2) := by decide +kernel
theorem dX9_handsOf_9 : decode cX9_handsOf 9 = .ok (.if_icmp .ge 24, 3) := by decide +kernel
theorem dX9_handsOf_12 : decode cX9_handsOf 12 = .ok (.lload_n 2, 1) := by decide +kernel
theorem dX9_handsOf_13 : decode cX9_handsOf 13 = .ok (.aload_n 0, 1) := by decide +kernel
theorem dX9_handsOf_14 : decode cX9_handsOf 14 = .ok (.getfield 25, 3) := by decide +kernel
theorem dX9_handsOf_17 : decode cX9_handsOf 17 = .ok (.bipush 13, 2) := by decide +kernel
theorem dX9_handsOf_19 : decode cX9_handsOf 19 = .ok (.iload_n 1, 1) := by decide +kernel
theorem dX9_handsOf_20 : decode cX9_handsOf 20 = .ok (.imul, 1) := by decide +kernel
theorem dX9_handsOf_21 : decode cX9_handsOf 21 = .ok (.iload 4, 2) := by decide +kernel
theorem dX9_handsOf_23 : decode cX9_handsOf 23 = .ok (.iadd, 1) := by decide +kernel
theorem dX9_handsOf_24 : decode cX9_handsOf 24 = .ok (.laload, 1) := by decide +kernel
theorem dX9_handsOf_25 : decode cX9_handsOf 25 = .ok (.ladd, 1) := by decide +kernel
theorem dX9_handsOf_26 : decode cX9_handsOf 26 = .ok (.lstore_n 2, 1) := by decide +kernel
theorem dX9_handsOf_27 : decode cX9_handsOf 27 = .ok (.iinc 4 1, 3) := by decide +kernel
theorem dX9_handsOf_30 : decode cX9_handsOf 30 = .ok (.goto (-25), 3) := by decide +kernel
theorem dX9_handsOf_33 : decode cX9_handsOf 33 = .ok (.lload_n 2, 1) := by decide +kernel
theorem dX9_handsOf_34 : decode cX9_handsOf 34 = .ok (.lreturn, 1) := by decide +kernel
theorem dX9_hands_0 : decode cX9_hands 0 = .ok (.iload_n 1, 1) := by decide +kernel
theorem dX9_hands_1 : decode cX9_hands 1 = .ok (.invokestatic 121, 3) := by decide +kernel
theorem dX9_hands_4 : decode cX9_hands 4 = .ok (.ifCond .eq 15, 3) := by decide +kernel
theorem dX9_hands_7 : decode cX9_hands 7 = .ok (.iload_n 2, 1) := by decide +kernel
theorem dX9_hands_8 : decode cX9_hands 8 = .ok (.i2l, 1) := by decide +kernel
theorem dX9_hands_9 : decode cX9_hands 9 = .ok (.lconst 0, 1) := by decide +kernel
theorem dX9_hands_10 : decode cX9_hands 10 = .ok (.ldc2_w 133, 3) := by decide +kernel
theorem dX9_hands_13 : decode cX9_hands 13 = .ok (.invokestatic 66, 3) := by decide +kernel
theorem dX9_hands_16 : decode cX9_hands 16 = .ok (.ifCond .ne 7, 3) := by decide +kernel
theorem dX9_hands_19 : decode cX9_hands 19 = .ok (.ldc2_w 135, 3) := by decide +kernel
theorem dX9_hands_22 : decode cX9_hands 22 = .ok (.lreturn, 1) := by decide +kernel
theorem dX9_hands_23 : decode cX9_hands 23 = .ok (.aload_n 0, 1) := by decide +kernel
theorem dX9_hands_24 : decode cX9_hands 24 = .ok (.iload_n 1, 1) := by decide +kernel
theorem dX9_hands_25 : decode cX9_hands 25 = .ok (.invokevirtual 137, 3) := by decide +kernel
theorem dX9_hands_28 : decode cX9_hands 28 = .ok (.aload_n 0, 1) := by decide +kernel
theorem dX9_hands_29 : decode cX9_hands 29 = .ok (.iload_n 2, 1) := by decide +kernel
theorem dX9_hands_30 : decode cX9_hands 30 = .ok (.invokevirtual 141, 3) := by decide +kernel
theorem dX9_hands_33 : decode cX9_hands 33 = .ok (.aload_n 0, 1) := by decide +kernel
theorem dX9_hands_34 : decode cX9_hands 34 = .ok (.invokevirtual 145, 3) := by decide +kernel
theorem dX9_hands_37 : decode cX9_hands 37 = .ok (.iload_n 3, 1) := by decide +kernel
theorem dX9_hands_38 : decode cX9_hands 38 = .ok (.invokestatic 149, 3) := by decide +kernel
theorem dX9_hands_41 : decode cX9_hands 41 = .ok (.lreturn, 1) := by decide +kernel
theorem dX9_given_0 : decode cX9_given 0 = .ok (.iload_n 1, 1) := by decide +kernel
theorem dX9_given_1 : decode cX9_given 1 = .ok (.invokestatic 121, 3) := by decide +kernel
theorem dX9_given_4 : decode cX9_given 4 = .ok (.ifCond .eq 27, 3) := by decide +kernel
theorem dX9_given_7 : decode cX9_given 7 = .ok (.iload_n 2, 1) := by decide +kernel
theorem dX9_given_8 : decode cX9_given 8 = .ok (.i2l, 1) := by decide +kernel
theorem dX9_given_9 : decode cX9_given 9 = .ok (.lconst 0, 1) := by decide +kernel
theorem dX9_given_10 : decode cX9_given 10 = .ok (.ldc2_w 133, 3) := by decide +kernel
theorem dX9_given_13 : decode cX9_given 13 = .ok (.invokestatic 66, 3) := by decide +kernel
theorem dX9_given_16 : decode cX9_given 16 = .ok (.ifCond .eq 15, 3) := by decide +kernel
theorem dX9_given_19 : decode cX9_given 19 = .ok (.iload_n 3, 1) := by decide +kernel
theorem dX9_given_20 : decode cX9_given 20 = .ok (.i2l, 1) := by decide +kernel
theorem dX9_given_21 : decode cX9_given 21 = .ok (.lconst 0, 1) := by decide +kernel
theorem dX9_given_22 : decode cX9_given 22 = .ok (.ldc2_w 133, 3) := by decide +kernel
theorem dX9_given_25 : decode cX9_given 25 = .ok (.invokestatic 66, 3) := by decide +kernel
theorem dX9_given_28 : decode cX9_given 28 = .ok (.ifCond .ne 7, 3) := by decide +kernel
theorem dX9_given_31 : decode cX9_given 31 = .ok (.ldc2_w 135, 3) := by decide +kernel
theorem dX9_given_34 : decode cX9_given 34 = .ok (.lreturn, 1) := by decide +kernel
theorem dX9_given_35 : decode cX9_given 35 = .ok (.aload_n 0, 1) := by decide +kernel
theorem dX9_given_36 : decode cX9_given 36 = .ok (.iload_n 1, 1) := by decide +kernel
theorem dX9_given_37 : decode cX9_given 37 = .ok (.invokevirtual 137, 3) := by decide +kernel
theorem dX9_given_40 : decode cX9_given 40 = .ok (.aload_n 0, 1) := by decide +kernel
theorem dX9_given_41 : decode cX9_given 41 = .ok (.iload_n 2, 1) := by decide +kernel
theorem dX9_given_42 : decode cX9_given 42 = .ok (.invokevirtual 141, 3) := by decide +kernel
theorem dX9_given_45 : decode cX9_given 45 = .ok (.lconst 0, 1) := by decide +kernel
theorem dX9_given_46 : decode cX9_given 46 = .ok (.lcmp, 1) := by decide +kernel
theorem dX9_given_47 : decode cX9_given 47 = .ok (.ifCond .ne 9, 3) := by decide +kernel
theorem dX9_given_50 : decode cX9_given 50 = .ok (.ldc2_w 153, 3) := by decide +kernel
theorem dX9_given_53 : decode cX9_given 53 = .ok (.goto 24, 3) := by decide +kernel
theorem dX9_given_56 : decode cX9_given 56 = .ok (.aload_n 0, 1) := by decide +kernel
theorem dX9_given_57 : decode cX9_given 57 = .ok (.getfield 25, 3) := by decide +kernel
theorem dX9_given_60 : decode cX9_given 60 = .ok (.bipush 13, 2) := by decide +kernel
theorem dX9_given_62 : decode cX9_given 62 = .ok (.iload_n 2, 1) := by decide +kernel
theorem dX9_given_63 : decode cX9_given 63 = .ok (.imul, 1) := by decide +kernel
theorem dX9_given_64 : decode cX9_given 64 = .ok (.iload_n 3, 1) := by decide +kernel
theorem dX9_given_65 : decode cX9_given 65 = .ok (.iadd, 1) := by decide +kernel
theorem dX9_given_66 : decode cX9_given 66 = .ok (.laload, 1) := by decide +kernel
theorem dX9_given_67 : decode cX9_given 67 = .ok (.aload_n 0, 1) := by decide +kernel
theorem dX9_given_68 : decode cX9_given 68 = .ok (.iload_n 2, 1) := by decide +kernel
theorem dX9_given_69 : decode cX9_given 69 = .ok (.invokevirtual 141, 3) := by decide +kernel
theorem dX9_given_72 : decode cX9_given 72 = .ok (.iload 4, 2) := by decide +kernel
theorem dX9_given_74 : decode cX9_given 74 = .ok (.invokestatic 149, 3) := by decide +kernel
theorem dX9_given_77 : decode cX9_given 77 = .ok (.lreturn, 1) := by decide +kernel
theorem dX9_likely_0 : decode cX9_likely 0 = .ok (.iload_n 1, 1) := by decide +kernel
theorem dX9_likely_1 : decode cX9_likely 1 = .ok (.invokestatic 121, 3) := by decide +kernel
theorem dX9_likely_4 : decode cX9_likely 4 = .ok (.ifCond .eq 15, 3) := by decide +kernel
theorem dX9_likely_7 : decode cX9_likely 7 = .ok (.iload_n 2, 1) := by decide +kernel
theorem dX9_likely_8 : decode cX9_likely 8 = .ok (.i2l, 1) := by decide +kernel
theorem dX9_likely_9 : decode cX9_likely 9 = .ok (.lconst 0, 1) := by decide +kernel
theorem dX9_likely_10 : decode cX9_likely 10 = .ok (.ldc2_w 133, 3) := by decide +kernel
theorem dX9_likely_13 : decode cX9_likely 13 = .ok (.invokestatic 66, 3) := by decide +kernel
theorem dX9_likely_16 : decode cX9_likely 16 = .ok (.ifCond .ne 6, 3) := by decide +kernel
theorem dX9_likely_19 : decode cX9_likely 19 = .ok (.bipush (-2), 2) := by decide +kernel
theorem dX9_likely_21 : decode cX9_likely 21 = .ok (.ireturn, 1) := by decide +kernel
theorem dX9_likely_22 : decode cX9_likely 22 = .ok (.aload_n 0, 1) := by decide +kernel
theorem dX9_likely_23 : decode cX9_likely 23 = .ok (.iload_n 1, 1) := by decide +kernel
theorem dX9_likely_24 : decode cX9_likely 24 = .ok (.invokevirtual 137, 3) := by decide +kernel
theorem dX9_likely_27 : decode cX9_likely 27 = .ok (.aload_n 0, 1) := by decide +kernel
theorem dX9_likely_28 : decode cX9_likely 28 = .ok (.iload_n 2, 1) := by decide +kernel
theorem dX9_likely_29 : decode cX9_likely 29 = .ok (.invokevirtual 141, 3) := by decide +kernel
theorem dX9_likely_32 : decode cX9_likely 32 = .ok (.lconst 0, 1) := by decide +kernel
theorem dX9_likely_33 : decode cX9_likely 33 = .ok (.lcmp, 1) := by decide +kernel
theorem dX9_likely_34 : decode cX9_likely 34 = .ok (.ifCond .ne 6, 3) := by decide +kernel
theorem dX9_likely_37 : decode cX9_likely 37 = .ok (.bipush (-3), 2) := by decide +kernel
theorem dX9_likely_39 : decode cX9_likely 39 = .ok (.ireturn, 1) := by decide +kernel
theorem dX9_likely_40 : decode cX9_likely 40 = .ok (.iconst 0, 1) := by decide +kernel
theorem dX9_likely_41 : decode cX9_likely 41 = .ok (.istore_n 3, 1) := by decide +kernel
theorem dX9_likely_42 : decode cX9_likely 42 = .ok (.iconst 1, 1) := by decide +kernel
theorem dX9_likely_43 : decode cX9_likely 43 = .ok (.istore 4, 2) := by decide +kernel
theorem dX9_likely_45 : decode cX9_likely 45 = .ok (.iload 4, 2) := by decide +kernel
theorem dX9_likely_47 : decode cX9_likely 47 = .ok (.bipush 13, 2) := by decide +kernel
theorem dX9_likely_49 : decode cX9_likely 49 = .ok (.if_icmp .ge 43, 3) := by decide +kernel
theorem dX9_likely_52 : decode cX9_likely 52 = .ok (.aload_n 0, 1) := by decide +kernel
theorem dX9_likely_53 : decode cX9_likely 53 = .ok (.getfield 25, 3) := by decide +kernel
theorem dX9_likely_56 : decode cX9_likely 56 = .ok (.bipush 13, 2) := by decide +kernel
theorem dX9_likely_58 : decode cX9_likely 58 = .ok (.iload_n 2, 1) := by decide +kernel
theorem dX9_likely_59 : decode cX9_likely 59 = .ok (.imul, 1) := by decide +kernel
theorem dX9_likely_60 : decode cX9_likely 60 = .ok (.iload 4, 2) := by decide +kernel
theorem dX9_likely_62 : decode cX9_likely 62 = .ok (.iadd, 1) := by decide +kernel
theorem dX9_likely_63 : decode cX9_likely 63 = .ok (.laload, 1) := by decide +kernel
theorem dX9_likely_64 : decode cX9_likely 64 = .ok (.aload_n 0, 1) := by decide +kernel
theorem dX9_likely_65 : decode cX9_likely 65 = .ok (.getfield 25, 3) := by decide +kernel
theorem dX9_likely_68 : decode cX9_likely 68 = .ok (.bipush 13, 2) := by decide +kernel
theorem dX9_likely_70 : decode cX9_likely 70 = .ok (.iload_n 2, 1) := by decide +kernel
theorem dX9_likely_71 : decode cX9_likely 71 = .ok (.imul, 1) := by decide +kernel
theorem dX9_likely_72 : decode cX9_likely 72 = .ok (.iload_n 3, 1) := by decide +kernel
theorem dX9_likely_73 : decode cX9_likely 73 = .ok (.iadd, 1) := by decide +kernel
theorem dX9_likely_74 : decode cX9_likely 74 = .ok (.laload, 1) := by decide +kernel
theorem dX9_likely_75 : decode cX9_likely 75 = .ok (.lcmp, 1) := by decide +kernel
theorem dX9_likely_76 : decode cX9_likely 76 = .ok (.ifCond .le 8, 3) := by decide +kernel
theorem dX9_likely_79 : decode cX9_likely 79 = .ok (.iload 4, 2) := by decide +kernel
theorem dX9_likely_81 : decode cX9_likely 81 = .ok (.goto 4, 3) := by decide +kernel
theorem dX9_likely_84 : decode cX9_likely 84 = .ok (.iload_n 3, 1) := by decide +kernel
theorem dX9_likely_85 : decode cX9_likely 85 = .ok (.istore_n 3, 1) := by decide +kernel
theorem dX9_likely_86 : decode cX9_likely 86 = .ok (.iinc 4 1, 3) := by decide +kernel
theorem dX9_likely_89 : decode cX9_likely 89 = .ok (.goto (-44), 3) := by decide +kernel
theorem dX9_likely_92 : decode cX9_likely 92 = .ok (.iload_n 3, 1) := by decide +kernel
theorem dX9_likely_93 : decode cX9_likely 93 = .ok (.ireturn, 1) := by decide +kernel
theorem dX9_isAhead_0 : decode cX9_isAhead 0 = .ok (.iload_n 3, 1) := by decide +kernel
theorem dX9_isAhead_1 : decode cX9_isAhead 1 = .ok (.iconst 1, 1) := by decide +kernel
theorem dX9_isAhead_2 : decode cX9_isAhead 2 = .ok (.if_icmp .ne 17, 3) := by decide +kernel
theorem dX9_isAhead_5 : decode cX9_isAhead 5 = .ok (.aload_n 0, 1) := by decide +kernel
theorem dX9_isAhead_6 : decode cX9_isAhead 6 = .ok (.getfield 13, 3) := by decide +kernel
theorem dX9_isAhead_9 : decode cX9_isAhead 9 = .ok (.bipush 6, 2) := by decide +kernel
theorem dX9_isAhead_11 : decode cX9_isAhead 11 = .ok (.iload_n 1, 1) := by decide +kernel
theorem dX9_isAhead_12 : decode cX9_isAhead 12 = .ok (.imul, 1) := by decide +kernel
theorem dX9_isAhead_13 : decode cX9_isAhead 13 = .ok (.iconst 3, 1) := by decide +kernel
theorem dX9_isAhead_14 : decode cX9_isAhead 14 = .ok (.iadd, 1) := by decide +kernel
theorem dX9_isAhead_15 : decode cX9_isAhead 15 = .ok (.iaload, 1) := by decide +kernel
theorem dX9_isAhead_16 : decode cX9_isAhead 16 = .ok (.goto 22, 3) := by decide +kernel
theorem dX9_isAhead_19 : decode cX9_isAhead 19 = .ok (.iload_n 3, 1) := by decide +kernel
theorem dX9_isAhead_20 : decode cX9_isAhead 20 = .ok (.iconst 4, 1) := by decide +kernel
theorem dX9_isAhead_21 : decode cX9_isAhead 21 = .ok (.if_icmp .ne 12, 3) := by decide +kernel
theorem dX9_isAhead_24 : decode cX9_isAhead 24 = .ok (.aload_n 0, 1) := by decide +kernel
theorem dX9_isAhead_25 : decode cX9_isAhead 25 = .ok (.getfield 19, 3) := by decide +kernel
theorem dX9_isAhead_28 : decode cX9_isAhead 28 = .ok (.iload_n 1, 1) := by decide +kernel
theorem dX9_isAhead_29 : decode cX9_isAhead 29 = .ok (.iaload, 1) := by decide +kernel
theorem dX9_isAhead_30 : decode cX9_isAhead 30 = .ok (.goto 8, 3) := by decide +kernel
theorem dX9_isAhead_33 : decode cX9_isAhead 33 = .ok (.aload_n 0, 1) := by decide +kernel
theorem dX9_isAhead_34 : decode cX9_isAhead 34 = .ok (.iload_n 1, 1) := by decide +kernel
theorem dX9_isAhead_35 : decode cX9_isAhead 35 = .ok (.invokevirtual 155, 3) := by decide +kernel
theorem dX9_isAhead_38 : decode cX9_isAhead 38 = .ok (.istore 4, 2) := by decide +kernel
theorem dX9_isAhead_40 : decode cX9_isAhead 40 = .ok (.iload_n 3, 1) := by decide +kernel
theorem dX9_isAhead_41 : decode cX9_isAhead 41 = .ok (.iconst 1, 1) := by decide +kernel
theorem dX9_isAhead_42 : decode cX9_isAhead 42 = .ok (.if_icmp .ne 17, 3) := by decide +kernel
theorem dX9_isAhead_45 : decode cX9_isAhead 45 = .ok (.aload_n 0, 1) := by decide +kernel
theorem dX9_isAhead_46 : decode cX9_isAhead 46 = .ok (.getfield 13, 3) := by decide +kernel
theorem dX9_isAhead_49 : decode cX9_isAhead 49 = .ok (.bipush 6, 2) := by decide +kernel
theorem dX9_isAhead_51 : decode cX9_isAhead 51 = .ok (.iload_n 2, 1) := by decide +kernel
theorem dX9_isAhead_52 : decode cX9_isAhead 52 = .ok (.imul, 1) := by decide +kernel
theorem dX9_isAhead_53 : decode cX9_isAhead 53 = .ok (.iconst 3, 1) := by decide +kernel
theorem dX9_isAhead_54 : decode cX9_isAhead 54 = .ok (.iadd, 1) := by decide +kernel
theorem dX9_isAhead_55 : decode cX9_isAhead 55 = .ok (.iaload, 1) := by decide +kernel
theorem dX9_isAhead_56 : decode cX9_isAhead 56 = .ok (.goto 22, 3) := by decide +kernel
theorem dX9_isAhead_59 : decode cX9_isAhead 59 = .ok (.iload_n 3, 1) := by decide +kernel
theorem dX9_isAhead_60 : decode cX9_isAhead 60 = .ok (.iconst 4, 1) := by decide +kernel
theorem dX9_isAhead_61 : decode cX9_isAhead 61 = .ok (.if_icmp .ne 12, 3) := by decide +kernel
theorem dX9_isAhead_64 : decode cX9_isAhead 64 = .ok (.aload_n 0, 1) := by decide +kernel
theorem dX9_isAhead_65 : decode cX9_isAhead 65 = .ok (.getfield 19, 3) := by decide +kernel
theorem dX9_isAhead_68 : decode cX9_isAhead 68 = .ok (.iload_n 2, 1) := by decide +kernel
theorem dX9_isAhead_69 : decode cX9_isAhead 69 = .ok (.iaload, 1) := by decide +kernel
theorem dX9_isAhead_70 : decode cX9_isAhead 70 = .ok (.goto 8, 3) := by decide +kernel
theorem dX9_isAhead_73 : decode cX9_isAhead 73 = .ok (.aload_n 0, 1) := by decide +kernel
theorem dX9_isAhead_74 : decode cX9_isAhead 74 = .ok (.iload_n 2, 1) := by decide +kernel
theorem dX9_isAhead_75 : decode cX9_isAhead 75 = .ok (.invokevirtual 155, 3) := by decide +kernel
theorem dX9_isAhead_78 : decode cX9_isAhead 78 = .ok (.istore 5, 2) := by decide +kernel
theorem dX9_isAhead_80 : decode cX9_isAhead 80 = .ok (.iload 4, 2) := by decide +kernel
theorem dX9_isAhead_82 : decode cX9_isAhead 82 = .ok (.iload 5, 2) := by decide +kernel
theorem dX9_isAhead_84 : decode cX9_isAhead 84 = .ok (.if_icmp .lt 15, 3) := by decide +kernel
theorem dX9_isAhead_87 : decode cX9_isAhead 87 = .ok (.iload 4, 2) := by decide +kernel
theorem dX9_isAhead_89 : decode cX9_isAhead 89 = .ok (.iload 5, 2) := by decide +kernel
theorem dX9_isAhead_91 : decode cX9_isAhead 91 = .ok (.if_icmp .ne 12, 3) := by decide +kernel
theorem dX9_isAhead_94 : decode cX9_isAhead 94 = .ok (.iload_n 1, 1) := by decide +kernel
theorem dX9_isAhead_95 : decode cX9_isAhead 95 = .ok (.iload_n 2, 1) := by decide +kernel
theorem dX9_isAhead_96 : decode cX9_isAhead 96 = .ok (.if_icmp .ge 7, 3) := by decide +kernel
theorem dX9_isAhead_99 : decode cX9_isAhead 99 = .ok (.iconst 1, 1) := by decide +kernel
theorem dX9_isAhead_100 : decode cX9_isAhead 100 = .ok (.goto 4, 3) := by decide +kernel
theorem dX9_isAhead_103 : decode cX9_isAhead 103 = .ok (.iconst 0, 1) := by decide +kernel
theorem dX9_isAhead_104 : decode cX9_isAhead 104 = .ok (.ireturn, 1) := by decide +kernel
theorem dX9_placeOf_0 : decode cX9_placeOf 0 = .ok (.iconst 2, 1) := by decide +kernel
theorem dX9_placeOf_1 : decode cX9_placeOf 1 = .ok (.aload_n 0, 1) := by decide +kernel
theorem dX9_placeOf_2 : decode cX9_placeOf 2 = .ok (.getfield 13, 3) := by decide +kernel
theorem dX9_placeOf_5 : decode cX9_placeOf 5 = .ok (.bipush 6, 2) := by decide +kernel
theorem dX9_placeOf_7 : decode cX9_placeOf 7 = .ok (.iload_n 1, 1) := by decide +kernel
theorem dX9_placeOf_8 : decode cX9_placeOf 8 = .ok (.imul, 1) := by decide +kernel
theorem dX9_placeOf_9 : decode cX9_placeOf 9 = .ok (.iconst 1, 1) := by decide +kernel
theorem dX9_placeOf_10 : decode cX9_placeOf 10 = .ok (.iadd, 1) := by decide +kernel
theorem dX9_placeOf_11 : decode cX9_placeOf 11 = .ok (.iaload, 1) := by decide +kernel
theorem dX9_placeOf_12 : decode cX9_placeOf 12 = .ok (.imul, 1) := by decide +kernel
theorem dX9_placeOf_13 : decode cX9_placeOf 13 = .ok (.iconst 5, 1) := by decide +kernel
theorem dX9_placeOf_14 : decode cX9_placeOf 14 = .ok (.isub, 1) := by decide +kernel
theorem dX9_placeOf_15 : decode cX9_placeOf 15 = .ok (.istore_n 2, 1) := by decide +kernel
theorem dX9_placeOf_16 : decode cX9_placeOf 16 = .ok (.bipush 100, 2) := by decide +kernel
theorem dX9_placeOf_18 : decode cX9_placeOf 18 = .ok (.aload_n 0, 1) := by decide +kernel
theorem dX9_placeOf_19 : decode cX9_placeOf 19 = .ok (.getfield 13, 3) := by decide +kernel
theorem dX9_placeOf_22 : decode cX9_placeOf 22 = .ok (.bipush 6, 2) := by decide +kernel
theorem dX9_placeOf_24 : decode cX9_placeOf 24 = .ok (.iload_n 1, 1) := by decide +kernel
theorem dX9_placeOf_25 : decode cX9_placeOf 25 = .ok (.imul, 1) := by decide +kernel
theorem dX9_placeOf_26 : decode cX9_placeOf 26 = .ok (.iaload, 1) := by decide +kernel
theorem dX9_placeOf_27 : decode cX9_placeOf 27 = .ok (.imul, 1) := by decide +kernel
theorem dX9_placeOf_28 : decode cX9_placeOf 28 = .ok (.bipush 10, 2) := by decide +kernel
theorem dX9_placeOf_30 : decode cX9_placeOf 30 = .ok (.iload_n 2, 1) := by decide +kernel
theorem dX9_placeOf_31 : decode cX9_placeOf 31 = .ok (.ifCond .ge 8, 3) := by decide +kernel
theorem dX9_placeOf_34 : decode cX9_placeOf 34 = .ok (.iload_n 2, 1) := by decide +kernel
theorem dX9_placeOf_35 : decode cX9_placeOf 35 = .ok (.ineg, 1) := by decide +kernel
theorem dX9_placeOf_36 : decode cX9_placeOf 36 = .ok (.goto 4, 3) := by decide +kernel
theorem dX9_placeOf_39 : decode cX9_placeOf 39 = .ok (.iload_n 2, 1) := by decide +kernel
theorem dX9_placeOf_40 : decode cX9_placeOf 40 = .ok (.imul, 1) := by decide +kernel
theorem dX9_placeOf_41 : decode cX9_placeOf 41 = .ok (.iadd, 1) := by decide +kernel
theorem dX9_placeOf_42 : decode cX9_placeOf 42 = .ok (.aload_n 0, 1) := by decide +kernel
theorem dX9_placeOf_43 : decode cX9_placeOf 43 = .ok (.getfield 13, 3) := by decide +kernel
theorem dX9_placeOf_46 : decode cX9_placeOf 46 = .ok (.bipush 6, 2) := by decide +kernel
theorem dX9_placeOf_48 : decode cX9_placeOf 48 = .ok (.iload_n 1, 1) := by decide +kernel
theorem dX9_placeOf_49 : decode cX9_placeOf 49 = .ok (.imul, 1) := by decide +kernel
theorem dX9_placeOf_50 : decode cX9_placeOf 50 = .ok (.iconst 1, 1) := by decide +kernel
theorem dX9_placeOf_51 : decode cX9_placeOf 51 = .ok (.iadd, 1) := by decide +kernel
theorem dX9_placeOf_52 : decode cX9_placeOf 52 = .ok (.iaload, 1) := by decide +kernel
theorem dX9_placeOf_53 : decode cX9_placeOf 53 = .ok (.iadd, 1) := by decide +kernel
theorem dX9_placeOf_54 : decode cX9_placeOf 54 = .ok (.ireturn, 1) := by decide +kernel
theorem dX9_takenOf_0 : decode cX9_takenOf 0 = .ok (.iload_n 3, 1) := by decide +kernel
theorem dX9_takenOf_1 : decode cX9_takenOf 1 = .ok (.iconst 3, 1) := by decide +kernel
theorem dX9_takenOf_2 : decode cX9_takenOf 2 = .ok (.if_icmp .ne 18, 3) := by decide +kernel
theorem dX9_takenOf_5 : decode cX9_takenOf 5 = .ok (.aload_n 0, 1) := by decide +kernel
theorem dX9_takenOf_6 : decode cX9_takenOf 6 = .ok (.invokevirtual 145, 3) := by decide +kernel
theorem dX9_takenOf_9 : decode cX9_takenOf 9 = .ok (.ldc2_w 158, 3) := by decide +kernel
theorem dX9_takenOf_12 : decode cX9_takenOf 12 = .ok (.aload_n 0, 1) := by decide +kernel
theorem dX9_takenOf_13 : decode cX9_takenOf 13 = .ok (.getfield 97, 3) := by decide +kernel
theorem dX9_takenOf_16 : decode cX9_takenOf 16 = .ok (.i2l, 1) := by decide +kernel
theorem dX9_takenOf_17 : decode cX9_takenOf 17 = .ok (.ldiv, 1) := by decide +kernel
theorem dX9_takenOf_18 : decode cX9_takenOf 18 = .ok (.lmul, 1) := by decide +kernel
theorem dX9_takenOf_19 : decode cX9_takenOf 19 = .ok (.lreturn, 1) := by decide +kernel
theorem dX9_takenOf_20 : decode cX9_takenOf 20 = .ok (.iload_n 3, 1) := by decide +kernel
theorem dX9_takenOf_21 : decode cX9_takenOf 21 = .ok (.iconst 2, 1) := by decide +kernel
theorem dX9_takenOf_22 : decode cX9_takenOf 22 = .ok (.if_icmp .eq 80, 3) := by decide +kernel
theorem dX9_takenOf_25 : decode cX9_takenOf 25 = .ok (.aload_n 0, 1) := by decide +kernel
theorem dX9_takenOf_26 : decode cX9_takenOf 26 = .ok (.iload_n 1, 1) := by decide +kernel
theorem dX9_takenOf_27 : decode cX9_takenOf 27 = .ok (.iload_n 2, 1) := by decide +kernel
theorem dX9_takenOf_28 : decode cX9_takenOf 28 = .ok (.invokevirtual 124, 3) := by decide +kernel
theorem dX9_takenOf_31 : decode cX9_takenOf 31 = .ok (.i2l, 1) := by decide +kernel
theorem dX9_takenOf_32 : decode cX9_takenOf 32 = .ok (.lstore 4, 2) := by decide +kernel
theorem dX9_takenOf_34 : decode cX9_takenOf 34 = .ok (.iconst 0, 1) := by decide +kernel
theorem dX9_takenOf_35 : decode cX9_takenOf 35 = .ok (.istore 6, 2) := by decide +kernel
theorem dX9_takenOf_37 : decode cX9_takenOf 37 = .ok (.iload 6, 2) := by decide +kernel
theorem dX9_takenOf_39 : decode cX9_takenOf 39 = .ok (.aload_n 0, 1) := by decide +kernel
theorem dX9_takenOf_40 : decode cX9_takenOf 40 = .ok (.getfield 97, 3) := by decide +kernel
theorem dX9_takenOf_43 : decode cX9_takenOf 43 = .ok (.if_icmp .ge 52, 3) := by decide +kernel
theorem dX9_takenOf_46 : decode cX9_takenOf 46 = .ok (.lload 4, 2) := by decide +kernel
theorem dX9_takenOf_48 : decode cX9_takenOf 48 = .ok (.iload 6, 2) := by decide +kernel
theorem dX9_takenOf_50 : decode cX9_takenOf 50 = .ok (.iload_n 1, 1) := by decide +kernel
theorem dX9_takenOf_51 : decode cX9_takenOf 51 = .ok (.if_icmp .ne 7, 3) := by decide +kernel
theorem dX9_takenOf_54 : decode cX9_takenOf 54 = .ok (.lconst 1, 1) := by decide +kernel
theorem dX9_takenOf_55 : decode cX9_takenOf 55 = .ok (.goto 31, 3) := by decide +kernel
theorem dX9_takenOf_58 : decode cX9_takenOf 58 = .ok (.aload_n 0, 1) := by decide +kernel
theorem dX9_takenOf_59 : decode cX9_takenOf 59 = .ok (.iload 6, 2) := by decide +kernel
theorem dX9_takenOf_61 : decode cX9_takenOf 61 = .ok (.iload_n 1, 1) := by decide +kernel
theorem dX9_takenOf_62 : decode cX9_takenOf 62 = .ok (.iload_n 3, 1) := by decide +kernel
theorem dX9_takenOf_63 : decode cX9_takenOf 63 = .ok (.invokevirtual 160, 3) := by decide +kernel
theorem dX9_takenOf_66 : decode cX9_takenOf 66 = .ok (.ifCond .eq 17, 3) := by decide +kernel
theorem dX9_takenOf_69 : decode cX9_takenOf 69 = .ok (.bipush 10, 2) := by decide +kernel
theorem dX9_takenOf_71 : decode cX9_takenOf 71 = .ok (.aload_n 0, 1) := by decide +kernel
theorem dX9_takenOf_72 : decode cX9_takenOf 72 = .ok (.iload 6, 2) := by decide +kernel
theorem dX9_takenOf_74 : decode cX9_takenOf 74 = .ok (.iload_n 2, 1) := by decide +kernel
theorem dX9_takenOf_75 : decode cX9_takenOf 75 = .ok (.invokevirtual 124, 3) := by decide +kernel
theorem dX9_takenOf_78 : decode cX9_takenOf 78 = .ok (.isub, 1) := by decide +kernel
theorem dX9_takenOf_79 : decode cX9_takenOf 79 = .ok (.i2l, 1) := by decide +kernel
theorem dX9_takenOf_80 : decode cX9_takenOf 80 = .ok (.goto 6, 3) := by decide +kernel
theorem dX9_takenOf_83 : decode cX9_takenOf 83 = .ok (.ldc2_w 131, 3) := by decide +kernel
theorem dX9_takenOf_86 : decode cX9_takenOf 86 = .ok (.lmul, 1) := by decide +kernel
theorem dX9_takenOf_87 : decode cX9_takenOf 87 = .ok (.lstore 4, 2) := by decide +kernel
theorem dX9_takenOf_89 : decode cX9_takenOf 89 = .ok (.iinc 6 1, 3) := by decide +kernel
theorem dX9_takenOf_92 : decode cX9_takenOf 92 = .ok (.goto (-55), 3) := by decide +kernel
theorem dX9_takenOf_95 : decode cX9_takenOf 95 = .ok (.lload 4, 2) := by decide +kernel
theorem dX9_takenOf_97 : decode cX9_takenOf 97 = .ok (.ldc2_w 158, 3) := by decide +kernel
theorem dX9_takenOf_100 : decode cX9_takenOf 100 = .ok (.lmul, 1) := by decide +kernel
theorem dX9_takenOf_101 : decode cX9_takenOf 101 = .ok (.lreturn, 1) := by decide +kernel
theorem dX9_takenOf_102 : decode cX9_takenOf 102 = .ok (.iconst 0, 1) := by decide +kernel
theorem dX9_takenOf_103 : decode cX9_takenOf 103 = .ok (.istore 4, 2) := by decide +kernel
theorem dX9_takenOf_105 : decode cX9_takenOf 105 = .ok (.iload 4, 2) := by decide +kernel
theorem dX9_takenOf_107 : decode cX9_takenOf 107 = .ok (.bipush 13, 2) := by decide +kernel
theorem dX9_takenOf_109 : decode cX9_takenOf 109 = .ok (.if_icmp .ge 32, 3) := by decide +kernel
theorem dX9_takenOf_112 : decode cX9_takenOf 112 = .ok (.aload_n 0, 1) := by decide +kernel
theorem dX9_takenOf_113 : decode cX9_takenOf 113 = .ok (.getfield 29, 3) := by decide +kernel
theorem dX9_takenOf_116 : decode cX9_takenOf 116 = .ok (.iload 4, 2) := by decide +kernel
theorem dX9_takenOf_118 : decode cX9_takenOf 118 = .ok (.iload 4, 2) := by decide +kernel
theorem dX9_takenOf_120 : decode cX9_takenOf 120 = .ok (.ifCond .ne 13, 3) := by decide +kernel
theorem dX9_takenOf_123 : decode cX9_takenOf 123 = .ok (.aload_n 0, 1) := by decide +kernel
theorem dX9_takenOf_124 : decode cX9_takenOf 124 = .ok (.iload_n 1, 1) := by decide +kernel
theorem dX9_takenOf_125 : decode cX9_takenOf 125 = .ok (.iload_n 2, 1) := by decide +kernel
theorem dX9_takenOf_126 : decode cX9_takenOf 126 = .ok (.invokevirtual 124, 3) := by decide +kernel
theorem dX9_takenOf_129 : decode cX9_takenOf 129 = .ok (.i2l, 1) := by decide +kernel
theorem dX9_takenOf_130 : decode cX9_takenOf 130 = .ok (.goto 4, 3) := by decide +kernel
theorem dX9_takenOf_133 : decode cX9_takenOf 133 = .ok (.lconst 0, 1) := by decide +kernel
theorem dX9_takenOf_134 : decode cX9_takenOf 134 = .ok (.lastore, 1) := by decide +kernel
theorem dX9_takenOf_135 : decode cX9_takenOf 135 = .ok (.iinc 4 1, 3) := by decide +kernel
theorem dX9_takenOf_138 : decode cX9_takenOf 138 = .ok (.goto (-33), 3) := by decide +kernel
theorem dX9_takenOf_141 : decode cX9_takenOf 141 = .ok (.iconst 0, 1) := by decide +kernel
theorem dX9_takenOf_142 : decode cX9_takenOf 142 = .ok (.istore 4, 2) := by decide +kernel
theorem dX9_takenOf_144 : decode cX9_takenOf 144 = .ok (.iload 4, 2) := by decide +kernel
theorem dX9_takenOf_146 : decode cX9_takenOf 146 = .ok (.aload_n 0, 1) := by decide +kernel
theorem dX9_takenOf_147 : decode cX9_takenOf 147 = .ok (.getfield 97, 3) := by decide +kernel
theorem dX9_takenOf_150 : decode cX9_takenOf 150 = .ok (.if_icmp .ge 84, 3) := by decide +kernel
theorem dX9_takenOf_153 : decode cX9_takenOf 153 = .ok (.bipush 12, 2) := by decide +kernel
theorem dX9_takenOf_155 : decode cX9_takenOf 155 = .ok (.istore 5, 2) := by decide +kernel
theorem dX9_takenOf_157 : decode cX9_takenOf 157 = .ok (.iload 5, 2) := by decide +kernel
theorem dX9_takenOf_159 : decode cX9_takenOf 159 = .ok (.ifCond .lt 69, 3) := by decide +kernel
theorem dX9_takenOf_162 : decode cX9_takenOf 162 = .ok (.iload 4, 2) := by decide +kernel
theorem dX9_takenOf_164 : decode cX9_takenOf 164 = .ok (.iload_n 1, 1) := by decide +kernel
theorem dX9_takenOf_165 : decode cX9_takenOf 165 = .ok (.if_icmp .eq 63, 3) := by decide +kernel
theorem dX9_takenOf_168 : decode cX9_takenOf 168 = .ok (.aload_n 0, 1) := by decide +kernel
theorem dX9_takenOf_169 : decode cX9_takenOf 169 = .ok (.getfield 29, 3) := by decide +kernel
theorem dX9_takenOf_172 : decode cX9_takenOf 172 = .ok (.iload 5, 2) := by decide +kernel
theorem dX9_takenOf_174 : decode cX9_takenOf 174 = .ok (.aload_n 0, 1) := by decide +kernel
theorem dX9_takenOf_175 : decode cX9_takenOf 175 = .ok (.getfield 29, 3) := by decide +kernel
theorem dX9_takenOf_178 : decode cX9_takenOf 178 = .ok (.iload 5, 2) := by decide +kernel
theorem dX9_takenOf_180 : decode cX9_takenOf 180 = .ok (.laload, 1) := by decide +kernel
theorem dX9_takenOf_181 : decode cX9_takenOf 181 = .ok (.bipush 10, 2) := by decide +kernel
theorem dX9_takenOf_183 : decode cX9_takenOf 183 = .ok (.aload_n 0, 1) := by decide +kernel
theorem dX9_takenOf_184 : decode cX9_takenOf 184 = .ok (.iload 4, 2) := by decide +kernel
theorem dX9_takenOf_186 : decode cX9_takenOf 186 = .ok (.iload_n 2, 1) := by decide +kernel
theorem dX9_takenOf_187 : decode cX9_takenOf 187 = .ok (.invokevirtual 124, 3) := by decide +kernel
theorem dX9_takenOf_190 : decode cX9_takenOf 190 = .ok (.isub, 1) := by decide +kernel
theorem dX9_takenOf_191 : decode cX9_takenOf 191 = .ok (.i2l, 1) := by decide +kernel
theorem dX9_takenOf_192 : decode cX9_takenOf 192 = .ok (.lmul, 1) := by decide +kernel
theorem dX9_takenOf_193 : decode cX9_takenOf 193 = .ok (.iload 5, 2) := by decide +kernel
theorem dX9_takenOf_195 : decode cX9_takenOf 195 = .ok (.ifCond .le 24, 3) := by decide +kernel
theorem dX9_takenOf_198 : decode cX9_takenOf 198 = .ok (.aload_n 0, 1) := by decide +kernel
theorem dX9_takenOf_199 : decode cX9_takenOf 199 = .ok (.getfield 29, 3) := by decide +kernel
theorem dX9_takenOf_202 : decode cX9_takenOf 202 = .ok (.iload 5, 2) := by decide +kernel
theorem dX9_takenOf_204 : decode cX9_takenOf 204 = .ok (.iconst 1, 1) := by decide +kernel
theorem dX9_takenOf_205 : decode cX9_takenOf 205 = .ok (.isub, 1) := by decide +kernel
theorem dX9_takenOf_206 : decode cX9_takenOf 206 = .ok (.laload, 1) := by decide +kernel
theorem dX9_takenOf_207 : decode cX9_takenOf 207 = .ok (.aload_n 0, 1) := by decide +kernel
theorem dX9_takenOf_208 : decode cX9_takenOf 208 = .ok (.iload 4, 2) := by decide +kernel
theorem dX9_takenOf_210 : decode cX9_takenOf 210 = .ok (.iload_n 2, 1) := by decide +kernel
theorem dX9_takenOf_211 : decode cX9_takenOf 211 = .ok (.invokevirtual 124, 3) := by decide +kernel
theorem dX9_takenOf_214 : decode cX9_takenOf 214 = .ok (.i2l, 1) := by decide +kernel
theorem dX9_takenOf_215 : decode cX9_takenOf 215 = .ok (.lmul, 1) := by decide +kernel
theorem dX9_takenOf_216 : decode cX9_takenOf 216 = .ok (.goto 4, 3) := by decide +kernel
theorem dX9_takenOf_219 : decode cX9_takenOf 219 = .ok (.lconst 0, 1) := by decide +kernel
theorem dX9_takenOf_220 : decode cX9_takenOf 220 = .ok (.ladd, 1) := by decide +kernel
theorem dX9_takenOf_221 : decode cX9_takenOf 221 = .ok (.lastore, 1) := by decide +kernel
theorem dX9_takenOf_222 : decode cX9_takenOf 222 = .ok (.iinc 5 (-1), 3) := by decide +kernel
theorem dX9_takenOf_225 : decode cX9_takenOf 225 = .ok (.goto (-68), 3) := by decide +kernel
theorem dX9_takenOf_228 : decode cX9_takenOf 228 = .ok (.iinc 4 1, 3) := by decide +kernel
theorem dX9_takenOf_231 : decode cX9_takenOf 231 = .ok (.goto (-87), 3) := by decide +kernel
theorem dX9_takenOf_234 : decode cX9_takenOf 234 = .ok (.lconst 0, 1) := by decide +kernel
theorem dX9_takenOf_235 : decode cX9_takenOf 235 = .ok (.lstore 4, 2) := by decide +kernel
theorem dX9_takenOf_237 : decode cX9_takenOf 237 = .ok (.iconst 0, 1) := by decide +kernel
theorem dX9_takenOf_238 : decode cX9_takenOf 238 = .ok (.istore 6, 2) := by decide +kernel
theorem dX9_takenOf_240 : decode cX9_takenOf 240 = .ok (.iload 6, 2) := by decide +kernel
theorem dX9_takenOf_242 : decode cX9_takenOf 242 = .ok (.bipush 12, 2) := by decide +kernel
theorem dX9_takenOf_244 : decode cX9_takenOf 244 = .ok (.if_icmp .ge 31, 3) := by decide +kernel
theorem dX9_takenOf_247 : decode cX9_takenOf 247 = .ok (.lload 4, 2) := by decide +kernel
theorem dX9_takenOf_249 : decode cX9_takenOf 249 = .ok (.aload_n 0, 1) := by decide +kernel
theorem dX9_takenOf_250 : decode cX9_takenOf 250 = .ok (.getfield 29, 3) := by decide +kernel
theorem dX9_takenOf_253 : decode cX9_takenOf 253 = .ok (.iload 6, 2) := by decide +kernel
theorem dX9_takenOf_255 : decode cX9_takenOf 255 = .ok (.laload, 1) := by decide +kernel
theorem dX9_takenOf_256 : decode cX9_takenOf 256 = .ok (.ldc2_w 158, 3) := by decide +kernel
theorem dX9_takenOf_259 : decode cX9_takenOf 259 = .ok (.iload 6, 2) := by decide +kernel
theorem dX9_takenOf_261 : decode cX9_takenOf 261 = .ok (.iconst 1, 1) := by decide +kernel
theorem dX9_takenOf_262 : decode cX9_takenOf 262 = .ok (.iadd, 1) := by decide +kernel
theorem dX9_takenOf_263 : decode cX9_takenOf 263 = .ok (.i2l, 1) := by decide +kernel
theorem dX9_takenOf_264 : decode cX9_takenOf 264 = .ok (.ldiv, 1) := by decide +kernel
theorem dX9_takenOf_265 : decode cX9_takenOf 265 = .ok (.lmul, 1) := by decide +kernel
theorem dX9_takenOf_266 : decode cX9_takenOf 266 = .ok (.ladd, 1) := by decide +kernel
theorem dX9_takenOf_267 : decode cX9_takenOf 267 = .ok (.lstore 4, 2) := by decide +kernel
theorem dX9_takenOf_269 : decode cX9_takenOf 269 = .ok (.iinc 6 1, 3) := by decide +kernel
theorem dX9_takenOf_272 : decode cX9_takenOf 272 = .ok (.goto (-32), 3) := by decide +kernel
theorem dX9_takenOf_275 : decode cX9_takenOf 275 = .ok (.lload 4, 2) := by decide +kernel
theorem dX9_takenOf_277 : decode cX9_takenOf 277 = .ok (.lreturn, 1) := by decide +kernel
theorem dX9_taken_0 : decode cX9_taken 0 = .ok (.aload_n 0, 1) := by decide +kernel
theorem dX9_taken_1 : decode cX9_taken 1 = .ok (.iload_n 1, 1) := by decide +kernel
theorem dX9_taken_2 : decode cX9_taken 2 = .ok (.invokevirtual 115, 3) := by decide +kernel
theorem dX9_taken_5 : decode cX9_taken 5 = .ok (.ifCond .eq 10, 3) := by decide +kernel
theorem dX9_taken_8 : decode cX9_taken 8 = .ok (.iload_n 3, 1) := by decide +kernel
theorem dX9_taken_9 : decode cX9_taken 9 = .ok (.invokestatic 164, 3) := by decide +kernel
theorem dX9_taken_12 : decode cX9_taken 12 = .ok (.ifCond .ne 7, 3) := by decide +kernel
theorem dX9_taken_15 : decode cX9_taken 15 = .ok (.ldc2_w 167, 3) := by decide +kernel
theorem dX9_taken_18 : decode cX9_taken 18 = .ok (.lreturn, 1) := by decide +kernel
theorem dX9_taken_19 : decode cX9_taken 19 = .ok (.iload_n 2, 1) := by decide +kernel
theorem dX9_taken_20 : decode cX9_taken 20 = .ok (.invokestatic 121, 3) := by decide +kernel
theorem dX9_taken_23 : decode cX9_taken 23 = .ok (.ifCond .eq 26, 3) := by decide +kernel
theorem dX9_taken_26 : decode cX9_taken 26 = .ok (.aload_n 0, 1) := by decide +kernel
theorem dX9_taken_27 : decode cX9_taken 27 = .ok (.iload_n 1, 1) := by decide +kernel
theorem dX9_taken_28 : decode cX9_taken 28 = .ok (.iload_n 2, 1) := by decide +kernel
theorem dX9_taken_29 : decode cX9_taken 29 = .ok (.iload_n 3, 1) := by decide +kernel
theorem dX9_taken_30 : decode cX9_taken 30 = .ok (.invokevirtual 169, 3) := by decide +kernel
theorem dX9_taken_33 : decode cX9_taken 33 = .ok (.aload_n 0, 1) := by decide +kernel
theorem dX9_taken_34 : decode cX9_taken 34 = .ok (.invokevirtual 145, 3) := by decide +kernel
theorem dX9_taken_37 : decode cX9_taken 37 = .ok (.ldc2_w 158, 3) := by decide +kernel
theorem dX9_taken_40 : decode cX9_taken 40 = .ok (.lmul, 1) := by decide +kernel
theorem dX9_taken_41 : decode cX9_taken 41 = .ok (.iload 4, 2) := by decide +kernel
theorem dX9_taken_43 : decode cX9_taken 43 = .ok (.invokestatic 149, 3) := by decide +kernel
theorem dX9_taken_46 : decode cX9_taken 46 = .ok (.goto 6, 3) := by decide +kernel
theorem dX9_taken_49 : decode cX9_taken 49 = .ok (.ldc2_w 135, 3) := by decide +kernel
theorem dX9_taken_52 : decode cX9_taken 52 = .ok (.lreturn, 1) := by decide +kernel
theorem dX9_right_0 : decode cX9_right 0 = .ok (.iload_n 2, 1) := by decide +kernel
theorem dX9_right_1 : decode cX9_right 1 = .ok (.invokestatic 164, 3) := by decide +kernel
theorem dX9_right_4 : decode cX9_right 4 = .ok (.ifCond .ne 7, 3) := by decide +kernel
theorem dX9_right_7 : decode cX9_right 7 = .ok (.ldc2_w 167, 3) := by decide +kernel
theorem dX9_right_10 : decode cX9_right 10 = .ok (.lreturn, 1) := by decide +kernel
theorem dX9_right_11 : decode cX9_right 11 = .ok (.iload_n 1, 1) := by decide +kernel
theorem dX9_right_12 : decode cX9_right 12 = .ok (.invokestatic 121, 3) := by decide +kernel
theorem dX9_right_15 : decode cX9_right 15 = .ok (.ifCond .ne 7, 3) := by decide +kernel
theorem dX9_right_18 : decode cX9_right 18 = .ok (.ldc2_w 135, 3) := by decide +kernel
theorem dX9_right_21 : decode cX9_right 21 = .ok (.lreturn, 1) := by decide +kernel
theorem dX9_right_22 : decode cX9_right 22 = .ok (.lconst 0, 1) := by decide +kernel
theorem dX9_right_23 : decode cX9_right 23 = .ok (.lstore 4, 2) := by decide +kernel
theorem dX9_right_25 : decode cX9_right 25 = .ok (.iconst 0, 1) := by decide +kernel
theorem dX9_right_26 : decode cX9_right 26 = .ok (.istore 6, 2) := by decide +kernel
theorem dX9_right_28 : decode cX9_right 28 = .ok (.iload 6, 2) := by decide +kernel
theorem dX9_right_30 : decode cX9_right 30 = .ok (.aload_n 0, 1) := by decide +kernel
theorem dX9_right_31 : decode cX9_right 31 = .ok (.getfield 97, 3) := by decide +kernel
theorem dX9_right_34 : decode cX9_right 34 = .ok (.if_icmp .ge 85, 3) := by decide +kernel
theorem dX9_right_37 : decode cX9_right 37 = .ok (.aload_n 0, 1) := by decide +kernel
theorem dX9_right_38 : decode cX9_right 38 = .ok (.getfield 13, 3) := by decide +kernel
theorem dX9_right_41 : decode cX9_right 41 = .ok (.bipush 6, 2) := by decide +kernel
theorem dX9_right_43 : decode cX9_right 43 = .ok (.iload 6, 2) := by decide +kernel
theorem dX9_right_45 : decode cX9_right 45 = .ok (.imul, 1) := by decide +kernel
theorem dX9_right_46 : decode cX9_right 46 = .ok (.iconst 3, 1) := by decide +kernel
theorem dX9_right_47 : decode cX9_right 47 = .ok (.iadd, 1) := by decide +kernel
theorem dX9_right_48 : decode cX9_right 48 = .ok (.iaload, 1) := by decide +kernel
theorem dX9_right_49 : decode cX9_right 49 = .ok (.iload_n 1, 1) := by decide +kernel
theorem dX9_right_50 : decode cX9_right 50 = .ok (.if_icmp .le 7, 3) := by decide +kernel
theorem dX9_right_53 : decode cX9_right 53 = .ok (.iconst 0, 1) := by decide +kernel
theorem dX9_right_54 : decode cX9_right 54 = .ok (.goto 40, 3) := by decide +kernel
theorem dX9_right_57 : decode cX9_right 57 = .ok (.iload_n 2, 1) := by decide +kernel
theorem dX9_right_58 : decode cX9_right 58 = .ok (.iconst 3, 1) := by decide +kernel
theorem dX9_right_59 : decode cX9_right 59 = .ok (.if_icmp .eq 23, 3) := by decide +kernel
theorem dX9_right_62 : decode cX9_right 62 = .ok (.aload_n 0, 1) := by decide +kernel
theorem dX9_right_63 : decode cX9_right 63 = .ok (.getfield 13, 3) := by decide +kernel
theorem dX9_right_66 : decode cX9_right 66 = .ok (.bipush 6, 2) := by decide +kernel
theorem dX9_right_68 : decode cX9_right 68 = .ok (.iload 6, 2) := by decide +kernel
theorem dX9_right_70 : decode cX9_right 70 = .ok (.imul, 1) := by decide +kernel
theorem dX9_right_71 : decode cX9_right 71 = .ok (.iconst 5, 1) := by decide +kernel
theorem dX9_right_72 : decode cX9_right 72 = .ok (.iadd, 1) := by decide +kernel
theorem dX9_right_73 : decode cX9_right 73 = .ok (.iaload, 1) := by decide +kernel
theorem dX9_right_74 : decode cX9_right 74 = .ok (.ifCond .ne 8, 3) := by decide +kernel
theorem dX9_right_77 : decode cX9_right 77 = .ok (.bipush 10, 2) := by decide +kernel
theorem dX9_right_79 : decode cX9_right 79 = .ok (.goto 15, 3) := by decide +kernel
theorem dX9_right_82 : decode cX9_right 82 = .ok (.aload_n 0, 1) := by decide +kernel
theorem dX9_right_83 : decode cX9_right 83 = .ok (.getfield 13, 3) := by decide +kernel
theorem dX9_right_86 : decode cX9_right 86 = .ok (.bipush 6, 2) := by decide +kernel
theorem dX9_right_88 : decode cX9_right 88 = .ok (.iload 6, 2) := by decide +kernel
theorem dX9_right_90 : decode cX9_right 90 = .ok (.imul, 1) := by decide +kernel
theorem dX9_right_91 : decode cX9_right 91 = .ok (.iconst 2, 1) := by decide +kernel
theorem dX9_right_92 : decode cX9_right 92 = .ok (.iadd, 1) := by decide +kernel
theorem dX9_right_93 : decode cX9_right 93 = .ok (.iaload, 1) := by decide +kernel
theorem dX9_right_94 : decode cX9_right 94 = .ok (.istore 7, 2) := by decide +kernel
theorem dX9_right_96 : decode cX9_right 96 = .ok (.lload 4, 2) := by decide +kernel
theorem dX9_right_98 : decode cX9_right 98 = .ok (.aload_n 0, 1) := by decide +kernel
theorem dX9_right_99 : decode cX9_right 99 = .ok (.iload 6, 2) := by decide +kernel
theorem dX9_right_101 : decode cX9_right 101 = .ok (.iload_n 1, 1) := by decide +kernel
theorem dX9_right_102 : decode cX9_right 102 = .ok (.iload_n 2, 1) := by decide +kernel
theorem dX9_right_103 : decode cX9_right 103 = .ok (.invokevirtual 169, 3) := by decide +kernel
theorem dX9_right_106 : decode cX9_right 106 = .ok (.iload 7, 2) := by decide +kernel
theorem dX9_right_108 : decode cX9_right 108 = .ok (.i2l, 1) := by decide +kernel
theorem dX9_right_109 : decode cX9_right 109 = .ok (.lmul, 1) := by decide +kernel
theorem dX9_right_110 : decode cX9_right 110 = .ok (.ladd, 1) := by decide +kernel
theorem dX9_right_111 : decode cX9_right 111 = .ok (.lstore 4, 2) := by decide +kernel
theorem dX9_right_113 : decode cX9_right 113 = .ok (.iinc 6 1, 3) := by decide +kernel
theorem dX9_right_116 : decode cX9_right 116 = .ok (.goto (-88), 3) := by decide +kernel
theorem dX9_right_119 : decode cX9_right 119 = .ok (.lload 4, 2) := by decide +kernel
theorem dX9_right_121 : decode cX9_right 121 = .ok (.aload_n 0, 1) := by decide +kernel
theorem dX9_right_122 : decode cX9_right 122 = .ok (.invokevirtual 145, 3) := by decide +kernel
theorem dX9_right_125 : decode cX9_right 125 = .ok (.ldc2_w 158, 3) := by decide +kernel
theorem dX9_right_128 : decode cX9_right 128 = .ok (.lmul, 1) := by decide +kernel
theorem dX9_right_129 : decode cX9_right 129 = .ok (.ldc2_w 131, 3) := by decide +kernel
theorem dX9_right_132 : decode cX9_right 132 = .ok (.lmul, 1) := by decide +kernel
theorem dX9_right_133 : decode cX9_right 133 = .ok (.iload_n 3, 1) := by decide +kernel
theorem dX9_right_134 : decode cX9_right 134 = .ok (.invokestatic 149, 3) := by decide +kernel
theorem dX9_right_137 : decode cX9_right 137 = .ok (.lreturn, 1) := by decide +kernel
theorem dX9_mostly_0 : decode cX9_mostly 0 = .ok (.iload_n 2, 1) := by decide +kernel
theorem dX9_mostly_1 : decode cX9_mostly 1 = .ok (.invokestatic 164, 3) := by decide +kernel
theorem dX9_mostly_4 : decode cX9_mostly 4 = .ok (.ifCond .ne 5, 3) := by decide +kernel
theorem dX9_mostly_7 : decode cX9_mostly 7 = .ok (.iconst (-1), 1) := by decide +kernel
theorem dX9_mostly_8 : decode cX9_mostly 8 = .ok (.ireturn, 1) := by decide +kernel
theorem dX9_mostly_9 : decode cX9_mostly 9 = .ok (.iload_n 1, 1) := by decide +kernel
theorem dX9_mostly_10 : decode cX9_mostly 10 = .ok (.invokestatic 121, 3) := by decide +kernel
theorem dX9_mostly_13 : decode cX9_mostly 13 = .ok (.ifCond .ne 6, 3) := by decide +kernel
theorem dX9_mostly_16 : decode cX9_mostly 16 = .ok (.bipush (-2), 2) := by decide +kernel
theorem dX9_mostly_18 : decode cX9_mostly 18 = .ok (.ireturn, 1) := by decide +kernel
theorem dX9_mostly_19 : decode cX9_mostly 19 = .ok (.bipush (-9), 2) := by decide +kernel
theorem dX9_mostly_21 : decode cX9_mostly 21 = .ok (.istore_n 3, 1) := by decide +kernel
theorem dX9_mostly_22 : decode cX9_mostly 22 = .ok (.lconst 0, 1) := by decide +kernel
theorem dX9_mostly_23 : decode cX9_mostly 23 = .ok (.lstore 4, 2) := by decide +kernel
theorem dX9_mostly_25 : decode cX9_mostly 25 = .ok (.iconst 0, 1) := by decide +kernel
theorem dX9_mostly_26 : decode cX9_mostly 26 = .ok (.istore 6, 2) := by decide +kernel
theorem dX9_mostly_28 : decode cX9_mostly 28 = .ok (.iload 6, 2) := by decide +kernel
theorem dX9_mostly_30 : decode cX9_mostly 30 = .ok (.aload_n 0, 1) := by decide +kernel
theorem dX9_mostly_31 : decode cX9_mostly 31 = .ok (.getfield 97, 3) := by decide +kernel
theorem dX9_mostly_34 : decode cX9_mostly 34 = .ok (.if_icmp .ge 51, 3) := by decide +kernel
theorem dX9_mostly_37 : decode cX9_mostly 37 = .ok (.aload_n 0, 1) := by decide +kernel
theorem dX9_mostly_38 : decode cX9_mostly 38 = .ok (.iload 6, 2) := by decide +kernel
theorem dX9_mostly_40 : decode cX9_mostly 40 = .ok (.iload_n 1, 1) := by decide +kernel
theorem dX9_mostly_41 : decode cX9_mostly 41 = .ok (.iload_n 2, 1) := by decide +kernel
theorem dX9_mostly_42 : decode cX9_mostly 42 = .ok (.invokevirtual 169, 3) := by decide +kernel
theorem dX9_mostly_45 : decode cX9_mostly 45 = .ok (.lstore 7, 2) := by decide +kernel
theorem dX9_mostly_47 : decode cX9_mostly 47 = .ok (.lload 7, 2) := by decide +kernel
theorem dX9_mostly_49 : decode cX9_mostly 49 = .ok (.lload 4, 2) := by decide +kernel
theorem dX9_mostly_51 : decode cX9_mostly 51 = .ok (.lcmp, 1) := by decide +kernel
theorem dX9_mostly_52 : decode cX9_mostly 52 = .ok (.ifCond .le 8, 3) := by decide +kernel
theorem dX9_mostly_55 : decode cX9_mostly 55 = .ok (.iload 6, 2) := by decide +kernel
theorem dX9_mostly_57 : decode cX9_mostly 57 = .ok (.goto 4, 3) := by decide +kernel
theorem dX9_mostly_60 : decode cX9_mostly 60 = .ok (.iload_n 3, 1) := by decide +kernel
theorem dX9_mostly_61 : decode cX9_mostly 61 = .ok (.istore_n 3, 1) := by decide +kernel
theorem dX9_mostly_62 : decode cX9_mostly 62 = .ok (.lload 7, 2) := by decide +kernel
theorem dX9_mostly_64 : decode cX9_mostly 64 = .ok (.lload 4, 2) := by decide +kernel
theorem dX9_mostly_66 : decode cX9_mostly 66 = .ok (.lcmp, 1) := by decide +kernel
theorem dX9_mostly_67 : decode cX9_mostly 67 = .ok (.ifCond .le 8, 3) := by decide +kernel
theorem dX9_mostly_70 : decode cX9_mostly 70 = .ok (.lload 7, 2) := by decide +kernel
theorem dX9_mostly_72 : decode cX9_mostly 72 = .ok (.goto 5, 3) := by decide +kernel
theorem dX9_mostly_75 : decode cX9_mostly 75 = .ok (.lload 4, 2) := by decide +kernel
theorem dX9_mostly_77 : decode cX9_mostly 77 = .ok (.lstore 4, 2) := by decide +kernel
theorem dX9_mostly_79 : decode cX9_mostly 79 = .ok (.iinc 6 1, 3) := by decide +kernel
theorem dX9_mostly_82 : decode cX9_mostly 82 = .ok (.goto (-54), 3) := by decide +kernel
theorem dX9_mostly_85 : decode cX9_mostly 85 = .ok (.iload_n 3, 1) := by decide +kernel
theorem dX9_mostly_86 : decode cX9_mostly 86 = .ok (.ireturn, 1) := by decide +kernel
theorem dX9_await_0 : decode cX9_await 0 = .ok (.iload_n 1, 1) := by decide +kernel
theorem dX9_await_1 : decode cX9_await 1 = .ok (.i2l, 1) := by decide +kernel
theorem dX9_await_2 : decode cX9_await 2 = .ok (.lconst 0, 1) := by decide +kernel
theorem dX9_await_3 : decode cX9_await 3 = .ok (.ldc2_w 173, 3) := by decide +kernel
theorem dX9_await_6 : decode cX9_await 6 = .ok (.invokestatic 66, 3) := by decide +kernel
theorem dX9_await_9 : decode cX9_await 9 = .ok (.ifCond .eq 15, 3) := by decide +kernel
theorem dX9_await_12 : decode cX9_await 12 = .ok (.iload_n 2, 1) := by decide +kernel
theorem dX9_await_13 : decode cX9_await 13 = .ok (.i2l, 1) := by decide +kernel
theorem dX9_await_14 : decode cX9_await 14 = .ok (.lconst 0, 1) := by decide +kernel
theorem dX9_await_15 : decode cX9_await 15 = .ok (.ldc2_w 173, 3) := by decide +kernel
theorem dX9_await_18 : decode cX9_await 18 = .ok (.invokestatic 66, 3) := by decide +kernel
theorem dX9_await_21 : decode cX9_await 21 = .ok (.ifCond .ne 6, 3) := by decide +kernel
theorem dX9_await_24 : decode cX9_await 24 = .ok (.bipush (-2), 2) := by decide +kernel
theorem dX9_await_26 : decode cX9_await 26 = .ok (.ireturn, 1) := by decide +kernel
theorem dX9_await_27 : decode cX9_await 27 = .ok (.iconst 0, 1) := by decide +kernel
theorem dX9_await_28 : decode cX9_await 28 = .ok (.istore_n 3, 1) := by decide +kernel
theorem dX9_await_29 : decode cX9_await 29 = .ok (.iconst 1, 1) := by decide +kernel
theorem dX9_await_30 : decode cX9_await 30 = .ok (.istore 4, 2) := by decide +kernel
theorem dX9_await_32 : decode cX9_await 32 = .ok (.iload 4, 2) := by decide +kernel
theorem dX9_await_34 : decode cX9_await 34 = .ok (.bipush 10, 2) := by decide +kernel
theorem dX9_await_36 : decode cX9_await 36 = .ok (.if_icmp .ge 49, 3) := by decide +kernel
theorem dX9_await_39 : decode cX9_await 39 = .ok (.iload_n 1, 1) := by decide +kernel
theorem dX9_await_40 : decode cX9_await 40 = .ok (.aload_n 0, 1) := by decide +kernel
theorem dX9_await_41 : decode cX9_await 41 = .ok (.iload 4, 2) := by decide +kernel
theorem dX9_await_43 : decode cX9_await 43 = .ok (.invokevirtual 128, 3) := by decide +kernel
theorem dX9_await_46 : decode cX9_await 46 = .ok (.imul, 1) := by decide +kernel
theorem dX9_await_47 : decode cX9_await 47 = .ok (.bipush 10, 2) := by decide +kernel
theorem dX9_await_49 : decode cX9_await 49 = .ok (.iload_n 2, 1) := by decide +kernel
theorem dX9_await_50 : decode cX9_await 50 = .ok (.imul, 1) := by decide +kernel
theorem dX9_await_51 : decode cX9_await 51 = .ok (.iload 4, 2) := by decide +kernel
theorem dX9_await_53 : decode cX9_await 53 = .ok (.imul, 1) := by decide +kernel
theorem dX9_await_54 : decode cX9_await 54 = .ok (.isub, 1) := by decide +kernel
theorem dX9_await_55 : decode cX9_await 55 = .ok (.iload_n 1, 1) := by decide +kernel
theorem dX9_await_56 : decode cX9_await 56 = .ok (.aload_n 0, 1) := by decide +kernel
theorem dX9_await_57 : decode cX9_await 57 = .ok (.iload_n 3, 1) := by decide +kernel
theorem dX9_await_58 : decode cX9_await 58 = .ok (.invokevirtual 128, 3) := by decide +kernel
theorem dX9_await_61 : decode cX9_await 61 = .ok (.imul, 1) := by decide +kernel
theorem dX9_await_62 : decode cX9_await 62 = .ok (.bipush 10, 2) := by decide +kernel
theorem dX9_await_64 : decode cX9_await 64 = .ok (.iload_n 2, 1) := by decide +kernel
theorem dX9_await_65 : decode cX9_await 65 = .ok (.imul, 1) := by decide +kernel
theorem dX9_await_66 : decode cX9_await 66 = .ok (.iload_n 3, 1) := by decide +kernel
theorem dX9_await_67 : decode cX9_await 67 = .ok (.imul, 1) := by decide +kernel
theorem dX9_await_68 : decode cX9_await 68 = .ok (.isub, 1) := by decide +kernel
theorem dX9_await_69 : decode cX9_await 69 = .ok (.if_icmp .le 8, 3) := by decide +kernel
theorem dX9_await_72 : decode cX9_await 72 = .ok (.iload 4, 2) := by decide +kernel
theorem dX9_await_74 : decode cX9_await 74 = .ok (.goto 4, 3) := by decide +kernel
theorem dX9_await_77 : decode cX9_await 77 = .ok (.iload_n 3, 1) := by decide +kernel
theorem dX9_await_78 : decode cX9_await 78 = .ok (.istore_n 3, 1) := by decide +kernel
theorem dX9_await_79 : decode cX9_await 79 = .ok (.iinc 4 1, 3) := by decide +kernel
theorem dX9_await_82 : decode cX9_await 82 = .ok (.goto (-50), 3) := by decide +kernel
theorem dX9_await_85 : decode cX9_await 85 = .ok (.iload_n 3, 1) := by decide +kernel
theorem dX9_await_86 : decode cX9_await 86 = .ok (.ireturn, 1) := by decide +kernel
theorem dX9_isKnown_0 : decode cX9_isKnown 0 = .ok (.iload_n 1, 1) := by decide +kernel
theorem dX9_isKnown_1 : decode cX9_isKnown 1 = .ok (.i2l, 1) := by decide +kernel
theorem dX9_isKnown_2 : decode cX9_isKnown 2 = .ok (.lconst 0, 1) := by decide +kernel
theorem dX9_isKnown_3 : decode cX9_isKnown 3 = .ok (.iconst 1, 1) := by decide +kernel
theorem dX9_isKnown_4 : decode cX9_isKnown 4 = .ok (.aload_n 0, 1) := by decide +kernel
theorem dX9_isKnown_5 : decode cX9_isKnown 5 = .ok (.getfield 97, 3) := by decide +kernel
theorem dX9_isKnown_8 : decode cX9_isKnown 8 = .ok (.ishl, 1) := by decide +kernel
theorem dX9_isKnown_9 : decode cX9_isKnown 9 = .ok (.iconst 1, 1) := by decide +kernel
theorem dX9_isKnown_10 : decode cX9_isKnown 10 = .ok (.isub, 1) := by decide +kernel
theorem dX9_isKnown_11 : decode cX9_isKnown 11 = .ok (.i2l, 1) := by decide +kernel
theorem dX9_isKnown_12 : decode cX9_isKnown 12 = .ok (.invokestatic 66, 3) := by decide +kernel
theorem dX9_isKnown_15 : decode cX9_isKnown 15 = .ok (.ireturn, 1) := by decide +kernel
theorem dX9_raisedOf_0 : decode cX9_raisedOf 0 = .ok (.iconst 0, 1) := by decide +kernel
theorem dX9_raisedOf_1 : decode cX9_raisedOf 1 = .ok (.istore_n 3, 1) := by decide +kernel
theorem dX9_raisedOf_2 : decode cX9_raisedOf 2 = .ok (.iconst 0, 1) := by decide +kernel
theorem dX9_raisedOf_3 : decode cX9_raisedOf 3 = .ok (.istore 4, 2) := by decide +kernel
theorem dX9_raisedOf_5 : decode cX9_raisedOf 5 = .ok (.iload 4, 2) := by decide +kernel
theorem dX9_raisedOf_7 : decode cX9_raisedOf 7 = .ok (.aload_n 0, 1) := by decide +kernel
theorem dX9_raisedOf_8 : decode cX9_raisedOf 8 = .ok (.getfield 97, 3) := by decide +kernel
theorem dX9_raisedOf_11 : decode cX9_raisedOf 11 = .ok (.if_icmp .ge 88, 3) := by decide +kernel
theorem dX9_raisedOf_14 : decode cX9_raisedOf 14 = .ok (.aload_n 0, 1) := by decide +kernel
theorem dX9_raisedOf_15 : decode cX9_raisedOf 15 = .ok (.getfield 13, 3) := by decide +kernel
theorem dX9_raisedOf_18 : decode cX9_raisedOf 18 = .ok (.bipush 6, 2) := by decide +kernel
theorem dX9_raisedOf_20 : decode cX9_raisedOf 20 = .ok (.iload 4, 2) := by decide +kernel
theorem dX9_raisedOf_22 : decode cX9_raisedOf 22 = .ok (.imul, 1) := by decide +kernel
theorem dX9_raisedOf_23 : decode cX9_raisedOf 23 = .ok (.iconst 5, 1) := by decide +kernel
theorem dX9_raisedOf_24 : decode cX9_raisedOf 24 = .ok (.iadd, 1) := by decide +kernel
theorem dX9_raisedOf_25 : decode cX9_raisedOf 25 = .ok (.iaload, 1) := by decide +kernel
theorem dX9_raisedOf_26 : decode cX9_raisedOf 26 = .ok (.iconst 1, 1) := by decide +kernel
theorem dX9_raisedOf_27 : decode cX9_raisedOf 27 = .ok (.if_icmp .eq 29, 3) := by decide +kernel
theorem dX9_raisedOf_30 : decode cX9_raisedOf 30 = .ok (.iload_n 1, 1) := by decide +kernel
theorem dX9_raisedOf_31 : decode cX9_raisedOf 31 = .ok (.iload 4, 2) := by decide +kernel
theorem dX9_raisedOf_33 : decode cX9_raisedOf 33 = .ok (.ishr, 1) := by decide +kernel
theorem dX9_raisedOf_34 : decode cX9_raisedOf 34 = .ok (.iconst 1, 1) := by decide +kernel
theorem dX9_raisedOf_35 : decode cX9_raisedOf 35 = .ok (.iand, 1) := by decide +kernel
theorem dX9_raisedOf_36 : decode cX9_raisedOf 36 = .ok (.iconst 1, 1) := by decide +kernel
theorem dX9_raisedOf_37 : decode cX9_raisedOf 37 = .ok (.if_icmp .ne 23, 3) := by decide +kernel
theorem dX9_raisedOf_40 : decode cX9_raisedOf 40 = .ok (.aload_n 0, 1) := by decide +kernel
theorem dX9_raisedOf_41 : decode cX9_raisedOf 41 = .ok (.getfield 13, 3) := by decide +kernel
theorem dX9_raisedOf_44 : decode cX9_raisedOf 44 = .ok (.bipush 6, 2) := by decide +kernel
theorem dX9_raisedOf_46 : decode cX9_raisedOf 46 = .ok (.iload 4, 2) := by decide +kernel
theorem dX9_raisedOf_48 : decode cX9_raisedOf 48 = .ok (.imul, 1) := by decide +kernel
theorem dX9_raisedOf_49 : decode cX9_raisedOf 49 = .ok (.iconst 3, 1) := by decide +kernel
theorem dX9_raisedOf_50 : decode cX9_raisedOf 50 = .ok (.iadd, 1) := by decide +kernel
theorem dX9_raisedOf_51 : decode cX9_raisedOf 51 = .ok (.iaload, 1) := by decide +kernel
theorem dX9_raisedOf_52 : decode cX9_raisedOf 52 = .ok (.iload_n 2, 1) := by decide +kernel
theorem dX9_raisedOf_53 : decode cX9_raisedOf 53 = .ok (.if_icmp .gt 7, 3) := by decide +kernel
theorem dX9_raisedOf_56 : decode cX9_raisedOf 56 = .ok (.iconst 1, 1) := by decide +kernel
theorem dX9_raisedOf_57 : decode cX9_raisedOf 57 = .ok (.goto 4, 3) := by decide +kernel
theorem dX9_raisedOf_60 : decode cX9_raisedOf 60 = .ok (.iconst 0, 1) := by decide +kernel
theorem dX9_raisedOf_61 : decode cX9_raisedOf 61 = .ok (.istore 5, 2) := by decide +kernel
theorem dX9_raisedOf_63 : decode cX9_raisedOf 63 = .ok (.iload_n 3, 1) := by decide +kernel
theorem dX9_raisedOf_64 : decode cX9_raisedOf 64 = .ok (.iload 5, 2) := by decide +kernel
theorem dX9_raisedOf_66 : decode cX9_raisedOf 66 = .ok (.ifCond .eq 24, 3) := by decide +kernel
theorem dX9_raisedOf_69 : decode cX9_raisedOf 69 = .ok (.aload_n 0, 1) := by decide +kernel
theorem dX9_raisedOf_70 : decode cX9_raisedOf 70 = .ok (.getfield 16, 3) := by decide +kernel
theorem dX9_raisedOf_73 : decode cX9_raisedOf 73 = .ok (.iload 4, 2) := by decide +kernel
theorem dX9_raisedOf_75 : decode cX9_raisedOf 75 = .ok (.iaload, 1) := by decide +kernel
theorem dX9_raisedOf_76 : decode cX9_raisedOf 76 = .ok (.aload_n 0, 1) := by decide +kernel
theorem dX9_raisedOf_77 : decode cX9_raisedOf 77 = .ok (.getfield 60, 3) := by decide +kernel
theorem dX9_raisedOf_80 : decode cX9_raisedOf 80 = .ok (.if_icmp .lt 10, 3) := by decide +kernel
theorem dX9_raisedOf_83 : decode cX9_raisedOf 83 = .ok (.iconst 1, 1) := by decide +kernel
theorem dX9_raisedOf_84 : decode cX9_raisedOf 84 = .ok (.iload 4, 2) := by decide +kernel
theorem dX9_raisedOf_86 : decode cX9_raisedOf 86 = .ok (.ishl, 1) := by decide +kernel
theorem dX9_raisedOf_87 : decode cX9_raisedOf 87 = .ok (.goto 4, 3) := by decide +kernel
theorem dX9_raisedOf_90 : decode cX9_raisedOf 90 = .ok (.iconst 0, 1) := by decide +kernel
theorem dX9_raisedOf_91 : decode cX9_raisedOf 91 = .ok (.ior, 1) := by decide +kernel
theorem dX9_raisedOf_92 : decode cX9_raisedOf 92 = .ok (.istore_n 3, 1) := by decide +kernel
theorem dX9_raisedOf_93 : decode cX9_raisedOf 93 = .ok (.iinc 4 1, 3) := by decide +kernel
theorem dX9_raisedOf_96 : decode cX9_raisedOf 96 = .ok (.goto (-91), 3) := by decide +kernel
theorem dX9_raisedOf_99 : decode cX9_raisedOf 99 = .ok (.iload_n 3, 1) := by decide +kernel
theorem dX9_raisedOf_100 : decode cX9_raisedOf 100 = .ok (.ireturn, 1) := by decide +kernel
theorem dX9_raised_0 : decode cX9_raised 0 = .ok (.aload_n 0, 1) := by decide +kernel
theorem dX9_raised_1 : decode cX9_raised 1 = .ok (.iload_n 1, 1) := by decide +kernel
theorem dX9_raised_2 : decode cX9_raised 2 = .ok (.invokevirtual 175, 3) := by decide +kernel
theorem dX9_raised_5 : decode cX9_raised 5 = .ok (.ifCond .eq 19, 3) := by decide +kernel
theorem dX9_raised_8 : decode cX9_raised 8 = .ok (.iload_n 2, 1) := by decide +kernel
theorem dX9_raised_9 : decode cX9_raised 9 = .ok (.invokestatic 121, 3) := by decide +kernel
theorem dX9_raised_12 : decode cX9_raised 12 = .ok (.ifCond .eq 12, 3) := by decide +kernel
theorem dX9_raised_15 : decode cX9_raised 15 = .ok (.aload_n 0, 1) := by decide +kernel
theorem dX9_raised_16 : decode cX9_raised 16 = .ok (.iload_n 1, 1) := by decide +kernel
theorem dX9_raised_17 : decode cX9_raised 17 = .ok (.iload_n 2, 1) := by decide +kernel
theorem dX9_raised_18 : decode cX9_raised 18 = .ok (.invokevirtual 178, 3) := by decide +kernel
theorem dX9_raised_21 : decode cX9_raised 21 = .ok (.goto 5, 3) := by decide +kernel
theorem dX9_raised_24 : decode cX9_raised 24 = .ok (.bipush (-2), 2) := by decide +kernel
theorem dX9_raised_26 : decode cX9_raised 26 = .ok (.ireturn, 1) := by decide +kernel
theorem dX9_silent_0 : decode cX9_silent 0 = .ok (.aload_n 0, 1) := by decide +kernel
theorem dX9_silent_1 : decode cX9_silent 1 = .ok (.iload_n 1, 1) := by decide +kernel
theorem dX9_silent_2 : decode cX9_silent 2 = .ok (.invokevirtual 175, 3) := by decide +kernel
theorem dX9_silent_5 : decode cX9_silent 5 = .ok (.ifCond .eq 23, 3) := by decide +kernel
theorem dX9_silent_8 : decode cX9_silent 8 = .ok (.iload_n 2, 1) := by decide +kernel
theorem dX9_silent_9 : decode cX9_silent 9 = .ok (.invokestatic 121, 3) := by decide +kernel
theorem dX9_silent_12 : decode cX9_silent 12 = .ok (.ifCond .eq 16, 3) := by decide +kernel
theorem dX9_silent_15 : decode cX9_silent 15 = .ok (.iload_n 1, 1) := by decide +kernel
theorem dX9_silent_16 : decode cX9_silent 16 = .ok (.aload_n 0, 1) := by decide +kernel
theorem dX9_silent_17 : decode cX9_silent 17 = .ok (.iload_n 1, 1) := by decide +kernel
theorem dX9_silent_18 : decode cX9_silent 18 = .ok (.iload_n 2, 1) := by decide +kernel
theorem dX9_silent_19 : decode cX9_silent 19 = .ok (.invokevirtual 178, 3) := by decide +kernel
theorem dX9_silent_22 : decode cX9_silent 22 = .ok (.iconst (-1), 1) := by decide +kernel
theorem dX9_silent_23 : decode cX9_silent 23 = .ok (.ixor, 1) := by decide +kernel
theorem dX9_silent_24 : decode cX9_silent 24 = .ok (.iand, 1) := by decide +kernel
theorem dX9_silent_25 : decode cX9_silent 25 = .ok (.goto 5, 3) := by decide +kernel
theorem dX9_silent_28 : decode cX9_silent 28 = .ok (.bipush (-2), 2) := by decide +kernel
theorem dX9_silent_30 : decode cX9_silent 30 = .ok (.ireturn, 1) := by decide +kernel
theorem dX9_seed_0 : decode cX9_seed 0 = .ok (.aload_n 0, 1) := by decide +kernel
theorem dX9_seed_1 : decode cX9_seed 1 = .ok (.getfield 100, 3) := by decide +kernel
theorem dX9_seed_4 : decode cX9_seed 4 = .ok (.lstore_n 3, 1) := by decide +kernel
theorem dX9_seed_5 : decode cX9_seed 5 = .ok (.aload_n 0, 1) := by decide +kernel
theorem dX9_seed_6 : decode cX9_seed 6 = .ok (.lload_n 1, 1) := by decide +kernel
theorem dX9_seed_7 : decode cX9_seed 7 = .ok (.putfield 100, 3) := by decide +kernel
theorem dX9_seed_10 : decode cX9_seed 10 = .ok (.lload_n 3, 1) := by decide +kernel
theorem dX9_seed_11 : decode cX9_seed 11 = .ok (.lreturn, 1) := by decide +kernel
theorem dX9_ones_0 : decode cX9_ones 0 = .ok (.iconst 0, 1) := by decide +kernel
theorem dX9_ones_1 : decode cX9_ones 1 = .ok (.istore_n 1, 1) := by decide +kernel
theorem dX9_ones_2 : decode cX9_ones 2 = .ok (.iconst 0, 1) := by decide +kernel
theorem dX9_ones_3 : decode cX9_ones 3 = .ok (.istore_n 2, 1) := by decide +kernel
theorem dX9_ones_4 : decode cX9_ones 4 = .ok (.iload_n 2, 1) := by decide +kernel
theorem dX9_ones_5 : decode cX9_ones 5 = .ok (.bipush 12, 2) := by decide +kernel
theorem dX9_ones_7 : decode cX9_ones 7 = .ok (.if_icmp .ge 17, 3) := by decide +kernel
theorem dX9_ones_10 : decode cX9_ones 10 = .ok (.iload_n 1, 1) := by decide +kernel
theorem dX9_ones_11 : decode cX9_ones 11 = .ok (.iload_n 0, 1) := by decide +kernel
theorem dX9_ones_12 : decode cX9_ones 12 = .ok (.iload_n 2, 1) := by decide +kernel
theorem dX9_ones_13 : decode cX9_ones 13 = .ok (.ishr, 1) := by decide +kernel
theorem dX9_ones_14 : decode cX9_ones 14 = .ok (.iconst 1, 1) := by decide +kernel
theorem dX9_ones_15 : decode cX9_ones 15 = .ok (.iand, 1) := by decide +kernel
theorem dX9_ones_16 : decode cX9_ones 16 = .ok (.iadd, 1) := by decide +kernel
theorem dX9_ones_17 : decode cX9_ones 17 = .ok (.istore_n 1, 1) := by decide +kernel
theorem dX9_ones_18 : decode cX9_ones 18 = .ok (.iinc 2 1, 3) := by decide +kernel
theorem dX9_ones_21 : decode cX9_ones 21 = .ok (.goto (-17), 3) := by decide +kernel
theorem dX9_ones_24 : decode cX9_ones 24 = .ok (.iload_n 1, 1) := by decide +kernel
theorem dX9_ones_25 : decode cX9_ones 25 = .ok (.ireturn, 1) := by decide +kernel
theorem dX9_drawOf_0 : decode cX9_drawOf 0 = .ok (.iload_n 1, 1) := by decide +kernel
theorem dX9_drawOf_1 : decode cX9_drawOf 1 = .ok (.ifCond .ne 6, 3) := by decide +kernel
theorem dX9_drawOf_4 : decode cX9_drawOf 4 = .ok (.bipush (-9), 2) := by decide +kernel
theorem dX9_drawOf_6 : decode cX9_drawOf 6 = .ok (.ireturn, 1) := by decide +kernel
theorem dX9_drawOf_7 : decode cX9_drawOf 7 = .ok (.aload_n 0, 1) := by decide +kernel
theorem dX9_drawOf_8 : decode cX9_drawOf 8 = .ok (.aload_n 0, 1) := by decide +kernel
theorem dX9_drawOf_9 : decode cX9_drawOf 9 = .ok (.getfield 100, 3) := by decide +kernel
theorem dX9_drawOf_12 : decode cX9_drawOf 12 = .ok (.ldc2_w 181, 3) := by decide +kernel
theorem dX9_drawOf_15 : decode cX9_drawOf 15 = .ok (.lmul, 1) := by decide +kernel
theorem dX9_drawOf_16 : decode cX9_drawOf 16 = .ok (.ldc2_w 183, 3) := by decide +kernel
theorem dX9_drawOf_19 : decode cX9_drawOf 19 = .ok (.ladd, 1) := by decide +kernel
theorem dX9_drawOf_20 : decode cX9_drawOf 20 = .ok (.putfield 100, 3) := by decide +kernel
theorem dX9_drawOf_23 : decode cX9_drawOf 23 = .ok (.aload_n 0, 1) := by decide +kernel
theorem dX9_drawOf_24 : decode cX9_drawOf 24 = .ok (.getfield 100, 3) := by decide +kernel
theorem dX9_drawOf_27 : decode cX9_drawOf 27 = .ok (.bipush 33, 2) := by decide +kernel
theorem dX9_drawOf_29 : decode cX9_drawOf 29 = .ok (.lushr, 1) := by decide +kernel
theorem dX9_drawOf_30 : decode cX9_drawOf 30 = .ok (.iload_n 1, 1) := by decide +kernel
theorem dX9_drawOf_31 : decode cX9_drawOf 31 = .ok (.invokestatic 185, 3) := by decide +kernel
theorem dX9_drawOf_34 : decode cX9_drawOf 34 = .ok (.i2l, 1) := by decide +kernel
theorem dX9_drawOf_35 : decode cX9_drawOf 35 = .ok (.lrem, 1) := by decide +kernel
theorem dX9_drawOf_36 : decode cX9_drawOf 36 = .ok (.l2i, 1) := by decide +kernel
theorem dX9_drawOf_37 : decode cX9_drawOf 37 = .ok (.istore_n 2, 1) := by decide +kernel
theorem dX9_drawOf_38 : decode cX9_drawOf 38 = .ok (.iconst 0, 1) := by decide +kernel
theorem dX9_drawOf_39 : decode cX9_drawOf 39 = .ok (.istore_n 3, 1) := by decide +kernel
theorem dX9_drawOf_40 : decode cX9_drawOf 40 = .ok (.iload_n 1, 1) := by decide +kernel
theorem dX9_drawOf_41 : decode cX9_drawOf 41 = .ok (.iload_n 3, 1) := by decide +kernel
theorem dX9_drawOf_42 : decode cX9_drawOf 42 = .ok (.ishr, 1) := by decide +kernel
theorem dX9_drawOf_43 : decode cX9_drawOf 43 = .ok (.iconst 1, 1) := by decide +kernel
theorem dX9_drawOf_44 : decode cX9_drawOf 44 = .ok (.iand, 1) := by decide +kernel
theorem dX9_drawOf_45 : decode cX9_drawOf 45 = .ok (.ifCond .eq 7, 3) := by decide +kernel
theorem dX9_drawOf_48 : decode cX9_drawOf 48 = .ok (.iload_n 2, 1) := by decide +kernel
theorem dX9_drawOf_49 : decode cX9_drawOf 49 = .ok (.ifCond .le 17, 3) := by decide +kernel
theorem dX9_drawOf_52 : decode cX9_drawOf 52 = .ok (.iload_n 2, 1) := by decide +kernel
theorem dX9_drawOf_53 : decode cX9_drawOf 53 = .ok (.iload_n 1, 1) := by decide +kernel
theorem dX9_drawOf_54 : decode cX9_drawOf 54 = .ok (.iload_n 3, 1) := by decide +kernel
theorem dX9_drawOf_55 : decode cX9_drawOf 55 = .ok (.ishr, 1) := by decide +kernel
theorem dX9_drawOf_56 : decode cX9_drawOf 56 = .ok (.iconst 1, 1) := by decide +kernel
theorem dX9_drawOf_57 : decode cX9_drawOf 57 = .ok (.iand, 1) := by decide +kernel
theorem dX9_drawOf_58 : decode cX9_drawOf 58 = .ok (.isub, 1) := by decide +kernel
theorem dX9_drawOf_59 : decode cX9_drawOf 59 = .ok (.istore_n 2, 1) := by decide +kernel
theorem dX9_drawOf_60 : decode cX9_drawOf 60 = .ok (.iinc 3 1, 3) := by decide +kernel
theorem dX9_drawOf_63 : decode cX9_drawOf 63 = .ok (.goto (-23), 3) := by decide +kernel
theorem dX9_drawOf_66 : decode cX9_drawOf 66 = .ok (.iload_n 3, 1) := by decide +kernel
theorem dX9_drawOf_67 : decode cX9_drawOf 67 = .ok (.ireturn, 1) := by decide +kernel
theorem dX9_takes_0 : decode cX9_takes 0 = .ok (.bipush (-9), 2) := by decide +kernel
theorem dX9_takes_2 : decode cX9_takes 2 = .ok (.istore_n 3, 1) := by decide +kernel
theorem dX9_takes_3 : decode cX9_takes 3 = .ok (.iconst 0, 1) := by decide +kernel
theorem dX9_takes_4 : decode cX9_takes 4 = .ok (.istore 4, 2) := by decide +kernel
theorem dX9_takes_6 : decode cX9_takes 6 = .ok (.iload 4, 2) := by decide +kernel
theorem dX9_takes_8 : decode cX9_takes 8 = .ok (.aload_n 0, 1) := by decide +kernel
theorem dX9_takes_9 : decode cX9_takes 9 = .ok (.getfield 97, 3) := by decide +kernel
theorem dX9_takes_12 : decode cX9_takes 12 = .ok (.if_icmp .ge 43, 3) := by decide +kernel
theorem dX9_takes_15 : decode cX9_takes 15 = .ok (.iload_n 1, 1) := by decide +kernel
theorem dX9_takes_16 : decode cX9_takes 16 = .ok (.iload 4, 2) := by decide +kernel
theorem dX9_takes_18 : decode cX9_takes 18 = .ok (.ishr, 1) := by decide +kernel
theorem dX9_takes_19 : decode cX9_takes 19 = .ok (.iconst 1, 1) := by decide +kernel
theorem dX9_takes_20 : decode cX9_takes 20 = .ok (.iand, 1) := by decide +kernel
theorem dX9_takes_21 : decode cX9_takes 21 = .ok (.iconst 1, 1) := by decide +kernel
theorem dX9_takes_22 : decode cX9_takes 22 = .ok (.if_icmp .ne 25, 3) := by decide +kernel
theorem dX9_takes_25 : decode cX9_takes 25 = .ok (.iload_n 3, 1) := by decide +kernel
theorem dX9_takes_26 : decode cX9_takes 26 = .ok (.bipush (-9), 2) := by decide +kernel
theorem dX9_takes_28 : decode cX9_takes 28 = .ok (.if_icmp .eq 14, 3) := by decide +kernel
theorem dX9_takes_31 : decode cX9_takes 31 = .ok (.aload_n 0, 1) := by decide +kernel
theorem dX9_takes_32 : decode cX9_takes 32 = .ok (.iload 4, 2) := by decide +kernel
theorem dX9_takes_34 : decode cX9_takes 34 = .ok (.iload_n 3, 1) := by decide +kernel
theorem dX9_takes_35 : decode cX9_takes 35 = .ok (.iload_n 2, 1) := by decide +kernel
theorem dX9_takes_36 : decode cX9_takes 36 = .ok (.invokevirtual 160, 3) := by decide +kernel
theorem dX9_takes_39 : decode cX9_takes 39 = .ok (.ifCond .eq 8, 3) := by decide +kernel
theorem dX9_takes_42 : decode cX9_takes 42 = .ok (.iload 4, 2) := by decide +kernel
theorem dX9_takes_44 : decode cX9_takes 44 = .ok (.goto 4, 3) := by decide +kernel
theorem dX9_takes_47 : decode cX9_takes 47 = .ok (.iload_n 3, 1) := by decide +kernel
theorem dX9_takes_48 : decode cX9_takes 48 = .ok (.istore_n 3, 1) := by decide +kernel
theorem dX9_takes_49 : decode cX9_takes 49 = .ok (.iinc 4 1, 3) := by decide +kernel
theorem dX9_takes_52 : decode cX9_takes 52 = .ok (.goto (-46), 3) := by decide +kernel
theorem dX9_takes_55 : decode cX9_takes 55 = .ok (.iload_n 3, 1) := by decide +kernel
theorem dX9_takes_56 : decode cX9_takes 56 = .ok (.ireturn, 1) := by decide +kernel
theorem dX9_ask_0 : decode cX9_ask 0 = .ok (.iload_n 3, 1) := by decide +kernel
theorem dX9_ask_1 : decode cX9_ask 1 = .ok (.invokestatic 164, 3) := by decide +kernel
theorem dX9_ask_4 : decode cX9_ask 4 = .ok (.ifCond .ne 5, 3) := by decide +kernel
theorem dX9_ask_7 : decode cX9_ask 7 = .ok (.iconst (-1), 1) := by decide +kernel
theorem dX9_ask_8 : decode cX9_ask 8 = .ok (.ireturn, 1) := by decide +kernel
theorem dX9_ask_9 : decode cX9_ask 9 = .ok (.aload_n 0, 1) := by decide +kernel
theorem dX9_ask_10 : decode cX9_ask 10 = .ok (.iload_n 1, 1) := by decide +kernel
theorem dX9_ask_11 : decode cX9_ask 11 = .ok (.invokevirtual 175, 3) := by decide +kernel
theorem dX9_ask_14 : decode cX9_ask 14 = .ok (.ifCond .eq 10, 3) := by decide +kernel
theorem dX9_ask_17 : decode cX9_ask 17 = .ok (.iload_n 2, 1) := by decide +kernel
theorem dX9_ask_18 : decode cX9_ask 18 = .ok (.invokestatic 121, 3) := by decide +kernel
theorem dX9_ask_21 : decode cX9_ask 21 = .ok (.ifCond .ne 6, 3) := by decide +kernel
theorem dX9_ask_24 : decode cX9_ask 24 = .ok (.bipush (-2), 2) := by decide +kernel
theorem dX9_ask_26 : decode cX9_ask 26 = .ok (.ireturn, 1) := by decide +kernel
theorem dX9_ask_27 : decode cX9_ask 27 = .ok (.aload_n 0, 1) := by decide +kernel
theorem dX9_ask_28 : decode cX9_ask 28 = .ok (.iload_n 1, 1) := by decide +kernel
theorem dX9_ask_29 : decode cX9_ask 29 = .ok (.iload_n 2, 1) := by decide +kernel
theorem dX9_ask_30 : decode cX9_ask 30 = .ok (.invokevirtual 178, 3) := by decide +kernel
theorem dX9_ask_33 : decode cX9_ask 33 = .ok (.istore 5, 2) := by decide +kernel
theorem dX9_ask_35 : decode cX9_ask 35 = .ok (.iload_n 3, 1) := by decide +kernel
theorem dX9_ask_36 : decode cX9_ask 36 = .ok (.iconst 2, 1) := by decide +kernel
theorem dX9_ask_37 : decode cX9_ask 37 = .ok (.if_icmp .ne 12, 3) := by decide +kernel
theorem dX9_ask_40 : decode cX9_ask 40 = .ok (.aload_n 0, 1) := by decide +kernel
theorem dX9_ask_41 : decode cX9_ask 41 = .ok (.iload 5, 2) := by decide +kernel
theorem dX9_ask_43 : decode cX9_ask 43 = .ok (.invokevirtual 188, 3) := by decide +kernel
theorem dX9_ask_46 : decode cX9_ask 46 = .ok (.goto 30, 3) := by decide +kernel
theorem dX9_ask_49 : decode cX9_ask 49 = .ok (.iload_n 3, 1) := by decide +kernel
theorem dX9_ask_50 : decode cX9_ask 50 = .ok (.iconst 3, 1) := by decide +kernel
theorem dX9_ask_51 : decode cX9_ask 51 = .ok (.if_icmp .ne 18, 3) := by decide +kernel
theorem dX9_ask_54 : decode cX9_ask 54 = .ok (.aload_n 0, 1) := by decide +kernel
theorem dX9_ask_55 : decode cX9_ask 55 = .ok (.iconst 1, 1) := by decide +kernel
theorem dX9_ask_56 : decode cX9_ask 56 = .ok (.aload_n 0, 1) := by decide +kernel
theorem dX9_ask_57 : decode cX9_ask 57 = .ok (.getfield 97, 3) := by decide +kernel
theorem dX9_ask_60 : decode cX9_ask 60 = .ok (.ishl, 1) := by decide +kernel
theorem dX9_ask_61 : decode cX9_ask 61 = .ok (.iconst 1, 1) := by decide +kernel
theorem dX9_ask_62 : decode cX9_ask 62 = .ok (.isub, 1) := by decide +kernel
theorem dX9_ask_63 : decode cX9_ask 63 = .ok (.invokevirtual 188, 3) := by decide +kernel
theorem dX9_ask_66 : decode cX9_ask 66 = .ok (.goto 10, 3) := by decide +kernel
theorem dX9_ask_69 : decode cX9_ask 69 = .ok (.aload_n 0, 1) := by decide +kernel
theorem dX9_ask_70 : decode cX9_ask 70 = .ok (.iload 5, 2) := by decide +kernel
theorem dX9_ask_72 : decode cX9_ask 72 = .ok (.iload_n 3, 1) := by decide +kernel
theorem dX9_ask_73 : decode cX9_ask 73 = .ok (.invokevirtual 191, 3) := by decide +kernel
theorem dX9_ask_76 : decode cX9_ask 76 = .ok (.istore 6, 2) := by decide +kernel
theorem dX9_ask_78 : decode cX9_ask 78 = .ok (.aload_n 0, 1) := by decide +kernel
theorem dX9_ask_79 : decode cX9_ask 79 = .ok (.dup, 1) := by decide +kernel
theorem dX9_ask_80 : decode cX9_ask 80 = .ok (.getfield 104, 3) := by decide +kernel
theorem dX9_ask_83 : decode cX9_ask 83 = .ok (.iconst 1, 1) := by decide +kernel
theorem dX9_ask_84 : decode cX9_ask 84 = .ok (.iadd, 1) := by decide +kernel
theorem dX9_ask_85 : decode cX9_ask 85 = .ok (.putfield 104, 3) := by decide +kernel
theorem dX9_ask_88 : decode cX9_ask 88 = .ok (.iload 6, 2) := by decide +kernel
theorem dX9_ask_90 : decode cX9_ask 90 = .ok (.bipush (-9), 2) := by decide +kernel
theorem dX9_ask_92 : decode cX9_ask 92 = .ok (.if_icmp .ne 6, 3) := by decide +kernel
theorem dX9_ask_95 : decode cX9_ask 95 = .ok (.bipush (-9), 2) := by decide +kernel
theorem dX9_ask_97 : decode cX9_ask 97 = .ok (.ireturn, 1) := by decide +kernel
theorem dX9_ask_98 : decode cX9_ask 98 = .ok (.aload_n 0, 1) := by decide +kernel
theorem dX9_ask_99 : decode cX9_ask 99 = .ok (.getfield 19, 3) := by decide +kernel
theorem dX9_ask_102 : decode cX9_ask 102 = .ok (.iload 6, 2) := by decide +kernel
theorem dX9_ask_104 : decode cX9_ask 104 = .ok (.dup2, 1) := by decide +kernel
theorem dX9_ask_105 : decode cX9_ask 105 = .ok (.iaload, 1) := by decide +kernel
theorem dX9_ask_106 : decode cX9_ask 106 = .ok (.iconst 1, 1) := by decide +kernel
theorem dX9_ask_107 : decode cX9_ask 107 = .ok (.iadd, 1) := by decide +kernel
theorem dX9_ask_108 : decode cX9_ask 108 = .ok (.iastore, 1) := by decide +kernel
theorem dX9_ask_109 : decode cX9_ask 109 = .ok (.iload_n 1, 1) := by decide +kernel
theorem dX9_ask_110 : decode cX9_ask 110 = .ok (.iload 6, 2) := by decide +kernel
theorem dX9_ask_112 : decode cX9_ask 112 = .ok (.ishr, 1) := by decide +kernel
theorem dX9_ask_113 : decode cX9_ask 113 = .ok (.iconst 1, 1) := by decide +kernel
theorem dX9_ask_114 : decode cX9_ask 114 = .ok (.iand, 1) := by decide +kernel
theorem dX9_ask_115 : decode cX9_ask 115 = .ok (.iconst 1, 1) := by decide +kernel
theorem dX9_ask_116 : decode cX9_ask 116 = .ok (.if_icmp .ne 23, 3) := by decide +kernel
theorem dX9_ask_119 : decode cX9_ask 119 = .ok (.aload_n 0, 1) := by decide +kernel
theorem dX9_ask_120 : decode cX9_ask 120 = .ok (.getfield 13, 3) := by decide +kernel
theorem dX9_ask_123 : decode cX9_ask 123 = .ok (.bipush 6, 2) := by decide +kernel
theorem dX9_ask_125 : decode cX9_ask 125 = .ok (.iload 6, 2) := by decide +kernel
theorem dX9_ask_127 : decode cX9_ask 127 = .ok (.imul, 1) := by decide +kernel
theorem dX9_ask_128 : decode cX9_ask 128 = .ok (.iconst 3, 1) := by decide +kernel
theorem dX9_ask_129 : decode cX9_ask 129 = .ok (.iadd, 1) := by decide +kernel
theorem dX9_ask_130 : decode cX9_ask 130 = .ok (.iaload, 1) := by decide +kernel
theorem dX9_ask_131 : decode cX9_ask 131 = .ok (.iload_n 2, 1) := by decide +kernel
theorem dX9_ask_132 : decode cX9_ask 132 = .ok (.if_icmp .gt 7, 3) := by decide +kernel
theorem dX9_ask_135 : decode cX9_ask 135 = .ok (.iconst 1, 1) := by decide +kernel
theorem dX9_ask_136 : decode cX9_ask 136 = .ok (.goto 4, 3) := by decide +kernel
theorem dX9_ask_139 : decode cX9_ask 139 = .ok (.iconst 0, 1) := by decide +kernel
theorem dX9_ask_140 : decode cX9_ask 140 = .ok (.istore 7, 2) := by decide +kernel
theorem dX9_ask_142 : decode cX9_ask 142 = .ok (.aload_n 0, 1) := by decide +kernel
theorem dX9_ask_143 : decode cX9_ask 143 = .ok (.getfield 16, 3) := by decide +kernel
theorem dX9_ask_146 : decode cX9_ask 146 = .ok (.iload 6, 2) := by decide +kernel
theorem dX9_ask_148 : decode cX9_ask 148 = .ok (.iaload, 1) := by decide +kernel
theorem dX9_ask_149 : decode cX9_ask 149 = .ok (.iload 7, 2) := by decide +kernel
theorem dX9_ask_151 : decode cX9_ask 151 = .ok (.ifCond .eq 7, 3) := by decide +kernel
theorem dX9_ask_154 : decode cX9_ask 154 = .ok (.iconst 1, 1) := by decide +kernel
theorem dX9_ask_155 : decode cX9_ask 155 = .ok (.goto 15, 3) := by decide +kernel
theorem dX9_ask_158 : decode cX9_ask 158 = .ok (.iload 4, 2) := by decide +kernel
theorem dX9_ask_160 : decode cX9_ask 160 = .ok (.ifCond .eq 8, 3) := by decide +kernel
theorem dX9_ask_163 : decode cX9_ask 163 = .ok (.bipush (-4), 2) := by decide +kernel
theorem dX9_ask_165 : decode cX9_ask 165 = .ok (.goto 5, 3) := by decide +kernel
theorem dX9_ask_168 : decode cX9_ask 168 = .ok (.bipush (-2), 2) := by decide +kernel
theorem dX9_ask_170 : decode cX9_ask 170 = .ok (.iadd, 1) := by decide +kernel
theorem dX9_ask_171 : decode cX9_ask 171 = .ok (.istore 8, 2) := by decide +kernel
theorem dX9_ask_173 : decode cX9_ask 173 = .ok (.aload_n 0, 1) := by decide +kernel
theorem dX9_ask_174 : decode cX9_ask 174 = .ok (.getfield 16, 3) := by decide +kernel
theorem dX9_ask_177 : decode cX9_ask 177 = .ok (.iload 6, 2) := by decide +kernel
theorem dX9_ask_179 : decode cX9_ask 179 = .ok (.iload 8, 2) := by decide +kernel
theorem dX9_ask_181 : decode cX9_ask 181 = .ok (.ifCond .ge 7, 3) := by decide +kernel
theorem dX9_ask_184 : decode cX9_ask 184 = .ok (.iconst 0, 1) := by decide +kernel
theorem dX9_ask_185 : decode cX9_ask 185 = .ok (.goto 17, 3) := by decide +kernel
theorem dX9_ask_188 : decode cX9_ask 188 = .ok (.iload 8, 2) := by decide +kernel
theorem dX9_ask_190 : decode cX9_ask 190 = .ok (.bipush 9, 2) := by decide +kernel
theorem dX9_ask_192 : decode cX9_ask 192 = .ok (.if_icmp .le 8, 3) := by decide +kernel
theorem dX9_ask_195 : decode cX9_ask 195 = .ok (.bipush 9, 2) := by decide +kernel
theorem dX9_ask_197 : decode cX9_ask 197 = .ok (.goto 5, 3) := by decide +kernel
theorem dX9_ask_200 : decode cX9_ask 200 = .ok (.iload 8, 2) := by decide +kernel
theorem dX9_ask_202 : decode cX9_ask 202 = .ok (.iastore, 1) := by decide +kernel
theorem dX9_ask_203 : decode cX9_ask 203 = .ok (.aload_n 0, 1) := by decide +kernel
theorem dX9_ask_204 : decode cX9_ask 204 = .ok (.dup, 1) := by decide +kernel
theorem dX9_ask_205 : decode cX9_ask 205 = .ok (.getfield 107, 3) := by decide +kernel
theorem dX9_ask_208 : decode cX9_ask 208 = .ok (.iload 7, 2) := by decide +kernel
theorem dX9_ask_210 : decode cX9_ask 210 = .ok (.ifCond .eq 7, 3) := by decide +kernel
theorem dX9_ask_213 : decode cX9_ask 213 = .ok (.iconst 1, 1) := by decide +kernel
theorem dX9_ask_214 : decode cX9_ask 214 = .ok (.goto 4, 3) := by decide +kernel
theorem dX9_ask_217 : decode cX9_ask 217 = .ok (.iconst 0, 1) := by decide +kernel
theorem dX9_ask_218 : decode cX9_ask 218 = .ok (.iadd, 1) := by decide +kernel
theorem dX9_ask_219 : decode cX9_ask 219 = .ok (.putfield 107, 3) := by decide +kernel
theorem dX9_ask_222 : decode cX9_ask 222 = .ok (.aload_n 0, 1) := by decide +kernel
theorem dX9_ask_223 : decode cX9_ask 223 = .ok (.dup, 1) := by decide +kernel
theorem dX9_ask_224 : decode cX9_ask 224 = .ok (.getfield 110, 3) := by decide +kernel
theorem dX9_ask_227 : decode cX9_ask 227 = .ok (.iload 7, 2) := by decide +kernel
theorem dX9_ask_229 : decode cX9_ask 229 = .ok (.ifCond .eq 7, 3) := by decide +kernel
theorem dX9_ask_232 : decode cX9_ask 232 = .ok (.iconst 0, 1) := by decide +kernel
theorem dX9_ask_233 : decode cX9_ask 233 = .ok (.goto 4, 3) := by decide +kernel
theorem dX9_ask_236 : decode cX9_ask 236 = .ok (.iconst 1, 1) := by decide +kernel
theorem dX9_ask_237 : decode cX9_ask 237 = .ok (.iadd, 1) := by decide +kernel
theorem dX9_ask_238 : decode cX9_ask 238 = .ok (.putfield 110, 3) := by decide +kernel
theorem dX9_ask_241 : decode cX9_ask 241 = .ok (.iload 6, 2) := by decide +kernel
theorem dX9_ask_243 : decode cX9_ask 243 = .ok (.ireturn, 1) := by decide +kernel
theorem dX9_lesson_0 : decode cX9_lesson 0 = .ok (.iconst 0, 1) := by decide +kernel
theorem dX9_lesson_1 : decode cX9_lesson 1 = .ok (.istore_n 2, 1) := by decide +kernel
theorem dX9_lesson_2 : decode cX9_lesson 2 = .ok (.iconst 0, 1) := by decide +kernel
theorem dX9_lesson_3 : decode cX9_lesson 3 = .ok (.istore_n 3, 1) := by decide +kernel
theorem dX9_lesson_4 : decode cX9_lesson 4 = .ok (.iconst 0, 1) := by decide +kernel
theorem dX9_lesson_5 : decode cX9_lesson 5 = .ok (.istore 4, 2) := by decide +kernel
theorem dX9_lesson_7 : decode cX9_lesson 7 = .ok (.iload 4, 2) := by decide +kernel
theorem dX9_lesson_9 : decode cX9_lesson 9 = .ok (.aload_n 0, 1) := by decide +kernel
theorem dX9_lesson_10 : decode cX9_lesson 10 = .ok (.getfield 97, 3) := by decide +kernel
theorem dX9_lesson_13 : decode cX9_lesson 13 = .ok (.if_icmp .ge 50, 3) := by decide +kernel
theorem dX9_lesson_16 : decode cX9_lesson 16 = .ok (.iload_n 2, 1) := by decide +kernel
theorem dX9_lesson_17 : decode cX9_lesson 17 = .ok (.aload_n 0, 1) := by decide +kernel
theorem dX9_lesson_18 : decode cX9_lesson 18 = .ok (.getfield 19, 3) := by decide +kernel
theorem dX9_lesson_21 : decode cX9_lesson 21 = .ok (.iload 4, 2) := by decide +kernel
theorem dX9_lesson_23 : decode cX9_lesson 23 = .ok (.iaload, 1) := by decide +kernel
theorem dX9_lesson_24 : decode cX9_lesson 24 = .ok (.ifCond .ne 7, 3) := by decide +kernel
theorem dX9_lesson_27 : decode cX9_lesson 27 = .ok (.iconst 1, 1) := by decide +kernel
theorem dX9_lesson_28 : decode cX9_lesson 28 = .ok (.goto 4, 3) := by decide +kernel
theorem dX9_lesson_31 : decode cX9_lesson 31 = .ok (.iconst 0, 1) := by decide +kernel
theorem dX9_lesson_32 : decode cX9_lesson 32 = .ok (.iadd, 1) := by decide +kernel
theorem dX9_lesson_33 : decode cX9_lesson 33 = .ok (.istore_n 2, 1) := by decide +kernel
theorem dX9_lesson_34 : decode cX9_lesson 34 = .ok (.aload_n 0, 1) := by decide +kernel
theorem dX9_lesson_35 : decode cX9_lesson 35 = .ok (.getfield 19, 3) := by decide +kernel
theorem dX9_lesson_38 : decode cX9_lesson 38 = .ok (.iload 4, 2) := by decide +kernel
theorem dX9_lesson_40 : decode cX9_lesson 40 = .ok (.iaload, 1) := by decide +kernel
theorem dX9_lesson_41 : decode cX9_lesson 41 = .ok (.iload_n 3, 1) := by decide +kernel
theorem dX9_lesson_42 : decode cX9_lesson 42 = .ok (.if_icmp .le 13, 3) := by decide +kernel
theorem dX9_lesson_45 : decode cX9_lesson 45 = .ok (.aload_n 0, 1) := by decide +kernel
theorem dX9_lesson_46 : decode cX9_lesson 46 = .ok (.getfield 19, 3) := by decide +kernel
theorem dX9_lesson_49 : decode cX9_lesson 49 = .ok (.iload 4, 2) := by decide +kernel
theorem dX9_lesson_51 : decode cX9_lesson 51 = .ok (.iaload, 1) := by decide +kernel
theorem dX9_lesson_52 : decode cX9_lesson 52 = .ok (.goto 4, 3) := by decide +kernel
theorem dX9_lesson_55 : decode cX9_lesson 55 = .ok (.iload_n 3, 1) := by decide +kernel
theorem dX9_lesson_56 : decode cX9_lesson 56 = .ok (.istore_n 3, 1) := by decide +kernel
theorem dX9_lesson_57 : decode cX9_lesson 57 = .ok (.iinc 4 1, 3) := by decide +kernel
theorem dX9_lesson_60 : decode cX9_lesson 60 = .ok (.goto (-53), 3) := by decide +kernel
theorem dX9_lesson_63 : decode cX9_lesson 63 = .ok (.iload_n 1, 1) := by decide +kernel
theorem dX9_lesson_64 : decode cX9_lesson 64 = .ok (.tableswitch 74 0 5 #[40, 45, 50, 55, 70, 72], 40) := by decide +kernel
theorem dX9_lesson_104 : decode cX9_lesson 104 = .ok (.aload_n 0, 1) := by decide +kernel
theorem dX9_lesson_105 : decode cX9_lesson 105 = .ok (.getfield 104, 3) := by decide +kernel
theorem dX9_lesson_108 : decode cX9_lesson 108 = .ok (.ireturn, 1) := by decide +kernel
theorem dX9_lesson_109 : decode cX9_lesson 109 = .ok (.aload_n 0, 1) := by decide +kernel
theorem dX9_lesson_110 : decode cX9_lesson 110 = .ok (.getfield 107, 3) := by decide +kernel
theorem dX9_lesson_113 : decode cX9_lesson 113 = .ok (.ireturn, 1) := by decide +kernel
theorem dX9_lesson_114 : decode cX9_lesson 114 = .ok (.aload_n 0, 1) := by decide +kernel
theorem dX9_lesson_115 : decode cX9_lesson 115 = .ok (.getfield 110, 3) := by decide +kernel
theorem dX9_lesson_118 : decode cX9_lesson 118 = .ok (.ireturn, 1) := by decide +kernel
theorem dX9_lesson_119 : decode cX9_lesson 119 = .ok (.aload_n 0, 1) := by decide +kernel
theorem dX9_lesson_120 : decode cX9_lesson 120 = .ok (.getfield 104, 3) := by decide +kernel
theorem dX9_lesson_123 : decode cX9_lesson 123 = .ok (.aload_n 0, 1) := by decide +kernel
theorem dX9_lesson_124 : decode cX9_lesson 124 = .ok (.getfield 107, 3) := by decide +kernel
theorem dX9_lesson_127 : decode cX9_lesson 127 = .ok (.isub, 1) := by decide +kernel
theorem dX9_lesson_128 : decode cX9_lesson 128 = .ok (.aload_n 0, 1) := by decide +kernel
theorem dX9_lesson_129 : decode cX9_lesson 129 = .ok (.getfield 110, 3) := by decide +kernel
theorem dX9_lesson_132 : decode cX9_lesson 132 = .ok (.isub, 1) := by decide +kernel
theorem dX9_lesson_133 : decode cX9_lesson 133 = .ok (.ireturn, 1) := by decide +kernel
theorem dX9_lesson_134 : decode cX9_lesson 134 = .ok (.iload_n 2, 1) := by decide +kernel
theorem dX9_lesson_135 : decode cX9_lesson 135 = .ok (.ireturn, 1) := by decide +kernel
theorem dX9_lesson_136 : decode cX9_lesson 136 = .ok (.iload_n 3, 1) := by decide +kernel
theorem dX9_lesson_137 : decode cX9_lesson 137 = .ok (.ireturn, 1) := by decide +kernel
theorem dX9_lesson_138 : decode cX9_lesson 138 = .ok (.bipush (-2), 2) := by decide +kernel
theorem dX9_lesson_140 : decode cX9_lesson 140 = .ok (.ireturn, 1) := by decide +kernel
theorem dX9_isGroup_0 : decode cX9_isGroup 0 = .ok (.iload_n 0, 1) := by decide +kernel
theorem dX9_isGroup_1 : decode cX9_isGroup 1 = .ok (.i2l, 1) := by decide +kernel
theorem dX9_isGroup_2 : decode cX9_isGroup 2 = .ok (.lconst 0, 1) := by decide +kernel
theorem dX9_isGroup_3 : decode cX9_isGroup 3 = .ok (.ldc2_w 194, 3) := by decide +kernel
theorem dX9_isGroup_6 : decode cX9_isGroup 6 = .ok (.invokestatic 66, 3) := by decide +kernel
theorem dX9_isGroup_9 : decode cX9_isGroup 9 = .ok (.ireturn, 1) := by decide +kernel
theorem dX9_tape_0 : decode cX9_tape 0 = .ok (.iload_n 1, 1) := by decide +kernel
theorem dX9_tape_1 : decode cX9_tape 1 = .ok (.i2l, 1) := by decide +kernel
theorem dX9_tape_2 : decode cX9_tape 2 = .ok (.lconst 1, 1) := by decide +kernel
theorem dX9_tape_3 : decode cX9_tape 3 = .ok (.ldc2_w 194, 3) := by decide +kernel
theorem dX9_tape_6 : decode cX9_tape 6 = .ok (.invokestatic 66, 3) := by decide +kernel
theorem dX9_tape_9 : decode cX9_tape 9 = .ok (.ifCond .eq 23, 3) := by decide +kernel
theorem dX9_tape_12 : decode cX9_tape 12 = .ok (.iload_n 2, 1) := by decide +kernel
theorem dX9_tape_13 : decode cX9_tape 13 = .ok (.i2l, 1) := by decide +kernel
theorem dX9_tape_14 : decode cX9_tape 14 = .ok (.lconst 0, 1) := by decide +kernel
theorem dX9_tape_15 : decode cX9_tape 15 = .ok (.ldc2_w 196, 3) := by decide +kernel
theorem dX9_tape_18 : decode cX9_tape 18 = .ok (.invokestatic 66, 3) := by decide +kernel
theorem dX9_tape_21 : decode cX9_tape 21 = .ok (.ifCond .eq 11, 3) := by decide +kernel
theorem dX9_tape_24 : decode cX9_tape 24 = .ok (.iload_n 1, 1) := by decide +kernel
theorem dX9_tape_25 : decode cX9_tape 25 = .ok (.iload_n 2, 1) := by decide +kernel
theorem dX9_tape_26 : decode cX9_tape 26 = .ok (.ishr, 1) := by decide +kernel
theorem dX9_tape_27 : decode cX9_tape 27 = .ok (.iconst 1, 1) := by decide +kernel
theorem dX9_tape_28 : decode cX9_tape 28 = .ok (.iand, 1) := by decide +kernel
theorem dX9_tape_29 : decode cX9_tape 29 = .ok (.ifCond .ne 6, 3) := by decide +kernel
theorem dX9_tape_32 : decode cX9_tape 32 = .ok (.bipush (-2), 2) := by decide +kernel
theorem dX9_tape_34 : decode cX9_tape 34 = .ok (.ireturn, 1) := by decide +kernel
theorem dX9_tape_35 : decode cX9_tape 35 = .ok (.aload_n 0, 1) := by decide +kernel
theorem dX9_tape_36 : decode cX9_tape 36 = .ok (.getfield 198, 3) := by decide +kernel
theorem dX9_tape_39 : decode cX9_tape 39 = .ok (.bipush 12, 2) := by decide +kernel
theorem dX9_tape_41 : decode cX9_tape 41 = .ok (.if_icmp .ne 6, 3) := by decide +kernel
theorem dX9_tape_44 : decode cX9_tape 44 = .ok (.bipush (-4), 2) := by decide +kernel
theorem dX9_tape_46 : decode cX9_tape 46 = .ok (.ireturn, 1) := by decide +kernel
theorem dX9_tape_47 : decode cX9_tape 47 = .ok (.aload_n 0, 1) := by decide +kernel
theorem dX9_tape_48 : decode cX9_tape 48 = .ok (.getfield 32, 3) := by decide +kernel
theorem dX9_tape_51 : decode cX9_tape 51 = .ok (.aload_n 0, 1) := by decide +kernel
theorem dX9_tape_52 : decode cX9_tape 52 = .ok (.getfield 198, 3) := by decide +kernel
theorem dX9_tape_55 : decode cX9_tape 55 = .ok (.iload_n 1, 1) := by decide +kernel
theorem dX9_tape_56 : decode cX9_tape 56 = .ok (.iastore, 1) := by decide +kernel
theorem dX9_tape_57 : decode cX9_tape 57 = .ok (.aload_n 0, 1) := by decide +kernel
theorem dX9_tape_58 : decode cX9_tape 58 = .ok (.getfield 35, 3) := by decide +kernel
theorem dX9_tape_61 : decode cX9_tape 61 = .ok (.aload_n 0, 1) := by decide +kernel
theorem dX9_tape_62 : decode cX9_tape 62 = .ok (.getfield 198, 3) := by decide +kernel
theorem dX9_tape_65 : decode cX9_tape 65 = .ok (.iload_n 2, 1) := by decide +kernel
theorem dX9_tape_66 : decode cX9_tape 66 = .ok (.iastore, 1) := by decide +kernel
theorem dX9_tape_67 : decode cX9_tape 67 = .ok (.aload_n 0, 1) := by decide +kernel
theorem dX9_tape_68 : decode cX9_tape 68 = .ok (.dup, 1) := by decide +kernel
theorem dX9_tape_69 : decode cX9_tape 69 = .ok (.getfield 198, 3) := by decide +kernel
theorem dX9_tape_72 : decode cX9_tape 72 = .ok (.iconst 1, 1) := by decide +kernel
theorem dX9_tape_73 : decode cX9_tape 73 = .ok (.iadd, 1) := by decide +kernel
theorem dX9_tape_74 : decode cX9_tape 74 = .ok (.putfield 198, 3) := by decide +kernel
theorem dX9_tape_77 : decode cX9_tape 77 = .ok (.aload_n 0, 1) := by decide +kernel
theorem dX9_tape_78 : decode cX9_tape 78 = .ok (.getfield 198, 3) := by decide +kernel
theorem dX9_tape_81 : decode cX9_tape 81 = .ok (.ireturn, 1) := by decide +kernel
theorem dX9_untape_0 : decode cX9_untape 0 = .ok (.aload_n 0, 1) := by decide +kernel
theorem dX9_untape_1 : decode cX9_untape 1 = .ok (.getfield 198, 3) := by decide +kernel
theorem dX9_untape_4 : decode cX9_untape 4 = .ok (.istore_n 1, 1) := by decide +kernel
theorem dX9_untape_5 : decode cX9_untape 5 = .ok (.aload_n 0, 1) := by decide +kernel
theorem dX9_untape_6 : decode cX9_untape 6 = .ok (.iconst 0, 1) := by decide +kernel
theorem dX9_untape_7 : decode cX9_untape 7 = .ok (.putfield 198, 3) := by decide +kernel
theorem dX9_untape_10 : decode cX9_untape 10 = .ok (.iload_n 1, 1) := by decide +kernel
theorem dX9_untape_11 : decode cX9_untape 11 = .ok (.ireturn, 1) := by decide +kernel
theorem dX9_cameOf_0 : decode cX9_cameOf 0 = .ok (.iconst 0, 1) := by decide +kernel
theorem dX9_cameOf_1 : decode cX9_cameOf 1 = .ok (.istore_n 2, 1) := by decide +kernel
theorem dX9_cameOf_2 : decode cX9_cameOf 2 = .ok (.iconst 0, 1) := by decide +kernel
theorem dX9_cameOf_3 : decode cX9_cameOf 3 = .ok (.istore_n 3, 1) := by decide +kernel
theorem dX9_cameOf_4 : decode cX9_cameOf 4 = .ok (.iload_n 3, 1) := by decide +kernel
theorem dX9_cameOf_5 : decode cX9_cameOf 5 = .ok (.aload_n 0, 1) := by decide +kernel
theorem dX9_cameOf_6 : decode cX9_cameOf 6 = .ok (.getfield 198, 3) := by decide +kernel
theorem dX9_cameOf_9 : decode cX9_cameOf 9 = .ok (.if_icmp .ge 22, 3) := by decide +kernel
theorem dX9_cameOf_12 : decode cX9_cameOf 12 = .ok (.iload_n 2, 1) := by decide +kernel
theorem dX9_cameOf_13 : decode cX9_cameOf 13 = .ok (.iload_n 1, 1) := by decide +kernel
theorem dX9_cameOf_14 : decode cX9_cameOf 14 = .ok (.aload_n 0, 1) := by decide +kernel
theorem dX9_cameOf_15 : decode cX9_cameOf 15 = .ok (.getfield 35, 3) := by decide +kernel
theorem dX9_cameOf_18 : decode cX9_cameOf 18 = .ok (.iload_n 3, 1) := by decide +kernel
theorem dX9_cameOf_19 : decode cX9_cameOf 19 = .ok (.iaload, 1) := by decide +kernel
theorem dX9_cameOf_20 : decode cX9_cameOf 20 = .ok (.ishr, 1) := by decide +kernel
theorem dX9_cameOf_21 : decode cX9_cameOf 21 = .ok (.iconst 1, 1) := by decide +kernel
theorem dX9_cameOf_22 : decode cX9_cameOf 22 = .ok (.iand, 1) := by decide +kernel
theorem dX9_cameOf_23 : decode cX9_cameOf 23 = .ok (.iadd, 1) := by decide +kernel
theorem dX9_cameOf_24 : decode cX9_cameOf 24 = .ok (.istore_n 2, 1) := by decide +kernel
theorem dX9_cameOf_25 : decode cX9_cameOf 25 = .ok (.iinc 3 1, 3) := by decide +kernel
theorem dX9_cameOf_28 : decode cX9_cameOf 28 = .ok (.goto (-24), 3) := by decide +kernel
theorem dX9_cameOf_31 : decode cX9_cameOf 31 = .ok (.iload_n 2, 1) := by decide +kernel
theorem dX9_cameOf_32 : decode cX9_cameOf 32 = .ok (.ireturn, 1) := by decide +kernel
theorem dX9_came_0 : decode cX9_came 0 = .ok (.iload_n 1, 1) := by decide +kernel
theorem dX9_came_1 : decode cX9_came 1 = .ok (.invokestatic 201, 3) := by decide +kernel
theorem dX9_came_4 : decode cX9_came 4 = .ok (.ifCond .eq 11, 3) := by decide +kernel
theorem dX9_came_7 : decode cX9_came 7 = .ok (.aload_n 0, 1) := by decide +kernel
theorem dX9_came_8 : decode cX9_came 8 = .ok (.iload_n 1, 1) := by decide +kernel
theorem dX9_came_9 : decode cX9_came 9 = .ok (.invokevirtual 204, 3) := by decide +kernel
theorem dX9_came_12 : decode cX9_came 12 = .ok (.goto 5, 3) := by decide +kernel
theorem dX9_came_15 : decode cX9_came 15 = .ok (.bipush (-2), 2) := by decide +kernel
theorem dX9_came_17 : decode cX9_came 17 = .ok (.ireturn, 1) := by decide +kernel
theorem dX9_due_0 : decode cX9_due 0 = .ok (.iload_n 1, 1) := by decide +kernel
theorem dX9_due_1 : decode cX9_due 1 = .ok (.invokestatic 201, 3) := by decide +kernel
theorem dX9_due_4 : decode cX9_due 4 = .ok (.ifCond .ne 7, 3) := by decide +kernel
theorem dX9_due_7 : decode cX9_due 7 = .ok (.ldc2_w 135, 3) := by decide +kernel
theorem dX9_due_10 : decode cX9_due 10 = .ok (.lreturn, 1) := by decide +kernel
theorem dX9_due_11 : decode cX9_due 11 = .ok (.lconst 0, 1) := by decide +kernel
theorem dX9_due_12 : decode cX9_due 12 = .ok (.lstore_n 3, 1) := by decide +kernel
theorem dX9_due_13 : decode cX9_due 13 = .ok (.iconst 0, 1) := by decide +kernel
theorem dX9_due_14 : decode cX9_due 14 = .ok (.istore 5, 2) := by decide +kernel
theorem dX9_due_16 : decode cX9_due 16 = .ok (.iload 5, 2) := by decide +kernel
theorem dX9_due_18 : decode cX9_due 18 = .ok (.aload_n 0, 1) := by decide +kernel
theorem dX9_due_19 : decode cX9_due 19 = .ok (.getfield 198, 3) := by decide +kernel
theorem dX9_due_22 : decode cX9_due 22 = .ok (.if_icmp .ge 41, 3) := by decide +kernel
theorem dX9_due_25 : decode cX9_due 25 = .ok (.lload_n 3, 1) := by decide +kernel
theorem dX9_due_26 : decode cX9_due 26 = .ok (.aload_n 0, 1) := by decide +kernel
theorem dX9_due_27 : decode cX9_due 27 = .ok (.getfield 32, 3) := by decide +kernel
theorem dX9_due_30 : decode cX9_due 30 = .ok (.iload 5, 2) := by decide +kernel
theorem dX9_due_32 : decode cX9_due 32 = .ok (.iaload, 1) := by decide +kernel
theorem dX9_due_33 : decode cX9_due 33 = .ok (.iload_n 1, 1) := by decide +kernel
theorem dX9_due_34 : decode cX9_due 34 = .ok (.iand, 1) := by decide +kernel
theorem dX9_due_35 : decode cX9_due 35 = .ok (.invokestatic 185, 3) := by decide +kernel
theorem dX9_due_38 : decode cX9_due 38 = .ok (.i2l, 1) := by decide +kernel
theorem dX9_due_39 : decode cX9_due 39 = .ok (.ldc2_w 158, 3) := by decide +kernel
theorem dX9_due_42 : decode cX9_due 42 = .ok (.aload_n 0, 1) := by decide +kernel
theorem dX9_due_43 : decode cX9_due 43 = .ok (.getfield 32, 3) := by decide +kernel
theorem dX9_due_46 : decode cX9_due 46 = .ok (.iload 5, 2) := by decide +kernel
theorem dX9_due_48 : decode cX9_due 48 = .ok (.iaload, 1) := by decide +kernel
theorem dX9_due_49 : decode cX9_due 49 = .ok (.invokestatic 185, 3) := by decide +kernel
theorem dX9_due_52 : decode cX9_due 52 = .ok (.i2l, 1) := by decide +kernel
theorem dX9_due_53 : decode cX9_due 53 = .ok (.ldiv, 1) := by decide +kernel
theorem dX9_due_54 : decode cX9_due 54 = .ok (.lmul, 1) := by decide +kernel
theorem dX9_due_55 : decode cX9_due 55 = .ok (.ladd, 1) := by decide +kernel
theorem dX9_due_56 : decode cX9_due 56 = .ok (.lstore_n 3, 1) := by decide +kernel
theorem dX9_due_57 : decode cX9_due 57 = .ok (.iinc 5 1, 3) := by decide +kernel
theorem dX9_due_60 : decode cX9_due 60 = .ok (.goto (-44), 3) := by decide +kernel
theorem dX9_due_63 : decode cX9_due 63 = .ok (.lload_n 3, 1) := by decide +kernel
theorem dX9_due_64 : decode cX9_due 64 = .ok (.ldc2_w 158, 3) := by decide +kernel
theorem dX9_due_67 : decode cX9_due 67 = .ok (.iload_n 2, 1) := by decide +kernel
theorem dX9_due_68 : decode cX9_due 68 = .ok (.invokestatic 149, 3) := by decide +kernel
theorem dX9_due_71 : decode cX9_due 71 = .ok (.lreturn, 1) := by decide +kernel
theorem dX9_luck_0 : decode cX9_luck 0 = .ok (.iload_n 1, 1) := by decide +kernel
theorem dX9_luck_1 : decode cX9_luck 1 = .ok (.invokestatic 201, 3) := by decide +kernel
theorem dX9_luck_4 : decode cX9_luck 4 = .ok (.ifCond .ne 7, 3) := by decide +kernel
theorem dX9_luck_7 : decode cX9_luck 7 = .ok (.ldc2_w 135, 3) := by decide +kernel
theorem dX9_luck_10 : decode cX9_luck 10 = .ok (.lreturn, 1) := by decide +kernel
theorem dX9_luck_11 : decode cX9_luck 11 = .ok (.lconst 1, 1) := by decide +kernel
theorem dX9_luck_12 : decode cX9_luck 12 = .ok (.lstore_n 3, 1) := by decide +kernel
theorem dX9_luck_13 : decode cX9_luck 13 = .ok (.iconst 0, 1) := by decide +kernel
theorem dX9_luck_14 : decode cX9_luck 14 = .ok (.istore 5, 2) := by decide +kernel
theorem dX9_luck_16 : decode cX9_luck 16 = .ok (.iload 5, 2) := by decide +kernel
theorem dX9_luck_18 : decode cX9_luck 18 = .ok (.bipush 13, 2) := by decide +kernel
theorem dX9_luck_20 : decode cX9_luck 20 = .ok (.if_icmp .ge 26, 3) := by decide +kernel
theorem dX9_luck_23 : decode cX9_luck 23 = .ok (.aload_n 0, 1) := by decide +kernel
theorem dX9_luck_24 : decode cX9_luck 24 = .ok (.getfield 29, 3) := by decide +kernel
theorem dX9_luck_27 : decode cX9_luck 27 = .ok (.iload 5, 2) := by decide +kernel
theorem dX9_luck_29 : decode cX9_luck 29 = .ok (.iload 5, 2) := by decide +kernel
theorem dX9_luck_31 : decode cX9_luck 31 = .ok (.ifCond .ne 7, 3) := by decide +kernel
theorem dX9_luck_34 : decode cX9_luck 34 = .ok (.lconst 1, 1) := by decide +kernel
theorem dX9_luck_35 : decode cX9_luck 35 = .ok (.goto 4, 3) := by decide +kernel
theorem dX9_luck_38 : decode cX9_luck 38 = .ok (.lconst 0, 1) := by decide +kernel
theorem dX9_luck_39 : decode cX9_luck 39 = .ok (.lastore, 1) := by decide +kernel
theorem dX9_luck_40 : decode cX9_luck 40 = .ok (.iinc 5 1, 3) := by decide +kernel
theorem dX9_luck_43 : decode cX9_luck 43 = .ok (.goto (-27), 3) := by decide +kernel
theorem dX9_luck_46 : decode cX9_luck 46 = .ok (.iconst 0, 1) := by decide +kernel
theorem dX9_luck_47 : decode cX9_luck 47 = .ok (.istore 5, 2) := by decide +kernel
theorem dX9_luck_49 : decode cX9_luck 49 = .ok (.iload 5, 2) := by decide +kernel
theorem dX9_luck_51 : decode cX9_luck 51 = .ok (.aload_n 0, 1) := by decide +kernel
theorem dX9_luck_52 : decode cX9_luck 52 = .ok (.getfield 198, 3) := by decide +kernel
theorem dX9_luck_55 : decode cX9_luck 55 = .ok (.if_icmp .ge 103, 3) := by decide +kernel
theorem dX9_luck_58 : decode cX9_luck 58 = .ok (.aload_n 0, 1) := by decide +kernel
theorem dX9_luck_59 : decode cX9_luck 59 = .ok (.getfield 32, 3) := by decide +kernel
theorem dX9_luck_62 : decode cX9_luck 62 = .ok (.iload 5, 2) := by decide +kernel
theorem dX9_luck_64 : decode cX9_luck 64 = .ok (.iaload, 1) := by decide +kernel
theorem dX9_luck_65 : decode cX9_luck 65 = .ok (.iload_n 1, 1) := by decide +kernel
theorem dX9_luck_66 : decode cX9_luck 66 = .ok (.iand, 1) := by decide +kernel
theorem dX9_luck_67 : decode cX9_luck 67 = .ok (.invokestatic 185, 3) := by decide +kernel
theorem dX9_luck_70 : decode cX9_luck 70 = .ok (.istore 6, 2) := by decide +kernel
theorem dX9_luck_72 : decode cX9_luck 72 = .ok (.aload_n 0, 1) := by decide +kernel
theorem dX9_luck_73 : decode cX9_luck 73 = .ok (.getfield 32, 3) := by decide +kernel
theorem dX9_luck_76 : decode cX9_luck 76 = .ok (.iload 5, 2) := by decide +kernel
theorem dX9_luck_78 : decode cX9_luck 78 = .ok (.iaload, 1) := by decide +kernel
theorem dX9_luck_79 : decode cX9_luck 79 = .ok (.invokestatic 185, 3) := by decide +kernel
theorem dX9_luck_82 : decode cX9_luck 82 = .ok (.iload 6, 2) := by decide +kernel
theorem dX9_luck_84 : decode cX9_luck 84 = .ok (.isub, 1) := by decide +kernel
theorem dX9_luck_85 : decode cX9_luck 85 = .ok (.istore 7, 2) := by decide +kernel
theorem dX9_luck_87 : decode cX9_luck 87 = .ok (.lload_n 3, 1) := by decide +kernel
theorem dX9_luck_88 : decode cX9_luck 88 = .ok (.iload 6, 2) := by decide +kernel
theorem dX9_luck_90 : decode cX9_luck 90 = .ok (.iload 7, 2) := by decide +kernel
theorem dX9_luck_92 : decode cX9_luck 92 = .ok (.iadd, 1) := by decide +kernel
theorem dX9_luck_93 : decode cX9_luck 93 = .ok (.i2l, 1) := by decide +kernel
theorem dX9_luck_94 : decode cX9_luck 94 = .ok (.lmul, 1) := by decide +kernel
theorem dX9_luck_95 : decode cX9_luck 95 = .ok (.lstore_n 3, 1) := by decide +kernel
theorem dX9_luck_96 : decode cX9_luck 96 = .ok (.bipush 12, 2) := by decide +kernel
theorem dX9_luck_98 : decode cX9_luck 98 = .ok (.istore 8, 2) := by decide +kernel
theorem dX9_luck_100 : decode cX9_luck 100 = .ok (.iload 8, 2) := by decide +kernel
theorem dX9_luck_102 : decode cX9_luck 102 = .ok (.ifCond .lt 50, 3) := by decide +kernel
theorem dX9_luck_105 : decode cX9_luck 105 = .ok (.aload_n 0, 1) := by decide +kernel
theorem dX9_luck_106 : decode cX9_luck 106 = .ok (.getfield 29, 3) := by decide +kernel
theorem dX9_luck_109 : decode cX9_luck 109 = .ok (.iload 8, 2) := by decide +kernel
theorem dX9_luck_111 : decode cX9_luck 111 = .ok (.aload_n 0, 1) := by decide +kernel
theorem dX9_luck_112 : decode cX9_luck 112 = .ok (.getfield 29, 3) := by decide +kernel
theorem dX9_luck_115 : decode cX9_luck 115 = .ok (.iload 8, 2) := by decide +kernel
theorem dX9_luck_117 : decode cX9_luck 117 = .ok (.laload, 1) := by decide +kernel
theorem dX9_luck_118 : decode cX9_luck 118 = .ok (.iload 7, 2) := by decide +kernel
theorem dX9_luck_120 : decode cX9_luck 120 = .ok (.i2l, 1) := by decide +kernel
theorem dX9_luck_121 : decode cX9_luck 121 = .ok (.lmul, 1) := by decide +kernel
theorem dX9_luck_122 : decode cX9_luck 122 = .ok (.iload 8, 2) := by decide +kernel
theorem dX9_luck_124 : decode cX9_luck 124 = .ok (.ifCond .le 19, 3) := by decide +kernel
theorem dX9_luck_127 : decode cX9_luck 127 = .ok (.aload_n 0, 1) := by decide +kernel
theorem dX9_luck_128 : decode cX9_luck 128 = .ok (.getfield 29, 3) := by decide +kernel
theorem dX9_luck_131 : decode cX9_luck 131 = .ok (.iload 8, 2) := by decide +kernel
theorem dX9_luck_133 : decode cX9_luck 133 = .ok (.iconst 1, 1) := by decide +kernel
theorem dX9_luck_134 : decode cX9_luck 134 = .ok (.isub, 1) := by decide +kernel
theorem dX9_luck_135 : decode cX9_luck 135 = .ok (.laload, 1) := by decide +kernel
theorem dX9_luck_136 : decode cX9_luck 136 = .ok (.iload 6, 2) := by decide +kernel
theorem dX9_luck_138 : decode cX9_luck 138 = .ok (.i2l, 1) := by decide +kernel
theorem dX9_luck_139 : decode cX9_luck 139 = .ok (.lmul, 1) := by decide +kernel
theorem dX9_luck_140 : decode cX9_luck 140 = .ok (.goto 4, 3) := by decide +kernel
theorem dX9_luck_143 : decode cX9_luck 143 = .ok (.lconst 0, 1) := by decide +kernel
theorem dX9_luck_144 : decode cX9_luck 144 = .ok (.ladd, 1) := by decide +kernel
theorem dX9_luck_145 : decode cX9_luck 145 = .ok (.lastore, 1) := by decide +kernel
theorem dX9_luck_146 : decode cX9_luck 146 = .ok (.iinc 8 (-1), 3) := by decide +kernel
theorem dX9_luck_149 : decode cX9_luck 149 = .ok (.goto (-49), 3) := by decide +kernel
theorem dX9_luck_152 : decode cX9_luck 152 = .ok (.iinc 5 1, 3) := by decide +kernel
theorem dX9_luck_155 : decode cX9_luck 155 = .ok (.goto (-106), 3) := by decide +kernel
theorem dX9_luck_158 : decode cX9_luck 158 = .ok (.lconst 0, 1) := by decide +kernel
theorem dX9_luck_159 : decode cX9_luck 159 = .ok (.lstore 5, 2) := by decide +kernel
theorem dX9_luck_161 : decode cX9_luck 161 = .ok (.aload_n 0, 1) := by decide +kernel
theorem dX9_luck_162 : decode cX9_luck 162 = .ok (.iload_n 1, 1) := by decide +kernel
theorem dX9_luck_163 : decode cX9_luck 163 = .ok (.invokevirtual 204, 3) := by decide +kernel
theorem dX9_luck_166 : decode cX9_luck 166 = .ok (.istore 7, 2) := by decide +kernel
theorem dX9_luck_168 : decode cX9_luck 168 = .ok (.iload 7, 2) := by decide +kernel
theorem dX9_luck_170 : decode cX9_luck 170 = .ok (.bipush 13, 2) := by decide +kernel
theorem dX9_luck_172 : decode cX9_luck 172 = .ok (.if_icmp .ge 21, 3) := by decide +kernel
theorem dX9_luck_175 : decode cX9_luck 175 = .ok (.lload 5, 2) := by decide +kernel
theorem dX9_luck_177 : decode cX9_luck 177 = .ok (.aload_n 0, 1) := by decide +kernel
theorem dX9_luck_178 : decode cX9_luck 178 = .ok (.getfield 29, 3) := by decide +kernel
theorem dX9_luck_181 : decode cX9_luck 181 = .ok (.iload 7, 2) := by decide +kernel
theorem dX9_luck_183 : decode cX9_luck 183 = .ok (.laload, 1) := by decide +kernel
theorem dX9_luck_184 : decode cX9_luck 184 = .ok (.ladd, 1) := by decide +kernel
theorem dX9_luck_185 : decode cX9_luck 185 = .ok (.lstore 5, 2) := by decide +kernel
theorem dX9_luck_187 : decode cX9_luck 187 = .ok (.iinc 7 1, 3) := by decide +kernel
theorem dX9_luck_190 : decode cX9_luck 190 = .ok (.goto (-22), 3) := by decide +kernel
theorem dX9_luck_193 : decode cX9_luck 193 = .ok (.lload 5, 2) := by decide +kernel
theorem dX9_luck_195 : decode cX9_luck 195 = .ok (.lload_n 3, 1) := by decide +kernel
theorem dX9_luck_196 : decode cX9_luck 196 = .ok (.iload_n 2, 1) := by decide +kernel
theorem dX9_luck_197 : decode cX9_luck 197 = .ok (.invokestatic 149, 3) := by decide +kernel
theorem dX9_luck_200 : decode cX9_luck 200 = .ok (.lreturn, 1) := by decide +kernel
theorem dX9_choose_0 : decode cX9_choose 0 = .ok (.iload_n 1, 1) := by decide +kernel
theorem dX9_choose_1 : decode cX9_choose 1 = .ok (.ifCond .lt 8, 3) := by decide +kernel
theorem dX9_choose_4 : decode cX9_choose 4 = .ok (.iload_n 1, 1) := by decide +kernel
theorem dX9_choose_5 : decode cX9_choose 5 = .ok (.iload_n 0, 1) := by decide +kernel
theorem dX9_choose_6 : decode cX9_choose 6 = .ok (.if_icmp .le 5, 3) := by decide +kernel
theorem dX9_choose_9 : decode cX9_choose 9 = .ok (.lconst 0, 1) := by decide +kernel
theorem dX9_choose_10 : decode cX9_choose 10 = .ok (.lreturn, 1) := by decide +kernel
theorem dX9_choose_11 : decode cX9_choose 11 = .ok (.lconst 1, 1) := by decide +kernel
theorem dX9_choose_12 : decode cX9_choose 12 = .ok (.lstore_n 2, 1) := by decide +kernel
theorem dX9_choose_13 : decode cX9_choose 13 = .ok (.iconst 0, 1) := by decide +kernel
theorem dX9_choose_14 : decode cX9_choose 14 = .ok (.istore 4, 2) := by decide +kernel
theorem dX9_choose_16 : decode cX9_choose 16 = .ok (.iload 4, 2) := by decide +kernel
theorem dX9_choose_18 : decode cX9_choose 18 = .ok (.iload_n 1, 1) := by decide +kernel
theorem dX9_choose_19 : decode cX9_choose 19 = .ok (.if_icmp .ge 23, 3) := by decide +kernel
theorem dX9_choose_22 : decode cX9_choose 22 = .ok (.lload_n 2, 1) := by decide +kernel
theorem dX9_choose_23 : decode cX9_choose 23 = .ok (.iload_n 0, 1) := by decide +kernel
theorem dX9_choose_24 : decode cX9_choose 24 = .ok (.iload 4, 2) := by decide +kernel
theorem dX9_choose_26 : decode cX9_choose 26 = .ok (.isub, 1) := by decide +kernel
theorem dX9_choose_27 : decode cX9_choose 27 = .ok (.i2l, 1) := by decide +kernel
theorem dX9_choose_28 : decode cX9_choose 28 = .ok (.lmul, 1) := by decide +kernel
theorem dX9_choose_29 : decode cX9_choose 29 = .ok (.iload 4, 2) := by decide +kernel
theorem dX9_choose_31 : decode cX9_choose 31 = .ok (.iconst 1, 1) := by decide +kernel
theorem dX9_choose_32 : decode cX9_choose 32 = .ok (.iadd, 1) := by decide +kernel
theorem dX9_choose_33 : decode cX9_choose 33 = .ok (.i2l, 1) := by decide +kernel
theorem dX9_choose_34 : decode cX9_choose 34 = .ok (.ldiv, 1) := by decide +kernel
theorem dX9_choose_35 : decode cX9_choose 35 = .ok (.lstore_n 2, 1) := by decide +kernel
theorem dX9_choose_36 : decode cX9_choose 36 = .ok (.iinc 4 1, 3) := by decide +kernel
theorem dX9_choose_39 : decode cX9_choose 39 = .ok (.goto (-23), 3) := by decide +kernel
theorem dX9_choose_42 : decode cX9_choose 42 = .ok (.lload_n 2, 1) := by decide +kernel
theorem dX9_choose_43 : decode cX9_choose 43 = .ok (.lreturn, 1) := by decide +kernel
theorem dX9_boards_0 : decode cX9_boards 0 = .ok (.iload_n 1, 1) := by decide +kernel
theorem dX9_boards_1 : decode cX9_boards 1 = .ok (.i2l, 1) := by decide +kernel
theorem dX9_boards_2 : decode cX9_boards 2 = .ok (.lconst 1, 1) := by decide +kernel
theorem dX9_boards_3 : decode cX9_boards 3 = .ok (.ldc2_w 207, 3) := by decide +kernel
theorem dX9_boards_6 : decode cX9_boards 6 = .ok (.invokestatic 66, 3) := by decide +kernel
theorem dX9_boards_9 : decode cX9_boards 9 = .ok (.ifCond .eq 37, 3) := by decide +kernel
theorem dX9_boards_12 : decode cX9_boards 12 = .ok (.iload_n 2, 1) := by decide +kernel
theorem dX9_boards_13 : decode cX9_boards 13 = .ok (.i2l, 1) := by decide +kernel
theorem dX9_boards_14 : decode cX9_boards 14 = .ok (.lconst 0, 1) := by decide +kernel
theorem dX9_boards_15 : decode cX9_boards 15 = .ok (.iload_n 1, 1) := by decide +kernel
theorem dX9_boards_16 : decode cX9_boards 16 = .ok (.i2l, 1) := by decide +kernel
theorem dX9_boards_17 : decode cX9_boards 17 = .ok (.invokestatic 66, 3) := by decide +kernel
theorem dX9_boards_20 : decode cX9_boards 20 = .ok (.ifCond .eq 26, 3) := by decide +kernel
theorem dX9_boards_23 : decode cX9_boards 23 = .ok (.iload_n 3, 1) := by decide +kernel
theorem dX9_boards_24 : decode cX9_boards 24 = .ok (.i2l, 1) := by decide +kernel
theorem dX9_boards_25 : decode cX9_boards 25 = .ok (.lconst 1, 1) := by decide +kernel
theorem dX9_boards_26 : decode cX9_boards 26 = .ok (.iload_n 1, 1) := by decide +kernel
theorem dX9_boards_27 : decode cX9_boards 27 = .ok (.i2l, 1) := by decide +kernel
theorem dX9_boards_28 : decode cX9_boards 28 = .ok (.invokestatic 66, 3) := by decide +kernel
theorem dX9_boards_31 : decode cX9_boards 31 = .ok (.ifCond .eq 15, 3) := by decide +kernel
theorem dX9_boards_34 : decode cX9_boards 34 = .ok (.iload 4, 2) := by decide +kernel
theorem dX9_boards_36 : decode cX9_boards 36 = .ok (.i2l, 1) := by decide +kernel
theorem dX9_boards_37 : decode cX9_boards 37 = .ok (.lconst 0, 1) := by decide +kernel
theorem dX9_boards_38 : decode cX9_boards 38 = .ok (.iload_n 3, 1) := by decide +kernel
theorem dX9_boards_39 : decode cX9_boards 39 = .ok (.i2l, 1) := by decide +kernel
theorem dX9_boards_40 : decode cX9_boards 40 = .ok (.invokestatic 66, 3) := by decide +kernel
theorem dX9_boards_43 : decode cX9_boards 43 = .ok (.ifCond .ne 7, 3) := by decide +kernel
theorem dX9_boards_46 : decode cX9_boards 46 = .ok (.ldc2_w 135, 3) := by decide +kernel
theorem dX9_boards_49 : decode cX9_boards 49 = .ok (.lreturn, 1) := by decide +kernel
theorem dX9_boards_50 : decode cX9_boards 50 = .ok (.iload_n 2, 1) := by decide +kernel
theorem dX9_boards_51 : decode cX9_boards 51 = .ok (.iload 4, 2) := by decide +kernel
theorem dX9_boards_53 : decode cX9_boards 53 = .ok (.invokestatic 209, 3) := by decide +kernel
theorem dX9_boards_56 : decode cX9_boards 56 = .ok (.iload_n 1, 1) := by decide +kernel
theorem dX9_boards_57 : decode cX9_boards 57 = .ok (.iload_n 2, 1) := by decide +kernel
theorem dX9_boards_58 : decode cX9_boards 58 = .ok (.isub, 1) := by decide +kernel
theorem dX9_boards_59 : decode cX9_boards 59 = .ok (.iload_n 3, 1) := by decide +kernel
theorem dX9_boards_60 : decode cX9_boards 60 = .ok (.iload 4, 2) := by decide +kernel
theorem dX9_boards_62 : decode cX9_boards 62 = .ok (.isub, 1) := by decide +kernel
theorem dX9_boards_63 : decode cX9_boards 63 = .ok (.invokestatic 209, 3) := by decide +kernel
theorem dX9_boards_66 : decode cX9_boards 66 = .ok (.lmul, 1) := by decide +kernel
theorem dX9_boards_67 : decode cX9_boards 67 = .ok (.iload_n 1, 1) := by decide +kernel
theorem dX9_boards_68 : decode cX9_boards 68 = .ok (.iload_n 3, 1) := by decide +kernel
theorem dX9_boards_69 : decode cX9_boards 69 = .ok (.invokestatic 209, 3) := by decide +kernel
theorem dX9_boards_72 : decode cX9_boards 72 = .ok (.iload 5, 2) := by decide +kernel
theorem dX9_boards_74 : decode cX9_boards 74 = .ok (.invokestatic 149, 3) := by decide +kernel
theorem dX9_boards_77 : decode cX9_boards 77 = .ok (.lreturn, 1) := by decide +kernel
theorem dX9_span_0 : decode cX9_span 0 = .ok (.iload_n 1, 1) := by decide +kernel
theorem dX9_span_1 : decode cX9_span 1 = .ok (.i2l, 1) := by decide +kernel
theorem dX9_span_2 : decode cX9_span 2 = .ok (.lconst 1, 1) := by decide +kernel
theorem dX9_span_3 : decode cX9_span 3 = .ok (.ldc2_w 207, 3) := by decide +kernel
theorem dX9_span_6 : decode cX9_span 6 = .ok (.invokestatic 66, 3) := by decide +kernel
theorem dX9_span_9 : decode cX9_span 9 = .ok (.ifCond .eq 25, 3) := by decide +kernel
theorem dX9_span_12 : decode cX9_span 12 = .ok (.iload_n 2, 1) := by decide +kernel
theorem dX9_span_13 : decode cX9_span 13 = .ok (.i2l, 1) := by decide +kernel
theorem dX9_span_14 : decode cX9_span 14 = .ok (.lconst 1, 1) := by decide +kernel
theorem dX9_span_15 : decode cX9_span 15 = .ok (.iload_n 1, 1) := by decide +kernel
theorem dX9_span_16 : decode cX9_span 16 = .ok (.i2l, 1) := by decide +kernel
theorem dX9_span_17 : decode cX9_span 17 = .ok (.invokestatic 66, 3) := by decide +kernel
theorem dX9_span_20 : decode cX9_span 20 = .ok (.ifCond .eq 14, 3) := by decide +kernel
theorem dX9_span_23 : decode cX9_span 23 = .ok (.iload_n 3, 1) := by decide +kernel
theorem dX9_span_24 : decode cX9_span 24 = .ok (.i2l, 1) := by decide +kernel
theorem dX9_span_25 : decode cX9_span 25 = .ok (.lconst 0, 1) := by decide +kernel
theorem dX9_span_26 : decode cX9_span 26 = .ok (.iload_n 2, 1) := by decide +kernel
theorem dX9_span_27 : decode cX9_span 27 = .ok (.i2l, 1) := by decide +kernel
theorem dX9_span_28 : decode cX9_span 28 = .ok (.invokestatic 66, 3) := by decide +kernel
theorem dX9_span_31 : decode cX9_span 31 = .ok (.ifCond .ne 6, 3) := by decide +kernel
theorem dX9_span_34 : decode cX9_span 34 = .ok (.bipush (-2), 2) := by decide +kernel
theorem dX9_span_36 : decode cX9_span 36 = .ok (.ireturn, 1) := by decide +kernel
theorem dX9_span_37 : decode cX9_span 37 = .ok (.bipush (-9), 2) := by decide +kernel
theorem dX9_span_39 : decode cX9_span 39 = .ok (.istore 5, 2) := by decide +kernel
theorem dX9_span_41 : decode cX9_span 41 = .ok (.iconst 0, 1) := by decide +kernel
theorem dX9_span_42 : decode cX9_span 42 = .ok (.istore 6, 2) := by decide +kernel
theorem dX9_span_44 : decode cX9_span 44 = .ok (.iload 6, 2) := by decide +kernel
theorem dX9_span_46 : decode cX9_span 46 = .ok (.iload_n 1, 1) := by decide +kernel
theorem dX9_span_47 : decode cX9_span 47 = .ok (.if_icmp .gt 72, 3) := by decide +kernel
theorem dX9_span_50 : decode cX9_span 50 = .ok (.ldc2_w 213, 3) := by decide +kernel
theorem dX9_span_53 : decode cX9_span 53 = .ok (.iload 6, 2) := by decide +kernel
theorem dX9_span_55 : decode cX9_span 55 = .ok (.iload_n 3, 1) := by decide +kernel
theorem dX9_span_56 : decode cX9_span 56 = .ok (.invokestatic 209, 3) := by decide +kernel
theorem dX9_span_59 : decode cX9_span 59 = .ok (.lmul, 1) := by decide +kernel
theorem dX9_span_60 : decode cX9_span 60 = .ok (.iload_n 1, 1) := by decide +kernel
theorem dX9_span_61 : decode cX9_span 61 = .ok (.iload 6, 2) := by decide +kernel
theorem dX9_span_63 : decode cX9_span 63 = .ok (.isub, 1) := by decide +kernel
theorem dX9_span_64 : decode cX9_span 64 = .ok (.iload_n 2, 1) := by decide +kernel
theorem dX9_span_65 : decode cX9_span 65 = .ok (.iload_n 3, 1) := by decide +kernel
theorem dX9_span_66 : decode cX9_span 66 = .ok (.isub, 1) := by decide +kernel
theorem dX9_span_67 : decode cX9_span 67 = .ok (.invokestatic 209, 3) := by decide +kernel
theorem dX9_span_70 : decode cX9_span 70 = .ok (.lmul, 1) := by decide +kernel
theorem dX9_span_71 : decode cX9_span 71 = .ok (.iload_n 1, 1) := by decide +kernel
theorem dX9_span_72 : decode cX9_span 72 = .ok (.iload_n 2, 1) := by decide +kernel
theorem dX9_span_73 : decode cX9_span 73 = .ok (.invokestatic 209, 3) := by decide +kernel
theorem dX9_span_76 : decode cX9_span 76 = .ok (.lcmp, 1) := by decide +kernel
theorem dX9_span_77 : decode cX9_span 77 = .ok (.ifCond .lt 7, 3) := by decide +kernel
theorem dX9_span_80 : decode cX9_span 80 = .ok (.iconst 1, 1) := by decide +kernel
theorem dX9_span_81 : decode cX9_span 81 = .ok (.goto 4, 3) := by decide +kernel
theorem dX9_span_84 : decode cX9_span 84 = .ok (.iconst 0, 1) := by decide +kernel
theorem dX9_span_85 : decode cX9_span 85 = .ok (.istore 7, 2) := by decide +kernel
theorem dX9_span_87 : decode cX9_span 87 = .ok (.iload 7, 2) := by decide +kernel
theorem dX9_span_89 : decode cX9_span 89 = .ok (.ifCond .eq 20, 3) := by decide +kernel
theorem dX9_span_92 : decode cX9_span 92 = .ok (.iload 4, 2) := by decide +kernel
theorem dX9_span_94 : decode cX9_span 94 = .ok (.ifCond .ne 10, 3) := by decide +kernel
theorem dX9_span_97 : decode cX9_span 97 = .ok (.iload 5, 2) := by decide +kernel
theorem dX9_span_99 : decode cX9_span 99 = .ok (.bipush (-9), 2) := by decide +kernel
theorem dX9_span_101 : decode cX9_span 101 = .ok (.if_icmp .ne 8, 3) := by decide +kernel
theorem dX9_span_104 : decode cX9_span 104 = .ok (.iload 6, 2) := by decide +kernel
theorem dX9_span_106 : decode cX9_span 106 = .ok (.goto 5, 3) := by decide +kernel
theorem dX9_span_109 : decode cX9_span 109 = .ok (.iload 5, 2) := by decide +kernel
theorem dX9_span_111 : decode cX9_span 111 = .ok (.istore 5, 2) := by decide +kernel
theorem dX9_span_113 : decode cX9_span 113 = .ok (.iinc 6 1, 3) := by decide +kernel
theorem dX9_span_116 : decode cX9_span 116 = .ok (.goto (-72), 3) := by decide +kernel
theorem dX9_span_119 : decode cX9_span 119 = .ok (.iload 5, 2) := by decide +kernel
theorem dX9_span_121 : decode cX9_span 121 = .ok (.ireturn, 1) := by decide +kernel
theorem dX9_trial_0 : decode cX9_trial 0 = .ok (.iload_n 1, 1) := by decide +kernel
theorem dX9_trial_1 : decode cX9_trial 1 = .ok (.i2l, 1) := by decide +kernel
theorem dX9_trial_2 : decode cX9_trial 2 = .ok (.lconst 0, 1) := by decide +kernel
theorem dX9_trial_3 : decode cX9_trial 3 = .ok (.ldc2_w 173, 3) := by decide +kernel
theorem dX9_trial_6 : decode cX9_trial 6 = .ok (.invokestatic 66, 3) := by decide +kernel
theorem dX9_trial_9 : decode cX9_trial 9 = .ok (.ifCond .ne 6, 3) := by decide +kernel
theorem dX9_trial_12 : decode cX9_trial 12 = .ok (.bipush (-2), 2) := by decide +kernel
theorem dX9_trial_14 : decode cX9_trial 14 = .ok (.ireturn, 1) := by decide +kernel
theorem dX9_trial_15 : decode cX9_trial 15 = .ok (.aload_n 0, 1) := by decide +kernel
theorem dX9_trial_16 : decode cX9_trial 16 = .ok (.getfield 215, 3) := by decide +kernel
theorem dX9_trial_19 : decode cX9_trial 19 = .ok (.bipush 10, 2) := by decide +kernel
theorem dX9_trial_21 : decode cX9_trial 21 = .ok (.if_icmp .ne 6, 3) := by decide +kernel
theorem dX9_trial_24 : decode cX9_trial 24 = .ok (.bipush (-4), 2) := by decide +kernel
theorem dX9_trial_26 : decode cX9_trial 26 = .ok (.ireturn, 1) := by decide +kernel
theorem dX9_trial_27 : decode cX9_trial 27 = .ok (.aload_n 0, 1) := by decide +kernel
theorem dX9_trial_28 : decode cX9_trial 28 = .ok (.getfield 38, 3) := by decide +kernel
theorem dX9_trial_31 : decode cX9_trial 31 = .ok (.aload_n 0, 1) := by decide +kernel
theorem dX9_trial_32 : decode cX9_trial 32 = .ok (.getfield 215, 3) := by decide +kernel
theorem dX9_trial_35 : decode cX9_trial 35 = .ok (.iload_n 1, 1) := by decide +kernel
theorem dX9_trial_36 : decode cX9_trial 36 = .ok (.iastore, 1) := by decide +kernel
theorem dX9_trial_37 : decode cX9_trial 37 = .ok (.aload_n 0, 1) := by decide +kernel
theorem dX9_trial_38 : decode cX9_trial 38 = .ok (.getfield 41, 3) := by decide +kernel
theorem dX9_trial_41 : decode cX9_trial 41 = .ok (.aload_n 0, 1) := by decide +kernel
theorem dX9_trial_42 : decode cX9_trial 42 = .ok (.getfield 215, 3) := by decide +kernel
theorem dX9_trial_45 : decode cX9_trial 45 = .ok (.iload_n 2, 1) := by decide +kernel
theorem dX9_trial_46 : decode cX9_trial 46 = .ok (.bastore, 1) := by decide +kernel
theorem dX9_trial_47 : decode cX9_trial 47 = .ok (.aload_n 0, 1) := by decide +kernel
theorem dX9_trial_48 : decode cX9_trial 48 = .ok (.dup, 1) := by decide +kernel
theorem dX9_trial_49 : decode cX9_trial 49 = .ok (.getfield 215, 3) := by decide +kernel
theorem dX9_trial_52 : decode cX9_trial 52 = .ok (.iconst 1, 1) := by decide +kernel
theorem dX9_trial_53 : decode cX9_trial 53 = .ok (.iadd, 1) := by decide +kernel
theorem dX9_trial_54 : decode cX9_trial 54 = .ok (.putfield 215, 3) := by decide +kernel
theorem dX9_trial_57 : decode cX9_trial 57 = .ok (.aload_n 0, 1) := by decide +kernel
theorem dX9_trial_58 : decode cX9_trial 58 = .ok (.getfield 215, 3) := by decide +kernel
theorem dX9_trial_61 : decode cX9_trial 61 = .ok (.ireturn, 1) := by decide +kernel
theorem dX9_untrial_0 : decode cX9_untrial 0 = .ok (.aload_n 0, 1) := by decide +kernel
theorem dX9_untrial_1 : decode cX9_untrial 1 = .ok (.getfield 215, 3) := by decide +kernel
theorem dX9_untrial_4 : decode cX9_untrial 4 = .ok (.istore_n 1, 1) := by decide +kernel
theorem dX9_untrial_5 : decode cX9_untrial 5 = .ok (.aload_n 0, 1) := by decide +kernel
theorem dX9_untrial_6 : decode cX9_untrial 6 = .ok (.iconst 0, 1) := by decide +kernel
theorem dX9_untrial_7 : decode cX9_untrial 7 = .ok (.putfield 215, 3) := by decide +kernel
theorem dX9_untrial_10 : decode cX9_untrial 10 = .ok (.iload_n 1, 1) := by decide +kernel
theorem dX9_untrial_11 : decode cX9_untrial 11 = .ok (.ireturn, 1) := by decide +kernel
theorem dX9_waits_0 : decode cX9_waits 0 = .ok (.iconst 0, 1) := by decide +kernel
theorem dX9_waits_1 : decode cX9_waits 1 = .ok (.istore_n 1, 1) := by decide +kernel
theorem dX9_waits_2 : decode cX9_waits 2 = .ok (.iconst 0, 1) := by decide +kernel
theorem dX9_waits_3 : decode cX9_waits 3 = .ok (.istore_n 2, 1) := by decide +kernel
theorem dX9_waits_4 : decode cX9_waits 4 = .ok (.iload_n 2, 1) := by decide +kernel
theorem dX9_waits_5 : decode cX9_waits 5 = .ok (.aload_n 0, 1) := by decide +kernel
theorem dX9_waits_6 : decode cX9_waits 6 = .ok (.getfield 215, 3) := by decide +kernel
theorem dX9_waits_9 : decode cX9_waits 9 = .ok (.if_icmp .ge 26, 3) := by decide +kernel
theorem dX9_waits_12 : decode cX9_waits 12 = .ok (.iload_n 1, 1) := by decide +kernel
theorem dX9_waits_13 : decode cX9_waits 13 = .ok (.aload_n 0, 1) := by decide +kernel
theorem dX9_waits_14 : decode cX9_waits 14 = .ok (.getfield 41, 3) := by decide +kernel
theorem dX9_waits_17 : decode cX9_waits 17 = .ok (.iload_n 2, 1) := by decide +kernel
theorem dX9_waits_18 : decode cX9_waits 18 = .ok (.baload, 1) := by decide +kernel
theorem dX9_waits_19 : decode cX9_waits 19 = .ok (.ifCond .eq 7, 3) := by decide +kernel
theorem dX9_waits_22 : decode cX9_waits 22 = .ok (.iconst 1, 1) := by decide +kernel
theorem dX9_waits_23 : decode cX9_waits 23 = .ok (.goto 4, 3) := by decide +kernel
theorem dX9_waits_26 : decode cX9_waits 26 = .ok (.iconst 0, 1) := by decide +kernel
theorem dX9_waits_27 : decode cX9_waits 27 = .ok (.iadd, 1) := by decide +kernel
theorem dX9_waits_28 : decode cX9_waits 28 = .ok (.istore_n 1, 1) := by decide +kernel
theorem dX9_waits_29 : decode cX9_waits 29 = .ok (.iinc 2 1, 3) := by decide +kernel
theorem dX9_waits_32 : decode cX9_waits 32 = .ok (.goto (-28), 3) := by decide +kernel
theorem dX9_waits_35 : decode cX9_waits 35 = .ok (.iload_n 1, 1) := by decide +kernel
theorem dX9_waits_36 : decode cX9_waits 36 = .ok (.ireturn, 1) := by decide +kernel
theorem dX9_chance_0 : decode cX9_chance 0 = .ok (.iconst 0, 1) := by decide +kernel
theorem dX9_chance_1 : decode cX9_chance 1 = .ok (.istore_n 2, 1) := by decide +kernel
theorem dX9_chance_2 : decode cX9_chance 2 = .ok (.iconst 0, 1) := by decide +kernel
theorem dX9_chance_3 : decode cX9_chance 3 = .ok (.istore_n 3, 1) := by decide +kernel
theorem dX9_chance_4 : decode cX9_chance 4 = .ok (.iload_n 3, 1) := by decide +kernel
theorem dX9_chance_5 : decode cX9_chance 5 = .ok (.aload_n 0, 1) := by decide +kernel
theorem dX9_chance_6 : decode cX9_chance 6 = .ok (.getfield 215, 3) := by decide +kernel
theorem dX9_chance_9 : decode cX9_chance 9 = .ok (.if_icmp .ge 31, 3) := by decide +kernel
theorem dX9_chance_12 : decode cX9_chance 12 = .ok (.iload_n 2, 1) := by decide +kernel
theorem dX9_chance_13 : decode cX9_chance 13 = .ok (.aload_n 0, 1) := by decide +kernel
theorem dX9_chance_14 : decode cX9_chance 14 = .ok (.getfield 41, 3) := by decide +kernel
theorem dX9_chance_17 : decode cX9_chance 17 = .ok (.iload_n 3, 1) := by decide +kernel
theorem dX9_chance_18 : decode cX9_chance 18 = .ok (.baload, 1) := by decide +kernel
theorem dX9_chance_19 : decode cX9_chance 19 = .ok (.ifCond .eq 12, 3) := by decide +kernel
theorem dX9_chance_22 : decode cX9_chance 22 = .ok (.aload_n 0, 1) := by decide +kernel
theorem dX9_chance_23 : decode cX9_chance 23 = .ok (.getfield 38, 3) := by decide +kernel
theorem dX9_chance_26 : decode cX9_chance 26 = .ok (.iload_n 3, 1) := by decide +kernel
theorem dX9_chance_27 : decode cX9_chance 27 = .ok (.iaload, 1) := by decide +kernel
theorem dX9_chance_28 : decode cX9_chance 28 = .ok (.goto 4, 3) := by decide +kernel
theorem dX9_chance_31 : decode cX9_chance 31 = .ok (.iconst 0, 1) := by decide +kernel
theorem dX9_chance_32 : decode cX9_chance 32 = .ok (.iadd, 1) := by decide +kernel
theorem dX9_chance_33 : decode cX9_chance 33 = .ok (.istore_n 2, 1) := by decide +kernel
theorem dX9_chance_34 : decode cX9_chance 34 = .ok (.iinc 3 1, 3) := by decide +kernel
theorem dX9_chance_37 : decode cX9_chance 37 = .ok (.goto (-33), 3) := by decide +kernel
theorem dX9_chance_40 : decode cX9_chance 40 = .ok (.lconst 0, 1) := by decide +kernel
theorem dX9_chance_41 : decode cX9_chance 41 = .ok (.lstore_n 3, 1) := by decide +kernel
theorem dX9_chance_42 : decode cX9_chance 42 = .ok (.lconst 0, 1) := by decide +kernel
theorem dX9_chance_43 : decode cX9_chance 43 = .ok (.lstore 5, 2) := by decide +kernel
theorem dX9_chance_45 : decode cX9_chance 45 = .ok (.iconst 0, 1) := by decide +kernel
theorem dX9_chance_46 : decode cX9_chance 46 = .ok (.istore 7, 2) := by decide +kernel
theorem dX9_chance_48 : decode cX9_chance 48 = .ok (.iload 7, 2) := by decide +kernel
theorem dX9_chance_50 : decode cX9_chance 50 = .ok (.iconst 1, 1) := by decide +kernel
theorem dX9_chance_51 : decode cX9_chance 51 = .ok (.aload_n 0, 1) := by decide +kernel
theorem dX9_chance_52 : decode cX9_chance 52 = .ok (.getfield 215, 3) := by decide +kernel
theorem dX9_chance_55 : decode cX9_chance 55 = .ok (.ishl, 1) := by decide +kernel
theorem dX9_chance_56 : decode cX9_chance 56 = .ok (.if_icmp .ge 103, 3) := by decide +kernel
theorem dX9_chance_59 : decode cX9_chance 59 = .ok (.iconst 0, 1) := by decide +kernel
theorem dX9_chance_60 : decode cX9_chance 60 = .ok (.istore 8, 2) := by decide +kernel
theorem dX9_chance_62 : decode cX9_chance 62 = .ok (.iconst 0, 1) := by decide +kernel
theorem dX9_chance_63 : decode cX9_chance 63 = .ok (.istore 9, 2) := by decide +kernel
theorem dX9_chance_65 : decode cX9_chance 65 = .ok (.iload 9, 2) := by decide +kernel
theorem dX9_chance_67 : decode cX9_chance 67 = .ok (.aload_n 0, 1) := by decide +kernel
theorem dX9_chance_68 : decode cX9_chance 68 = .ok (.getfield 215, 3) := by decide +kernel
theorem dX9_chance_71 : decode cX9_chance 71 = .ok (.if_icmp .ge 29, 3) := by decide +kernel
theorem dX9_chance_74 : decode cX9_chance 74 = .ok (.iload 8, 2) := by decide +kernel
theorem dX9_chance_76 : decode cX9_chance 76 = .ok (.iload 7, 2) := by decide +kernel
theorem dX9_chance_78 : decode cX9_chance 78 = .ok (.iload 9, 2) := by decide +kernel
theorem dX9_chance_80 : decode cX9_chance 80 = .ok (.ishr, 1) := by decide +kernel
theorem dX9_chance_81 : decode cX9_chance 81 = .ok (.iconst 1, 1) := by decide +kernel
theorem dX9_chance_82 : decode cX9_chance 82 = .ok (.iand, 1) := by decide +kernel
theorem dX9_chance_83 : decode cX9_chance 83 = .ok (.aload_n 0, 1) := by decide +kernel
theorem dX9_chance_84 : decode cX9_chance 84 = .ok (.getfield 38, 3) := by decide +kernel
theorem dX9_chance_87 : decode cX9_chance 87 = .ok (.iload 9, 2) := by decide +kernel
theorem dX9_chance_89 : decode cX9_chance 89 = .ok (.iaload, 1) := by decide +kernel
theorem dX9_chance_90 : decode cX9_chance 90 = .ok (.imul, 1) := by decide +kernel
theorem dX9_chance_91 : decode cX9_chance 91 = .ok (.iadd, 1) := by decide +kernel
theorem dX9_chance_92 : decode cX9_chance 92 = .ok (.istore 8, 2) := by decide +kernel
theorem dX9_chance_94 : decode cX9_chance 94 = .ok (.iinc 9 1, 3) := by decide +kernel
theorem dX9_chance_97 : decode cX9_chance 97 = .ok (.goto (-32), 3) := by decide +kernel
theorem dX9_chance_100 : decode cX9_chance 100 = .ok (.iload 7, 2) := by decide +kernel
theorem dX9_chance_102 : decode cX9_chance 102 = .ok (.invokestatic 185, 3) := by decide +kernel
theorem dX9_chance_105 : decode cX9_chance 105 = .ok (.aload_n 0, 1) := by decide +kernel
theorem dX9_chance_106 : decode cX9_chance 106 = .ok (.invokevirtual 218, 3) := by decide +kernel
theorem dX9_chance_109 : decode cX9_chance 109 = .ok (.if_icmp .ne 7, 3) := by decide +kernel
theorem dX9_chance_112 : decode cX9_chance 112 = .ok (.iconst 1, 1) := by decide +kernel
theorem dX9_chance_113 : decode cX9_chance 113 = .ok (.goto 4, 3) := by decide +kernel
theorem dX9_chance_116 : decode cX9_chance 116 = .ok (.iconst 0, 1) := by decide +kernel
theorem dX9_chance_117 : decode cX9_chance 117 = .ok (.istore 9, 2) := by decide +kernel
theorem dX9_chance_119 : decode cX9_chance 119 = .ok (.lload_n 3, 1) := by decide +kernel
theorem dX9_chance_120 : decode cX9_chance 120 = .ok (.iload 9, 2) := by decide +kernel
theorem dX9_chance_122 : decode cX9_chance 122 = .ok (.ifCond .eq 7, 3) := by decide +kernel
theorem dX9_chance_125 : decode cX9_chance 125 = .ok (.lconst 1, 1) := by decide +kernel
theorem dX9_chance_126 : decode cX9_chance 126 = .ok (.goto 4, 3) := by decide +kernel
theorem dX9_chance_129 : decode cX9_chance 129 = .ok (.lconst 0, 1) := by decide +kernel
theorem dX9_chance_130 : decode cX9_chance 130 = .ok (.ladd, 1) := by decide +kernel
theorem dX9_chance_131 : decode cX9_chance 131 = .ok (.lstore_n 3, 1) := by decide +kernel
theorem dX9_chance_132 : decode cX9_chance 132 = .ok (.lload 5, 2) := by decide +kernel
theorem dX9_chance_134 : decode cX9_chance 134 = .ok (.iload 9, 2) := by decide +kernel
theorem dX9_chance_136 : decode cX9_chance 136 = .ok (.ifCond .eq 13, 3) := by decide +kernel
theorem dX9_chance_139 : decode cX9_chance 139 = .ok (.iload 8, 2) := by decide +kernel
theorem dX9_chance_141 : decode cX9_chance 141 = .ok (.iload_n 2, 1) := by decide +kernel
theorem dX9_chance_142 : decode cX9_chance 142 = .ok (.if_icmp .lt 7, 3) := by decide +kernel
theorem dX9_chance_145 : decode cX9_chance 145 = .ok (.lconst 1, 1) := by decide +kernel
theorem dX9_chance_146 : decode cX9_chance 146 = .ok (.goto 4, 3) := by decide +kernel
theorem dX9_chance_149 : decode cX9_chance 149 = .ok (.lconst 0, 1) := by decide +kernel
theorem dX9_chance_150 : decode cX9_chance 150 = .ok (.ladd, 1) := by decide +kernel
theorem dX9_chance_151 : decode cX9_chance 151 = .ok (.lstore 5, 2) := by decide +kernel
theorem dX9_chance_153 : decode cX9_chance 153 = .ok (.iinc 7 1, 3) := by decide +kernel
theorem dX9_chance_156 : decode cX9_chance 156 = .ok (.goto (-108), 3) := by decide +kernel
theorem dX9_chance_159 : decode cX9_chance 159 = .ok (.lload 5, 2) := by decide +kernel
theorem dX9_chance_161 : decode cX9_chance 161 = .ok (.lload_n 3, 1) := by decide +kernel
theorem dX9_chance_162 : decode cX9_chance 162 = .ok (.iload_n 1, 1) := by decide +kernel
theorem dX9_chance_163 : decode cX9_chance 163 = .ok (.invokestatic 149, 3) := by decide +kernel
theorem dX9_chance_166 : decode cX9_chance 166 = .ok (.lreturn, 1) := by decide +kernel
theorem dX9_until_0 : decode cX9_until 0 = .ok (.iload_n 1, 1) := by decide +kernel
theorem dX9_until_1 : decode cX9_until 1 = .ok (.i2l, 1) := by decide +kernel
theorem dX9_until_2 : decode cX9_until 2 = .ok (.lconst 1, 1) := by decide +kernel
theorem dX9_until_3 : decode cX9_until 3 = .ok (.ldc2_w 133, 3) := by decide +kernel
theorem dX9_until_6 : decode cX9_until 6 = .ok (.invokestatic 66, 3) := by decide +kernel
theorem dX9_until_9 : decode cX9_until 9 = .ok (.ifCond .ne 7, 3) := by decide +kernel
theorem dX9_until_12 : decode cX9_until 12 = .ok (.ldc2_w 135, 3) := by decide +kernel
theorem dX9_until_15 : decode cX9_until 15 = .ok (.lreturn, 1) := by decide +kernel
theorem dX9_until_16 : decode cX9_until 16 = .ok (.lconst 0, 1) := by decide +kernel
theorem dX9_until_17 : decode cX9_until 17 = .ok (.lstore_n 3, 1) := by decide +kernel
theorem dX9_until_18 : decode cX9_until 18 = .ok (.iconst 1, 1) := by decide +kernel
theorem dX9_until_19 : decode cX9_until 19 = .ok (.istore 5, 2) := by decide +kernel
theorem dX9_until_21 : decode cX9_until 21 = .ok (.iload 5, 2) := by decide +kernel
theorem dX9_until_23 : decode cX9_until 23 = .ok (.iload_n 1, 1) := by decide +kernel
theorem dX9_until_24 : decode cX9_until 24 = .ok (.if_icmp .gt 22, 3) := by decide +kernel
theorem dX9_until_27 : decode cX9_until 27 = .ok (.lload_n 3, 1) := by decide +kernel
theorem dX9_until_28 : decode cX9_until 28 = .ok (.iload_n 1, 1) := by decide +kernel
theorem dX9_until_29 : decode cX9_until 29 = .ok (.i2l, 1) := by decide +kernel
theorem dX9_until_30 : decode cX9_until 30 = .ok (.ldc2_w 158, 3) := by decide +kernel
theorem dX9_until_33 : decode cX9_until 33 = .ok (.iload 5, 2) := by decide +kernel
theorem dX9_until_35 : decode cX9_until 35 = .ok (.i2l, 1) := by decide +kernel
theorem dX9_until_36 : decode cX9_until 36 = .ok (.ldiv, 1) := by decide +kernel
theorem dX9_until_37 : decode cX9_until 37 = .ok (.lmul, 1) := by decide +kernel
theorem dX9_until_38 : decode cX9_until 38 = .ok (.ladd, 1) := by decide +kernel
theorem dX9_until_39 : decode cX9_until 39 = .ok (.lstore_n 3, 1) := by decide +kernel
theorem dX9_until_40 : decode cX9_until 40 = .ok (.iinc 5 1, 3) := by decide +kernel
theorem dX9_until_43 : decode cX9_until 43 = .ok (.goto (-22), 3) := by decide +kernel
theorem dX9_until_46 : decode cX9_until 46 = .ok (.lload_n 3, 1) := by decide +kernel
theorem dX9_until_47 : decode cX9_until 47 = .ok (.ldc2_w 158, 3) := by decide +kernel
theorem dX9_until_50 : decode cX9_until 50 = .ok (.iload_n 2, 1) := by decide +kernel
theorem dX9_until_51 : decode cX9_until 51 = .ok (.invokestatic 149, 3) := by decide +kernel
theorem dX9_until_54 : decode cX9_until 54 = .ok (.lreturn, 1) := by decide +kernel
theorem dX9_keep_0 : decode cX9_keep 0 = .ok (.iload_n 1, 1) := by decide +kernel
theorem dX9_keep_1 : decode cX9_keep 1 = .ok (.i2l, 1) := by decide +kernel
theorem dX9_keep_2 : decode cX9_keep 2 = .ok (.lconst 0, 1) := by decide +kernel
theorem dX9_keep_3 : decode cX9_keep 3 = .ok (.lconst 1, 1) := by decide +kernel
theorem dX9_keep_4 : decode cX9_keep 4 = .ok (.invokestatic 66, 3) := by decide +kernel
theorem dX9_keep_7 : decode cX9_keep 7 = .ok (.ifCond .ne 5, 3) := by decide +kernel
theorem dX9_keep_10 : decode cX9_keep 10 = .ok (.iconst (-1), 1) := by decide +kernel
theorem dX9_keep_11 : decode cX9_keep 11 = .ok (.ireturn, 1) := by decide +kernel
theorem dX9_keep_12 : decode cX9_keep 12 = .ok (.aload_n 0, 1) := by decide +kernel
theorem dX9_keep_13 : decode cX9_keep 13 = .ok (.getfield 45, 3) := by decide +kernel
theorem dX9_keep_16 : decode cX9_keep 16 = .ok (.iload_n 1, 1) := by decide +kernel
theorem dX9_keep_17 : decode cX9_keep 17 = .ok (.iconst 1, 1) := by decide +kernel
theorem dX9_keep_18 : decode cX9_keep 18 = .ok (.bastore, 1) := by decide +kernel
theorem dX9_keep_19 : decode cX9_keep 19 = .ok (.iconst 0, 1) := by decide +kernel
theorem dX9_keep_20 : decode cX9_keep 20 = .ok (.istore_n 2, 1) := by decide +kernel
theorem dX9_keep_21 : decode cX9_keep 21 = .ok (.iload_n 2, 1) := by decide +kernel
theorem dX9_keep_22 : decode cX9_keep 22 = .ok (.bipush 12, 2) := by decide +kernel
theorem dX9_keep_24 : decode cX9_keep 24 = .ok (.if_icmp .ge 43, 3) := by decide +kernel
theorem dX9_keep_27 : decode cX9_keep 27 = .ok (.aload_n 0, 1) := by decide +kernel
theorem dX9_keep_28 : decode cX9_keep 28 = .ok (.getfield 48, 3) := by decide +kernel
theorem dX9_keep_31 : decode cX9_keep 31 = .ok (.bipush 12, 2) := by decide +kernel
theorem dX9_keep_33 : decode cX9_keep 33 = .ok (.iload_n 1, 1) := by decide +kernel
theorem dX9_keep_34 : decode cX9_keep 34 = .ok (.imul, 1) := by decide +kernel
theorem dX9_keep_35 : decode cX9_keep 35 = .ok (.iload_n 2, 1) := by decide +kernel
theorem dX9_keep_36 : decode cX9_keep 36 = .ok (.iadd, 1) := by decide +kernel
theorem dX9_keep_37 : decode cX9_keep 37 = .ok (.aload_n 0, 1) := by decide +kernel
theorem dX9_keep_38 : decode cX9_keep 38 = .ok (.getfield 16, 3) := by decide +kernel
theorem dX9_keep_41 : decode cX9_keep 41 = .ok (.iload_n 2, 1) := by decide +kernel
theorem dX9_keep_42 : decode cX9_keep 42 = .ok (.iaload, 1) := by decide +kernel
theorem dX9_keep_43 : decode cX9_keep 43 = .ok (.iastore, 1) := by decide +kernel
theorem dX9_keep_44 : decode cX9_keep 44 = .ok (.aload_n 0, 1) := by decide +kernel
theorem dX9_keep_45 : decode cX9_keep 45 = .ok (.getfield 51, 3) := by decide +kernel
theorem dX9_keep_48 : decode cX9_keep 48 = .ok (.bipush 12, 2) := by decide +kernel
theorem dX9_keep_50 : decode cX9_keep 50 = .ok (.iload_n 1, 1) := by decide +kernel
theorem dX9_keep_51 : decode cX9_keep 51 = .ok (.imul, 1) := by decide +kernel
theorem dX9_keep_52 : decode cX9_keep 52 = .ok (.iload_n 2, 1) := by decide +kernel
theorem dX9_keep_53 : decode cX9_keep 53 = .ok (.iadd, 1) := by decide +kernel
theorem dX9_keep_54 : decode cX9_keep 54 = .ok (.aload_n 0, 1) := by decide +kernel
theorem dX9_keep_55 : decode cX9_keep 55 = .ok (.getfield 19, 3) := by decide +kernel
theorem dX9_keep_58 : decode cX9_keep 58 = .ok (.iload_n 2, 1) := by decide +kernel
theorem dX9_keep_59 : decode cX9_keep 59 = .ok (.iaload, 1) := by decide +kernel
theorem dX9_keep_60 : decode cX9_keep 60 = .ok (.iastore, 1) := by decide +kernel
theorem dX9_keep_61 : decode cX9_keep 61 = .ok (.iinc 2 1, 3) := by decide +kernel
theorem dX9_keep_64 : decode cX9_keep 64 = .ok (.goto (-43), 3) := by decide +kernel
theorem dX9_keep_67 : decode cX9_keep 67 = .ok (.aload_n 0, 1) := by decide +kernel
theorem dX9_keep_68 : decode cX9_keep 68 = .ok (.getfield 54, 3) := by decide +kernel
theorem dX9_keep_71 : decode cX9_keep 71 = .ok (.iload_n 1, 1) := by decide +kernel
theorem dX9_keep_72 : decode cX9_keep 72 = .ok (.aload_n 0, 1) := by decide +kernel
theorem dX9_keep_73 : decode cX9_keep 73 = .ok (.getfield 100, 3) := by decide +kernel
theorem dX9_keep_76 : decode cX9_keep 76 = .ok (.lastore, 1) := by decide +kernel
theorem dX9_keep_77 : decode cX9_keep 77 = .ok (.aload_n 0, 1) := by decide +kernel
theorem dX9_keep_78 : decode cX9_keep 78 = .ok (.getfield 57, 3) := by decide +kernel
theorem dX9_keep_81 : decode cX9_keep 81 = .ok (.iconst 3, 1) := by decide +kernel
theorem dX9_keep_82 : decode cX9_keep 82 = .ok (.iload_n 1, 1) := by decide +kernel
theorem dX9_keep_83 : decode cX9_keep 83 = .ok (.imul, 1) := by decide +kernel
theorem dX9_keep_84 : decode cX9_keep 84 = .ok (.aload_n 0, 1) := by decide +kernel
theorem dX9_keep_85 : decode cX9_keep 85 = .ok (.getfield 104, 3) := by decide +kernel
theorem dX9_keep_88 : decode cX9_keep 88 = .ok (.iastore, 1) := by decide +kernel
theorem dX9_keep_89 : decode cX9_keep 89 = .ok (.aload_n 0, 1) := by decide +kernel
theorem dX9_keep_90 : decode cX9_keep 90 = .ok (.getfield 57, 3) := by decide +kernel
theorem dX9_keep_93 : decode cX9_keep 93 = .ok (.iconst 3, 1) := by decide +kernel
theorem dX9_keep_94 : decode cX9_keep 94 = .ok (.iload_n 1, 1) := by decide +kernel
theorem dX9_keep_95 : decode cX9_keep 95 = .ok (.imul, 1) := by decide +kernel
theorem dX9_keep_96 : decode cX9_keep 96 = .ok (.iconst 1, 1) := by decide +kernel
theorem dX9_keep_97 : decode cX9_keep 97 = .ok (.iadd, 1) := by decide +kernel
theorem dX9_keep_98 : decode cX9_keep 98 = .ok (.aload_n 0, 1) := by decide +kernel
theorem dX9_keep_99 : decode cX9_keep 99 = .ok (.getfield 107, 3) := by decide +kernel
theorem dX9_keep_102 : decode cX9_keep 102 = .ok (.iastore, 1) := by decide +kernel
theorem dX9_keep_103 : decode cX9_keep 103 = .ok (.aload_n 0, 1) := by decide +kernel
theorem dX9_keep_104 : decode cX9_keep 104 = .ok (.getfield 57, 3) := by decide +kernel
theorem dX9_keep_107 : decode cX9_keep 107 = .ok (.iconst 3, 1) := by decide +kernel
theorem dX9_keep_108 : decode cX9_keep 108 = .ok (.iload_n 1, 1) := by decide +kernel
theorem dX9_keep_109 : decode cX9_keep 109 = .ok (.imul, 1) := by decide +kernel
theorem dX9_keep_110 : decode cX9_keep 110 = .ok (.iconst 2, 1) := by decide +kernel
theorem dX9_keep_111 : decode cX9_keep 111 = .ok (.iadd, 1) := by decide +kernel
theorem dX9_keep_112 : decode cX9_keep 112 = .ok (.aload_n 0, 1) := by decide +kernel
theorem dX9_keep_113 : decode cX9_keep 113 = .ok (.getfield 110, 3) := by decide +kernel
theorem dX9_keep_116 : decode cX9_keep 116 = .ok (.iastore, 1) := by decide +kernel
theorem dX9_keep_117 : decode cX9_keep 117 = .ok (.aload_n 0, 1) := by decide +kernel
theorem dX9_keep_118 : decode cX9_keep 118 = .ok (.getfield 104, 3) := by decide +kernel
theorem dX9_keep_121 : decode cX9_keep 121 = .ok (.ireturn, 1) := by decide +kernel
theorem dX9_again_0 : decode cX9_again 0 = .ok (.iload_n 1, 1) := by decide +kernel
theorem dX9_again_1 : decode cX9_again 1 = .ok (.i2l, 1) := by decide +kernel
theorem dX9_again_2 : decode cX9_again 2 = .ok (.lconst 0, 1) := by decide +kernel
theorem dX9_again_3 : decode cX9_again 3 = .ok (.lconst 1, 1) := by decide +kernel
theorem dX9_again_4 : decode cX9_again 4 = .ok (.invokestatic 66, 3) := by decide +kernel
theorem dX9_again_7 : decode cX9_again 7 = .ok (.ifCond .ne 5, 3) := by decide +kernel
theorem dX9_again_10 : decode cX9_again 10 = .ok (.iconst (-1), 1) := by decide +kernel
theorem dX9_again_11 : decode cX9_again 11 = .ok (.ireturn, 1) := by decide +kernel
theorem dX9_again_12 : decode cX9_again 12 = .ok (.aload_n 0, 1) := by decide +kernel
theorem dX9_again_13 : decode cX9_again 13 = .ok (.getfield 45, 3) := by decide +kernel
theorem dX9_again_16 : decode cX9_again 16 = .ok (.iload_n 1, 1) := by decide +kernel
theorem dX9_again_17 : decode cX9_again 17 = .ok (.baload, 1) := by decide +kernel
theorem dX9_again_18 : decode cX9_again 18 = .ok (.ifCond .ne 6, 3) := by decide +kernel
theorem dX9_again_21 : decode cX9_again 21 = .ok (.bipush (-3), 2) := by decide +kernel
theorem dX9_again_23 : decode cX9_again 23 = .ok (.ireturn, 1) := by decide +kernel
theorem dX9_again_24 : decode cX9_again 24 = .ok (.iconst 0, 1) := by decide +kernel
theorem dX9_again_25 : decode cX9_again 25 = .ok (.istore_n 2, 1) := by decide +kernel
theorem dX9_again_26 : decode cX9_again 26 = .ok (.iload_n 2, 1) := by decide +kernel
theorem dX9_again_27 : decode cX9_again 27 = .ok (.bipush 12, 2) := by decide +kernel
theorem dX9_again_29 : decode cX9_again 29 = .ok (.if_icmp .ge 43, 3) := by decide +kernel
theorem dX9_again_32 : decode cX9_again 32 = .ok (.aload_n 0, 1) := by decide +kernel
theorem dX9_again_33 : decode cX9_again 33 = .ok (.getfield 16, 3) := by decide +kernel
theorem dX9_again_36 : decode cX9_again 36 = .ok (.iload_n 2, 1) := by decide +kernel
theorem dX9_again_37 : decode cX9_again 37 = .ok (.aload_n 0, 1) := by decide +kernel
theorem dX9_again_38 : decode cX9_again 38 = .ok (.getfield 48, 3) := by decide +kernel
theorem dX9_again_41 : decode cX9_again 41 = .ok (.bipush 12, 2) := by decide +kernel
theorem dX9_again_43 : decode cX9_again 43 = .ok (.iload_n 1, 1) := by decide +kernel
theorem dX9_again_44 : decode cX9_again 44 = .ok (.imul, 1) := by decide +kernel
theorem dX9_again_45 : decode cX9_again 45 = .ok (.iload_n 2, 1) := by decide +kernel
theorem dX9_again_46 : decode cX9_again 46 = .ok (.iadd, 1) := by decide +kernel
theorem dX9_again_47 : decode cX9_again 47 = .ok (.iaload, 1) := by decide +kernel
theorem dX9_again_48 : decode cX9_again 48 = .ok (.iastore, 1) := by decide +kernel
theorem dX9_again_49 : decode cX9_again 49 = .ok (.aload_n 0, 1) := by decide +kernel
theorem dX9_again_50 : decode cX9_again 50 = .ok (.getfield 19, 3) := by decide +kernel
theorem dX9_again_53 : decode cX9_again 53 = .ok (.iload_n 2, 1) := by decide +kernel
theorem dX9_again_54 : decode cX9_again 54 = .ok (.aload_n 0, 1) := by decide +kernel
theorem dX9_again_55 : decode cX9_again 55 = .ok (.getfield 51, 3) := by decide +kernel
theorem dX9_again_58 : decode cX9_again 58 = .ok (.bipush 12, 2) := by decide +kernel
theorem dX9_again_60 : decode cX9_again 60 = .ok (.iload_n 1, 1) := by decide +kernel
theorem dX9_again_61 : decode cX9_again 61 = .ok (.imul, 1) := by decide +kernel
theorem dX9_again_62 : decode cX9_again 62 = .ok (.iload_n 2, 1) := by decide +kernel
theorem dX9_again_63 : decode cX9_again 63 = .ok (.iadd, 1) := by decide +kernel
theorem dX9_again_64 : decode cX9_again 64 = .ok (.iaload, 1) := by decide +kernel
theorem dX9_again_65 : decode cX9_again 65 = .ok (.iastore, 1) := by decide +kernel
theorem dX9_again_66 : decode cX9_again 66 = .ok (.iinc 2 1, 3) := by decide +kernel
theorem dX9_again_69 : decode cX9_again 69 = .ok (.goto (-43), 3) := by decide +kernel
theorem dX9_again_72 : decode cX9_again 72 = .ok (.aload_n 0, 1) := by decide +kernel
theorem dX9_again_73 : decode cX9_again 73 = .ok (.aload_n 0, 1) := by decide +kernel
theorem dX9_again_74 : decode cX9_again 74 = .ok (.getfield 54, 3) := by decide +kernel
theorem dX9_again_77 : decode cX9_again 77 = .ok (.iload_n 1, 1) := by decide +kernel
theorem dX9_again_78 : decode cX9_again 78 = .ok (.laload, 1) := by decide +kernel
theorem dX9_again_79 : decode cX9_again 79 = .ok (.putfield 100, 3) := by decide +kernel
theorem dX9_again_82 : decode cX9_again 82 = .ok (.aload_n 0, 1) := by decide +kernel
theorem dX9_again_83 : decode cX9_again 83 = .ok (.aload_n 0, 1) := by decide +kernel
theorem dX9_again_84 : decode cX9_again 84 = .ok (.getfield 57, 3) := by decide +kernel
theorem dX9_again_87 : decode cX9_again 87 = .ok (.iconst 3, 1) := by decide +kernel
theorem dX9_again_88 : decode cX9_again 88 = .ok (.iload_n 1, 1) := by decide +kernel
theorem dX9_again_89 : decode cX9_again 89 = .ok (.imul, 1) := by decide +kernel
theorem dX9_again_90 : decode cX9_again 90 = .ok (.iaload, 1) := by decide +kernel
theorem dX9_again_91 : decode cX9_again 91 = .ok (.putfield 104, 3) := by decide +kernel
theorem dX9_again_94 : decode cX9_again 94 = .ok (.aload_n 0, 1) := by decide +kernel
theorem dX9_again_95 : decode cX9_again 95 = .ok (.aload_n 0, 1) := by decide +kernel
theorem dX9_again_96 : decode cX9_again 96 = .ok (.getfield 57, 3) := by decide +kernel
theorem dX9_again_99 : decode cX9_again 99 = .ok (.iconst 3, 1) := by decide +kernel
theorem dX9_again_100 : decode cX9_again 100 = .ok (.iload_n 1, 1) := by decide +kernel
theorem dX9_again_101 : decode cX9_again 101 = .ok (.imul, 1) := by decide +kernel
theorem dX9_again_102 : decode cX9_again 102 = .ok (.iconst 1, 1) := by decide +kernel
theorem dX9_again_103 : decode cX9_again 103 = .ok (.iadd, 1) := by decide +kernel
theorem dX9_again_104 : decode cX9_again 104 = .ok (.iaload, 1) := by decide +kernel
theorem dX9_again_105 : decode cX9_again 105 = .ok (.putfield 107, 3) := by decide +kernel
theorem dX9_again_108 : decode cX9_again 108 = .ok (.aload_n 0, 1) := by decide +kernel
theorem dX9_again_109 : decode cX9_again 109 = .ok (.aload_n 0, 1) := by decide +kernel
theorem dX9_again_110 : decode cX9_again 110 = .ok (.getfield 57, 3) := by decide +kernel
theorem dX9_again_113 : decode cX9_again 113 = .ok (.iconst 3, 1) := by decide +kernel
theorem dX9_again_114 : decode cX9_again 114 = .ok (.iload_n 1, 1) := by decide +kernel
theorem dX9_again_115 : decode cX9_again 115 = .ok (.imul, 1) := by decide +kernel
theorem dX9_again_116 : decode cX9_again 116 = .ok (.iconst 2, 1) := by decide +kernel
theorem dX9_again_117 : decode cX9_again 117 = .ok (.iadd, 1) := by decide +kernel
theorem dX9_again_118 : decode cX9_again 118 = .ok (.iaload, 1) := by decide +kernel
theorem dX9_again_119 : decode cX9_again 119 = .ok (.putfield 110, 3) := by decide +kernel
theorem dX9_again_122 : decode cX9_again 122 = .ok (.aload_n 0, 1) := by decide +kernel
theorem dX9_again_123 : decode cX9_again 123 = .ok (.getfield 104, 3) := by decide +kernel
theorem dX9_again_126 : decode cX9_again 126 = .ok (.ireturn, 1) := by decide +kernel
theorem dX9_count_0 : decode cX9_count 0 = .ok (.iload_n 1, 1) := by decide +kernel
theorem dX9_count_1 : decode cX9_count 1 = .ok (.tableswitch 60 0 4 #[35, 40, 45, 50, 55], 35) := by decide +kernel
theorem dX9_count_36 : decode cX9_count 36 = .ok (.aload_n 0, 1) := by decide +kernel
theorem dX9_count_37 : decode cX9_count 37 = .ok (.getfield 70, 3) := by decide +kernel
theorem dX9_count_40 : decode cX9_count 40 = .ok (.ireturn, 1) := by decide +kernel
theorem dX9_count_41 : decode cX9_count 41 = .ok (.aload_n 0, 1) := by decide +kernel
theorem dX9_count_42 : decode cX9_count 42 = .ok (.getfield 97, 3) := by decide +kernel
theorem dX9_count_45 : decode cX9_count 45 = .ok (.ireturn, 1) := by decide +kernel
theorem dX9_count_46 : decode cX9_count 46 = .ok (.aload_n 0, 1) := by decide +kernel
theorem dX9_count_47 : decode cX9_count 47 = .ok (.getfield 198, 3) := by decide +kernel
theorem dX9_count_50 : decode cX9_count 50 = .ok (.ireturn, 1) := by decide +kernel
theorem dX9_count_51 : decode cX9_count 51 = .ok (.aload_n 0, 1) := by decide +kernel
theorem dX9_count_52 : decode cX9_count 52 = .ok (.getfield 215, 3) := by decide +kernel
theorem dX9_count_55 : decode cX9_count 55 = .ok (.ireturn, 1) := by decide +kernel
theorem dX9_count_56 : decode cX9_count 56 = .ok (.aload_n 0, 1) := by decide +kernel
theorem dX9_count_57 : decode cX9_count 57 = .ok (.invokevirtual 218, 3) := by decide +kernel
theorem dX9_count_60 : decode cX9_count 60 = .ok (.ireturn, 1) := by decide +kernel
theorem dX9_count_61 : decode cX9_count 61 = .ok (.bipush (-2), 2) := by decide +kernel
theorem dX9_count_63 : decode cX9_count 63 = .ok (.ireturn, 1) := by decide +kernel
