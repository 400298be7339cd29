theorem dX0_init_0 : decode cX0_init 0 = .ok (.aload_n 0, 1) := by decide +kernel
theorem dX0_init_1 : decode cX0_init 1 = .ok (.invokespecial 3, 3) := by decide +kernel
theorem dX0_init_4 : decode cX0_init 4 = .ok (.aload_n 0, 1) := by decide +kernel
theorem dX0_init_5 : decode cX0_init 5 = .ok (.bipush 12, 2) := by decide +kernel
theorem dX0_init_7 : decode cX0_init 7 = .ok (.newarray .int, 2) := by decide +kernel
theorem dX0_init_9 : decode cX0_init 9 = .ok (.putfield 9, 3) := by decide +kernel
theorem dX0_init_12 : decode cX0_init 12 = .ok (.aload_n 0, 1) := by decide +kernel
theorem dX0_init_13 : decode cX0_init 13 = .ok (.bipush 12, 2) := by decide +kernel
theorem dX0_init_15 : decode cX0_init 15 = .ok (.newarray .int, 2) := by decide +kernel
theorem dX0_init_17 : decode cX0_init 17 = .ok (.putfield 15, 3) := by decide +kernel
theorem dX0_init_20 : decode cX0_init 20 = .ok (.aload_n 0, 1) := by decide +kernel
theorem dX0_init_21 : decode cX0_init 21 = .ok (.bipush 12, 2) := by decide +kernel
theorem dX0_init_23 : decode cX0_init 23 = .ok (.newarray .int, 2) := by decide +kernel
theorem dX0_init_25 : decode cX0_init 25 = .ok (.putfield 18, 3) := by decide +kernel
theorem dX0_init_28 : decode cX0_init 28 = .ok (.aload_n 0, 1) := by decide +kernel
theorem dX0_init_29 : decode cX0_init 29 = .ok (.new 21, 3) := by decide +kernel
theorem dX0_init_32 : decode cX0_init 32 = .ok (.dup, 1) := by decide +kernel
theorem dX0_init_33 : decode cX0_init 33 = .ok (.invokespecial 23, 3) := by decide +kernel
theorem dX0_init_36 : decode cX0_init 36 = .ok (.putfield 24, 3) := by decide +kernel
theorem dX0_init_39 : decode cX0_init 39 = .ok (.return_, 1) := by decide +kernel
theorem dX0_look_0 : decode cX0_look 0 = .ok (.aload_n 0, 1) := by decide +kernel
theorem dX0_look_1 : decode cX0_look 1 = .ok (.aload_n 1, 1) := by decide +kernel
theorem dX0_look_2 : decode cX0_look 2 = .ok (.getfield 28, 3) := by decide +kernel
theorem dX0_look_5 : decode cX0_look 5 = .ok (.putfield 34, 3) := by decide +kernel
theorem dX0_look_8 : decode cX0_look 8 = .ok (.aload_n 0, 1) := by decide +kernel
theorem dX0_look_9 : decode cX0_look 9 = .ok (.iload_n 3, 1) := by decide +kernel
theorem dX0_look_10 : decode cX0_look 10 = .ok (.putfield 35, 3) := by decide +kernel
theorem dX0_look_13 : decode cX0_look 13 = .ok (.aload_n 0, 1) := by decide +kernel
theorem dX0_look_14 : decode cX0_look 14 = .ok (.getfield 35, 3) := by decide +kernel
theorem dX0_look_17 : decode cX0_look 17 = .ok (.iconst 3, 1) := by decide +kernel
theorem dX0_look_18 : decode cX0_look 18 = .ok (.if_icmp .ne 7, 3) := by decide +kernel
theorem dX0_look_21 : decode cX0_look 21 = .ok (.iconst 1, 1) := by decide +kernel
theorem dX0_look_22 : decode cX0_look 22 = .ok (.goto 4, 3) := by decide +kernel
theorem dX0_look_25 : decode cX0_look 25 = .ok (.iconst 0, 1) := by decide +kernel
theorem dX0_look_26 : decode cX0_look 26 = .ok (.istore 4, 2) := by decide +kernel
theorem dX0_look_28 : decode cX0_look 28 = .ok (.iconst 0, 1) := by decide +kernel
theorem dX0_look_29 : decode cX0_look 29 = .ok (.istore 5, 2) := by decide +kernel
theorem dX0_look_31 : decode cX0_look 31 = .ok (.iload 5, 2) := by decide +kernel
theorem dX0_look_33 : decode cX0_look 33 = .ok (.aload_n 0, 1) := by decide +kernel
theorem dX0_look_34 : decode cX0_look 34 = .ok (.getfield 34, 3) := by decide +kernel
theorem dX0_look_37 : decode cX0_look 37 = .ok (.if_icmp .ge 72, 3) := by decide +kernel
theorem dX0_look_40 : decode cX0_look 40 = .ok (.aload_n 0, 1) := by decide +kernel
theorem dX0_look_41 : decode cX0_look 41 = .ok (.getfield 9, 3) := by decide +kernel
theorem dX0_look_44 : decode cX0_look 44 = .ok (.iload 5, 2) := by decide +kernel
theorem dX0_look_46 : decode cX0_look 46 = .ok (.aload_n 1, 1) := by decide +kernel
theorem dX0_look_47 : decode cX0_look 47 = .ok (.iload 5, 2) := by decide +kernel
theorem dX0_look_49 : decode cX0_look 49 = .ok (.aload_n 0, 1) := by decide +kernel
theorem dX0_look_50 : decode cX0_look 50 = .ok (.getfield 35, 3) := by decide +kernel
theorem dX0_look_53 : decode cX0_look 53 = .ok (.invokevirtual 38, 3) := by decide +kernel
theorem dX0_look_56 : decode cX0_look 56 = .ok (.invokestatic 42, 3) := by decide +kernel
theorem dX0_look_59 : decode cX0_look 59 = .ok (.aload_n 0, 1) := by decide +kernel
theorem dX0_look_60 : decode cX0_look 60 = .ok (.getfield 15, 3) := by decide +kernel
theorem dX0_look_63 : decode cX0_look 63 = .ok (.iload 5, 2) := by decide +kernel
theorem dX0_look_65 : decode cX0_look 65 = .ok (.iload 4, 2) := by decide +kernel
theorem dX0_look_67 : decode cX0_look 67 = .ok (.ifCond .eq 8, 3) := by decide +kernel
theorem dX0_look_70 : decode cX0_look 70 = .ok (.bipush 10, 2) := by decide +kernel
theorem dX0_look_72 : decode cX0_look 72 = .ok (.goto 10, 3) := by decide +kernel
theorem dX0_look_75 : decode cX0_look 75 = .ok (.aload_n 1, 1) := by decide +kernel
theorem dX0_look_76 : decode cX0_look 76 = .ok (.iload 5, 2) := by decide +kernel
theorem dX0_look_78 : decode cX0_look 78 = .ok (.iload_n 2, 1) := by decide +kernel
theorem dX0_look_79 : decode cX0_look 79 = .ok (.invokevirtual 46, 3) := by decide +kernel
theorem dX0_look_82 : decode cX0_look 82 = .ok (.invokestatic 42, 3) := by decide +kernel
theorem dX0_look_85 : decode cX0_look 85 = .ok (.aload_n 0, 1) := by decide +kernel
theorem dX0_look_86 : decode cX0_look 86 = .ok (.getfield 18, 3) := by decide +kernel
theorem dX0_look_89 : decode cX0_look 89 = .ok (.iload 5, 2) := by decide +kernel
theorem dX0_look_91 : decode cX0_look 91 = .ok (.aload_n 1, 1) := by decide +kernel
theorem dX0_look_92 : decode cX0_look 92 = .ok (.iload 5, 2) := by decide +kernel
theorem dX0_look_94 : decode cX0_look 94 = .ok (.iload_n 2, 1) := by decide +kernel
theorem dX0_look_95 : decode cX0_look 95 = .ok (.iload 4, 2) := by decide +kernel
theorem dX0_look_97 : decode cX0_look 97 = .ok (.invokevirtual 49, 3) := by decide +kernel
theorem dX0_look_100 : decode cX0_look 100 = .ok (.invokestatic 42, 3) := by decide +kernel
theorem dX0_look_103 : decode cX0_look 103 = .ok (.iinc 5 1, 3) := by decide +kernel
theorem dX0_look_106 : decode cX0_look 106 = .ok (.goto (-75), 3) := by decide +kernel
theorem dX0_look_109 : decode cX0_look 109 = .ok (.return_, 1) := by decide +kernel
theorem dX0_weightOfAll_0 : decode cX0_weightOfAll 0 = .ok (.aload_n 0, 1) := by decide +kernel
theorem dX0_weightOfAll_1 : decode cX0_weightOfAll 1 = .ok (.getfield 35, 3) := by decide +kernel
theorem dX0_weightOfAll_4 : decode cX0_weightOfAll 4 = .ok (.lookupswitch 50 #[(2, 28), (3, 40)], 28) := by decide +kernel
theorem dX0_weightOfAll_32 : decode cX0_weightOfAll 32 = .ok (.ldc2_w 53, 3) := by decide +kernel
theorem dX0_weightOfAll_35 : decode cX0_weightOfAll 35 = .ok (.aload_n 0, 1) := by decide +kernel
theorem dX0_weightOfAll_36 : decode cX0_weightOfAll 36 = .ok (.getfield 34, 3) := by decide +kernel
theorem dX0_weightOfAll_39 : decode cX0_weightOfAll 39 = .ok (.invokestatic 55, 3) := by decide +kernel
theorem dX0_weightOfAll_42 : decode cX0_weightOfAll 42 = .ok (.lmul, 1) := by decide +kernel
theorem dX0_weightOfAll_43 : decode cX0_weightOfAll 43 = .ok (.lreturn, 1) := by decide +kernel
theorem dX0_weightOfAll_44 : decode cX0_weightOfAll 44 = .ok (.ldc2_w 59, 3) := by decide +kernel
theorem dX0_weightOfAll_47 : decode cX0_weightOfAll 47 = .ok (.aload_n 0, 1) := by decide +kernel
theorem dX0_weightOfAll_48 : decode cX0_weightOfAll 48 = .ok (.getfield 34, 3) := by decide +kernel
theorem dX0_weightOfAll_51 : decode cX0_weightOfAll 51 = .ok (.i2l, 1) := by decide +kernel
theorem dX0_weightOfAll_52 : decode cX0_weightOfAll 52 = .ok (.lmul, 1) := by decide +kernel
theorem dX0_weightOfAll_53 : decode cX0_weightOfAll 53 = .ok (.lreturn, 1) := by decide +kernel
theorem dX0_weightOfAll_54 : decode cX0_weightOfAll 54 = .ok (.aload_n 0, 1) := by decide +kernel
theorem dX0_weightOfAll_55 : decode cX0_weightOfAll 55 = .ok (.getfield 34, 3) := by decide +kernel
theorem dX0_weightOfAll_58 : decode cX0_weightOfAll 58 = .ok (.invokestatic 55, 3) := by decide +kernel
theorem dX0_weightOfAll_61 : decode cX0_weightOfAll 61 = .ok (.lreturn, 1) := by decide +kernel
theorem dX0_weightOfTaken_0 : decode cX0_weightOfTaken 0 = .ok (.aload_n 0, 1) := by decide +kernel
theorem dX0_weightOfTaken_1 : decode cX0_weightOfTaken 1 = .ok (.getfield 15, 3) := by decide +kernel
theorem dX0_weightOfTaken_4 : decode cX0_weightOfTaken 4 = .ok (.iload_n 1, 1) := by decide +kernel
theorem dX0_weightOfTaken_5 : decode cX0_weightOfTaken 5 = .ok (.invokestatic 61, 3) := by decide +kernel
theorem dX0_weightOfTaken_8 : decode cX0_weightOfTaken 8 = .ok (.i2l, 1) := by decide +kernel
theorem dX0_weightOfTaken_9 : decode cX0_weightOfTaken 9 = .ok (.aload_n 0, 1) := by decide +kernel
theorem dX0_weightOfTaken_10 : decode cX0_weightOfTaken 10 = .ok (.iload_n 1, 1) := by decide +kernel
theorem dX0_weightOfTaken_11 : decode cX0_weightOfTaken 11 = .ok (.invokevirtual 65, 3) := by decide +kernel
theorem dX0_weightOfTaken_14 : decode cX0_weightOfTaken 14 = .ok (.lmul, 1) := by decide +kernel
theorem dX0_weightOfTaken_15 : decode cX0_weightOfTaken 15 = .ok (.lreturn, 1) := by decide +kernel
theorem dX0_weightOfRight_0 : decode cX0_weightOfRight 0 = .ok (.lconst 0, 1) := by decide +kernel
theorem dX0_weightOfRight_1 : decode cX0_weightOfRight 1 = .ok (.lstore_n 1, 1) := by decide +kernel
theorem dX0_weightOfRight_2 : decode cX0_weightOfRight 2 = .ok (.iconst 0, 1) := by decide +kernel
theorem dX0_weightOfRight_3 : decode cX0_weightOfRight 3 = .ok (.istore_n 3, 1) := by decide +kernel
theorem dX0_weightOfRight_4 : decode cX0_weightOfRight 4 = .ok (.iload_n 3, 1) := by decide +kernel
theorem dX0_weightOfRight_5 : decode cX0_weightOfRight 5 = .ok (.aload_n 0, 1) := by decide +kernel
theorem dX0_weightOfRight_6 : decode cX0_weightOfRight 6 = .ok (.getfield 34, 3) := by decide +kernel
theorem dX0_weightOfRight_9 : decode cX0_weightOfRight 9 = .ok (.if_icmp .ge 27, 3) := by decide +kernel
theorem dX0_weightOfRight_12 : decode cX0_weightOfRight 12 = .ok (.lload_n 1, 1) := by decide +kernel
theorem dX0_weightOfRight_13 : decode cX0_weightOfRight 13 = .ok (.aload_n 0, 1) := by decide +kernel
theorem dX0_weightOfRight_14 : decode cX0_weightOfRight 14 = .ok (.getfield 18, 3) := by decide +kernel
theorem dX0_weightOfRight_17 : decode cX0_weightOfRight 17 = .ok (.iload_n 3, 1) := by decide +kernel
theorem dX0_weightOfRight_18 : decode cX0_weightOfRight 18 = .ok (.invokestatic 61, 3) := by decide +kernel
theorem dX0_weightOfRight_21 : decode cX0_weightOfRight 21 = .ok (.i2l, 1) := by decide +kernel
theorem dX0_weightOfRight_22 : decode cX0_weightOfRight 22 = .ok (.aload_n 0, 1) := by decide +kernel
theorem dX0_weightOfRight_23 : decode cX0_weightOfRight 23 = .ok (.iload_n 3, 1) := by decide +kernel
theorem dX0_weightOfRight_24 : decode cX0_weightOfRight 24 = .ok (.invokevirtual 65, 3) := by decide +kernel
theorem dX0_weightOfRight_27 : decode cX0_weightOfRight 27 = .ok (.lmul, 1) := by decide +kernel
theorem dX0_weightOfRight_28 : decode cX0_weightOfRight 28 = .ok (.ladd, 1) := by decide +kernel
theorem dX0_weightOfRight_29 : decode cX0_weightOfRight 29 = .ok (.lstore_n 1, 1) := by decide +kernel
theorem dX0_weightOfRight_30 : decode cX0_weightOfRight 30 = .ok (.iinc 3 1, 3) := by decide +kernel
theorem dX0_weightOfRight_33 : decode cX0_weightOfRight 33 = .ok (.goto (-29), 3) := by decide +kernel
theorem dX0_weightOfRight_36 : decode cX0_weightOfRight 36 = .ok (.lload_n 1, 1) := by decide +kernel
theorem dX0_weightOfRight_37 : decode cX0_weightOfRight 37 = .ok (.lreturn, 1) := by decide +kernel
theorem dX0_weightOfOthers_0 : decode cX0_weightOfOthers 0 = .ok (.aload_n 0, 1) := by decide +kernel
theorem dX0_weightOfOthers_1 : decode cX0_weightOfOthers 1 = .ok (.getfield 35, 3) := by decide +kernel
theorem dX0_weightOfOthers_4 : decode cX0_weightOfOthers 4 = .ok (.lookupswitch 36 #[(2, 28), (3, 34)], 28) := by decide +kernel
theorem dX0_weightOfOthers_32 : decode cX0_weightOfOthers 32 = .ok (.aload_n 0, 1) := by decide +kernel
theorem dX0_weightOfOthers_33 : decode cX0_weightOfOthers 33 = .ok (.iload_n 1, 1) := by decide +kernel
theorem dX0_weightOfOthers_34 : decode cX0_weightOfOthers 34 = .ok (.invokevirtual 68, 3) := by decide +kernel
theorem dX0_weightOfOthers_37 : decode cX0_weightOfOthers 37 = .ok (.lreturn, 1) := by decide +kernel
theorem dX0_weightOfOthers_38 : decode cX0_weightOfOthers 38 = .ok (.lconst 1, 1) := by decide +kernel
theorem dX0_weightOfOthers_39 : decode cX0_weightOfOthers 39 = .ok (.lreturn, 1) := by decide +kernel
theorem dX0_weightOfOthers_40 : decode cX0_weightOfOthers 40 = .ok (.aload_n 0, 1) := by decide +kernel
theorem dX0_weightOfOthers_41 : decode cX0_weightOfOthers 41 = .ok (.iload_n 1, 1) := by decide +kernel
theorem dX0_weightOfOthers_42 : decode cX0_weightOfOthers 42 = .ok (.invokevirtual 71, 3) := by decide +kernel
theorem dX0_weightOfOthers_45 : decode cX0_weightOfOthers 45 = .ok (.lreturn, 1) := by decide +kernel
theorem dX0_othersByLot_0 : decode cX0_othersByLot 0 = .ok (.aload_n 0, 1) := by decide +kernel
theorem dX0_othersByLot_1 : decode cX0_othersByLot 1 = .ok (.getfield 24, 3) := by decide +kernel
theorem dX0_othersByLot_4 : decode cX0_othersByLot 4 = .ok (.invokevirtual 74, 3) := by decide +kernel
theorem dX0_othersByLot_7 : decode cX0_othersByLot 7 = .ok (.iconst 0, 1) := by decide +kernel
theorem dX0_othersByLot_8 : decode cX0_othersByLot 8 = .ok (.istore_n 2, 1) := by decide +kernel
theorem dX0_othersByLot_9 : decode cX0_othersByLot 9 = .ok (.iload_n 2, 1) := by decide +kernel
theorem dX0_othersByLot_10 : decode cX0_othersByLot 10 = .ok (.aload_n 0, 1) := by decide +kernel
theorem dX0_othersByLot_11 : decode cX0_othersByLot 11 = .ok (.getfield 34, 3) := by decide +kernel
theorem dX0_othersByLot_14 : decode cX0_othersByLot 14 = .ok (.if_icmp .ge 44, 3) := by decide +kernel
theorem dX0_othersByLot_17 : decode cX0_othersByLot 17 = .ok (.iload_n 2, 1) := by decide +kernel
theorem dX0_othersByLot_18 : decode cX0_othersByLot 18 = .ok (.iload_n 1, 1) := by decide +kernel
theorem dX0_othersByLot_19 : decode cX0_othersByLot 19 = .ok (.if_icmp .eq 33, 3) := by decide +kernel
theorem dX0_othersByLot_22 : decode cX0_othersByLot 22 = .ok (.aload_n 0, 1) := by decide +kernel
theorem dX0_othersByLot_23 : decode cX0_othersByLot 23 = .ok (.getfield 24, 3) := by decide +kernel
theorem dX0_othersByLot_26 : decode cX0_othersByLot 26 = .ok (.lconst 0, 1) := by decide +kernel
theorem dX0_othersByLot_27 : decode cX0_othersByLot 27 = .ok (.aload_n 0, 1) := by decide +kernel
theorem dX0_othersByLot_28 : decode cX0_othersByLot 28 = .ok (.getfield 15, 3) := by decide +kernel
theorem dX0_othersByLot_31 : decode cX0_othersByLot 31 = .ok (.iload_n 2, 1) := by decide +kernel
theorem dX0_othersByLot_32 : decode cX0_othersByLot 32 = .ok (.invokestatic 61, 3) := by decide +kernel
theorem dX0_othersByLot_35 : decode cX0_othersByLot 35 = .ok (.i2l, 1) := by decide +kernel
theorem dX0_othersByLot_36 : decode cX0_othersByLot 36 = .ok (.lconst 0, 1) := by decide +kernel
theorem dX0_othersByLot_37 : decode cX0_othersByLot 37 = .ok (.bipush 10, 2) := by decide +kernel
theorem dX0_othersByLot_39 : decode cX0_othersByLot 39 = .ok (.aload_n 0, 1) := by decide +kernel
theorem dX0_othersByLot_40 : decode cX0_othersByLot 40 = .ok (.getfield 15, 3) := by decide +kernel
theorem dX0_othersByLot_43 : decode cX0_othersByLot 43 = .ok (.iload_n 2, 1) := by decide +kernel
theorem dX0_othersByLot_44 : decode cX0_othersByLot 44 = .ok (.invokestatic 61, 3) := by decide +kernel
theorem dX0_othersByLot_47 : decode cX0_othersByLot 47 = .ok (.isub, 1) := by decide +kernel
theorem dX0_othersByLot_48 : decode cX0_othersByLot 48 = .ok (.i2l, 1) := by decide +kernel
theorem dX0_othersByLot_49 : decode cX0_othersByLot 49 = .ok (.invokevirtual 77, 3) := by decide +kernel
theorem dX0_othersByLot_52 : decode cX0_othersByLot 52 = .ok (.iinc 2 1, 3) := by decide +kernel
theorem dX0_othersByLot_55 : decode cX0_othersByLot 55 = .ok (.goto (-46), 3) := by decide +kernel
theorem dX0_othersByLot_58 : decode cX0_othersByLot 58 = .ok (.lconst 0, 1) := by decide +kernel
theorem dX0_othersByLot_59 : decode cX0_othersByLot 59 = .ok (.lstore_n 2, 1) := by decide +kernel
theorem dX0_othersByLot_60 : decode cX0_othersByLot 60 = .ok (.iconst 0, 1) := by decide +kernel
theorem dX0_othersByLot_61 : decode cX0_othersByLot 61 = .ok (.istore 4, 2) := by decide +kernel
theorem dX0_othersByLot_63 : decode cX0_othersByLot 63 = .ok (.iload 4, 2) := by decide +kernel
theorem dX0_othersByLot_65 : decode cX0_othersByLot 65 = .ok (.aload_n 0, 1) := by decide +kernel
theorem dX0_othersByLot_66 : decode cX0_othersByLot 66 = .ok (.getfield 34, 3) := by decide +kernel
theorem dX0_othersByLot_69 : decode cX0_othersByLot 69 = .ok (.if_icmp .ge 30, 3) := by decide +kernel
theorem dX0_othersByLot_72 : decode cX0_othersByLot 72 = .ok (.lload_n 2, 1) := by decide +kernel
theorem dX0_othersByLot_73 : decode cX0_othersByLot 73 = .ok (.aload_n 0, 1) := by decide +kernel
theorem dX0_othersByLot_74 : decode cX0_othersByLot 74 = .ok (.getfield 24, 3) := by decide +kernel
theorem dX0_othersByLot_77 : decode cX0_othersByLot 77 = .ok (.iload 4, 2) := by decide +kernel
theorem dX0_othersByLot_79 : decode cX0_othersByLot 79 = .ok (.iconst 0, 1) := by decide +kernel
theorem dX0_othersByLot_80 : decode cX0_othersByLot 80 = .ok (.invokevirtual 81, 3) := by decide +kernel
theorem dX0_othersByLot_83 : decode cX0_othersByLot 83 = .ok (.iload 4, 2) := by decide +kernel
theorem dX0_othersByLot_85 : decode cX0_othersByLot 85 = .ok (.iconst 1, 1) := by decide +kernel
theorem dX0_othersByLot_86 : decode cX0_othersByLot 86 = .ok (.iadd, 1) := by decide +kernel
theorem dX0_othersByLot_87 : decode cX0_othersByLot 87 = .ok (.invokestatic 85, 3) := by decide +kernel
theorem dX0_othersByLot_90 : decode cX0_othersByLot 90 = .ok (.lmul, 1) := by decide +kernel
theorem dX0_othersByLot_91 : decode cX0_othersByLot 91 = .ok (.ladd, 1) := by decide +kernel
theorem dX0_othersByLot_92 : decode cX0_othersByLot 92 = .ok (.lstore_n 2, 1) := by decide +kernel
theorem dX0_othersByLot_93 : decode cX0_othersByLot 93 = .ok (.iinc 4 1, 3) := by decide +kernel
theorem dX0_othersByLot_96 : decode cX0_othersByLot 96 = .ok (.goto (-33), 3) := by decide +kernel
theorem dX0_othersByLot_99 : decode cX0_othersByLot 99 = .ok (.lload_n 2, 1) := by decide +kernel
theorem dX0_othersByLot_100 : decode cX0_othersByLot 100 = .ok (.lreturn, 1) := by decide +kernel
theorem dX0_othersByRank_0 : decode cX0_othersByRank 0 = .ok (.lconst 1, 1) := by decide +kernel
theorem dX0_othersByRank_1 : decode cX0_othersByRank 1 = .ok (.lstore_n 2, 1) := by decide +kernel
theorem dX0_othersByRank_2 : decode cX0_othersByRank 2 = .ok (.iconst 0, 1) := by decide +kernel
theorem dX0_othersByRank_3 : decode cX0_othersByRank 3 = .ok (.istore 4, 2) := by decide +kernel
theorem dX0_othersByRank_5 : decode cX0_othersByRank 5 = .ok (.iload 4, 2) := by decide +kernel
theorem dX0_othersByRank_7 : decode cX0_othersByRank 7 = .ok (.aload_n 0, 1) := by decide +kernel
theorem dX0_othersByRank_8 : decode cX0_othersByRank 8 = .ok (.getfield 34, 3) := by decide +kernel
theorem dX0_othersByRank_11 : decode cX0_othersByRank 11 = .ok (.if_icmp .ge 69, 3) := by decide +kernel
theorem dX0_othersByRank_14 : decode cX0_othersByRank 14 = .ok (.iload 4, 2) := by decide +kernel
theorem dX0_othersByRank_16 : decode cX0_othersByRank 16 = .ok (.iload_n 1, 1) := by decide +kernel
theorem dX0_othersByRank_17 : decode cX0_othersByRank 17 = .ok (.if_icmp .eq 57, 3) := by decide +kernel
theorem dX0_othersByRank_20 : decode cX0_othersByRank 20 = .ok (.aload_n 0, 1) := by decide +kernel
theorem dX0_othersByRank_21 : decode cX0_othersByRank 21 = .ok (.getfield 9, 3) := by decide +kernel
theorem dX0_othersByRank_24 : decode cX0_othersByRank 24 = .ok (.iload 4, 2) := by decide +kernel
theorem dX0_othersByRank_26 : decode cX0_othersByRank 26 = .ok (.invokestatic 61, 3) := by decide +kernel
theorem dX0_othersByRank_29 : decode cX0_othersByRank 29 = .ok (.aload_n 0, 1) := by decide +kernel
theorem dX0_othersByRank_30 : decode cX0_othersByRank 30 = .ok (.getfield 9, 3) := by decide +kernel
theorem dX0_othersByRank_33 : decode cX0_othersByRank 33 = .ok (.iload_n 1, 1) := by decide +kernel
theorem dX0_othersByRank_34 : decode cX0_othersByRank 34 = .ok (.invokestatic 61, 3) := by decide +kernel
theorem dX0_othersByRank_37 : decode cX0_othersByRank 37 = .ok (.if_icmp .ge 7, 3) := by decide +kernel
theorem dX0_othersByRank_40 : decode cX0_othersByRank 40 = .ok (.iconst 1, 1) := by decide +kernel
theorem dX0_othersByRank_41 : decode cX0_othersByRank 41 = .ok (.goto 4, 3) := by decide +kernel
theorem dX0_othersByRank_44 : decode cX0_othersByRank 44 = .ok (.iconst 0, 1) := by decide +kernel
theorem dX0_othersByRank_45 : decode cX0_othersByRank 45 = .ok (.istore 5, 2) := by decide +kernel
theorem dX0_othersByRank_47 : decode cX0_othersByRank 47 = .ok (.lload_n 2, 1) := by decide +kernel
theorem dX0_othersByRank_48 : decode cX0_othersByRank 48 = .ok (.iload 5, 2) := by decide +kernel
theorem dX0_othersByRank_50 : decode cX0_othersByRank 50 = .ok (.ifCond .eq 19, 3) := by decide +kernel
theorem dX0_othersByRank_53 : decode cX0_othersByRank 53 = .ok (.bipush 10, 2) := by decide +kernel
theorem dX0_othersByRank_55 : decode cX0_othersByRank 55 = .ok (.aload_n 0, 1) := by decide +kernel
theorem dX0_othersByRank_56 : decode cX0_othersByRank 56 = .ok (.getfield 15, 3) := by decide +kernel
theorem dX0_othersByRank_59 : decode cX0_othersByRank 59 = .ok (.iload 4, 2) := by decide +kernel
theorem dX0_othersByRank_61 : decode cX0_othersByRank 61 = .ok (.invokestatic 61, 3) := by decide +kernel
theorem dX0_othersByRank_64 : decode cX0_othersByRank 64 = .ok (.isub, 1) := by decide +kernel
theorem dX0_othersByRank_65 : decode cX0_othersByRank 65 = .ok (.i2l, 1) := by decide +kernel
theorem dX0_othersByRank_66 : decode cX0_othersByRank 66 = .ok (.goto 6, 3) := by decide +kernel
theorem dX0_othersByRank_69 : decode cX0_othersByRank 69 = .ok (.ldc2_w 59, 3) := by decide +kernel
theorem dX0_othersByRank_72 : decode cX0_othersByRank 72 = .ok (.lmul, 1) := by decide +kernel
theorem dX0_othersByRank_73 : decode cX0_othersByRank 73 = .ok (.lstore_n 2, 1) := by decide +kernel
theorem dX0_othersByRank_74 : decode cX0_othersByRank 74 = .ok (.iinc 4 1, 3) := by decide +kernel
theorem dX0_othersByRank_77 : decode cX0_othersByRank 77 = .ok (.goto (-72), 3) := by decide +kernel
theorem dX0_othersByRank_80 : decode cX0_othersByRank 80 = .ok (.lload_n 2, 1) := by decide +kernel
theorem dX0_othersByRank_81 : decode cX0_othersByRank 81 = .ok (.lreturn, 1) := by decide +kernel
theorem dX0_likeliest_0 : decode cX0_likeliest 0 = .ok (.bipush (-9), 2) := by decide +kernel
theorem dX0_likeliest_2 : decode cX0_likeliest 2 = .ok (.istore_n 1, 1) := by decide +kernel
theorem dX0_likeliest_3 : decode cX0_likeliest 3 = .ok (.lconst 0, 1) := by decide +kernel
theorem dX0_likeliest_4 : decode cX0_likeliest 4 = .ok (.lstore_n 2, 1) := by decide +kernel
theorem dX0_likeliest_5 : decode cX0_likeliest 5 = .ok (.iconst 0, 1) := by decide +kernel
theorem dX0_likeliest_6 : decode cX0_likeliest 6 = .ok (.istore 4, 2) := by decide +kernel
theorem dX0_likeliest_8 : decode cX0_likeliest 8 = .ok (.iload 4, 2) := by decide +kernel
theorem dX0_likeliest_10 : decode cX0_likeliest 10 = .ok (.aload_n 0, 1) := by decide +kernel
theorem dX0_likeliest_11 : decode cX0_likeliest 11 = .ok (.getfield 34, 3) := by decide +kernel
theorem dX0_likeliest_14 : decode cX0_likeliest 14 = .ok (.if_icmp .ge 30, 3) := by decide +kernel
theorem dX0_likeliest_17 : decode cX0_likeliest 17 = .ok (.aload_n 0, 1) := by decide +kernel
theorem dX0_likeliest_18 : decode cX0_likeliest 18 = .ok (.iload 4, 2) := by decide +kernel
theorem dX0_likeliest_20 : decode cX0_likeliest 20 = .ok (.invokevirtual 88, 3) := by decide +kernel
theorem dX0_likeliest_23 : decode cX0_likeliest 23 = .ok (.lstore 5, 2) := by decide +kernel
theorem dX0_likeliest_25 : decode cX0_likeliest 25 = .ok (.lload 5, 2) := by decide +kernel
theorem dX0_likeliest_27 : decode cX0_likeliest 27 = .ok (.lload_n 2, 1) := by decide +kernel
theorem dX0_likeliest_28 : decode cX0_likeliest 28 = .ok (.lcmp, 1) := by decide +kernel
theorem dX0_likeliest_29 : decode cX0_likeliest 29 = .ok (.ifCond .le 9, 3) := by decide +kernel
theorem dX0_likeliest_32 : decode cX0_likeliest 32 = .ok (.lload 5, 2) := by decide +kernel
theorem dX0_likeliest_34 : decode cX0_likeliest 34 = .ok (.lstore_n 2, 1) := by decide +kernel
theorem dX0_likeliest_35 : decode cX0_likeliest 35 = .ok (.iload 4, 2) := by decide +kernel
theorem dX0_likeliest_37 : decode cX0_likeliest 37 = .ok (.istore_n 1, 1) := by decide +kernel
theorem dX0_likeliest_38 : decode cX0_likeliest 38 = .ok (.iinc 4 1, 3) := by decide +kernel
theorem dX0_likeliest_41 : decode cX0_likeliest 41 = .ok (.goto (-33), 3) := by decide +kernel
theorem dX0_likeliest_44 : decode cX0_likeliest 44 = .ok (.iload_n 1, 1) := by decide +kernel
theorem dX0_likeliest_45 : decode cX0_likeliest 45 = .ok (.ireturn, 1) := by decide +kernel
theorem dX1_init_0 : decode cX1_init 0 = .ok (.aload_n 0, 1) := by decide +kernel
theorem dX1_init_1 : decode cX1_init 1 = .ok (.invokespecial 3, 3) := by decide +kernel
theorem dX1_init_4 : decode cX1_init 4 = .ok (.aload_n 0, 1) := by decide +kernel
theorem dX1_init_5 : decode cX1_init 5 = .ok (.new 9, 3) := by decide +kernel
theorem dX1_init_8 : decode cX1_init 8 = .ok (.dup, 1) := by decide +kernel
theorem dX1_init_9 : decode cX1_init 9 = .ok (.invokespecial 11, 3) := by decide +kernel
theorem dX1_init_12 : decode cX1_init 12 = .ok (.putfield 12, 3) := by decide +kernel
theorem dX1_init_15 : decode cX1_init 15 = .ok (.return_, 1) := by decide +kernel
theorem dX1_look_0 : decode cX1_look 0 = .ok (.aload_n 0, 1) := by decide +kernel
theorem dX1_look_1 : decode cX1_look 1 = .ok (.getfield 12, 3) := by decide +kernel
theorem dX1_look_4 : decode cX1_look 4 = .ok (.invokevirtual 18, 3) := by decide +kernel
theorem dX1_look_7 : decode cX1_look 7 = .ok (.iconst 0, 1) := by decide +kernel
theorem dX1_look_8 : decode cX1_look 8 = .ok (.istore_n 3, 1) := by decide +kernel
theorem dX1_look_9 : decode cX1_look 9 = .ok (.iload_n 3, 1) := by decide +kernel
theorem dX1_look_10 : decode cX1_look 10 = .ok (.aload_n 1, 1) := by decide +kernel
theorem dX1_look_11 : decode cX1_look 11 = .ok (.getfield 21, 3) := by decide +kernel
theorem dX1_look_14 : decode cX1_look 14 = .ok (.if_icmp .ge 98, 3) := by decide +kernel
theorem dX1_look_17 : decode cX1_look 17 = .ok (.aload_n 1, 1) := by decide +kernel
theorem dX1_look_18 : decode cX1_look 18 = .ok (.getfield 27, 3) := by decide +kernel
theorem dX1_look_21 : decode cX1_look 21 = .ok (.iload_n 3, 1) := by decide +kernel
theorem dX1_look_22 : decode cX1_look 22 = .ok (.invokestatic 31, 3) := by decide +kernel
theorem dX1_look_25 : decode cX1_look 25 = .ok (.istore 4, 2) := by decide +kernel
theorem dX1_look_27 : decode cX1_look 27 = .ok (.aload_n 1, 1) := by decide +kernel
theorem dX1_look_28 : decode cX1_look 28 = .ok (.iload_n 3, 1) := by decide +kernel
theorem dX1_look_29 : decode cX1_look 29 = .ok (.iconst 1, 1) := by decide +kernel
theorem dX1_look_30 : decode cX1_look 30 = .ok (.iload_n 2, 1) := by decide +kernel
theorem dX1_look_31 : decode cX1_look 31 = .ok (.invokevirtual 35, 3) := by decide +kernel
theorem dX1_look_34 : decode cX1_look 34 = .ok (.istore 5, 2) := by decide +kernel
theorem dX1_look_36 : decode cX1_look 36 = .ok (.aload_n 1, 1) := by decide +kernel
theorem dX1_look_37 : decode cX1_look 37 = .ok (.iload_n 3, 1) := by decide +kernel
theorem dX1_look_38 : decode cX1_look 38 = .ok (.iconst 0, 1) := by decide +kernel
theorem dX1_look_39 : decode cX1_look 39 = .ok (.iload_n 2, 1) := by decide +kernel
theorem dX1_look_40 : decode cX1_look 40 = .ok (.invokevirtual 35, 3) := by decide +kernel
theorem dX1_look_43 : decode cX1_look 43 = .ok (.istore 6, 2) := by decide +kernel
theorem dX1_look_45 : decode cX1_look 45 = .ok (.aload_n 0, 1) := by decide +kernel
theorem dX1_look_46 : decode cX1_look 46 = .ok (.getfield 12, 3) := by decide +kernel
theorem dX1_look_49 : decode cX1_look 49 = .ok (.iload 5, 2) := by decide +kernel
theorem dX1_look_51 : decode cX1_look 51 = .ok (.ifCond .eq 9, 3) := by decide +kernel
theorem dX1_look_54 : decode cX1_look 54 = .ok (.iload 4, 2) := by decide +kernel
theorem dX1_look_56 : decode cX1_look 56 = .ok (.i2l, 1) := by decide +kernel
theorem dX1_look_57 : decode cX1_look 57 = .ok (.goto 4, 3) := by decide +kernel
theorem dX1_look_60 : decode cX1_look 60 = .ok (.lconst 0, 1) := by decide +kernel
theorem dX1_look_61 : decode cX1_look 61 = .ok (.iload 6, 2) := by decide +kernel
theorem dX1_look_63 : decode cX1_look 63 = .ok (.ifCond .eq 12, 3) := by decide +kernel
theorem dX1_look_66 : decode cX1_look 66 = .ok (.bipush 10, 2) := by decide +kernel
theorem dX1_look_68 : decode cX1_look 68 = .ok (.iload 4, 2) := by decide +kernel
theorem dX1_look_70 : decode cX1_look 70 = .ok (.isub, 1) := by decide +kernel
theorem dX1_look_71 : decode cX1_look 71 = .ok (.i2l, 1) := by decide +kernel
theorem dX1_look_72 : decode cX1_look 72 = .ok (.goto 4, 3) := by decide +kernel
theorem dX1_look_75 : decode cX1_look 75 = .ok (.lconst 0, 1) := by decide +kernel
theorem dX1_look_76 : decode cX1_look 76 = .ok (.iload 5, 2) := by decide +kernel
theorem dX1_look_78 : decode cX1_look 78 = .ok (.ifCond .eq 7, 3) := by decide +kernel
theorem dX1_look_81 : decode cX1_look 81 = .ok (.lconst 0, 1) := by decide +kernel
theorem dX1_look_82 : decode cX1_look 82 = .ok (.goto 6, 3) := by decide +kernel
theorem dX1_look_85 : decode cX1_look 85 = .ok (.iload 4, 2) := by decide +kernel
theorem dX1_look_87 : decode cX1_look 87 = .ok (.i2l, 1) := by decide +kernel
theorem dX1_look_88 : decode cX1_look 88 = .ok (.iload 6, 2) := by decide +kernel
theorem dX1_look_90 : decode cX1_look 90 = .ok (.ifCond .eq 7, 3) := by decide +kernel
theorem dX1_look_93 : decode cX1_look 93 = .ok (.lconst 0, 1) := by decide +kernel
theorem dX1_look_94 : decode cX1_look 94 = .ok (.goto 9, 3) := by decide +kernel
theorem dX1_look_97 : decode cX1_look 97 = .ok (.bipush 10, 2) := by decide +kernel
theorem dX1_look_99 : decode cX1_look 99 = .ok (.iload 4, 2) := by decide +kernel
theorem dX1_look_101 : decode cX1_look 101 = .ok (.isub, 1) := by decide +kernel
theorem dX1_look_102 : decode cX1_look 102 = .ok (.i2l, 1) := by decide +kernel
theorem dX1_look_103 : decode cX1_look 103 = .ok (.invokevirtual 39, 3) := by decide +kernel
theorem dX1_look_106 : decode cX1_look 106 = .ok (.iinc 3 1, 3) := by decide +kernel
theorem dX1_look_109 : decode cX1_look 109 = .ok (.goto (-100), 3) := by decide +kernel
theorem dX1_look_112 : decode cX1_look 112 = .ok (.return_, 1) := by decide +kernel
theorem dX1_likeliestKnowing_0 : decode cX1_likeliestKnowing 0 = .ok (.iconst 0, 1) := by decide +kernel
theorem dX1_likeliestKnowing_1 : decode cX1_likeliestKnowing 1 = .ok (.istore_n 2, 1) := by decide +kernel
theorem dX1_likeliestKnowing_2 : decode cX1_likeliestKnowing 2 = .ok (.iconst 1, 1) := by decide +kernel
theorem dX1_likeliestKnowing_3 : decode cX1_likeliestKnowing 3 = .ok (.istore_n 3, 1) := by decide +kernel
theorem dX1_likeliestKnowing_4 : decode cX1_likeliestKnowing 4 = .ok (.iload_n 3, 1) := by decide +kernel
theorem dX1_likeliestKnowing_5 : decode cX1_likeliestKnowing 5 = .ok (.bipush 12, 2) := by decide +kernel
theorem dX1_likeliestKnowing_7 : decode cX1_likeliestKnowing 7 = .ok (.if_icmp .gt 33, 3) := by decide +kernel
theorem dX1_likeliestKnowing_10 : decode cX1_likeliestKnowing 10 = .ok (.aload_n 0, 1) := by decide +kernel
theorem dX1_likeliestKnowing_11 : decode cX1_likeliestKnowing 11 = .ok (.getfield 12, 3) := by decide +kernel
theorem dX1_likeliestKnowing_14 : decode cX1_likeliestKnowing 14 = .ok (.iload_n 1, 1) := by decide +kernel
theorem dX1_likeliestKnowing_15 : decode cX1_likeliestKnowing 15 = .ok (.iload_n 3, 1) := by decide +kernel
theorem dX1_likeliestKnowing_16 : decode cX1_likeliestKnowing 16 = .ok (.invokevirtual 43, 3) := by decide +kernel
theorem dX1_likeliestKnowing_19 : decode cX1_likeliestKnowing 19 = .ok (.aload_n 0, 1) := by decide +kernel
theorem dX1_likeliestKnowing_20 : decode cX1_likeliestKnowing 20 = .ok (.getfield 12, 3) := by decide +kernel
theorem dX1_likeliestKnowing_23 : decode cX1_likeliestKnowing 23 = .ok (.iload_n 1, 1) := by decide +kernel
theorem dX1_likeliestKnowing_24 : decode cX1_likeliestKnowing 24 = .ok (.iload_n 2, 1) := by decide +kernel
theorem dX1_likeliestKnowing_25 : decode cX1_likeliestKnowing 25 = .ok (.invokevirtual 43, 3) := by decide +kernel
theorem dX1_likeliestKnowing_28 : decode cX1_likeliestKnowing 28 = .ok (.lcmp, 1) := by decide +kernel
theorem dX1_likeliestKnowing_29 : decode cX1_likeliestKnowing 29 = .ok (.ifCond .le 5, 3) := by decide +kernel
theorem dX1_likeliestKnowing_32 : decode cX1_likeliestKnowing 32 = .ok (.iload_n 3, 1) := by decide +kernel
theorem dX1_likeliestKnowing_33 : decode cX1_likeliestKnowing 33 = .ok (.istore_n 2, 1) := by decide +kernel
theorem dX1_likeliestKnowing_34 : decode cX1_likeliestKnowing 34 = .ok (.iinc 3 1, 3) := by decide +kernel
theorem dX1_likeliestKnowing_37 : decode cX1_likeliestKnowing 37 = .ok (.goto (-33), 3) := by decide +kernel
theorem dX1_likeliestKnowing_40 : decode cX1_likeliestKnowing 40 = .ok (.iload_n 2, 1) := by decide +kernel
theorem dX1_likeliestKnowing_41 : decode cX1_likeliestKnowing 41 = .ok (.ireturn, 1) := by decide +kernel
theorem dX2_init_0 : decode cX2_init 0 = .ok (.aload_n 0, 1) := by decide +kernel
theorem dX2_init_1 : decode cX2_init 1 = .ok (.invokespecial 3, 3) := by decide +kernel
theorem dX2_init_4 : decode cX2_init 4 = .ok (.aload_n 0, 1) := by decide +kernel
theorem dX2_init_5 : decode cX2_init 5 = .ok (.bipush 12, 2) := by decide +kernel
theorem dX2_init_7 : decode cX2_init 7 = .ok (.newarray .int, 2) := by decide +kernel
theorem dX2_init_9 : decode cX2_init 9 = .ok (.putfield 9, 3) := by decide +kernel
theorem dX2_init_12 : decode cX2_init 12 = .ok (.aload_n 0, 1) := by decide +kernel
theorem dX2_init_13 : decode cX2_init 13 = .ok (.bipush 12, 2) := by decide +kernel
theorem dX2_init_15 : decode cX2_init 15 = .ok (.newarray .int, 2) := by decide +kernel
theorem dX2_init_17 : decode cX2_init 17 = .ok (.putfield 15, 3) := by decide +kernel
theorem dX2_init_20 : decode cX2_init 20 = .ok (.return_, 1) := by decide +kernel
theorem dX2_begin_0 : decode cX2_begin 0 = .ok (.aload_n 0, 1) := by decide +kernel
theorem dX2_begin_1 : decode cX2_begin 1 = .ok (.getfield 15, 3) := by decide +kernel
theorem dX2_begin_4 : decode cX2_begin 4 = .ok (.iconst 0, 1) := by decide +kernel
theorem dX2_begin_5 : decode cX2_begin 5 = .ok (.invokestatic 18, 3) := by decide +kernel
theorem dX2_begin_8 : decode cX2_begin 8 = .ok (.aload_n 0, 1) := by decide +kernel
theorem dX2_begin_9 : decode cX2_begin 9 = .ok (.lconst 0, 1) := by decide +kernel
theorem dX2_begin_10 : decode cX2_begin 10 = .ok (.putfield 24, 3) := by decide +kernel
theorem dX2_begin_13 : decode cX2_begin 13 = .ok (.aload_n 0, 1) := by decide +kernel
theorem dX2_begin_14 : decode cX2_begin 14 = .ok (.iconst 0, 1) := by decide +kernel
theorem dX2_begin_15 : decode cX2_begin 15 = .ok (.putfield 28, 3) := by decide +kernel
theorem dX2_begin_18 : decode cX2_begin 18 = .ok (.aload_n 0, 1) := by decide +kernel
theorem dX2_begin_19 : decode cX2_begin 19 = .ok (.iconst 0, 1) := by decide +kernel
theorem dX2_begin_20 : decode cX2_begin 20 = .ok (.putfield 32, 3) := by decide +kernel
theorem dX2_begin_23 : decode cX2_begin 23 = .ok (.aload_n 0, 1) := by decide +kernel
theorem dX2_begin_24 : decode cX2_begin 24 = .ok (.iconst 0, 1) := by decide +kernel
theorem dX2_begin_25 : decode cX2_begin 25 = .ok (.putfield 35, 3) := by decide +kernel
theorem dX2_begin_28 : decode cX2_begin 28 = .ok (.return_, 1) := by decide +kernel
theorem dX2_become_0 : decode cX2_become 0 = .ok (.iconst 0, 1) := by decide +kernel
theorem dX2_become_1 : decode cX2_become 1 = .ok (.istore_n 2, 1) := by decide +kernel
theorem dX2_become_2 : decode cX2_become 2 = .ok (.iload_n 2, 1) := by decide +kernel
theorem dX2_become_3 : decode cX2_become 3 = .ok (.bipush 12, 2) := by decide +kernel
theorem dX2_become_5 : decode cX2_become 5 = .ok (.if_icmp .ge 41, 3) := by decide +kernel
theorem dX2_become_8 : decode cX2_become 8 = .ok (.aload_n 0, 1) := by decide +kernel
theorem dX2_become_9 : decode cX2_become 9 = .ok (.getfield 9, 3) := by decide +kernel
theorem dX2_become_12 : decode cX2_become 12 = .ok (.iload_n 2, 1) := by decide +kernel
theorem dX2_become_13 : decode cX2_become 13 = .ok (.aload_n 1, 1) := by decide +kernel
theorem dX2_become_14 : decode cX2_become 14 = .ok (.getfield 9, 3) := by decide +kernel
theorem dX2_become_17 : decode cX2_become 17 = .ok (.iload_n 2, 1) := by decide +kernel
theorem dX2_become_18 : decode cX2_become 18 = .ok (.invokestatic 38, 3) := by decide +kernel
theorem dX2_become_21 : decode cX2_become 21 = .ok (.invokestatic 42, 3) := by decide +kernel
theorem dX2_become_24 : decode cX2_become 24 = .ok (.aload_n 0, 1) := by decide +kernel
theorem dX2_become_25 : decode cX2_become 25 = .ok (.getfield 15, 3) := by decide +kernel
theorem dX2_become_28 : decode cX2_become 28 = .ok (.iload_n 2, 1) := by decide +kernel
theorem dX2_become_29 : decode cX2_become 29 = .ok (.aload_n 1, 1) := by decide +kernel
theorem dX2_become_30 : decode cX2_become 30 = .ok (.getfield 15, 3) := by decide +kernel
theorem dX2_become_33 : decode cX2_become 33 = .ok (.iload_n 2, 1) := by decide +kernel
theorem dX2_become_34 : decode cX2_become 34 = .ok (.invokestatic 38, 3) := by decide +kernel
theorem dX2_become_37 : decode cX2_become 37 = .ok (.invokestatic 42, 3) := by decide +kernel
theorem dX2_become_40 : decode cX2_become 40 = .ok (.iinc 2 1, 3) := by decide +kernel
theorem dX2_become_43 : decode cX2_become 43 = .ok (.goto (-41), 3) := by decide +kernel
theorem dX2_become_46 : decode cX2_become 46 = .ok (.aload_n 0, 1) := by decide +kernel
theorem dX2_become_47 : decode cX2_become 47 = .ok (.aload_n 1, 1) := by decide +kernel
theorem dX2_become_48 : decode cX2_become 48 = .ok (.getfield 24, 3) := by decide +kernel
theorem dX2_become_51 : decode cX2_become 51 = .ok (.putfield 24, 3) := by decide +kernel
theorem dX2_become_54 : decode cX2_become 54 = .ok (.aload_n 0, 1) := by decide +kernel
theorem dX2_become_55 : decode cX2_become 55 = .ok (.aload_n 1, 1) := by decide +kernel
theorem dX2_become_56 : decode cX2_become 56 = .ok (.getfield 28, 3) := by decide +kernel
theorem dX2_become_59 : decode cX2_become 59 = .ok (.putfield 28, 3) := by decide +kernel
theorem dX2_become_62 : decode cX2_become 62 = .ok (.aload_n 0, 1) := by decide +kernel
theorem dX2_become_63 : decode cX2_become 63 = .ok (.aload_n 1, 1) := by decide +kernel
theorem dX2_become_64 : decode cX2_become 64 = .ok (.getfield 32, 3) := by decide +kernel
theorem dX2_become_67 : decode cX2_become 67 = .ok (.putfield 32, 3) := by decide +kernel
theorem dX2_become_70 : decode cX2_become 70 = .ok (.aload_n 0, 1) := by decide +kernel
theorem dX2_become_71 : decode cX2_become 71 = .ok (.aload_n 1, 1) := by decide +kernel
theorem dX2_become_72 : decode cX2_become 72 = .ok (.getfield 35, 3) := by decide +kernel
theorem dX2_become_75 : decode cX2_become 75 = .ok (.putfield 35, 3) := by decide +kernel
theorem dX2_become_78 : decode cX2_become 78 = .ok (.return_, 1) := by decide +kernel
theorem dX2_draw_0 : decode cX2_draw 0 = .ok (.iload_n 1, 1) := by decide +kernel
theorem dX2_draw_1 : decode cX2_draw 1 = .ok (.iconst 1, 1) := by decide +kernel
theorem dX2_draw_2 : decode cX2_draw 2 = .ok (.if_icmp .ge 5, 3) := by decide +kernel
theorem dX2_draw_5 : decode cX2_draw 5 = .ok (.iconst 0, 1) := by decide +kernel
theorem dX2_draw_6 : decode cX2_draw 6 = .ok (.ireturn, 1) := by decide +kernel
theorem dX2_draw_7 : decode cX2_draw 7 = .ok (.aload_n 0, 1) := by decide +kernel
theorem dX2_draw_8 : decode cX2_draw 8 = .ok (.aload_n 0, 1) := by decide +kernel
theorem dX2_draw_9 : decode cX2_draw 9 = .ok (.getfield 24, 3) := by decide +kernel
theorem dX2_draw_12 : decode cX2_draw 12 = .ok (.ldc2_w 46, 3) := by decide +kernel
theorem dX2_draw_15 : decode cX2_draw 15 = .ok (.lmul, 1) := by decide +kernel
theorem dX2_draw_16 : decode cX2_draw 16 = .ok (.ldc2_w 48, 3) := by decide +kernel
theorem dX2_draw_19 : decode cX2_draw 19 = .ok (.ladd, 1) := by decide +kernel
theorem dX2_draw_20 : decode cX2_draw 20 = .ok (.putfield 24, 3) := by decide +kernel
theorem dX2_draw_23 : decode cX2_draw 23 = .ok (.aload_n 0, 1) := by decide +kernel
theorem dX2_draw_24 : decode cX2_draw 24 = .ok (.getfield 24, 3) := by decide +kernel
theorem dX2_draw_27 : decode cX2_draw 27 = .ok (.bipush 33, 2) := by decide +kernel
theorem dX2_draw_29 : decode cX2_draw 29 = .ok (.lushr, 1) := by decide +kernel
theorem dX2_draw_30 : decode cX2_draw 30 = .ok (.iload_n 1, 1) := by decide +kernel
theorem dX2_draw_31 : decode cX2_draw 31 = .ok (.i2l, 1) := by decide +kernel
theorem dX2_draw_32 : decode cX2_draw 32 = .ok (.lrem, 1) := by decide +kernel
theorem dX2_draw_33 : decode cX2_draw 33 = .ok (.l2i, 1) := by decide +kernel
theorem dX2_draw_34 : decode cX2_draw 34 = .ok (.ireturn, 1) := by decide +kernel
theorem dX2_answer_0 : decode cX2_answer 0 = .ok (.aload_n 0, 1) := by decide +kernel
theorem dX2_answer_1 : decode cX2_answer 1 = .ok (.dup, 1) := by decide +kernel
theorem dX2_answer_2 : decode cX2_answer 2 = .ok (.getfield 28, 3) := by decide +kernel
theorem dX2_answer_5 : decode cX2_answer 5 = .ok (.iconst 1, 1) := by decide +kernel
theorem dX2_answer_6 : decode cX2_answer 6 = .ok (.iadd, 1) := by decide +kernel
theorem dX2_answer_7 : decode cX2_answer 7 = .ok (.putfield 28, 3) := by decide +kernel
theorem dX2_answer_10 : decode cX2_answer 10 = .ok (.iload_n 1, 1) := by decide +kernel
theorem dX2_answer_11 : decode cX2_answer 11 = .ok (.bipush (-9), 2) := by decide +kernel
theorem dX2_answer_13 : decode cX2_answer 13 = .ok (.if_icmp .ne 4, 3) := by decide +kernel
theorem dX2_answer_16 : decode cX2_answer 16 = .ok (.return_, 1) := by decide +kernel
theorem dX2_answer_17 : decode cX2_answer 17 = .ok (.aload_n 0, 1) := by decide +kernel
theorem dX2_answer_18 : decode cX2_answer 18 = .ok (.getfield 15, 3) := by decide +kernel
theorem dX2_answer_21 : decode cX2_answer 21 = .ok (.iload_n 1, 1) := by decide +kernel
theorem dX2_answer_22 : decode cX2_answer 22 = .ok (.aload_n 0, 1) := by decide +kernel
theorem dX2_answer_23 : decode cX2_answer 23 = .ok (.getfield 15, 3) := by decide +kernel
theorem dX2_answer_26 : decode cX2_answer 26 = .ok (.iload_n 1, 1) := by decide +kernel
theorem dX2_answer_27 : decode cX2_answer 27 = .ok (.invokestatic 38, 3) := by decide +kernel
theorem dX2_answer_30 : decode cX2_answer 30 = .ok (.iconst 1, 1) := by decide +kernel
theorem dX2_answer_31 : decode cX2_answer 31 = .ok (.iadd, 1) := by decide +kernel
theorem dX2_answer_32 : decode cX2_answer 32 = .ok (.invokestatic 42, 3) := by decide +kernel
theorem dX2_answer_35 : decode cX2_answer 35 = .ok (.iload_n 2, 1) := by decide +kernel
theorem dX2_answer_36 : decode cX2_answer 36 = .ok (.ifCond .eq 39, 3) := by decide +kernel
theorem dX2_answer_39 : decode cX2_answer 39 = .ok (.aload_n 0, 1) := by decide +kernel
theorem dX2_answer_40 : decode cX2_answer 40 = .ok (.dup, 1) := by decide +kernel
theorem dX2_answer_41 : decode cX2_answer 41 = .ok (.getfield 32, 3) := by decide +kernel
theorem dX2_answer_44 : decode cX2_answer 44 = .ok (.iconst 1, 1) := by decide +kernel
theorem dX2_answer_45 : decode cX2_answer 45 = .ok (.iadd, 1) := by decide +kernel
theorem dX2_answer_46 : decode cX2_answer 46 = .ok (.putfield 32, 3) := by decide +kernel
theorem dX2_answer_49 : decode cX2_answer 49 = .ok (.aload_n 0, 1) := by decide +kernel
theorem dX2_answer_50 : decode cX2_answer 50 = .ok (.getfield 9, 3) := by decide +kernel
theorem dX2_answer_53 : decode cX2_answer 53 = .ok (.iload_n 1, 1) := by decide +kernel
theorem dX2_answer_54 : decode cX2_answer 54 = .ok (.bipush 9, 2) := by decide +kernel
theorem dX2_answer_56 : decode cX2_answer 56 = .ok (.aload_n 0, 1) := by decide +kernel
theorem dX2_answer_57 : decode cX2_answer 57 = .ok (.getfield 9, 3) := by decide +kernel
theorem dX2_answer_60 : decode cX2_answer 60 = .ok (.iload_n 1, 1) := by decide +kernel
theorem dX2_answer_61 : decode cX2_answer 61 = .ok (.invokestatic 38, 3) := by decide +kernel
theorem dX2_answer_64 : decode cX2_answer 64 = .ok (.iconst 1, 1) := by decide +kernel
theorem dX2_answer_65 : decode cX2_answer 65 = .ok (.iadd, 1) := by decide +kernel
theorem dX2_answer_66 : decode cX2_answer 66 = .ok (.invokestatic 50, 3) := by decide +kernel
theorem dX2_answer_69 : decode cX2_answer 69 = .ok (.invokestatic 42, 3) := by decide +kernel
theorem dX2_answer_72 : decode cX2_answer 72 = .ok (.goto 43, 3) := by decide +kernel
theorem dX2_answer_75 : decode cX2_answer 75 = .ok (.aload_n 0, 1) := by decide +kernel
theorem dX2_answer_76 : decode cX2_answer 76 = .ok (.dup, 1) := by decide +kernel
theorem dX2_answer_77 : decode cX2_answer 77 = .ok (.getfield 35, 3) := by decide +kernel
theorem dX2_answer_80 : decode cX2_answer 80 = .ok (.iconst 1, 1) := by decide +kernel
theorem dX2_answer_81 : decode cX2_answer 81 = .ok (.iadd, 1) := by decide +kernel
theorem dX2_answer_82 : decode cX2_answer 82 = .ok (.putfield 35, 3) := by decide +kernel
theorem dX2_answer_85 : decode cX2_answer 85 = .ok (.aload_n 0, 1) := by decide +kernel
theorem dX2_answer_86 : decode cX2_answer 86 = .ok (.getfield 9, 3) := by decide +kernel
theorem dX2_answer_89 : decode cX2_answer 89 = .ok (.iload_n 1, 1) := by decide +kernel
theorem dX2_answer_90 : decode cX2_answer 90 = .ok (.iconst 0, 1) := by decide +kernel
theorem dX2_answer_91 : decode cX2_answer 91 = .ok (.aload_n 0, 1) := by decide +kernel
theorem dX2_answer_92 : decode cX2_answer 92 = .ok (.getfield 9, 3) := by decide +kernel
theorem dX2_answer_95 : decode cX2_answer 95 = .ok (.iload_n 1, 1) := by decide +kernel
theorem dX2_answer_96 : decode cX2_answer 96 = .ok (.invokestatic 38, 3) := by decide +kernel
theorem dX2_answer_99 : decode cX2_answer 99 = .ok (.iload_n 3, 1) := by decide +kernel
theorem dX2_answer_100 : decode cX2_answer 100 = .ok (.ifCond .eq 7, 3) := by decide +kernel
theorem dX2_answer_103 : decode cX2_answer 103 = .ok (.iconst 4, 1) := by decide +kernel
theorem dX2_answer_104 : decode cX2_answer 104 = .ok (.goto 4, 3) := by decide +kernel
theorem dX2_answer_107 : decode cX2_answer 107 = .ok (.iconst 2, 1) := by decide +kernel
theorem dX2_answer_108 : decode cX2_answer 108 = .ok (.isub, 1) := by decide +kernel
theorem dX2_answer_109 : decode cX2_answer 109 = .ok (.invokestatic 56, 3) := by decide +kernel
theorem dX2_answer_112 : decode cX2_answer 112 = .ok (.invokestatic 42, 3) := by decide +kernel
theorem dX2_answer_115 : decode cX2_answer 115 = .ok (.return_, 1) := by decide +kernel
theorem dX3_init_0 : decode cX3_init 0 = .ok (.aload_n 0, 1) := by decide +kernel
theorem dX3_init_1 : decode cX3_init 1 = .ok (.invokespecial 3, 3) := by decide +kernel
theorem dX3_init_4 : decode cX3_init 4 = .ok (.aload_n 0, 1) := by decide +kernel
theorem dX3_init_5 : decode cX3_init 5 = .ok (.bipush 12, 2) := by decide +kernel
theorem dX3_init_7 : decode cX3_init 7 = .ok (.newarray .int, 2) := by decide +kernel
theorem dX3_init_9 : decode cX3_init 9 = .ok (.putfield 9, 3) := by decide +kernel
theorem dX3_init_12 : decode cX3_init 12 = .ok (.aload_n 0, 1) := by decide +kernel
theorem dX3_init_13 : decode cX3_init 13 = .ok (.bipush 12, 2) := by decide +kernel
theorem dX3_init_15 : decode cX3_init 15 = .ok (.newarray .int, 2) := by decide +kernel
theorem dX3_init_17 : decode cX3_init 17 = .ok (.putfield 15, 3) := by decide +kernel
theorem dX3_init_20 : decode cX3_init 20 = .ok (.aload_n 0, 1) := by decide +kernel
theorem dX3_init_21 : decode cX3_init 21 = .ok (.bipush 12, 2) := by decide +kernel
theorem dX3_init_23 : decode cX3_init 23 = .ok (.newarray .int, 2) := by decide +kernel
theorem dX3_init_25 : decode cX3_init 25 = .ok (.putfield 18, 3) := by decide +kernel
theorem dX3_init_28 : decode cX3_init 28 = .ok (.aload_n 0, 1) := by decide +kernel
theorem dX3_init_29 : decode cX3_init 29 = .ok (.bipush 12, 2) := by decide +kernel
theorem dX3_init_31 : decode cX3_init 31 = .ok (.newarray .int, 2) := by decide +kernel
theorem dX3_init_33 : decode cX3_init 33 = .ok (.putfield 21, 3) := by decide +kernel
theorem dX3_init_36 : decode cX3_init 36 = .ok (.aload_n 0, 1) := by decide +kernel
theorem dX3_init_37 : decode cX3_init 37 = .ok (.bipush 12, 2) := by decide +kernel
theorem dX3_init_39 : decode cX3_init 39 = .ok (.newarray .int, 2) := by decide +kernel
theorem dX3_init_41 : decode cX3_init 41 = .ok (.putfield 24, 3) := by decide +kernel
theorem dX3_init_44 : decode cX3_init 44 = .ok (.aload_n 0, 1) := by decide +kernel
theorem dX3_init_45 : decode cX3_init 45 = .ok (.bipush 12, 2) := by decide +kernel
theorem dX3_init_47 : decode cX3_init 47 = .ok (.newarray .int, 2) := by decide +kernel
theorem dX3_init_49 : decode cX3_init 49 = .ok (.putfield 27, 3) := by decide +kernel
theorem dX3_init_52 : decode cX3_init 52 = .ok (.aload_n 0, 1) := by decide +kernel
theorem dX3_init_53 : decode cX3_init 53 = .ok (.new 30, 3) := by decide +kernel
theorem dX3_init_56 : decode cX3_init 56 = .ok (.dup, 1) := by decide +kernel
theorem dX3_init_57 : decode cX3_init 57 = .ok (.invokespecial 32, 3) := by decide +kernel
theorem dX3_init_60 : decode cX3_init 60 = .ok (.putfield 33, 3) := by decide +kernel
theorem dX3_init_63 : decode cX3_init 63 = .ok (.aload_n 0, 1) := by decide +kernel
theorem dX3_init_64 : decode cX3_init 64 = .ok (.iconst 5, 1) := by decide +kernel
theorem dX3_init_65 : decode cX3_init 65 = .ok (.putfield 37, 3) := by decide +kernel
theorem dX3_init_68 : decode cX3_init 68 = .ok (.return_, 1) := by decide +kernel
theorem dX3_seatAll_0 : decode cX3_seatAll 0 = .ok (.aload_n 0, 1) := by decide +kernel
theorem dX3_seatAll_1 : decode cX3_seatAll 1 = .ok (.aload_n 1, 1) := by decide +kernel
theorem dX3_seatAll_2 : decode cX3_seatAll 2 = .ok (.getfield 41, 3) := by decide +kernel
theorem dX3_seatAll_5 : decode cX3_seatAll 5 = .ok (.bipush 6, 2) := by decide +kernel
theorem dX3_seatAll_7 : decode cX3_seatAll 7 = .ok (.idiv, 1) := by decide +kernel
theorem dX3_seatAll_8 : decode cX3_seatAll 8 = .ok (.putfield 46, 3) := by decide +kernel
theorem dX3_seatAll_11 : decode cX3_seatAll 11 = .ok (.aload_n 0, 1) := by decide +kernel
theorem dX3_seatAll_12 : decode cX3_seatAll 12 = .ok (.getfield 33, 3) := by decide +kernel
theorem dX3_seatAll_15 : decode cX3_seatAll 15 = .ok (.invokevirtual 49, 3) := by decide +kernel
theorem dX3_seatAll_18 : decode cX3_seatAll 18 = .ok (.iconst 0, 1) := by decide +kernel
theorem dX3_seatAll_19 : decode cX3_seatAll 19 = .ok (.istore_n 2, 1) := by decide +kernel
theorem dX3_seatAll_20 : decode cX3_seatAll 20 = .ok (.iload_n 2, 1) := by decide +kernel
theorem dX3_seatAll_21 : decode cX3_seatAll 21 = .ok (.aload_n 0, 1) := by decide +kernel
theorem dX3_seatAll_22 : decode cX3_seatAll 22 = .ok (.getfield 46, 3) := by decide +kernel
theorem dX3_seatAll_25 : decode cX3_seatAll 25 = .ok (.if_icmp .ge 122, 3) := by decide +kernel
theorem dX3_seatAll_28 : decode cX3_seatAll 28 = .ok (.iload_n 2, 1) := by decide +kernel
theorem dX3_seatAll_29 : decode cX3_seatAll 29 = .ok (.bipush 6, 2) := by decide +kernel
theorem dX3_seatAll_31 : decode cX3_seatAll 31 = .ok (.imul, 1) := by decide +kernel
theorem dX3_seatAll_32 : decode cX3_seatAll 32 = .ok (.istore_n 3, 1) := by decide +kernel
theorem dX3_seatAll_33 : decode cX3_seatAll 33 = .ok (.aload_n 0, 1) := by decide +kernel
theorem dX3_seatAll_34 : decode cX3_seatAll 34 = .ok (.getfield 9, 3) := by decide +kernel
theorem dX3_seatAll_37 : decode cX3_seatAll 37 = .ok (.iload_n 2, 1) := by decide +kernel
theorem dX3_seatAll_38 : decode cX3_seatAll 38 = .ok (.aload_n 1, 1) := by decide +kernel
theorem dX3_seatAll_39 : decode cX3_seatAll 39 = .ok (.iload_n 3, 1) := by decide +kernel
theorem dX3_seatAll_40 : decode cX3_seatAll 40 = .ok (.iconst 0, 1) := by decide +kernel
theorem dX3_seatAll_41 : decode cX3_seatAll 41 = .ok (.iadd, 1) := by decide +kernel
theorem dX3_seatAll_42 : decode cX3_seatAll 42 = .ok (.invokevirtual 52, 3) := by decide +kernel
theorem dX3_seatAll_45 : decode cX3_seatAll 45 = .ok (.invokestatic 56, 3) := by decide +kernel
theorem dX3_seatAll_48 : decode cX3_seatAll 48 = .ok (.aload_n 0, 1) := by decide +kernel
theorem dX3_seatAll_49 : decode cX3_seatAll 49 = .ok (.getfield 15, 3) := by decide +kernel
theorem dX3_seatAll_52 : decode cX3_seatAll 52 = .ok (.iload_n 2, 1) := by decide +kernel
theorem dX3_seatAll_53 : decode cX3_seatAll 53 = .ok (.aload_n 1, 1) := by decide +kernel
theorem dX3_seatAll_54 : decode cX3_seatAll 54 = .ok (.iload_n 3, 1) := by decide +kernel
theorem dX3_seatAll_55 : decode cX3_seatAll 55 = .ok (.iconst 1, 1) := by decide +kernel
theorem dX3_seatAll_56 : decode cX3_seatAll 56 = .ok (.iadd, 1) := by decide +kernel
theorem dX3_seatAll_57 : decode cX3_seatAll 57 = .ok (.invokevirtual 60, 3) := by decide +kernel
theorem dX3_seatAll_60 : decode cX3_seatAll 60 = .ok (.invokestatic 56, 3) := by decide +kernel
theorem dX3_seatAll_63 : decode cX3_seatAll 63 = .ok (.aload_n 0, 1) := by decide +kernel
theorem dX3_seatAll_64 : decode cX3_seatAll 64 = .ok (.getfield 18, 3) := by decide +kernel
theorem dX3_seatAll_67 : decode cX3_seatAll 67 = .ok (.iload_n 2, 1) := by decide +kernel
theorem dX3_seatAll_68 : decode cX3_seatAll 68 = .ok (.aload_n 1, 1) := by decide +kernel
theorem dX3_seatAll_69 : decode cX3_seatAll 69 = .ok (.iload_n 3, 1) := by decide +kernel
theorem dX3_seatAll_70 : decode cX3_seatAll 70 = .ok (.iconst 2, 1) := by decide +kernel
theorem dX3_seatAll_71 : decode cX3_seatAll 71 = .ok (.iadd, 1) := by decide +kernel
theorem dX3_seatAll_72 : decode cX3_seatAll 72 = .ok (.invokevirtual 60, 3) := by decide +kernel
theorem dX3_seatAll_75 : decode cX3_seatAll 75 = .ok (.invokestatic 56, 3) := by decide +kernel
theorem dX3_seatAll_78 : decode cX3_seatAll 78 = .ok (.aload_n 0, 1) := by decide +kernel
theorem dX3_seatAll_79 : decode cX3_seatAll 79 = .ok (.getfield 21, 3) := by decide +kernel
theorem dX3_seatAll_82 : decode cX3_seatAll 82 = .ok (.iload_n 2, 1) := by decide +kernel
theorem dX3_seatAll_83 : decode cX3_seatAll 83 = .ok (.aload_n 1, 1) := by decide +kernel
theorem dX3_seatAll_84 : decode cX3_seatAll 84 = .ok (.iload_n 3, 1) := by decide +kernel
theorem dX3_seatAll_85 : decode cX3_seatAll 85 = .ok (.iconst 3, 1) := by decide +kernel
theorem dX3_seatAll_86 : decode cX3_seatAll 86 = .ok (.iadd, 1) := by decide +kernel
theorem dX3_seatAll_87 : decode cX3_seatAll 87 = .ok (.invokevirtual 60, 3) := by decide +kernel
theorem dX3_seatAll_90 : decode cX3_seatAll 90 = .ok (.invokestatic 56, 3) := by decide +kernel
theorem dX3_seatAll_93 : decode cX3_seatAll 93 = .ok (.aload_n 0, 1) := by decide +kernel
theorem dX3_seatAll_94 : decode cX3_seatAll 94 = .ok (.getfield 24, 3) := by decide +kernel
theorem dX3_seatAll_97 : decode cX3_seatAll 97 = .ok (.iload_n 2, 1) := by decide +kernel
theorem dX3_seatAll_98 : decode cX3_seatAll 98 = .ok (.aload_n 1, 1) := by decide +kernel
theorem dX3_seatAll_99 : decode cX3_seatAll 99 = .ok (.iload_n 3, 1) := by decide +kernel
theorem dX3_seatAll_100 : decode cX3_seatAll 100 = .ok (.iconst 4, 1) := by decide +kernel
theorem dX3_seatAll_101 : decode cX3_seatAll 101 = .ok (.iadd, 1) := by decide +kernel
theorem dX3_seatAll_102 : decode cX3_seatAll 102 = .ok (.invokevirtual 60, 3) := by decide +kernel
theorem dX3_seatAll_105 : decode cX3_seatAll 105 = .ok (.invokestatic 56, 3) := by decide +kernel
theorem dX3_seatAll_108 : decode cX3_seatAll 108 = .ok (.aload_n 0, 1) := by decide +kernel
theorem dX3_seatAll_109 : decode cX3_seatAll 109 = .ok (.getfield 27, 3) := by decide +kernel
theorem dX3_seatAll_112 : decode cX3_seatAll 112 = .ok (.iload_n 2, 1) := by decide +kernel
theorem dX3_seatAll_113 : decode cX3_seatAll 113 = .ok (.aload_n 1, 1) := by decide +kernel
theorem dX3_seatAll_114 : decode cX3_seatAll 114 = .ok (.iload_n 3, 1) := by decide +kernel
theorem dX3_seatAll_115 : decode cX3_seatAll 115 = .ok (.iconst 5, 1) := by decide +kernel
theorem dX3_seatAll_116 : decode cX3_seatAll 116 = .ok (.iadd, 1) := by decide +kernel
theorem dX3_seatAll_117 : decode cX3_seatAll 117 = .ok (.invokevirtual 60, 3) := by decide +kernel
theorem dX3_seatAll_120 : decode cX3_seatAll 120 = .ok (.invokestatic 56, 3) := by decide +kernel
theorem dX3_seatAll_123 : decode cX3_seatAll 123 = .ok (.aload_n 0, 1) := by decide +kernel
theorem dX3_seatAll_124 : decode cX3_seatAll 124 = .ok (.getfield 33, 3) := by decide +kernel
theorem dX3_seatAll_127 : decode cX3_seatAll 127 = .ok (.getfield 63, 3) := by decide +kernel
theorem dX3_seatAll_130 : decode cX3_seatAll 130 = .ok (.iload_n 2, 1) := by decide +kernel
theorem dX3_seatAll_131 : decode cX3_seatAll 131 = .ok (.aload_n 1, 1) := by decide +kernel
theorem dX3_seatAll_132 : decode cX3_seatAll 132 = .ok (.iload_n 3, 1) := by decide +kernel
theorem dX3_seatAll_133 : decode cX3_seatAll 133 = .ok (.iconst 5, 1) := by decide +kernel
theorem dX3_seatAll_134 : decode cX3_seatAll 134 = .ok (.iadd, 1) := by decide +kernel
theorem dX3_seatAll_135 : decode cX3_seatAll 135 = .ok (.invokevirtual 60, 3) := by decide +kernel
theorem dX3_seatAll_138 : decode cX3_seatAll 138 = .ok (.invokestatic 56, 3) := by decide +kernel
theorem dX3_seatAll_141 : decode cX3_seatAll 141 = .ok (.iinc 2 1, 3) := by decide +kernel
theorem dX3_seatAll_144 : decode cX3_seatAll 144 = .ok (.goto (-124), 3) := by decide +kernel
theorem dX3_seatAll_147 : decode cX3_seatAll 147 = .ok (.return_, 1) := by decide +kernel
theorem dX3_lacks_0 : decode cX3_lacks 0 = .ok (.iload_n 1, 1) := by decide +kernel
theorem dX3_lacks_1 : decode cX3_lacks 1 = .ok (.iconst 0, 1) := by decide +kernel
theorem dX3_lacks_2 : decode cX3_lacks 2 = .ok (.aload_n 0, 1) := by decide +kernel
theorem dX3_lacks_3 : decode cX3_lacks 3 = .ok (.getfield 46, 3) := by decide +kernel
theorem dX3_lacks_6 : decode cX3_lacks 6 = .ok (.iconst 1, 1) := by decide +kernel
theorem dX3_lacks_7 : decode cX3_lacks 7 = .ok (.isub, 1) := by decide +kernel
theorem dX3_lacks_8 : decode cX3_lacks 8 = .ok (.invokestatic 66, 3) := by decide +kernel
theorem dX3_lacks_11 : decode cX3_lacks 11 = .ok (.ireturn, 1) := by decide +kernel
theorem dX3_everyone_0 : decode cX3_everyone 0 = .ok (.iconst 1, 1) := by decide +kernel
theorem dX3_everyone_1 : decode cX3_everyone 1 = .ok (.aload_n 0, 1) := by decide +kernel
theorem dX3_everyone_2 : decode cX3_everyone 2 = .ok (.getfield 46, 3) := by decide +kernel
theorem dX3_everyone_5 : decode cX3_everyone 5 = .ok (.ishl, 1) := by decide +kernel
theorem dX3_everyone_6 : decode cX3_everyone 6 = .ok (.iconst 1, 1) := by decide +kernel
theorem dX3_everyone_7 : decode cX3_everyone 7 = .ok (.isub, 1) := by decide +kernel
theorem dX3_everyone_8 : decode cX3_everyone 8 = .ok (.ireturn, 1) := by decide +kernel
theorem dX3_noBits_0 : decode cX3_noBits 0 = .ok (.iload_n 1, 1) := by decide +kernel
theorem dX3_noBits_1 : decode cX3_noBits 1 = .ok (.iconst 0, 1) := by decide +kernel
theorem dX3_noBits_2 : decode cX3_noBits 2 = .ok (.aload_n 0, 1) := by decide +kernel
theorem dX3_noBits_3 : decode cX3_noBits 3 = .ok (.invokevirtual 70, 3) := by decide +kernel
theorem dX3_noBits_6 : decode cX3_noBits 6 = .ok (.invokestatic 66, 3) := by decide +kernel
theorem dX3_noBits_9 : decode cX3_noBits 9 = .ok (.ireturn, 1) := by decide +kernel
theorem dX3_isF_0 : decode cX3_isF 0 = .ok (.aload_n 0, 1) := by decide +kernel
theorem dX3_isF_1 : decode cX3_isF 1 = .ok (.getfield 9, 3) := by decide +kernel
theorem dX3_isF_4 : decode cX3_isF 4 = .ok (.iload_n 1, 1) := by decide +kernel
theorem dX3_isF_5 : decode cX3_isF 5 = .ok (.invokestatic 74, 3) := by decide +kernel
theorem dX3_isF_8 : decode cX3_isF 8 = .ok (.bipush 70, 2) := by decide +kernel
theorem dX3_isF_10 : decode cX3_isF 10 = .ok (.if_icmp .ne 7, 3) := by decide +kernel
theorem dX3_isF_13 : decode cX3_isF 13 = .ok (.iconst 1, 1) := by decide +kernel
theorem dX3_isF_14 : decode cX3_isF 14 = .ok (.goto 4, 3) := by decide +kernel
theorem dX3_isF_17 : decode cX3_isF 17 = .ok (.iconst 0, 1) := by decide +kernel
theorem dX3_isF_18 : decode cX3_isF 18 = .ok (.ireturn, 1) := by decide +kernel
theorem dX3_tell_0 : decode cX3_tell 0 = .ok (.iload_n 2, 1) := by decide +kernel
theorem dX3_tell_1 : decode cX3_tell 1 = .ok (.tableswitch 114 0 6 #[43, 52, 61, 70, 79, 88, 102], 43) := by decide +kernel
theorem dX3_tell_44 : decode cX3_tell 44 = .ok (.aload_n 0, 1) := by decide +kernel
theorem dX3_tell_45 : decode cX3_tell 45 = .ok (.getfield 15, 3) := by decide +kernel
theorem dX3_tell_48 : decode cX3_tell 48 = .ok (.iload_n 1, 1) := by decide +kernel
theorem dX3_tell_49 : decode cX3_tell 49 = .ok (.invokestatic 74, 3) := by decide +kernel
theorem dX3_tell_52 : decode cX3_tell 52 = .ok (.ireturn, 1) := by decide +kernel
theorem dX3_tell_53 : decode cX3_tell 53 = .ok (.aload_n 0, 1) := by decide +kernel
theorem dX3_tell_54 : decode cX3_tell 54 = .ok (.getfield 18, 3) := by decide +kernel
theorem dX3_tell_57 : decode cX3_tell 57 = .ok (.iload_n 1, 1) := by decide +kernel
theorem dX3_tell_58 : decode cX3_tell 58 = .ok (.invokestatic 74, 3) := by decide +kernel
theorem dX3_tell_61 : decode cX3_tell 61 = .ok (.ireturn, 1) := by decide +kernel
theorem dX3_tell_62 : decode cX3_tell 62 = .ok (.aload_n 0, 1) := by decide +kernel
theorem dX3_tell_63 : decode cX3_tell 63 = .ok (.getfield 21, 3) := by decide +kernel
theorem dX3_tell_66 : decode cX3_tell 66 = .ok (.iload_n 1, 1) := by decide +kernel
theorem dX3_tell_67 : decode cX3_tell 67 = .ok (.invokestatic 74, 3) := by decide +kernel
theorem dX3_tell_70 : decode cX3_tell 70 = .ok (.ireturn, 1) := by decide +kernel
theorem dX3_tell_71 : decode cX3_tell 71 = .ok (.aload_n 0, 1) := by decide +kernel
theorem dX3_tell_72 : decode cX3_tell 72 = .ok (.getfield 24, 3) := by decide +kernel
theorem dX3_tell_75 : decode cX3_tell 75 = .ok (.iload_n 1, 1) := by decide +kernel
theorem dX3_tell_76 : decode cX3_tell 76 = .ok (.invokestatic 74, 3) := by decide +kernel
theorem dX3_tell_79 : decode cX3_tell 79 = .ok (.ireturn, 1) := by decide +kernel
theorem dX3_tell_80 : decode cX3_tell 80 = .ok (.aload_n 0, 1) := by decide +kernel
theorem dX3_tell_81 : decode cX3_tell 81 = .ok (.getfield 27, 3) := by decide +kernel
theorem dX3_tell_84 : decode cX3_tell 84 = .ok (.iload_n 1, 1) := by decide +kernel
theorem dX3_tell_85 : decode cX3_tell 85 = .ok (.invokestatic 74, 3) := by decide +kernel
theorem dX3_tell_88 : decode cX3_tell 88 = .ok (.ireturn, 1) := by decide +kernel
theorem dX3_tell_89 : decode cX3_tell 89 = .ok (.aload_n 0, 1) := by decide +kernel
theorem dX3_tell_90 : decode cX3_tell 90 = .ok (.iload_n 1, 1) := by decide +kernel
theorem dX3_tell_91 : decode cX3_tell 91 = .ok (.invokevirtual 78, 3) := by decide +kernel
theorem dX3_tell_94 : decode cX3_tell 94 = .ok (.ifCond .eq 7, 3) := by decide +kernel
theorem dX3_tell_97 : decode cX3_tell 97 = .ok (.iconst 1, 1) := by decide +kernel
theorem dX3_tell_98 : decode cX3_tell 98 = .ok (.goto 4, 3) := by decide +kernel
theorem dX3_tell_101 : decode cX3_tell 101 = .ok (.iconst 0, 1) := by decide +kernel
theorem dX3_tell_102 : decode cX3_tell 102 = .ok (.ireturn, 1) := by decide +kernel
theorem dX3_tell_103 : decode cX3_tell 103 = .ok (.aload_n 0, 1) := by decide +kernel
theorem dX3_tell_104 : decode cX3_tell 104 = .ok (.getfield 33, 3) := by decide +kernel
theorem dX3_tell_107 : decode cX3_tell 107 = .ok (.getfield 63, 3) := by decide +kernel
theorem dX3_tell_110 : decode cX3_tell 110 = .ok (.iload_n 1, 1) := by decide +kernel
theorem dX3_tell_111 : decode cX3_tell 111 = .ok (.invokestatic 74, 3) := by decide +kernel
theorem dX3_tell_114 : decode cX3_tell 114 = .ok (.ireturn, 1) := by decide +kernel
theorem dX3_tell_115 : decode cX3_tell 115 = .ok (.aload_n 0, 1) := by decide +kernel
theorem dX3_tell_116 : decode cX3_tell 116 = .ok (.getfield 33, 3) := by decide +kernel
theorem dX3_tell_119 : decode cX3_tell 119 = .ok (.getfield 82, 3) := by decide +kernel
theorem dX3_tell_122 : decode cX3_tell 122 = .ok (.iload_n 1, 1) := by decide +kernel
theorem dX3_tell_123 : decode cX3_tell 123 = .ok (.invokestatic 74, 3) := by decide +kernel
theorem dX3_tell_126 : decode cX3_tell 126 = .ok (.ireturn, 1) := by decide +kernel
theorem dX3_isRight_0 : decode cX3_isRight 0 = .ok (.iload_n 2, 1) := by decide +kernel
theorem dX3_isRight_1 : decode cX3_isRight 1 = .ok (.ifCond .eq 19, 3) := by decide +kernel
theorem dX3_isRight_4 : decode cX3_isRight 4 = .ok (.aload_n 0, 1) := by decide +kernel
theorem dX3_isRight_5 : decode cX3_isRight 5 = .ok (.getfield 24, 3) := by decide +kernel
theorem dX3_isRight_8 : decode cX3_isRight 8 = .ok (.iload_n 1, 1) := by decide +kernel
theorem dX3_isRight_9 : decode cX3_isRight 9 = .ok (.invokestatic 74, 3) := by decide +kernel
theorem dX3_isRight_12 : decode cX3_isRight 12 = .ok (.iload_n 3, 1) := by decide +kernel
theorem dX3_isRight_13 : decode cX3_isRight 13 = .ok (.if_icmp .gt 7, 3) := by decide +kernel
theorem dX3_isRight_16 : decode cX3_isRight 16 = .ok (.iconst 1, 1) := by decide +kernel
theorem dX3_isRight_17 : decode cX3_isRight 17 = .ok (.goto 4, 3) := by decide +kernel
theorem dX3_isRight_20 : decode cX3_isRight 20 = .ok (.iconst 0, 1) := by decide +kernel
theorem dX3_isRight_21 : decode cX3_isRight 21 = .ok (.ireturn, 1) := by decide +kernel
theorem dX3_isUp_0 : decode cX3_isUp 0 = .ok (.aload_n 0, 1) := by decide +kernel
theorem dX3_isUp_1 : decode cX3_isUp 1 = .ok (.getfield 33, 3) := by decide +kernel
theorem dX3_isUp_4 : decode cX3_isUp 4 = .ok (.getfield 63, 3) := by decide +kernel
theorem dX3_isUp_7 : decode cX3_isUp 7 = .ok (.iload_n 1, 1) := by decide +kernel
theorem dX3_isUp_8 : decode cX3_isUp 8 = .ok (.invokestatic 74, 3) := by decide +kernel
theorem dX3_isUp_11 : decode cX3_isUp 11 = .ok (.aload_n 0, 1) := by decide +kernel
theorem dX3_isUp_12 : decode cX3_isUp 12 = .ok (.getfield 37, 3) := by decide +kernel
theorem dX3_isUp_15 : decode cX3_isUp 15 = .ok (.if_icmp .lt 25, 3) := by decide +kernel
theorem dX3_isUp_18 : decode cX3_isUp 18 = .ok (.aload_n 0, 1) := by decide +kernel
theorem dX3_isUp_19 : decode cX3_isUp 19 = .ok (.iload_n 1, 1) := by decide +kernel
theorem dX3_isUp_20 : decode cX3_isUp 20 = .ok (.invokevirtual 78, 3) := by decide +kernel
theorem dX3_isUp_23 : decode cX3_isUp 23 = .ok (.ifCond .ne 13, 3) := by decide +kernel
theorem dX3_isUp_26 : decode cX3_isUp 26 = .ok (.aload_n 0, 1) := by decide +kernel
theorem dX3_isUp_27 : decode cX3_isUp 27 = .ok (.iload_n 1, 1) := by decide +kernel
theorem dX3_isUp_28 : decode cX3_isUp 28 = .ok (.iload_n 2, 1) := by decide +kernel
theorem dX3_isUp_29 : decode cX3_isUp 29 = .ok (.iload_n 3, 1) := by decide +kernel
theorem dX3_isUp_30 : decode cX3_isUp 30 = .ok (.invokevirtual 85, 3) := by decide +kernel
theorem dX3_isUp_33 : decode cX3_isUp 33 = .ok (.ifCond .eq 7, 3) := by decide +kernel
theorem dX3_isUp_36 : decode cX3_isUp 36 = .ok (.iconst 1, 1) := by decide +kernel
theorem dX3_isUp_37 : decode cX3_isUp 37 = .ok (.goto 4, 3) := by decide +kernel
theorem dX3_isUp_40 : decode cX3_isUp 40 = .ok (.iconst 0, 1) := by decide +kernel
theorem dX3_isUp_41 : decode cX3_isUp 41 = .ok (.ireturn, 1) := by decide +kernel
theorem dX3_upTenths_0 : decode cX3_upTenths 0 = .ok (.aload_n 0, 1) := by decide +kernel
theorem dX3_upTenths_1 : decode cX3_upTenths 1 = .ok (.iload_n 1, 1) := by decide +kernel
theorem dX3_upTenths_2 : decode cX3_upTenths 2 = .ok (.iconst 1, 1) := by decide +kernel
theorem dX3_upTenths_3 : decode cX3_upTenths 3 = .ok (.iload_n 2, 1) := by decide +kernel
theorem dX3_upTenths_4 : decode cX3_upTenths 4 = .ok (.invokevirtual 89, 3) := by decide +kernel
theorem dX3_upTenths_7 : decode cX3_upTenths 7 = .ok (.ifCond .eq 14, 3) := by decide +kernel
theorem dX3_upTenths_10 : decode cX3_upTenths 10 = .ok (.aload_n 0, 1) := by decide +kernel
theorem dX3_upTenths_11 : decode cX3_upTenths 11 = .ok (.getfield 21, 3) := by decide +kernel
theorem dX3_upTenths_14 : decode cX3_upTenths 14 = .ok (.iload_n 1, 1) := by decide +kernel
theorem dX3_upTenths_15 : decode cX3_upTenths 15 = .ok (.invokestatic 74, 3) := by decide +kernel
theorem dX3_upTenths_18 : decode cX3_upTenths 18 = .ok (.goto 4, 3) := by decide +kernel
theorem dX3_upTenths_21 : decode cX3_upTenths 21 = .ok (.iconst 0, 1) := by decide +kernel
theorem dX3_upTenths_22 : decode cX3_upTenths 22 = .ok (.istore_n 3, 1) := by decide +kernel
theorem dX3_upTenths_23 : decode cX3_upTenths 23 = .ok (.aload_n 0, 1) := by decide +kernel
theorem dX3_upTenths_24 : decode cX3_upTenths 24 = .ok (.iload_n 1, 1) := by decide +kernel
theorem dX3_upTenths_25 : decode cX3_upTenths 25 = .ok (.iconst 0, 1) := by decide +kernel
theorem dX3_upTenths_26 : decode cX3_upTenths 26 = .ok (.iload_n 2, 1) := by decide +kernel
theorem dX3_upTenths_27 : decode cX3_upTenths 27 = .ok (.invokevirtual 89, 3) := by decide +kernel
theorem dX3_upTenths_30 : decode cX3_upTenths 30 = .ok (.ifCond .eq 17, 3) := by decide +kernel
theorem dX3_upTenths_33 : decode cX3_upTenths 33 = .ok (.bipush 10, 2) := by decide +kernel
theorem dX3_upTenths_35 : decode cX3_upTenths 35 = .ok (.aload_n 0, 1) := by decide +kernel
theorem dX3_upTenths_36 : decode cX3_upTenths 36 = .ok (.getfield 21, 3) := by decide +kernel
theorem dX3_upTenths_39 : decode cX3_upTenths 39 = .ok (.iload_n 1, 1) := by decide +kernel
theorem dX3_upTenths_40 : decode cX3_upTenths 40 = .ok (.invokestatic 74, 3) := by decide +kernel
theorem dX3_upTenths_43 : decode cX3_upTenths 43 = .ok (.isub, 1) := by decide +kernel
theorem dX3_upTenths_44 : decode cX3_upTenths 44 = .ok (.goto 4, 3) := by decide +kernel
theorem dX3_upTenths_47 : decode cX3_upTenths 47 = .ok (.iconst 0, 1) := by decide +kernel
theorem dX3_upTenths_48 : decode cX3_upTenths 48 = .ok (.istore 4, 2) := by decide +kernel
theorem dX3_upTenths_50 : decode cX3_upTenths 50 = .ok (.iload_n 3, 1) := by decide +kernel
theorem dX3_upTenths_51 : decode cX3_upTenths 51 = .ok (.iload 4, 2) := by decide +kernel
theorem dX3_upTenths_53 : decode cX3_upTenths 53 = .ok (.iadd, 1) := by decide +kernel
theorem dX3_upTenths_54 : decode cX3_upTenths 54 = .ok (.ireturn, 1) := by decide +kernel
theorem dX3_rightTenths_0 : decode cX3_rightTenths 0 = .ok (.iload_n 3, 1) := by decide +kernel
theorem dX3_rightTenths_1 : decode cX3_rightTenths 1 = .ok (.ifCond .ne 13, 3) := by decide +kernel
theorem dX3_rightTenths_4 : decode cX3_rightTenths 4 = .ok (.aload_n 0, 1) := by decide +kernel
theorem dX3_rightTenths_5 : decode cX3_rightTenths 5 = .ok (.iload_n 1, 1) := by decide +kernel
theorem dX3_rightTenths_6 : decode cX3_rightTenths 6 = .ok (.iconst 1, 1) := by decide +kernel
theorem dX3_rightTenths_7 : decode cX3_rightTenths 7 = .ok (.iload_n 2, 1) := by decide +kernel
theorem dX3_rightTenths_8 : decode cX3_rightTenths 8 = .ok (.invokevirtual 89, 3) := by decide +kernel
theorem dX3_rightTenths_11 : decode cX3_rightTenths 11 = .ok (.ifCond .eq 7, 3) := by decide +kernel
theorem dX3_rightTenths_14 : decode cX3_rightTenths 14 = .ok (.iconst 1, 1) := by decide +kernel
theorem dX3_rightTenths_15 : decode cX3_rightTenths 15 = .ok (.goto 4, 3) := by decide +kernel
theorem dX3_rightTenths_18 : decode cX3_rightTenths 18 = .ok (.iconst 0, 1) := by decide +kernel
theorem dX3_rightTenths_19 : decode cX3_rightTenths 19 = .ok (.istore 4, 2) := by decide +kernel
theorem dX3_rightTenths_21 : decode cX3_rightTenths 21 = .ok (.iload 4, 2) := by decide +kernel
theorem dX3_rightTenths_23 : decode cX3_rightTenths 23 = .ok (.ifCond .eq 24, 3) := by decide +kernel
theorem dX3_rightTenths_26 : decode cX3_rightTenths 26 = .ok (.aload_n 0, 1) := by decide +kernel
theorem dX3_rightTenths_27 : decode cX3_rightTenths 27 = .ok (.iload_n 1, 1) := by decide +kernel
theorem dX3_rightTenths_28 : decode cX3_rightTenths 28 = .ok (.iconst 1, 1) := by decide +kernel
theorem dX3_rightTenths_29 : decode cX3_rightTenths 29 = .ok (.iload_n 2, 1) := by decide +kernel
theorem dX3_rightTenths_30 : decode cX3_rightTenths 30 = .ok (.invokevirtual 85, 3) := by decide +kernel
theorem dX3_rightTenths_33 : decode cX3_rightTenths 33 = .ok (.ifCond .eq 14, 3) := by decide +kernel
theorem dX3_rightTenths_36 : decode cX3_rightTenths 36 = .ok (.aload_n 0, 1) := by decide +kernel
theorem dX3_rightTenths_37 : decode cX3_rightTenths 37 = .ok (.getfield 21, 3) := by decide +kernel
theorem dX3_rightTenths_40 : decode cX3_rightTenths 40 = .ok (.iload_n 1, 1) := by decide +kernel
theorem dX3_rightTenths_41 : decode cX3_rightTenths 41 = .ok (.invokestatic 74, 3) := by decide +kernel
theorem dX3_rightTenths_44 : decode cX3_rightTenths 44 = .ok (.goto 4, 3) := by decide +kernel
theorem dX3_rightTenths_47 : decode cX3_rightTenths 47 = .ok (.iconst 0, 1) := by decide +kernel
theorem dX3_rightTenths_48 : decode cX3_rightTenths 48 = .ok (.ireturn, 1) := by decide +kernel
theorem dX3_allUpTenths_0 : decode cX3_allUpTenths 0 = .ok (.iconst 0, 1) := by decide +kernel
theorem dX3_allUpTenths_1 : decode cX3_allUpTenths 1 = .ok (.istore_n 2, 1) := by decide +kernel
theorem dX3_allUpTenths_2 : decode cX3_allUpTenths 2 = .ok (.iconst 0, 1) := by decide +kernel
theorem dX3_allUpTenths_3 : decode cX3_allUpTenths 3 = .ok (.istore_n 3, 1) := by decide +kernel
theorem dX3_allUpTenths_4 : decode cX3_allUpTenths 4 = .ok (.iload_n 3, 1) := by decide +kernel
theorem dX3_allUpTenths_5 : decode cX3_allUpTenths 5 = .ok (.aload_n 0, 1) := by decide +kernel
theorem dX3_allUpTenths_6 : decode cX3_allUpTenths 6 = .ok (.getfield 46, 3) := by decide +kernel
theorem dX3_allUpTenths_9 : decode cX3_allUpTenths 9 = .ok (.if_icmp .ge 18, 3) := by decide +kernel
theorem dX3_allUpTenths_12 : decode cX3_allUpTenths 12 = .ok (.iload_n 2, 1) := by decide +kernel
theorem dX3_allUpTenths_13 : decode cX3_allUpTenths 13 = .ok (.aload_n 0, 1) := by decide +kernel
theorem dX3_allUpTenths_14 : decode cX3_allUpTenths 14 = .ok (.iload_n 3, 1) := by decide +kernel
theorem dX3_allUpTenths_15 : decode cX3_allUpTenths 15 = .ok (.iload_n 1, 1) := by decide +kernel
theorem dX3_allUpTenths_16 : decode cX3_allUpTenths 16 = .ok (.invokevirtual 92, 3) := by decide +kernel
theorem dX3_allUpTenths_19 : decode cX3_allUpTenths 19 = .ok (.iadd, 1) := by decide +kernel
theorem dX3_allUpTenths_20 : decode cX3_allUpTenths 20 = .ok (.istore_n 2, 1) := by decide +kernel
theorem dX3_allUpTenths_21 : decode cX3_allUpTenths 21 = .ok (.iinc 3 1, 3) := by decide +kernel
theorem dX3_allUpTenths_24 : decode cX3_allUpTenths 24 = .ok (.goto (-20), 3) := by decide +kernel
theorem dX3_allUpTenths_27 : decode cX3_allUpTenths 27 = .ok (.iload_n 2, 1) := by decide +kernel
theorem dX3_allUpTenths_28 : decode cX3_allUpTenths 28 = .ok (.ireturn, 1) := by decide +kernel
theorem dX3_allSilentTenths_0 : decode cX3_allSilentTenths 0 = .ok (.iconst 0, 1) := by decide +kernel
theorem dX3_allSilentTenths_1 : decode cX3_allSilentTenths 1 = .ok (.istore_n 2, 1) := by decide +kernel
theorem dX3_allSilentTenths_2 : decode cX3_allSilentTenths 2 = .ok (.iconst 0, 1) := by decide +kernel
theorem dX3_allSilentTenths_3 : decode cX3_allSilentTenths 3 = .ok (.istore_n 3, 1) := by decide +kernel
theorem dX3_allSilentTenths_4 : decode cX3_allSilentTenths 4 = .ok (.iload_n 3, 1) := by decide +kernel
theorem dX3_allSilentTenths_5 : decode cX3_allSilentTenths 5 = .ok (.aload_n 0, 1) := by decide +kernel
theorem dX3_allSilentTenths_6 : decode cX3_allSilentTenths 6 = .ok (.getfield 46, 3) := by decide +kernel
theorem dX3_allSilentTenths_9 : decode cX3_allSilentTenths 9 = .ok (.if_icmp .ge 34, 3) := by decide +kernel
theorem dX3_allSilentTenths_12 : decode cX3_allSilentTenths 12 = .ok (.iload_n 2, 1) := by decide +kernel
theorem dX3_allSilentTenths_13 : decode cX3_allSilentTenths 13 = .ok (.aload_n 0, 1) := by decide +kernel
theorem dX3_allSilentTenths_14 : decode cX3_allSilentTenths 14 = .ok (.iload_n 3, 1) := by decide +kernel
theorem dX3_allSilentTenths_15 : decode cX3_allSilentTenths 15 = .ok (.iconst 1, 1) := by decide +kernel
theorem dX3_allSilentTenths_16 : decode cX3_allSilentTenths 16 = .ok (.iload_n 1, 1) := by decide +kernel
theorem dX3_allSilentTenths_17 : decode cX3_allSilentTenths 17 = .ok (.invokevirtual 89, 3) := by decide +kernel
theorem dX3_allSilentTenths_20 : decode cX3_allSilentTenths 20 = .ok (.ifCond .eq 7, 3) := by decide +kernel
theorem dX3_allSilentTenths_23 : decode cX3_allSilentTenths 23 = .ok (.iconst 0, 1) := by decide +kernel
theorem dX3_allSilentTenths_24 : decode cX3_allSilentTenths 24 = .ok (.goto 11, 3) := by decide +kernel
theorem dX3_allSilentTenths_27 : decode cX3_allSilentTenths 27 = .ok (.aload_n 0, 1) := by decide +kernel
theorem dX3_allSilentTenths_28 : decode cX3_allSilentTenths 28 = .ok (.getfield 21, 3) := by decide +kernel
theorem dX3_allSilentTenths_31 : decode cX3_allSilentTenths 31 = .ok (.iload_n 3, 1) := by decide +kernel
theorem dX3_allSilentTenths_32 : decode cX3_allSilentTenths 32 = .ok (.invokestatic 74, 3) := by decide +kernel
theorem dX3_allSilentTenths_35 : decode cX3_allSilentTenths 35 = .ok (.iadd, 1) := by decide +kernel
theorem dX3_allSilentTenths_36 : decode cX3_allSilentTenths 36 = .ok (.istore_n 2, 1) := by decide +kernel
theorem dX3_allSilentTenths_37 : decode cX3_allSilentTenths 37 = .ok (.iinc 3 1, 3) := by decide +kernel
theorem dX3_allSilentTenths_40 : decode cX3_allSilentTenths 40 = .ok (.goto (-36), 3) := by decide +kernel
theorem dX3_allSilentTenths_43 : decode cX3_allSilentTenths 43 = .ok (.iload_n 2, 1) := by decide +kernel
theorem dX3_allSilentTenths_44 : decode cX3_allSilentTenths 44 = .ok (.ireturn, 1) := by decide +kernel
theorem dX3_bestWait_0 : decode cX3_bestWait 0 = .ok (.iconst 0, 1) := by decide +kernel
theorem dX3_bestWait_1 : decode cX3_bestWait 1 = .ok (.istore_n 3, 1) := by decide +kernel
theorem dX3_bestWait_2 : decode cX3_bestWait 2 = .ok (.iload_n 1, 1) := by decide +kernel
theorem dX3_bestWait_3 : decode cX3_bestWait 3 = .ok (.aload_n 0, 1) := by decide +kernel
theorem dX3_bestWait_4 : decode cX3_bestWait 4 = .ok (.iconst 0, 1) := by decide +kernel
theorem dX3_bestWait_5 : decode cX3_bestWait 5 = .ok (.invokevirtual 96, 3) := by decide +kernel
theorem dX3_bestWait_8 : decode cX3_bestWait 8 = .ok (.imul, 1) := by decide +kernel
theorem dX3_bestWait_9 : decode cX3_bestWait 9 = .ok (.istore 4, 2) := by decide +kernel
theorem dX3_bestWait_11 : decode cX3_bestWait 11 = .ok (.iconst 1, 1) := by decide +kernel
theorem dX3_bestWait_12 : decode cX3_bestWait 12 = .ok (.istore 5, 2) := by decide +kernel
theorem dX3_bestWait_14 : decode cX3_bestWait 14 = .ok (.iload 5, 2) := by decide +kernel
theorem dX3_bestWait_16 : decode cX3_bestWait 16 = .ok (.bipush 9, 2) := by decide +kernel
theorem dX3_bestWait_18 : decode cX3_bestWait 18 = .ok (.if_icmp .gt 41, 3) := by decide +kernel
theorem dX3_bestWait_21 : decode cX3_bestWait 21 = .ok (.iload_n 1, 1) := by decide +kernel
theorem dX3_bestWait_22 : decode cX3_bestWait 22 = .ok (.aload_n 0, 1) := by decide +kernel
theorem dX3_bestWait_23 : decode cX3_bestWait 23 = .ok (.iload 5, 2) := by decide +kernel
theorem dX3_bestWait_25 : decode cX3_bestWait 25 = .ok (.invokevirtual 96, 3) := by decide +kernel
theorem dX3_bestWait_28 : decode cX3_bestWait 28 = .ok (.imul, 1) := by decide +kernel
theorem dX3_bestWait_29 : decode cX3_bestWait 29 = .ok (.bipush 10, 2) := by decide +kernel
theorem dX3_bestWait_31 : decode cX3_bestWait 31 = .ok (.iload_n 2, 1) := by decide +kernel
theorem dX3_bestWait_32 : decode cX3_bestWait 32 = .ok (.imul, 1) := by decide +kernel
theorem dX3_bestWait_33 : decode cX3_bestWait 33 = .ok (.iload 5, 2) := by decide +kernel
theorem dX3_bestWait_35 : decode cX3_bestWait 35 = .ok (.imul, 1) := by decide +kernel
theorem dX3_bestWait_36 : decode cX3_bestWait 36 = .ok (.isub, 1) := by decide +kernel
theorem dX3_bestWait_37 : decode cX3_bestWait 37 = .ok (.istore 6, 2) := by decide +kernel
theorem dX3_bestWait_39 : decode cX3_bestWait 39 = .ok (.iload 6, 2) := by decide +kernel
theorem dX3_bestWait_41 : decode cX3_bestWait 41 = .ok (.iload 4, 2) := by decide +kernel
theorem dX3_bestWait_43 : decode cX3_bestWait 43 = .ok (.if_icmp .le 10, 3) := by decide +kernel
theorem dX3_bestWait_46 : decode cX3_bestWait 46 = .ok (.iload 6, 2) := by decide +kernel
theorem dX3_bestWait_48 : decode cX3_bestWait 48 = .ok (.istore 4, 2) := by decide +kernel
theorem dX3_bestWait_50 : decode cX3_bestWait 50 = .ok (.iload 5, 2) := by decide +kernel
theorem dX3_bestWait_52 : decode cX3_bestWait 52 = .ok (.istore_n 3, 1) := by decide +kernel
theorem dX3_bestWait_53 : decode cX3_bestWait 53 = .ok (.iinc 5 1, 3) := by decide +kernel
theorem dX3_bestWait_56 : decode cX3_bestWait 56 = .ok (.goto (-42), 3) := by decide +kernel
theorem dX3_bestWait_59 : decode cX3_bestWait 59 = .ok (.iload_n 3, 1) := by decide +kernel
theorem dX3_bestWait_60 : decode cX3_bestWait 60 = .ok (.ireturn, 1) := by decide +kernel
theorem dX3_upBits_0 : decode cX3_upBits 0 = .ok (.iconst 0, 1) := by decide +kernel
theorem dX3_upBits_1 : decode cX3_upBits 1 = .ok (.istore_n 3, 1) := by decide +kernel
theorem dX3_upBits_2 : decode cX3_upBits 2 = .ok (.iconst 0, 1) := by decide +kernel
theorem dX3_upBits_3 : decode cX3_upBits 3 = .ok (.istore 4, 2) := by decide +kernel
theorem dX3_upBits_5 : decode cX3_upBits 5 = .ok (.iload 4, 2) := by decide +kernel
theorem dX3_upBits_7 : decode cX3_upBits 7 = .ok (.aload_n 0, 1) := by decide +kernel
theorem dX3_upBits_8 : decode cX3_upBits 8 = .ok (.getfield 46, 3) := by decide +kernel
theorem dX3_upBits_11 : decode cX3_upBits 11 = .ok (.if_icmp .ge 32, 3) := by decide +kernel
theorem dX3_upBits_14 : decode cX3_upBits 14 = .ok (.aload_n 0, 1) := by decide +kernel
theorem dX3_upBits_15 : decode cX3_upBits 15 = .ok (.iload 4, 2) := by decide +kernel
theorem dX3_upBits_17 : decode cX3_upBits 17 = .ok (.iload_n 1, 1) := by decide +kernel
theorem dX3_upBits_18 : decode cX3_upBits 18 = .ok (.iload 4, 2) := by decide +kernel
theorem dX3_upBits_20 : decode cX3_upBits 20 = .ok (.invokestatic 99, 3) := by decide +kernel
theorem dX3_upBits_23 : decode cX3_upBits 23 = .ok (.iload_n 2, 1) := by decide +kernel
theorem dX3_upBits_24 : decode cX3_upBits 24 = .ok (.invokevirtual 89, 3) := by decide +kernel
theorem dX3_upBits_27 : decode cX3_upBits 27 = .ok (.ifCond .eq 10, 3) := by decide +kernel
theorem dX3_upBits_30 : decode cX3_upBits 30 = .ok (.iload_n 3, 1) := by decide +kernel
theorem dX3_upBits_31 : decode cX3_upBits 31 = .ok (.iconst 1, 1) := by decide +kernel
theorem dX3_upBits_32 : decode cX3_upBits 32 = .ok (.iload 4, 2) := by decide +kernel
theorem dX3_upBits_34 : decode cX3_upBits 34 = .ok (.ishl, 1) := by decide +kernel
theorem dX3_upBits_35 : decode cX3_upBits 35 = .ok (.ior, 1) := by decide +kernel
theorem dX3_upBits_36 : decode cX3_upBits 36 = .ok (.istore_n 3, 1) := by decide +kernel
theorem dX3_upBits_37 : decode cX3_upBits 37 = .ok (.iinc 4 1, 3) := by decide +kernel
theorem dX3_upBits_40 : decode cX3_upBits 40 = .ok (.goto (-35), 3) := by decide +kernel
theorem dX3_upBits_43 : decode cX3_upBits 43 = .ok (.iload_n 3, 1) := by decide +kernel
theorem dX3_upBits_44 : decode cX3_upBits 44 = .ok (.ireturn, 1) := by decide +kernel
theorem dX3_rank_0 : decode cX3_rank 0 = .ok (.aload_n 0, 1) := by decide +kernel
theorem dX3_rank_1 : decode cX3_rank 1 = .ok (.iload_n 1, 1) := by decide +kernel
theorem dX3_rank_2 : decode cX3_rank 2 = .ok (.iload_n 2, 1) := by decide +kernel
theorem dX3_rank_3 : decode cX3_rank 3 = .ok (.invokevirtual 103, 3) := by decide +kernel
theorem dX3_rank_6 : decode cX3_rank 6 = .ok (.bipush 12, 2) := by decide +kernel
theorem dX3_rank_8 : decode cX3_rank 8 = .ok (.imul, 1) := by decide +kernel
theorem dX3_rank_9 : decode cX3_rank 9 = .ok (.iload_n 1, 1) := by decide +kernel
theorem dX3_rank_10 : decode cX3_rank 10 = .ok (.iadd, 1) := by decide +kernel
theorem dX3_rank_11 : decode cX3_rank 11 = .ok (.ireturn, 1) := by decide +kernel
theorem dX3_rankByRule_0 : decode cX3_rankByRule 0 = .ok (.iload_n 2, 1) := by decide +kernel
theorem dX3_rankByRule_1 : decode cX3_rankByRule 1 = .ok (.tableswitch 81 0 4 #[35, 60, 81, 81, 69], 35) := by decide +kernel
theorem dX3_rankByRule_36 : decode cX3_rankByRule 36 = .ok (.aload_n 0, 1) := by decide +kernel
theorem dX3_rankByRule_37 : decode cX3_rankByRule 37 = .ok (.getfield 15, 3) := by decide +kernel
theorem dX3_rankByRule_40 : decode cX3_rankByRule 40 = .ok (.iload_n 1, 1) := by decide +kernel
theorem dX3_rankByRule_41 : decode cX3_rankByRule 41 = .ok (.invokestatic 74, 3) := by decide +kernel
theorem dX3_rankByRule_44 : decode cX3_rankByRule 44 = .ok (.bipush 100, 2) := by decide +kernel
theorem dX3_rankByRule_46 : decode cX3_rankByRule 46 = .ok (.imul, 1) := by decide +kernel
theorem dX3_rankByRule_47 : decode cX3_rankByRule 47 = .ok (.aload_n 0, 1) := by decide +kernel
theorem dX3_rankByRule_48 : decode cX3_rankByRule 48 = .ok (.aload_n 0, 1) := by decide +kernel
theorem dX3_rankByRule_49 : decode cX3_rankByRule 49 = .ok (.getfield 18, 3) := by decide +kernel
theorem dX3_rankByRule_52 : decode cX3_rankByRule 52 = .ok (.iload_n 1, 1) := by decide +kernel
theorem dX3_rankByRule_53 : decode cX3_rankByRule 53 = .ok (.invokestatic 74, 3) := by decide +kernel
theorem dX3_rankByRule_56 : decode cX3_rankByRule 56 = .ok (.invokevirtual 106, 3) := by decide +kernel
theorem dX3_rankByRule_59 : decode cX3_rankByRule 59 = .ok (.iadd, 1) := by decide +kernel
theorem dX3_rankByRule_60 : decode cX3_rankByRule 60 = .ok (.ireturn, 1) := by decide +kernel
theorem dX3_rankByRule_61 : decode cX3_rankByRule 61 = .ok (.aload_n 0, 1) := by decide +kernel
theorem dX3_rankByRule_62 : decode cX3_rankByRule 62 = .ok (.getfield 24, 3) := by decide +kernel
theorem dX3_rankByRule_65 : decode cX3_rankByRule 65 = .ok (.iload_n 1, 1) := by decide +kernel
theorem dX3_rankByRule_66 : decode cX3_rankByRule 66 = .ok (.invokestatic 74, 3) := by decide +kernel
theorem dX3_rankByRule_69 : decode cX3_rankByRule 69 = .ok (.ireturn, 1) := by decide +kernel
theorem dX3_rankByRule_70 : decode cX3_rankByRule 70 = .ok (.aload_n 0, 1) := by decide +kernel
theorem dX3_rankByRule_71 : decode cX3_rankByRule 71 = .ok (.getfield 33, 3) := by decide +kernel
theorem dX3_rankByRule_74 : decode cX3_rankByRule 74 = .ok (.getfield 82, 3) := by decide +kernel
theorem dX3_rankByRule_77 : decode cX3_rankByRule 77 = .ok (.iload_n 1, 1) := by decide +kernel
theorem dX3_rankByRule_78 : decode cX3_rankByRule 78 = .ok (.invokestatic 74, 3) := by decide +kernel
theorem dX3_rankByRule_81 : decode cX3_rankByRule 81 = .ok (.ireturn, 1) := by decide +kernel
theorem dX3_rankByRule_82 : decode cX3_rankByRule 82 = .ok (.iconst 0, 1) := by decide +kernel
theorem dX3_rankByRule_83 : decode cX3_rankByRule 83 = .ok (.ireturn, 1) := by decide +kernel
theorem dX3_rankInRow_0 : decode cX3_rankInRow 0 = .ok (.iconst 2, 1) := by decide +kernel
theorem dX3_rankInRow_1 : decode cX3_rankInRow 1 = .ok (.iload_n 1, 1) := by decide +kernel
theorem dX3_rankInRow_2 : decode cX3_rankInRow 2 = .ok (.imul, 1) := by decide +kernel
theorem dX3_rankInRow_3 : decode cX3_rankInRow 3 = .ok (.iconst 5, 1) := by decide +kernel
theorem dX3_rankInRow_4 : decode cX3_rankInRow 4 = .ok (.isub, 1) := by decide +kernel
theorem dX3_rankInRow_5 : decode cX3_rankInRow 5 = .ok (.invokestatic 109, 3) := by decide +kernel
theorem dX3_rankInRow_8 : decode cX3_rankInRow 8 = .ok (.bipush 10, 2) := by decide +kernel
theorem dX3_rankInRow_10 : decode cX3_rankInRow 10 = .ok (.imul, 1) := by decide +kernel
theorem dX3_rankInRow_11 : decode cX3_rankInRow 11 = .ok (.iload_n 1, 1) := by decide +kernel
theorem dX3_rankInRow_12 : decode cX3_rankInRow 12 = .ok (.iadd, 1) := by decide +kernel
theorem dX3_rankInRow_13 : decode cX3_rankInRow 13 = .ok (.ireturn, 1) := by decide +kernel
theorem dX3_choose_0 : decode cX3_choose 0 = .ok (.iload_n 3, 1) := by decide +kernel
theorem dX3_choose_1 : decode cX3_choose 1 = .ok (.iconst 3, 1) := by decide +kernel
theorem dX3_choose_2 : decode cX3_choose 2 = .ok (.if_icmp .ne 10, 3) := by decide +kernel
theorem dX3_choose_5 : decode cX3_choose 5 = .ok (.aload_n 0, 1) := by decide +kernel
theorem dX3_choose_6 : decode cX3_choose 6 = .ok (.invokevirtual 70, 3) := by decide +kernel
theorem dX3_choose_9 : decode cX3_choose 9 = .ok (.goto 9, 3) := by decide +kernel
theorem dX3_choose_12 : decode cX3_choose 12 = .ok (.aload_n 0, 1) := by decide +kernel
theorem dX3_choose_13 : decode cX3_choose 13 = .ok (.iload_n 1, 1) := by decide +kernel
theorem dX3_choose_14 : decode cX3_choose 14 = .ok (.iload_n 2, 1) := by decide +kernel
theorem dX3_choose_15 : decode cX3_choose 15 = .ok (.invokevirtual 114, 3) := by decide +kernel
theorem dX3_choose_18 : decode cX3_choose 18 = .ok (.istore 4, 2) := by decide +kernel
theorem dX3_choose_20 : decode cX3_choose 20 = .ok (.iload_n 3, 1) := by decide +kernel
theorem dX3_choose_21 : decode cX3_choose 21 = .ok (.iconst 2, 1) := by decide +kernel
theorem dX3_choose_22 : decode cX3_choose 22 = .ok (.if_icmp .eq 8, 3) := by decide +kernel
theorem dX3_choose_25 : decode cX3_choose 25 = .ok (.iload_n 3, 1) := by decide +kernel
theorem dX3_choose_26 : decode cX3_choose 26 = .ok (.iconst 3, 1) := by decide +kernel
theorem dX3_choose_27 : decode cX3_choose 27 = .ok (.if_icmp .ne 22, 3) := by decide +kernel
theorem dX3_choose_30 : decode cX3_choose 30 = .ok (.aload_n 0, 1) := by decide +kernel
theorem dX3_choose_31 : decode cX3_choose 31 = .ok (.iload 4, 2) := by decide +kernel
theorem dX3_choose_33 : decode cX3_choose 33 = .ok (.aload_n 0, 1) := by decide +kernel
theorem dX3_choose_34 : decode cX3_choose 34 = .ok (.getfield 33, 3) := by decide +kernel
theorem dX3_choose_37 : decode cX3_choose 37 = .ok (.iload 4, 2) := by decide +kernel
theorem dX3_choose_39 : decode cX3_choose 39 = .ok (.invokestatic 117, 3) := by decide +kernel
theorem dX3_choose_42 : decode cX3_choose 42 = .ok (.invokevirtual 122, 3) := by decide +kernel
theorem dX3_choose_45 : decode cX3_choose 45 = .ok (.invokevirtual 125, 3) := by decide +kernel
theorem dX3_choose_48 : decode cX3_choose 48 = .ok (.ireturn, 1) := by decide +kernel
theorem dX3_choose_49 : decode cX3_choose 49 = .ok (.aload_n 0, 1) := by decide +kernel
theorem dX3_choose_50 : decode cX3_choose 50 = .ok (.iload 4, 2) := by decide +kernel
theorem dX3_choose_52 : decode cX3_choose 52 = .ok (.iload_n 3, 1) := by decide +kernel
theorem dX3_choose_53 : decode cX3_choose 53 = .ok (.invokevirtual 128, 3) := by decide +kernel
theorem dX3_choose_56 : decode cX3_choose 56 = .ok (.ireturn, 1) := by decide +kernel
theorem dX3_member_0 : decode cX3_member 0 = .ok (.iconst 0, 1) := by decide +kernel
theorem dX3_member_1 : decode cX3_member 1 = .ok (.istore_n 3, 1) := by decide +kernel
theorem dX3_member_2 : decode cX3_member 2 = .ok (.iconst 0, 1) := by decide +kernel
theorem dX3_member_3 : decode cX3_member 3 = .ok (.istore 4, 2) := by decide +kernel
theorem dX3_member_5 : decode cX3_member 5 = .ok (.iload 4, 2) := by decide +kernel
theorem dX3_member_7 : decode cX3_member 7 = .ok (.aload_n 0, 1) := by decide +kernel
theorem dX3_member_8 : decode cX3_member 8 = .ok (.getfield 46, 3) := by decide +kernel
theorem dX3_member_11 : decode cX3_member 11 = .ok (.if_icmp .ge 29, 3) := by decide +kernel
theorem dX3_member_14 : decode cX3_member 14 = .ok (.iload_n 1, 1) := by decide +kernel
theorem dX3_member_15 : decode cX3_member 15 = .ok (.iload 4, 2) := by decide +kernel
theorem dX3_member_17 : decode cX3_member 17 = .ok (.invokestatic 99, 3) := by decide +kernel
theorem dX3_member_20 : decode cX3_member 20 = .ok (.ifCond .eq 14, 3) := by decide +kernel
theorem dX3_member_23 : decode cX3_member 23 = .ok (.iload_n 3, 1) := by decide +kernel
theorem dX3_member_24 : decode cX3_member 24 = .ok (.iload_n 2, 1) := by decide +kernel
theorem dX3_member_25 : decode cX3_member 25 = .ok (.if_icmp .ne 6, 3) := by decide +kernel
theorem dX3_member_28 : decode cX3_member 28 = .ok (.iload 4, 2) := by decide +kernel
theorem dX3_member_30 : decode cX3_member 30 = .ok (.ireturn, 1) := by decide +kernel
theorem dX3_member_31 : decode cX3_member 31 = .ok (.iinc 3 1, 3) := by decide +kernel
theorem dX3_member_34 : decode cX3_member 34 = .ok (.iinc 4 1, 3) := by decide +kernel
theorem dX3_member_37 : decode cX3_member 37 = .ok (.goto (-32), 3) := by decide +kernel
theorem dX3_member_40 : decode cX3_member 40 = .ok (.bipush (-9), 2) := by decide +kernel
theorem dX3_member_42 : decode cX3_member 42 = .ok (.ireturn, 1) := by decide +kernel
theorem dX3_foremost_0 : decode cX3_foremost 0 = .ok (.bipush (-9), 2) := by decide +kernel
theorem dX3_foremost_2 : decode cX3_foremost 2 = .ok (.istore_n 3, 1) := by decide +kernel
theorem dX3_foremost_3 : decode cX3_foremost 3 = .ok (.iconst 0, 1) := by decide +kernel
theorem dX3_foremost_4 : decode cX3_foremost 4 = .ok (.istore 4, 2) := by decide +kernel
theorem dX3_foremost_6 : decode cX3_foremost 6 = .ok (.iload 4, 2) := by decide +kernel
theorem dX3_foremost_8 : decode cX3_foremost 8 = .ok (.aload_n 0, 1) := by decide +kernel
theorem dX3_foremost_9 : decode cX3_foremost 9 = .ok (.getfield 46, 3) := by decide +kernel
theorem dX3_foremost_12 : decode cX3_foremost 12 = .ok (.if_icmp .ge 43, 3) := by decide +kernel
theorem dX3_foremost_15 : decode cX3_foremost 15 = .ok (.iload_n 1, 1) := by decide +kernel
theorem dX3_foremost_16 : decode cX3_foremost 16 = .ok (.iload 4, 2) := by decide +kernel
theorem dX3_foremost_18 : decode cX3_foremost 18 = .ok (.invokestatic 99, 3) := by decide +kernel
theorem dX3_foremost_21 : decode cX3_foremost 21 = .ok (.ifCond .eq 28, 3) := by decide +kernel
theorem dX3_foremost_24 : decode cX3_foremost 24 = .ok (.iload_n 3, 1) := by decide +kernel
theorem dX3_foremost_25 : decode cX3_foremost 25 = .ok (.bipush (-9), 2) := by decide +kernel
theorem dX3_foremost_27 : decode cX3_foremost 27 = .ok (.if_icmp .eq 19, 3) := by decide +kernel
theorem dX3_foremost_30 : decode cX3_foremost 30 = .ok (.aload_n 0, 1) := by decide +kernel
theorem dX3_foremost_31 : decode cX3_foremost 31 = .ok (.iload 4, 2) := by decide +kernel
theorem dX3_foremost_33 : decode cX3_foremost 33 = .ok (.iload_n 2, 1) := by decide +kernel
theorem dX3_foremost_34 : decode cX3_foremost 34 = .ok (.invokevirtual 131, 3) := by decide +kernel
theorem dX3_foremost_37 : decode cX3_foremost 37 = .ok (.aload_n 0, 1) := by decide +kernel
theorem dX3_foremost_38 : decode cX3_foremost 38 = .ok (.iload_n 3, 1) := by decide +kernel
theorem dX3_foremost_39 : decode cX3_foremost 39 = .ok (.iload_n 2, 1) := by decide +kernel
theorem dX3_foremost_40 : decode cX3_foremost 40 = .ok (.invokevirtual 131, 3) := by decide +kernel
theorem dX3_foremost_43 : decode cX3_foremost 43 = .ok (.if_icmp .ge 6, 3) := by decide +kernel
theorem dX3_foremost_46 : decode cX3_foremost 46 = .ok (.iload 4, 2) := by decide +kernel
theorem dX3_foremost_48 : decode cX3_foremost 48 = .ok (.istore_n 3, 1) := by decide +kernel
theorem dX3_foremost_49 : decode cX3_foremost 49 = .ok (.iinc 4 1, 3) := by decide +kernel
theorem dX3_foremost_52 : decode cX3_foremost 52 = .ok (.goto (-46), 3) := by decide +kernel
theorem dX3_foremost_55 : decode cX3_foremost 55 = .ok (.iload_n 3, 1) := by decide +kernel
theorem dX3_foremost_56 : decode cX3_foremost 56 = .ok (.ireturn, 1) := by decide +kernel
theorem dX3_neverTaken_0 : decode cX3_neverTaken 0 = .ok (.iconst 0, 1) := by decide +kernel
theorem dX3_neverTaken_1 : decode cX3_neverTaken 1 = .ok (.istore_n 1, 1) := by decide +kernel
theorem dX3_neverTaken_2 : decode cX3_neverTaken 2 = .ok (.iconst 0, 1) := by decide +kernel
theorem dX3_neverTaken_3 : decode cX3_neverTaken 3 = .ok (.istore_n 2, 1) := by decide +kernel
theorem dX3_neverTaken_4 : decode cX3_neverTaken 4 = .ok (.iload_n 2, 1) := by decide +kernel
theorem dX3_neverTaken_5 : decode cX3_neverTaken 5 = .ok (.aload_n 0, 1) := by decide +kernel
theorem dX3_neverTaken_6 : decode cX3_neverTaken 6 = .ok (.getfield 46, 3) := by decide +kernel
theorem dX3_neverTaken_9 : decode cX3_neverTaken 9 = .ok (.if_icmp .ge 26, 3) := by decide +kernel
theorem dX3_neverTaken_12 : decode cX3_neverTaken 12 = .ok (.aload_n 0, 1) := by decide +kernel
theorem dX3_neverTaken_13 : decode cX3_neverTaken 13 = .ok (.getfield 33, 3) := by decide +kernel
theorem dX3_neverTaken_16 : decode cX3_neverTaken 16 = .ok (.getfield 82, 3) := by decide +kernel
theorem dX3_neverTaken_19 : decode cX3_neverTaken 19 = .ok (.iload_n 2, 1) := by decide +kernel
theorem dX3_neverTaken_20 : decode cX3_neverTaken 20 = .ok (.invokestatic 74, 3) := by decide +kernel
theorem dX3_neverTaken_23 : decode cX3_neverTaken 23 = .ok (.ifCond .ne 6, 3) := by decide +kernel
theorem dX3_neverTaken_26 : decode cX3_neverTaken 26 = .ok (.iinc 1 1, 3) := by decide +kernel
theorem dX3_neverTaken_29 : decode cX3_neverTaken 29 = .ok (.iinc 2 1, 3) := by decide +kernel
theorem dX3_neverTaken_32 : decode cX3_neverTaken 32 = .ok (.goto (-28), 3) := by decide +kernel
theorem dX3_neverTaken_35 : decode cX3_neverTaken 35 = .ok (.iload_n 1, 1) := by decide +kernel
theorem dX3_neverTaken_36 : decode cX3_neverTaken 36 = .ok (.ireturn, 1) := by decide +kernel
theorem dX3_mostTimes_0 : decode cX3_mostTimes 0 = .ok (.iconst 0, 1) := by decide +kernel
theorem dX3_mostTimes_1 : decode cX3_mostTimes 1 = .ok (.istore_n 1, 1) := by decide +kernel
theorem dX3_mostTimes_2 : decode cX3_mostTimes 2 = .ok (.iconst 0, 1) := by decide +kernel
theorem dX3_mostTimes_3 : decode cX3_mostTimes 3 = .ok (.istore_n 2, 1) := by decide +kernel
theorem dX3_mostTimes_4 : decode cX3_mostTimes 4 = .ok (.iload_n 2, 1) := by decide +kernel
theorem dX3_mostTimes_5 : decode cX3_mostTimes 5 = .ok (.aload_n 0, 1) := by decide +kernel
theorem dX3_mostTimes_6 : decode cX3_mostTimes 6 = .ok (.getfield 46, 3) := by decide +kernel
theorem dX3_mostTimes_9 : decode cX3_mostTimes 9 = .ok (.if_icmp .ge 25, 3) := by decide +kernel
theorem dX3_mostTimes_12 : decode cX3_mostTimes 12 = .ok (.iload_n 1, 1) := by decide +kernel
theorem dX3_mostTimes_13 : decode cX3_mostTimes 13 = .ok (.aload_n 0, 1) := by decide +kernel
theorem dX3_mostTimes_14 : decode cX3_mostTimes 14 = .ok (.getfield 33, 3) := by decide +kernel
theorem dX3_mostTimes_17 : decode cX3_mostTimes 17 = .ok (.getfield 82, 3) := by decide +kernel
theorem dX3_mostTimes_20 : decode cX3_mostTimes 20 = .ok (.iload_n 2, 1) := by decide +kernel
theorem dX3_mostTimes_21 : decode cX3_mostTimes 21 = .ok (.invokestatic 74, 3) := by decide +kernel
theorem dX3_mostTimes_24 : decode cX3_mostTimes 24 = .ok (.invokestatic 134, 3) := by decide +kernel
theorem dX3_mostTimes_27 : decode cX3_mostTimes 27 = .ok (.istore_n 1, 1) := by decide +kernel
theorem dX3_mostTimes_28 : decode cX3_mostTimes 28 = .ok (.iinc 2 1, 3) := by decide +kernel
theorem dX3_mostTimes_31 : decode cX3_mostTimes 31 = .ok (.goto (-27), 3) := by decide +kernel
theorem dX3_mostTimes_34 : decode cX3_mostTimes 34 = .ok (.iload_n 1, 1) := by decide +kernel
theorem dX3_mostTimes_35 : decode cX3_mostTimes 35 = .ok (.ireturn, 1) := by decide +kernel
theorem dX4_init_0 : decode cX4_init 0 = .ok (.aload_n 0, 1) := by decide +kernel
theorem dX4_init_1 : decode cX4_init 1 = .ok (.invokespecial 3, 3) := by decide +kernel
theorem dX4_init_4 : decode cX4_init 4 = .ok (.aload_n 0, 1) := by decide +kernel
theorem dX4_init_5 : decode cX4_init 5 = .ok (.sipush 169, 3) := by decide +kernel
theorem dX4_init_8 : decode cX4_init 8 = .ok (.newarray .long, 2) := by decide +kernel
theorem dX4_init_10 : decode cX4_init 10 = .ok (.putfield 11, 3) := by decide +kernel
theorem dX4_init_13 : decode cX4_init 13 = .ok (.return_, 1) := by decide +kernel
theorem dX4_begin_0 : decode cX4_begin 0 = .ok (.aload_n 0, 1) := by decide +kernel
theorem dX4_begin_1 : decode cX4_begin 1 = .ok (.getfield 11, 3) := by decide +kernel
theorem dX4_begin_4 : decode cX4_begin 4 = .ok (.lconst 0, 1) := by decide +kernel
theorem dX4_begin_5 : decode cX4_begin 5 = .ok (.invokestatic 15, 3) := by decide +kernel
theorem dX4_begin_8 : decode cX4_begin 8 = .ok (.aload_n 0, 1) := by decide +kernel
theorem dX4_begin_9 : decode cX4_begin 9 = .ok (.iconst 0, 1) := by decide +kernel
theorem dX4_begin_10 : decode cX4_begin 10 = .ok (.iconst 0, 1) := by decide +kernel
theorem dX4_begin_11 : decode cX4_begin 11 = .ok (.lconst 1, 1) := by decide +kernel
theorem dX4_begin_12 : decode cX4_begin 12 = .ok (.invokevirtual 21, 3) := by decide +kernel
theorem dX4_begin_15 : decode cX4_begin 15 = .ok (.return_, 1) := by decide +kernel
theorem dX4_get_0 : decode cX4_get 0 = .ok (.iload_n 1, 1) := by decide +kernel
theorem dX4_get_1 : decode cX4_get 1 = .ok (.ifCond .lt 19, 3) := by decide +kernel
theorem dX4_get_4 : decode cX4_get 4 = .ok (.iload_n 2, 1) := by decide +kernel
theorem dX4_get_5 : decode cX4_get 5 = .ok (.ifCond .lt 15, 3) := by decide +kernel
theorem dX4_get_8 : decode cX4_get 8 = .ok (.iload_n 1, 1) := by decide +kernel
theorem dX4_get_9 : decode cX4_get 9 = .ok (.bipush 13, 2) := by decide +kernel
theorem dX4_get_11 : decode cX4_get 11 = .ok (.if_icmp .ge 9, 3) := by decide +kernel
theorem dX4_get_14 : decode cX4_get 14 = .ok (.iload_n 2, 1) := by decide +kernel
theorem dX4_get_15 : decode cX4_get 15 = .ok (.bipush 13, 2) := by decide +kernel
theorem dX4_get_17 : decode cX4_get 17 = .ok (.if_icmp .lt 7, 3) := by decide +kernel
theorem dX4_get_20 : decode cX4_get 20 = .ok (.lconst 0, 1) := by decide +kernel
theorem dX4_get_21 : decode cX4_get 21 = .ok (.goto 14, 3) := by decide +kernel
theorem dX4_get_24 : decode cX4_get 24 = .ok (.aload_n 0, 1) := by decide +kernel
theorem dX4_get_25 : decode cX4_get 25 = .ok (.getfield 11, 3) := by decide +kernel
theorem dX4_get_28 : decode cX4_get 28 = .ok (.iload_n 1, 1) := by decide +kernel
theorem dX4_get_29 : decode cX4_get 29 = .ok (.bipush 13, 2) := by decide +kernel
theorem dX4_get_31 : decode cX4_get 31 = .ok (.imul, 1) := by decide +kernel
theorem dX4_get_32 : decode cX4_get 32 = .ok (.iload_n 2, 1) := by decide +kernel
theorem dX4_get_33 : decode cX4_get 33 = .ok (.iadd, 1) := by decide +kernel
theorem dX4_get_34 : decode cX4_get 34 = .ok (.laload, 1) := by decide +kernel
theorem dX4_get_35 : decode cX4_get 35 = .ok (.lreturn, 1) := by decide +kernel
theorem dX4_set_0 : decode cX4_set 0 = .ok (.iload_n 1, 1) := by decide +kernel
theorem dX4_set_1 : decode cX4_set 1 = .ok (.ifCond .lt 31, 3) := by decide +kernel
theorem dX4_set_4 : decode cX4_set 4 = .ok (.iload_n 2, 1) := by decide +kernel
theorem dX4_set_5 : decode cX4_set 5 = .ok (.ifCond .lt 27, 3) := by decide +kernel
theorem dX4_set_8 : decode cX4_set 8 = .ok (.iload_n 1, 1) := by decide +kernel
theorem dX4_set_9 : decode cX4_set 9 = .ok (.bipush 13, 2) := by decide +kernel
theorem dX4_set_11 : decode cX4_set 11 = .ok (.if_icmp .ge 21, 3) := by decide +kernel
theorem dX4_set_14 : decode cX4_set 14 = .ok (.iload_n 2, 1) := by decide +kernel
theorem dX4_set_15 : decode cX4_set 15 = .ok (.bipush 13, 2) := by decide +kernel
theorem dX4_set_17 : decode cX4_set 17 = .ok (.if_icmp .ge 15, 3) := by decide +kernel
theorem dX4_set_20 : decode cX4_set 20 = .ok (.aload_n 0, 1) := by decide +kernel
theorem dX4_set_21 : decode cX4_set 21 = .ok (.getfield 11, 3) := by decide +kernel
theorem dX4_set_24 : decode cX4_set 24 = .ok (.iload_n 1, 1) := by decide +kernel
theorem dX4_set_25 : decode cX4_set 25 = .ok (.bipush 13, 2) := by decide +kernel
theorem dX4_set_27 : decode cX4_set 27 = .ok (.imul, 1) := by decide +kernel
theorem dX4_set_28 : decode cX4_set 28 = .ok (.iload_n 2, 1) := by decide +kernel
theorem dX4_set_29 : decode cX4_set 29 = .ok (.iadd, 1) := by decide +kernel
theorem dX4_set_30 : decode cX4_set 30 = .ok (.lload_n 3, 1) := by decide +kernel
theorem dX4_set_31 : decode cX4_set 31 = .ok (.lastore, 1) := by decide +kernel
theorem dX4_set_32 : decode cX4_set 32 = .ok (.return_, 1) := by decide +kernel
theorem dX4_join_0 : decode cX4_join 0 = .ok (.bipush 12, 2) := by decide +kernel
theorem dX4_join_2 : decode cX4_join 2 = .ok (.istore 9, 2) := by decide +kernel
theorem dX4_join_4 : decode cX4_join 4 = .ok (.iload 9, 2) := by decide +kernel
theorem dX4_join_6 : decode cX4_join 6 = .ok (.ifCond .lt 85, 3) := by decide +kernel
theorem dX4_join_9 : decode cX4_join 9 = .ok (.bipush 12, 2) := by decide +kernel
theorem dX4_join_11 : decode cX4_join 11 = .ok (.istore 10, 2) := by decide +kernel
theorem dX4_join_13 : decode cX4_join 13 = .ok (.iload 10, 2) := by decide +kernel
theorem dX4_join_15 : decode cX4_join 15 = .ok (.ifCond .lt 70, 3) := by decide +kernel
theorem dX4_join_18 : decode cX4_join 18 = .ok (.aload_n 0, 1) := by decide +kernel
theorem dX4_join_19 : decode cX4_join 19 = .ok (.iload 9, 2) := by decide +kernel
theorem dX4_join_21 : decode cX4_join 21 = .ok (.iload 10, 2) := by decide +kernel
theorem dX4_join_23 : decode cX4_join 23 = .ok (.aload_n 0, 1) := by decide +kernel
theorem dX4_join_24 : decode cX4_join 24 = .ok (.iload 9, 2) := by decide +kernel
theorem dX4_join_26 : decode cX4_join 26 = .ok (.iload 10, 2) := by decide +kernel
theorem dX4_join_28 : decode cX4_join 28 = .ok (.invokevirtual 25, 3) := by decide +kernel
theorem dX4_join_31 : decode cX4_join 31 = .ok (.lload 7, 2) := by decide +kernel
theorem dX4_join_33 : decode cX4_join 33 = .ok (.lmul, 1) := by decide +kernel
theorem dX4_join_34 : decode cX4_join 34 = .ok (.aload_n 0, 1) := by decide +kernel
theorem dX4_join_35 : decode cX4_join 35 = .ok (.iload 9, 2) := by decide +kernel
theorem dX4_join_37 : decode cX4_join 37 = .ok (.iconst 1, 1) := by decide +kernel
theorem dX4_join_38 : decode cX4_join 38 = .ok (.isub, 1) := by decide +kernel
theorem dX4_join_39 : decode cX4_join 39 = .ok (.iload 10, 2) := by decide +kernel
theorem dX4_join_41 : decode cX4_join 41 = .ok (.invokevirtual 25, 3) := by decide +kernel
theorem dX4_join_44 : decode cX4_join 44 = .ok (.lload_n 3, 1) := by decide +kernel
theorem dX4_join_45 : decode cX4_join 45 = .ok (.lmul, 1) := by decide +kernel
theorem dX4_join_46 : decode cX4_join 46 = .ok (.ladd, 1) := by decide +kernel
theorem dX4_join_47 : decode cX4_join 47 = .ok (.aload_n 0, 1) := by decide +kernel
theorem dX4_join_48 : decode cX4_join 48 = .ok (.iload 9, 2) := by decide +kernel
theorem dX4_join_50 : decode cX4_join 50 = .ok (.iload 10, 2) := by decide +kernel
theorem dX4_join_52 : decode cX4_join 52 = .ok (.iconst 1, 1) := by decide +kernel
theorem dX4_join_53 : decode cX4_join 53 = .ok (.isub, 1) := by decide +kernel
theorem dX4_join_54 : decode cX4_join 54 = .ok (.invokevirtual 25, 3) := by decide +kernel
theorem dX4_join_57 : decode cX4_join 57 = .ok (.lload 5, 2) := by decide +kernel
theorem dX4_join_59 : decode cX4_join 59 = .ok (.lmul, 1) := by decide +kernel
theorem dX4_join_60 : decode cX4_join 60 = .ok (.ladd, 1) := by decide +kernel
theorem dX4_join_61 : decode cX4_join 61 = .ok (.aload_n 0, 1) := by decide +kernel
theorem dX4_join_62 : decode cX4_join 62 = .ok (.iload 9, 2) := by decide +kernel
theorem dX4_join_64 : decode cX4_join 64 = .ok (.iconst 1, 1) := by decide +kernel
theorem dX4_join_65 : decode cX4_join 65 = .ok (.isub, 1) := by decide +kernel
theorem dX4_join_66 : decode cX4_join 66 = .ok (.iload 10, 2) := by decide +kernel
theorem dX4_join_68 : decode cX4_join 68 = .ok (.iconst 1, 1) := by decide +kernel
theorem dX4_join_69 : decode cX4_join 69 = .ok (.isub, 1) := by decide +kernel
theorem dX4_join_70 : decode cX4_join 70 = .ok (.invokevirtual 25, 3) := by decide +kernel
theorem dX4_join_73 : decode cX4_join 73 = .ok (.lload_n 1, 1) := by decide +kernel
theorem dX4_join_74 : decode cX4_join 74 = .ok (.lmul, 1) := by decide +kernel
theorem dX4_join_75 : decode cX4_join 75 = .ok (.ladd, 1) := by decide +kernel
theorem dX4_join_76 : decode cX4_join 76 = .ok (.invokevirtual 21, 3) := by decide +kernel
theorem dX4_join_79 : decode cX4_join 79 = .ok (.iinc 10 (-1), 3) := by decide +kernel
theorem dX4_join_82 : decode cX4_join 82 = .ok (.goto (-69), 3) := by decide +kernel
theorem dX4_join_85 : decode cX4_join 85 = .ok (.iinc 9 (-1), 3) := by decide +kernel
theorem dX4_join_88 : decode cX4_join 88 = .ok (.goto (-84), 3) := by decide +kernel
theorem dX4_join_91 : decode cX4_join 91 = .ok (.return_, 1) := by decide +kernel
theorem dX4_allOf_0 : decode cX4_allOf 0 = .ok (.lconst 0, 1) := by decide +kernel
theorem dX4_allOf_1 : decode cX4_allOf 1 = .ok (.lstore_n 2, 1) := by decide +kernel
theorem dX4_allOf_2 : decode cX4_allOf 2 = .ok (.iconst 0, 1) := by decide +kernel
theorem dX4_allOf_3 : decode cX4_allOf 3 = .ok (.istore 4, 2) := by decide +kernel
theorem dX4_allOf_5 : decode cX4_allOf 5 = .ok (.iload 4, 2) := by decide +kernel
theorem dX4_allOf_7 : decode cX4_allOf 7 = .ok (.bipush 13, 2) := by decide +kernel
theorem dX4_allOf_9 : decode cX4_allOf 9 = .ok (.if_icmp .ge 19, 3) := by decide +kernel
theorem dX4_allOf_12 : decode cX4_allOf 12 = .ok (.lload_n 2, 1) := by decide +kernel
theorem dX4_allOf_13 : decode cX4_allOf 13 = .ok (.aload_n 0, 1) := by decide +kernel
theorem dX4_allOf_14 : decode cX4_allOf 14 = .ok (.iload_n 1, 1) := by decide +kernel
theorem dX4_allOf_15 : decode cX4_allOf 15 = .ok (.iload 4, 2) := by decide +kernel
theorem dX4_allOf_17 : decode cX4_allOf 17 = .ok (.invokevirtual 25, 3) := by decide +kernel
theorem dX4_allOf_20 : decode cX4_allOf 20 = .ok (.ladd, 1) := by decide +kernel
theorem dX4_allOf_21 : decode cX4_allOf 21 = .ok (.lstore_n 2, 1) := by decide +kernel
theorem dX4_allOf_22 : decode cX4_allOf 22 = .ok (.iinc 4 1, 3) := by decide +kernel
theorem dX4_allOf_25 : decode cX4_allOf 25 = .ok (.goto (-20), 3) := by decide +kernel
theorem dX4_allOf_28 : decode cX4_allOf 28 = .ok (.lload_n 2, 1) := by decide +kernel
theorem dX4_allOf_29 : decode cX4_allOf 29 = .ok (.lreturn, 1) := by decide +kernel
theorem dX5_init_0 : decode cX5_init 0 = .ok (.aload_n 0, 1) := by decide +kernel
theorem dX5_init_1 : decode cX5_init 1 = .ok (.invokespecial 3, 3) := by decide +kernel
theorem dX5_init_4 : decode cX5_init 4 = .ok (.aload_n 0, 1) := by decide +kernel
theorem dX5_init_5 : decode cX5_init 5 = .ok (.bipush 12, 2) := by decide +kernel
theorem dX5_init_7 : decode cX5_init 7 = .ok (.newarray .int, 2) := by decide +kernel
theorem dX5_init_9 : decode cX5_init 9 = .ok (.putfield 9, 3) := by decide +kernel
theorem dX5_init_12 : decode cX5_init 12 = .ok (.aload_n 0, 1) := by decide +kernel
theorem dX5_init_13 : decode cX5_init 13 = .ok (.bipush 12, 2) := by decide +kernel
theorem dX5_init_15 : decode cX5_init 15 = .ok (.newarray .int, 2) := by decide +kernel
theorem dX5_init_17 : decode cX5_init 17 = .ok (.putfield 15, 3) := by decide +kernel
theorem dX5_init_20 : decode cX5_init 20 = .ok (.aload_n 0, 1) := by decide +kernel
theorem dX5_init_21 : decode cX5_init 21 = .ok (.new 18, 3) := by decide +kernel
theorem dX5_init_24 : decode cX5_init 24 = .ok (.dup, 1) := by decide +kernel
theorem dX5_init_25 : decode cX5_init 25 = .ok (.invokespecial 20, 3) := by decide +kernel
theorem dX5_init_28 : decode cX5_init 28 = .ok (.putfield 21, 3) := by decide +kernel
theorem dX5_init_31 : decode cX5_init 31 = .ok (.return_, 1) := by decide +kernel
theorem dX5_add_0 : decode cX5_add 0 = .ok (.aload_n 0, 1) := by decide +kernel
theorem dX5_add_1 : decode cX5_add 1 = .ok (.getfield 25, 3) := by decide +kernel
theorem dX5_add_4 : decode cX5_add 4 = .ok (.bipush 12, 2) := by decide +kernel
theorem dX5_add_6 : decode cX5_add 6 = .ok (.if_icmp .lt 6, 3) := by decide +kernel
theorem dX5_add_9 : decode cX5_add 9 = .ok (.bipush (-4), 2) := by decide +kernel
theorem dX5_add_11 : decode cX5_add 11 = .ok (.ireturn, 1) := by decide +kernel
theorem dX5_add_12 : decode cX5_add 12 = .ok (.aload_n 0, 1) := by decide +kernel
theorem dX5_add_13 : decode cX5_add 13 = .ok (.getfield 9, 3) := by decide +kernel
theorem dX5_add_16 : decode cX5_add 16 = .ok (.aload_n 0, 1) := by decide +kernel
theorem dX5_add_17 : decode cX5_add 17 = .ok (.getfield 25, 3) := by decide +kernel
theorem dX5_add_20 : decode cX5_add 20 = .ok (.iload_n 1, 1) := by decide +kernel
theorem dX5_add_21 : decode cX5_add 21 = .ok (.invokestatic 29, 3) := by decide +kernel
theorem dX5_add_24 : decode cX5_add 24 = .ok (.aload_n 0, 1) := by decide +kernel
theorem dX5_add_25 : decode cX5_add 25 = .ok (.getfield 15, 3) := by decide +kernel
theorem dX5_add_28 : decode cX5_add 28 = .ok (.aload_n 0, 1) := by decide +kernel
theorem dX5_add_29 : decode cX5_add 29 = .ok (.getfield 25, 3) := by decide +kernel
theorem dX5_add_32 : decode cX5_add 32 = .ok (.iload_n 2, 1) := by decide +kernel
theorem dX5_add_33 : decode cX5_add 33 = .ok (.invokestatic 29, 3) := by decide +kernel
theorem dX5_add_36 : decode cX5_add 36 = .ok (.aload_n 0, 1) := by decide +kernel
theorem dX5_add_37 : decode cX5_add 37 = .ok (.dup, 1) := by decide +kernel
theorem dX5_add_38 : decode cX5_add 38 = .ok (.getfield 25, 3) := by decide +kernel
theorem dX5_add_41 : decode cX5_add 41 = .ok (.iconst 1, 1) := by decide +kernel
theorem dX5_add_42 : decode cX5_add 42 = .ok (.iadd, 1) := by decide +kernel
theorem dX5_add_43 : decode cX5_add 43 = .ok (.putfield 25, 3) := by decide +kernel
theorem dX5_add_46 : decode cX5_add 46 = .ok (.aload_n 0, 1) := by decide +kernel
theorem dX5_add_47 : decode cX5_add 47 = .ok (.getfield 25, 3) := by decide +kernel
theorem dX5_add_50 : decode cX5_add 50 = .ok (.ireturn, 1) := by decide +kernel
theorem dX5_empty_0 : decode cX5_empty 0 = .ok (.aload_n 0, 1) := by decide +kernel
theorem dX5_empty_1 : decode cX5_empty 1 = .ok (.getfield 25, 3) := by decide +kernel
theorem dX5_empty_4 : decode cX5_empty 4 = .ok (.istore_n 1, 1) := by decide +kernel
theorem dX5_empty_5 : decode cX5_empty 5 = .ok (.aload_n 0, 1) := by decide +kernel
theorem dX5_empty_6 : decode cX5_empty 6 = .ok (.iconst 0, 1) := by decide +kernel
theorem dX5_empty_7 : decode cX5_empty 7 = .ok (.putfield 25, 3) := by decide +kernel
theorem dX5_empty_10 : decode cX5_empty 10 = .ok (.iload_n 1, 1) := by decide +kernel
theorem dX5_empty_11 : decode cX5_empty 11 = .ok (.ireturn, 1) := by decide +kernel
theorem dX5_takenOf_0 : decode cX5_takenOf 0 = .ok (.iconst 0, 1) := by decide +kernel
theorem dX5_takenOf_1 : decode cX5_takenOf 1 = .ok (.istore_n 2, 1) := by decide +kernel
theorem dX5_takenOf_2 : decode cX5_takenOf 2 = .ok (.iconst 0, 1) := by decide +kernel
theorem dX5_takenOf_3 : decode cX5_takenOf 3 = .ok (.istore_n 3, 1) := by decide +kernel
theorem dX5_takenOf_4 : decode cX5_takenOf 4 = .ok (.iload_n 3, 1) := by decide +kernel
theorem dX5_takenOf_5 : decode cX5_takenOf 5 = .ok (.aload_n 0, 1) := by decide +kernel
theorem dX5_takenOf_6 : decode cX5_takenOf 6 = .ok (.getfield 25, 3) := by decide +kernel
theorem dX5_takenOf_9 : decode cX5_takenOf 9 = .ok (.if_icmp .ge 27, 3) := by decide +kernel
theorem dX5_takenOf_12 : decode cX5_takenOf 12 = .ok (.iload_n 1, 1) := by decide +kernel
theorem dX5_takenOf_13 : decode cX5_takenOf 13 = .ok (.aload_n 0, 1) := by decide +kernel
theorem dX5_takenOf_14 : decode cX5_takenOf 14 = .ok (.getfield 15, 3) := by decide +kernel
theorem dX5_takenOf_17 : decode cX5_takenOf 17 = .ok (.iload_n 3, 1) := by decide +kernel
theorem dX5_takenOf_18 : decode cX5_takenOf 18 = .ok (.invokestatic 33, 3) := by decide +kernel
theorem dX5_takenOf_21 : decode cX5_takenOf 21 = .ok (.invokestatic 37, 3) := by decide +kernel
theorem dX5_takenOf_24 : decode cX5_takenOf 24 = .ok (.ifCond .eq 6, 3) := by decide +kernel
theorem dX5_takenOf_27 : decode cX5_takenOf 27 = .ok (.iinc 2 1, 3) := by decide +kernel
theorem dX5_takenOf_30 : decode cX5_takenOf 30 = .ok (.iinc 3 1, 3) := by decide +kernel
theorem dX5_takenOf_33 : decode cX5_takenOf 33 = .ok (.goto (-29), 3) := by decide +kernel
theorem dX5_takenOf_36 : decode cX5_takenOf 36 = .ok (.iload_n 2, 1) := by decide +kernel
theorem dX5_takenOf_37 : decode cX5_takenOf 37 = .ok (.ireturn, 1) := by decide +kernel
theorem dX5_sharesOf_0 : decode cX5_sharesOf 0 = .ok (.lconst 0, 1) := by decide +kernel
theorem dX5_sharesOf_1 : decode cX5_sharesOf 1 = .ok (.lstore_n 2, 1) := by decide +kernel
theorem dX5_sharesOf_2 : decode cX5_sharesOf 2 = .ok (.iconst 0, 1) := by decide +kernel
theorem dX5_sharesOf_3 : decode cX5_sharesOf 3 = .ok (.istore 4, 2) := by decide +kernel
theorem dX5_sharesOf_5 : decode cX5_sharesOf 5 = .ok (.iload 4, 2) := by decide +kernel
theorem dX5_sharesOf_7 : decode cX5_sharesOf 7 = .ok (.aload_n 0, 1) := by decide +kernel
theorem dX5_sharesOf_8 : decode cX5_sharesOf 8 = .ok (.getfield 25, 3) := by decide +kernel
theorem dX5_sharesOf_11 : decode cX5_sharesOf 11 = .ok (.if_icmp .ge 43, 3) := by decide +kernel
theorem dX5_sharesOf_14 : decode cX5_sharesOf 14 = .ok (.lload_n 2, 1) := by decide +kernel
theorem dX5_sharesOf_15 : decode cX5_sharesOf 15 = .ok (.aload_n 0, 1) := by decide +kernel
theorem dX5_sharesOf_16 : decode cX5_sharesOf 16 = .ok (.getfield 9, 3) := by decide +kernel
theorem dX5_sharesOf_19 : decode cX5_sharesOf 19 = .ok (.iload 4, 2) := by decide +kernel
theorem dX5_sharesOf_21 : decode cX5_sharesOf 21 = .ok (.invokestatic 33, 3) := by decide +kernel
theorem dX5_sharesOf_24 : decode cX5_sharesOf 24 = .ok (.iload_n 1, 1) := by decide +kernel
theorem dX5_sharesOf_25 : decode cX5_sharesOf 25 = .ok (.iand, 1) := by decide +kernel
theorem dX5_sharesOf_26 : decode cX5_sharesOf 26 = .ok (.invokestatic 41, 3) := by decide +kernel
theorem dX5_sharesOf_29 : decode cX5_sharesOf 29 = .ok (.i2l, 1) := by decide +kernel
theorem dX5_sharesOf_30 : decode cX5_sharesOf 30 = .ok (.aload_n 0, 1) := by decide +kernel
theorem dX5_sharesOf_31 : decode cX5_sharesOf 31 = .ok (.getfield 9, 3) := by decide +kernel
theorem dX5_sharesOf_34 : decode cX5_sharesOf 34 = .ok (.iload 4, 2) := by decide +kernel
theorem dX5_sharesOf_36 : decode cX5_sharesOf 36 = .ok (.invokestatic 33, 3) := by decide +kernel
theorem dX5_sharesOf_39 : decode cX5_sharesOf 39 = .ok (.invokestatic 41, 3) := by decide +kernel
theorem dX5_sharesOf_42 : decode cX5_sharesOf 42 = .ok (.invokestatic 47, 3) := by decide +kernel
theorem dX5_sharesOf_45 : decode cX5_sharesOf 45 = .ok (.lmul, 1) := by decide +kernel
theorem dX5_sharesOf_46 : decode cX5_sharesOf 46 = .ok (.ladd, 1) := by decide +kernel
theorem dX5_sharesOf_47 : decode cX5_sharesOf 47 = .ok (.lstore_n 2, 1) := by decide +kernel
theorem dX5_sharesOf_48 : decode cX5_sharesOf 48 = .ok (.iinc 4 1, 3) := by decide +kernel
theorem dX5_sharesOf_51 : decode cX5_sharesOf 51 = .ok (.goto (-46), 3) := by decide +kernel
theorem dX5_sharesOf_54 : decode cX5_sharesOf 54 = .ok (.lload_n 2, 1) := by decide +kernel
theorem dX5_sharesOf_55 : decode cX5_sharesOf 55 = .ok (.lreturn, 1) := by decide +kernel
theorem dX5_ways_0 : decode cX5_ways 0 = .ok (.lconst 1, 1) := by decide +kernel
theorem dX5_ways_1 : decode cX5_ways 1 = .ok (.lstore_n 1, 1) := by decide +kernel
theorem dX5_ways_2 : decode cX5_ways 2 = .ok (.iconst 0, 1) := by decide +kernel
theorem dX5_ways_3 : decode cX5_ways 3 = .ok (.istore_n 3, 1) := by decide +kernel
theorem dX5_ways_4 : decode cX5_ways 4 = .ok (.iload_n 3, 1) := by decide +kernel
theorem dX5_ways_5 : decode cX5_ways 5 = .ok (.aload_n 0, 1) := by decide +kernel
theorem dX5_ways_6 : decode cX5_ways 6 = .ok (.getfield 25, 3) := by decide +kernel
theorem dX5_ways_9 : decode cX5_ways 9 = .ok (.if_icmp .ge 24, 3) := by decide +kernel
theorem dX5_ways_12 : decode cX5_ways 12 = .ok (.lload_n 1, 1) := by decide +kernel
theorem dX5_ways_13 : decode cX5_ways 13 = .ok (.aload_n 0, 1) := by decide +kernel
theorem dX5_ways_14 : decode cX5_ways 14 = .ok (.getfield 9, 3) := by decide +kernel
theorem dX5_ways_17 : decode cX5_ways 17 = .ok (.iload_n 3, 1) := by decide +kernel
theorem dX5_ways_18 : decode cX5_ways 18 = .ok (.invokestatic 33, 3) := by decide +kernel
theorem dX5_ways_21 : decode cX5_ways 21 = .ok (.invokestatic 41, 3) := by decide +kernel
theorem dX5_ways_24 : decode cX5_ways 24 = .ok (.i2l, 1) := by decide +kernel
theorem dX5_ways_25 : decode cX5_ways 25 = .ok (.lmul, 1) := by decide +kernel
theorem dX5_ways_26 : decode cX5_ways 26 = .ok (.lstore_n 1, 1) := by decide +kernel
theorem dX5_ways_27 : decode cX5_ways 27 = .ok (.iinc 3 1, 3) := by decide +kernel
theorem dX5_ways_30 : decode cX5_ways 30 = .ok (.goto (-26), 3) := by decide +kernel
theorem dX5_ways_33 : decode cX5_ways 33 = .ok (.lload_n 1, 1) := by decide +kernel
theorem dX5_ways_34 : decode cX5_ways 34 = .ok (.lreturn, 1) := by decide +kernel
theorem dX5_waysToAsMany_0 : decode cX5_waysToAsMany 0 = .ok (.aload_n 0, 1) := by decide +kernel
theorem dX5_waysToAsMany_1 : decode cX5_waysToAsMany 1 = .ok (.getfield 21, 3) := by decide +kernel
theorem dX5_waysToAsMany_4 : decode cX5_waysToAsMany 4 = .ok (.invokevirtual 51, 3) := by decide +kernel
theorem dX5_waysToAsMany_7 : decode cX5_waysToAsMany 7 = .ok (.iconst 0, 1) := by decide +kernel
theorem dX5_waysToAsMany_8 : decode cX5_waysToAsMany 8 = .ok (.istore_n 2, 1) := by decide +kernel
theorem dX5_waysToAsMany_9 : decode cX5_waysToAsMany 9 = .ok (.iload_n 2, 1) := by decide +kernel
theorem dX5_waysToAsMany_10 : decode cX5_waysToAsMany 10 = .ok (.aload_n 0, 1) := by decide +kernel
theorem dX5_waysToAsMany_11 : decode cX5_waysToAsMany 11 = .ok (.getfield 25, 3) := by decide +kernel
theorem dX5_waysToAsMany_14 : decode cX5_waysToAsMany 14 = .ok (.if_icmp .ge 43, 3) := by decide +kernel
theorem dX5_waysToAsMany_17 : decode cX5_waysToAsMany 17 = .ok (.aload_n 0, 1) := by decide +kernel
theorem dX5_waysToAsMany_18 : decode cX5_waysToAsMany 18 = .ok (.getfield 9, 3) := by decide +kernel
theorem dX5_waysToAsMany_21 : decode cX5_waysToAsMany 21 = .ok (.iload_n 2, 1) := by decide +kernel
theorem dX5_waysToAsMany_22 : decode cX5_waysToAsMany 22 = .ok (.invokestatic 33, 3) := by decide +kernel
theorem dX5_waysToAsMany_25 : decode cX5_waysToAsMany 25 = .ok (.istore_n 3, 1) := by decide +kernel
theorem dX5_waysToAsMany_26 : decode cX5_waysToAsMany 26 = .ok (.aload_n 0, 1) := by decide +kernel
theorem dX5_waysToAsMany_27 : decode cX5_waysToAsMany 27 = .ok (.getfield 21, 3) := by decide +kernel
theorem dX5_waysToAsMany_30 : decode cX5_waysToAsMany 30 = .ok (.lconst 0, 1) := by decide +kernel
theorem dX5_waysToAsMany_31 : decode cX5_waysToAsMany 31 = .ok (.iload_n 3, 1) := by decide +kernel
theorem dX5_waysToAsMany_32 : decode cX5_waysToAsMany 32 = .ok (.iload_n 1, 1) := by decide +kernel
theorem dX5_waysToAsMany_33 : decode cX5_waysToAsMany 33 = .ok (.iand, 1) := by decide +kernel
theorem dX5_waysToAsMany_34 : decode cX5_waysToAsMany 34 = .ok (.invokestatic 41, 3) := by decide +kernel
theorem dX5_waysToAsMany_37 : decode cX5_waysToAsMany 37 = .ok (.i2l, 1) := by decide +kernel
theorem dX5_waysToAsMany_38 : decode cX5_waysToAsMany 38 = .ok (.lconst 0, 1) := by decide +kernel
theorem dX5_waysToAsMany_39 : decode cX5_waysToAsMany 39 = .ok (.iload_n 3, 1) := by decide +kernel
theorem dX5_waysToAsMany_40 : decode cX5_waysToAsMany 40 = .ok (.iload_n 1, 1) := by decide +kernel
theorem dX5_waysToAsMany_41 : decode cX5_waysToAsMany 41 = .ok (.iconst (-1), 1) := by decide +kernel
theorem dX5_waysToAsMany_42 : decode cX5_waysToAsMany 42 = .ok (.ixor, 1) := by decide +kernel
theorem dX5_waysToAsMany_43 : decode cX5_waysToAsMany 43 = .ok (.iand, 1) := by decide +kernel
theorem dX5_waysToAsMany_44 : decode cX5_waysToAsMany 44 = .ok (.invokestatic 41, 3) := by decide +kernel
theorem dX5_waysToAsMany_47 : decode cX5_waysToAsMany 47 = .ok (.i2l, 1) := by decide +kernel
theorem dX5_waysToAsMany_48 : decode cX5_waysToAsMany 48 = .ok (.invokevirtual 54, 3) := by decide +kernel
theorem dX5_waysToAsMany_51 : decode cX5_waysToAsMany 51 = .ok (.iinc 2 1, 3) := by decide +kernel
theorem dX5_waysToAsMany_54 : decode cX5_waysToAsMany 54 = .ok (.goto (-45), 3) := by decide +kernel
theorem dX5_waysToAsMany_57 : decode cX5_waysToAsMany 57 = .ok (.lconst 0, 1) := by decide +kernel
theorem dX5_waysToAsMany_58 : decode cX5_waysToAsMany 58 = .ok (.lstore_n 2, 1) := by decide +kernel
theorem dX5_waysToAsMany_59 : decode cX5_waysToAsMany 59 = .ok (.aload_n 0, 1) := by decide +kernel
theorem dX5_waysToAsMany_60 : decode cX5_waysToAsMany 60 = .ok (.iload_n 1, 1) := by decide +kernel
theorem dX5_waysToAsMany_61 : decode cX5_waysToAsMany 61 = .ok (.invokevirtual 58, 3) := by decide +kernel
theorem dX5_waysToAsMany_64 : decode cX5_waysToAsMany 64 = .ok (.istore 4, 2) := by decide +kernel
theorem dX5_waysToAsMany_66 : decode cX5_waysToAsMany 66 = .ok (.iload 4, 2) := by decide +kernel
theorem dX5_waysToAsMany_68 : decode cX5_waysToAsMany 68 = .ok (.aload_n 0, 1) := by decide +kernel
theorem dX5_waysToAsMany_69 : decode cX5_waysToAsMany 69 = .ok (.getfield 25, 3) := by decide +kernel
theorem dX5_waysToAsMany_72 : decode cX5_waysToAsMany 72 = .ok (.if_icmp .gt 22, 3) := by decide +kernel
theorem dX5_waysToAsMany_75 : decode cX5_waysToAsMany 75 = .ok (.lload_n 2, 1) := by decide +kernel
theorem dX5_waysToAsMany_76 : decode cX5_waysToAsMany 76 = .ok (.aload_n 0, 1) := by decide +kernel
theorem dX5_waysToAsMany_77 : decode cX5_waysToAsMany 77 = .ok (.getfield 21, 3) := by decide +kernel
theorem dX5_waysToAsMany_80 : decode cX5_waysToAsMany 80 = .ok (.iload 4, 2) := by decide +kernel
theorem dX5_waysToAsMany_82 : decode cX5_waysToAsMany 82 = .ok (.iconst 0, 1) := by decide +kernel
theorem dX5_waysToAsMany_83 : decode cX5_waysToAsMany 83 = .ok (.invokevirtual 61, 3) := by decide +kernel
theorem dX5_waysToAsMany_86 : decode cX5_waysToAsMany 86 = .ok (.ladd, 1) := by decide +kernel
theorem dX5_waysToAsMany_87 : decode cX5_waysToAsMany 87 = .ok (.lstore_n 2, 1) := by decide +kernel
theorem dX5_waysToAsMany_88 : decode cX5_waysToAsMany 88 = .ok (.iinc 4 1, 3) := by decide +kernel
theorem dX5_waysToAsMany_91 : decode cX5_waysToAsMany 91 = .ok (.goto (-25), 3) := by decide +kernel
theorem dX5_waysToAsMany_94 : decode cX5_waysToAsMany 94 = .ok (.lload_n 2, 1) := by decide +kernel
theorem dX5_waysToAsMany_95 : decode cX5_waysToAsMany 95 = .ok (.lreturn, 1) := by decide +kernel
theorem dX6_init_0 : decode cX6_init 0 = .ok (.aload_n 0, 1) := by decide +kernel
theorem dX6_init_1 : decode cX6_init 1 = .ok (.invokespecial 3, 3) := by decide +kernel
theorem dX6_init_4 : decode cX6_init 4 = .ok (.aload_n 0, 1) := by decide +kernel
theorem dX6_init_5 : decode cX6_init 5 = .ok (.bipush 72, 2) := by decide +kernel
theorem dX6_init_7 : decode cX6_init 7 = .ok (.newarray .int, 2) := by decide +kernel
theorem dX6_init_9 : decode cX6_init 9 = .ok (.putfield 9, 3) := by decide +kernel
theorem dX6_init_12 : decode cX6_init 12 = .ok (.return_, 1) := by decide +kernel
theorem dX6_append_0 : decode cX6_append 0 = .ok (.aload_n 0, 1) := by decide +kernel
theorem dX6_append_1 : decode cX6_append 1 = .ok (.getfield 15, 3) := by decide +kernel
theorem dX6_append_4 : decode cX6_append 4 = .ok (.iload_n 1, 1) := by decide +kernel
theorem dX6_append_5 : decode cX6_append 5 = .ok (.iadd, 1) := by decide +kernel
theorem dX6_append_6 : decode cX6_append 6 = .ok (.bipush 72, 2) := by decide +kernel
theorem dX6_append_8 : decode cX6_append 8 = .ok (.if_icmp .le 6, 3) := by decide +kernel
theorem dX6_append_11 : decode cX6_append 11 = .ok (.bipush (-4), 2) := by decide +kernel
theorem dX6_append_13 : decode cX6_append 13 = .ok (.ireturn, 1) := by decide +kernel
theorem dX6_append_14 : decode cX6_append 14 = .ok (.iload_n 1, 1) := by decide +kernel
theorem dX6_append_15 : decode cX6_append 15 = .ok (.iconst 1, 1) := by decide +kernel
theorem dX6_append_16 : decode cX6_append 16 = .ok (.isub, 1) := by decide +kernel
theorem dX6_append_17 : decode cX6_append 17 = .ok (.istore 4, 2) := by decide +kernel
theorem dX6_append_19 : decode cX6_append 19 = .ok (.iload 4, 2) := by decide +kernel
theorem dX6_append_21 : decode cX6_append 21 = .ok (.ifCond .lt 42, 3) := by decide +kernel
theorem dX6_append_24 : decode cX6_append 24 = .ok (.aload_n 0, 1) := by decide +kernel
theorem dX6_append_25 : decode cX6_append 25 = .ok (.getfield 9, 3) := by decide +kernel
theorem dX6_append_28 : decode cX6_append 28 = .ok (.aload_n 0, 1) := by decide +kernel
theorem dX6_append_29 : decode cX6_append 29 = .ok (.getfield 15, 3) := by decide +kernel
theorem dX6_append_32 : decode cX6_append 32 = .ok (.lload_n 2, 1) := by decide +kernel
theorem dX6_append_33 : decode cX6_append 33 = .ok (.bipush 8, 2) := by decide +kernel
theorem dX6_append_35 : decode cX6_append 35 = .ok (.iload 4, 2) := by decide +kernel
theorem dX6_append_37 : decode cX6_append 37 = .ok (.imul, 1) := by decide +kernel
theorem dX6_append_38 : decode cX6_append 38 = .ok (.lushr, 1) := by decide +kernel
theorem dX6_append_39 : decode cX6_append 39 = .ok (.l2i, 1) := by decide +kernel
theorem dX6_append_40 : decode cX6_append 40 = .ok (.sipush 255, 3) := by decide +kernel
theorem dX6_append_43 : decode cX6_append 43 = .ok (.iand, 1) := by decide +kernel
theorem dX6_append_44 : decode cX6_append 44 = .ok (.invokestatic 19, 3) := by decide +kernel
theorem dX6_append_47 : decode cX6_append 47 = .ok (.aload_n 0, 1) := by decide +kernel
theorem dX6_append_48 : decode cX6_append 48 = .ok (.dup, 1) := by decide +kernel
theorem dX6_append_49 : decode cX6_append 49 = .ok (.getfield 15, 3) := by decide +kernel
theorem dX6_append_52 : decode cX6_append 52 = .ok (.iconst 1, 1) := by decide +kernel
theorem dX6_append_53 : decode cX6_append 53 = .ok (.iadd, 1) := by decide +kernel
theorem dX6_append_54 : decode cX6_append 54 = .ok (.putfield 15, 3) := by decide +kernel
theorem dX6_append_57 : decode cX6_append 57 = .ok (.iinc 4 (-1), 3) := by decide +kernel
theorem dX6_append_60 : decode cX6_append 60 = .ok (.goto (-41), 3) := by decide +kernel
theorem dX6_append_63 : decode cX6_append 63 = .ok (.aload_n 0, 1) := by decide +kernel
theorem dX6_append_64 : decode cX6_append 64 = .ok (.getfield 15, 3) := by decide +kernel
theorem dX6_append_67 : decode cX6_append 67 = .ok (.ireturn, 1) := by decide +kernel
theorem dX6_empty_0 : decode cX6_empty 0 = .ok (.aload_n 0, 1) := by decide +kernel
theorem dX6_empty_1 : decode cX6_empty 1 = .ok (.getfield 15, 3) := by decide +kernel
theorem dX6_empty_4 : decode cX6_empty 4 = .ok (.istore_n 1, 1) := by decide +kernel
theorem dX6_empty_5 : decode cX6_empty 5 = .ok (.aload_n 0, 1) := by decide +kernel
theorem dX6_empty_6 : decode cX6_empty 6 = .ok (.iconst 0, 1) := by decide +kernel
theorem dX6_empty_7 : decode cX6_empty 7 = .ok (.putfield 15, 3) := by decide +kernel
theorem dX6_empty_10 : decode cX6_empty 10 = .ok (.iload_n 1, 1) := by decide +kernel
theorem dX6_empty_11 : decode cX6_empty 11 = .ok (.ireturn, 1) := by decide +kernel
theorem dX6_sign_0 : decode cX6_sign 0 = .ok (.aload_n 0, 1) := by decide +kernel
theorem dX6_sign_1 : decode cX6_sign 1 = .ok (.getfield 9, 3) := by decide +kernel
theorem dX6_sign_4 : decode cX6_sign 4 = .ok (.iload_n 1, 1) := by decide +kernel
theorem dX6_sign_5 : decode cX6_sign 5 = .ok (.invokestatic 23, 3) := by decide +kernel
theorem dX6_sign_8 : decode cX6_sign 8 = .ok (.ireturn, 1) := by decide +kernel
theorem dX6_figure_0 : decode cX6_figure 0 = .ok (.aload_n 0, 1) := by decide +kernel
theorem dX6_figure_1 : decode cX6_figure 1 = .ok (.getfield 9, 3) := by decide +kernel
theorem dX6_figure_4 : decode cX6_figure 4 = .ok (.iload_n 1, 1) := by decide +kernel
theorem dX6_figure_5 : decode cX6_figure 5 = .ok (.invokestatic 23, 3) := by decide +kernel
theorem dX6_figure_8 : decode cX6_figure 8 = .ok (.bipush 48, 2) := by decide +kernel
theorem dX6_figure_10 : decode cX6_figure 10 = .ok (.isub, 1) := by decide +kernel
theorem dX6_figure_11 : decode cX6_figure 11 = .ok (.ireturn, 1) := by decide +kernel
theorem dX6_firstFault_0 : decode cX6_firstFault 0 = .ok (.iconst 0, 1) := by decide +kernel
theorem dX6_firstFault_1 : decode cX6_firstFault 1 = .ok (.istore_n 1, 1) := by decide +kernel
theorem dX6_firstFault_2 : decode cX6_firstFault 2 = .ok (.iconst 0, 1) := by decide +kernel
theorem dX6_firstFault_3 : decode cX6_firstFault 3 = .ok (.istore_n 2, 1) := by decide +kernel
theorem dX6_firstFault_4 : decode cX6_firstFault 4 = .ok (.iload_n 2, 1) := by decide +kernel
theorem dX6_firstFault_5 : decode cX6_firstFault 5 = .ok (.aload_n 0, 1) := by decide +kernel
theorem dX6_firstFault_6 : decode cX6_firstFault 6 = .ok (.getfield 15, 3) := by decide +kernel
theorem dX6_firstFault_9 : decode cX6_firstFault 9 = .ok (.if_icmp .ge 36, 3) := by decide +kernel
theorem dX6_firstFault_12 : decode cX6_firstFault 12 = .ok (.aload_n 0, 1) := by decide +kernel
theorem dX6_firstFault_13 : decode cX6_firstFault 13 = .ok (.iload_n 2, 1) := by decide +kernel
theorem dX6_firstFault_14 : decode cX6_firstFault 14 = .ok (.iload_n 1, 1) := by decide +kernel
theorem dX6_firstFault_15 : decode cX6_firstFault 15 = .ok (.invokevirtual 27, 3) := by decide +kernel
theorem dX6_firstFault_18 : decode cX6_firstFault 18 = .ok (.ifCond .ne 5, 3) := by decide +kernel
theorem dX6_firstFault_21 : decode cX6_firstFault 21 = .ok (.iload_n 2, 1) := by decide +kernel
theorem dX6_firstFault_22 : decode cX6_firstFault 22 = .ok (.ireturn, 1) := by decide +kernel
theorem dX6_firstFault_23 : decode cX6_firstFault 23 = .ok (.iload_n 2, 1) := by decide +kernel
theorem dX6_firstFault_24 : decode cX6_firstFault 24 = .ok (.bipush 6, 2) := by decide +kernel
theorem dX6_firstFault_26 : decode cX6_firstFault 26 = .ok (.irem, 1) := by decide +kernel
theorem dX6_firstFault_27 : decode cX6_firstFault 27 = .ok (.iconst 2, 1) := by decide +kernel
theorem dX6_firstFault_28 : decode cX6_firstFault 28 = .ok (.if_icmp .ne 11, 3) := by decide +kernel
theorem dX6_firstFault_31 : decode cX6_firstFault 31 = .ok (.iload_n 1, 1) := by decide +kernel
theorem dX6_firstFault_32 : decode cX6_firstFault 32 = .ok (.aload_n 0, 1) := by decide +kernel
theorem dX6_firstFault_33 : decode cX6_firstFault 33 = .ok (.iload_n 2, 1) := by decide +kernel
theorem dX6_firstFault_34 : decode cX6_firstFault 34 = .ok (.invokevirtual 31, 3) := by decide +kernel
theorem dX6_firstFault_37 : decode cX6_firstFault 37 = .ok (.ior, 1) := by decide +kernel
theorem dX6_firstFault_38 : decode cX6_firstFault 38 = .ok (.istore_n 1, 1) := by decide +kernel
theorem dX6_firstFault_39 : decode cX6_firstFault 39 = .ok (.iinc 2 1, 3) := by decide +kernel
theorem dX6_firstFault_42 : decode cX6_firstFault 42 = .ok (.goto (-38), 3) := by decide +kernel
theorem dX6_firstFault_45 : decode cX6_firstFault 45 = .ok (.aload_n 0, 1) := by decide +kernel
theorem dX6_firstFault_46 : decode cX6_firstFault 46 = .ok (.getfield 15, 3) := by decide +kernel
theorem dX6_firstFault_49 : decode cX6_firstFault 49 = .ok (.bipush 6, 2) := by decide +kernel
theorem dX6_firstFault_51 : decode cX6_firstFault 51 = .ok (.irem, 1) := by decide +kernel
theorem dX6_firstFault_52 : decode cX6_firstFault 52 = .ok (.ifCond .ne 8, 3) := by decide +kernel
theorem dX6_firstFault_55 : decode cX6_firstFault 55 = .ok (.bipush (-9), 2) := by decide +kernel
theorem dX6_firstFault_57 : decode cX6_firstFault 57 = .ok (.goto 7, 3) := by decide +kernel
theorem dX6_firstFault_60 : decode cX6_firstFault 60 = .ok (.aload_n 0, 1) := by decide +kernel
theorem dX6_firstFault_61 : decode cX6_firstFault 61 = .ok (.getfield 15, 3) := by decide +kernel
theorem dX6_firstFault_64 : decode cX6_firstFault 64 = .ok (.ireturn, 1) := by decide +kernel
theorem dX6_fits_0 : decode cX6_fits 0 = .ok (.iload_n 1, 1) := by decide +kernel
theorem dX6_fits_1 : decode cX6_fits 1 = .ok (.bipush 6, 2) := by decide +kernel
theorem dX6_fits_3 : decode cX6_fits 3 = .ok (.irem, 1) := by decide +kernel
theorem dX6_fits_4 : decode cX6_fits 4 = .ok (.tableswitch 120 0 2 #[28, 54, 91], 28) := by decide +kernel
theorem dX6_fits_32 : decode cX6_fits 32 = .ok (.aload_n 0, 1) := by decide +kernel
theorem dX6_fits_33 : decode cX6_fits 33 = .ok (.iload_n 1, 1) := by decide +kernel
theorem dX6_fits_34 : decode cX6_fits 34 = .ok (.invokevirtual 35, 3) := by decide +kernel
theorem dX6_fits_37 : decode cX6_fits 37 = .ok (.bipush 80, 2) := by decide +kernel
theorem dX6_fits_39 : decode cX6_fits 39 = .ok (.if_icmp .eq 13, 3) := by decide +kernel
theorem dX6_fits_42 : decode cX6_fits 42 = .ok (.aload_n 0, 1) := by decide +kernel
theorem dX6_fits_43 : decode cX6_fits 43 = .ok (.iload_n 1, 1) := by decide +kernel
theorem dX6_fits_44 : decode cX6_fits 44 = .ok (.invokevirtual 35, 3) := by decide +kernel
theorem dX6_fits_47 : decode cX6_fits 47 = .ok (.bipush 70, 2) := by decide +kernel
theorem dX6_fits_49 : decode cX6_fits 49 = .ok (.if_icmp .ne 7, 3) := by decide +kernel
theorem dX6_fits_52 : decode cX6_fits 52 = .ok (.iconst 1, 1) := by decide +kernel
theorem dX6_fits_53 : decode cX6_fits 53 = .ok (.goto 4, 3) := by decide +kernel
theorem dX6_fits_56 : decode cX6_fits 56 = .ok (.iconst 0, 1) := by decide +kernel
theorem dX6_fits_57 : decode cX6_fits 57 = .ok (.ireturn, 1) := by decide +kernel
theorem dX6_fits_58 : decode cX6_fits 58 = .ok (.aload_n 0, 1) := by decide +kernel
theorem dX6_fits_59 : decode cX6_fits 59 = .ok (.iload_n 1, 1) := by decide +kernel
theorem dX6_fits_60 : decode cX6_fits 60 = .ok (.invokevirtual 38, 3) := by decide +kernel
theorem dX6_fits_63 : decode cX6_fits 63 = .ok (.iconst 0, 1) := by decide +kernel
theorem dX6_fits_64 : decode cX6_fits 64 = .ok (.iconst 3, 1) := by decide +kernel
theorem dX6_fits_65 : decode cX6_fits 65 = .ok (.invokestatic 41, 3) := by decide +kernel
theorem dX6_fits_68 : decode cX6_fits 68 = .ok (.ifCond .ne 25, 3) := by decide +kernel
theorem dX6_fits_71 : decode cX6_fits 71 = .ok (.iload_n 2, 1) := by decide +kernel
theorem dX6_fits_72 : decode cX6_fits 72 = .ok (.bipush 6, 2) := by decide +kernel
theorem dX6_fits_74 : decode cX6_fits 74 = .ok (.aload_n 0, 1) := by decide +kernel
theorem dX6_fits_75 : decode cX6_fits 75 = .ok (.iload_n 1, 1) := by decide +kernel
theorem dX6_fits_76 : decode cX6_fits 76 = .ok (.invokevirtual 38, 3) := by decide +kernel
theorem dX6_fits_79 : decode cX6_fits 79 = .ok (.imul, 1) := by decide +kernel
theorem dX6_fits_80 : decode cX6_fits 80 = .ok (.ishr, 1) := by decide +kernel
theorem dX6_fits_81 : decode cX6_fits 81 = .ok (.bipush 63, 2) := by decide +kernel
theorem dX6_fits_83 : decode cX6_fits 83 = .ok (.iand, 1) := by decide +kernel
theorem dX6_fits_84 : decode cX6_fits 84 = .ok (.bipush 63, 2) := by decide +kernel
theorem dX6_fits_86 : decode cX6_fits 86 = .ok (.if_icmp .eq 7, 3) := by decide +kernel
theorem dX6_fits_89 : decode cX6_fits 89 = .ok (.iconst 1, 1) := by decide +kernel
theorem dX6_fits_90 : decode cX6_fits 90 = .ok (.goto 4, 3) := by decide +kernel
theorem dX6_fits_93 : decode cX6_fits 93 = .ok (.iconst 0, 1) := by decide +kernel
theorem dX6_fits_94 : decode cX6_fits 94 = .ok (.ireturn, 1) := by decide +kernel
theorem dX6_fits_95 : decode cX6_fits 95 = .ok (.aload_n 0, 1) := by decide +kernel
theorem dX6_fits_96 : decode cX6_fits 96 = .ok (.iload_n 1, 1) := by decide +kernel
theorem dX6_fits_97 : decode cX6_fits 97 = .ok (.invokevirtual 38, 3) := by decide +kernel
theorem dX6_fits_100 : decode cX6_fits 100 = .ok (.iconst 0, 1) := by decide +kernel
theorem dX6_fits_101 : decode cX6_fits 101 = .ok (.iconst 5, 1) := by decide +kernel
theorem dX6_fits_102 : decode cX6_fits 102 = .ok (.invokestatic 41, 3) := by decide +kernel
theorem dX6_fits_105 : decode cX6_fits 105 = .ok (.ifCond .ne 17, 3) := by decide +kernel
theorem dX6_fits_108 : decode cX6_fits 108 = .ok (.iload_n 2, 1) := by decide +kernel
theorem dX6_fits_109 : decode cX6_fits 109 = .ok (.aload_n 0, 1) := by decide +kernel
theorem dX6_fits_110 : decode cX6_fits 110 = .ok (.iload_n 1, 1) := by decide +kernel
theorem dX6_fits_111 : decode cX6_fits 111 = .ok (.invokevirtual 31, 3) := by decide +kernel
theorem dX6_fits_114 : decode cX6_fits 114 = .ok (.iand, 1) := by decide +kernel
theorem dX6_fits_115 : decode cX6_fits 115 = .ok (.ifCond .ne 7, 3) := by decide +kernel
theorem dX6_fits_118 : decode cX6_fits 118 = .ok (.iconst 1, 1) := by decide +kernel
theorem dX6_fits_119 : decode cX6_fits 119 = .ok (.goto 4, 3) := by decide +kernel
theorem dX6_fits_122 : decode cX6_fits 122 = .ok (.iconst 0, 1) := by decide +kernel
theorem dX6_fits_123 : decode cX6_fits 123 = .ok (.ireturn, 1) := by decide +kernel
theorem dX6_fits_124 : decode cX6_fits 124 = .ok (.aload_n 0, 1) := by decide +kernel
theorem dX6_fits_125 : decode cX6_fits 125 = .ok (.iload_n 1, 1) := by decide +kernel
theorem dX6_fits_126 : decode cX6_fits 126 = .ok (.invokevirtual 38, 3) := by decide +kernel
theorem dX6_fits_129 : decode cX6_fits 129 = .ok (.iconst 0, 1) := by decide +kernel
theorem dX6_fits_130 : decode cX6_fits 130 = .ok (.bipush 9, 2) := by decide +kernel
theorem dX6_fits_132 : decode cX6_fits 132 = .ok (.invokestatic 41, 3) := by decide +kernel
theorem dX6_fits_135 : decode cX6_fits 135 = .ok (.ifCond .ne 7, 3) := by decide +kernel
theorem dX6_fits_138 : decode cX6_fits 138 = .ok (.iconst 1, 1) := by decide +kernel
theorem dX6_fits_139 : decode cX6_fits 139 = .ok (.goto 4, 3) := by decide +kernel
theorem dX6_fits_142 : decode cX6_fits 142 = .ok (.iconst 0, 1) := by decide +kernel
theorem dX6_fits_143 : decode cX6_fits 143 = .ok (.ireturn, 1) := by decide +kernel
theorem dX6_seat_0 : decode cX6_seat 0 = .ok (.iconst 1, 1) := by decide +kernel
theorem dX6_seat_1 : decode cX6_seat 1 = .ok (.bipush 6, 2) := by decide +kernel
theorem dX6_seat_3 : decode cX6_seat 3 = .ok (.aload_n 0, 1) := by decide +kernel
theorem dX6_seat_4 : decode cX6_seat 4 = .ok (.iload_n 1, 1) := by decide +kernel
theorem dX6_seat_5 : decode cX6_seat 5 = .ok (.iconst 1, 1) := by decide +kernel
theorem dX6_seat_6 : decode cX6_seat 6 = .ok (.isub, 1) := by decide +kernel
theorem dX6_seat_7 : decode cX6_seat 7 = .ok (.invokevirtual 38, 3) := by decide +kernel
theorem dX6_seat_10 : decode cX6_seat 10 = .ok (.imul, 1) := by decide +kernel
theorem dX6_seat_11 : decode cX6_seat 11 = .ok (.aload_n 0, 1) := by decide +kernel
theorem dX6_seat_12 : decode cX6_seat 12 = .ok (.iload_n 1, 1) := by decide +kernel
theorem dX6_seat_13 : decode cX6_seat 13 = .ok (.invokevirtual 38, 3) := by decide +kernel
theorem dX6_seat_16 : decode cX6_seat 16 = .ok (.iadd, 1) := by decide +kernel
theorem dX6_seat_17 : decode cX6_seat 17 = .ok (.ishl, 1) := by decide +kernel
theorem dX6_seat_18 : decode cX6_seat 18 = .ok (.ireturn, 1) := by decide +kernel
theorem dX7_init_0 : decode cX7_init 0 = .ok (.aload_n 0, 1) := by decide +kernel
theorem dX7_init_1 : decode cX7_init 1 = .ok (.invokespecial 3, 3) := by decide +kernel
theorem dX7_init_4 : decode cX7_init 4 = .ok (.aload_n 0, 1) := by decide +kernel
theorem dX7_init_5 : decode cX7_init 5 = .ok (.bipush 10, 2) := by decide +kernel
theorem dX7_init_7 : decode cX7_init 7 = .ok (.newarray .int, 2) := by decide +kernel
theorem dX7_init_9 : decode cX7_init 9 = .ok (.putfield 9, 3) := by decide +kernel
theorem dX7_init_12 : decode cX7_init 12 = .ok (.return_, 1) := by decide +kernel
theorem dX7_add_0 : decode cX7_add 0 = .ok (.aload_n 0, 1) := by decide +kernel
theorem dX7_add_1 : decode cX7_add 1 = .ok (.getfield 15, 3) := by decide +kernel
theorem dX7_add_4 : decode cX7_add 4 = .ok (.bipush 10, 2) := by decide +kernel
theorem dX7_add_6 : decode cX7_add 6 = .ok (.if_icmp .lt 6, 3) := by decide +kernel
theorem dX7_add_9 : decode cX7_add 9 = .ok (.bipush (-4), 2) := by decide +kernel
theorem dX7_add_11 : decode cX7_add 11 = .ok (.ireturn, 1) := by decide +kernel
theorem dX7_add_12 : decode cX7_add 12 = .ok (.aload_n 0, 1) := by decide +kernel
theorem dX7_add_13 : decode cX7_add 13 = .ok (.getfield 9, 3) := by decide +kernel
theorem dX7_add_16 : decode cX7_add 16 = .ok (.aload_n 0, 1) := by decide +kernel
theorem dX7_add_17 : decode cX7_add 17 = .ok (.getfield 15, 3) := by decide +kernel
theorem dX7_add_20 : decode cX7_add 20 = .ok (.iload_n 1, 1) := by decide +kernel
theorem dX7_add_21 : decode cX7_add 21 = .ok (.invokestatic 19, 3) := by decide +kernel
theorem dX7_add_24 : decode cX7_add 24 = .ok (.iload_n 2, 1) := by decide +kernel
theorem dX7_add_25 : decode cX7_add 25 = .ok (.ifCond .eq 18, 3) := by decide +kernel
theorem dX7_add_28 : decode cX7_add 28 = .ok (.aload_n 0, 1) := by decide +kernel
theorem dX7_add_29 : decode cX7_add 29 = .ok (.dup, 1) := by decide +kernel
theorem dX7_add_30 : decode cX7_add 30 = .ok (.getfield 23, 3) := by decide +kernel
theorem dX7_add_33 : decode cX7_add 33 = .ok (.iconst 1, 1) := by decide +kernel
theorem dX7_add_34 : decode cX7_add 34 = .ok (.aload_n 0, 1) := by decide +kernel
theorem dX7_add_35 : decode cX7_add 35 = .ok (.getfield 15, 3) := by decide +kernel
theorem dX7_add_38 : decode cX7_add 38 = .ok (.ishl, 1) := by decide +kernel
theorem dX7_add_39 : decode cX7_add 39 = .ok (.ior, 1) := by decide +kernel
theorem dX7_add_40 : decode cX7_add 40 = .ok (.putfield 23, 3) := by decide +kernel
theorem dX7_add_43 : decode cX7_add 43 = .ok (.aload_n 0, 1) := by decide +kernel
theorem dX7_add_44 : decode cX7_add 44 = .ok (.dup, 1) := by decide +kernel
theorem dX7_add_45 : decode cX7_add 45 = .ok (.getfield 15, 3) := by decide +kernel
theorem dX7_add_48 : decode cX7_add 48 = .ok (.iconst 1, 1) := by decide +kernel
theorem dX7_add_49 : decode cX7_add 49 = .ok (.iadd, 1) := by decide +kernel
theorem dX7_add_50 : decode cX7_add 50 = .ok (.putfield 15, 3) := by decide +kernel
theorem dX7_add_53 : decode cX7_add 53 = .ok (.aload_n 0, 1) := by decide +kernel
theorem dX7_add_54 : decode cX7_add 54 = .ok (.getfield 15, 3) := by decide +kernel
theorem dX7_add_57 : decode cX7_add 57 = .ok (.ireturn, 1) := by decide +kernel
theorem dX7_empty_0 : decode cX7_empty 0 = .ok (.aload_n 0, 1) := by decide +kernel
theorem dX7_empty_1 : decode cX7_empty 1 = .ok (.getfield 15, 3) := by decide +kernel
theorem dX7_empty_4 : decode cX7_empty 4 = .ok (.istore_n 1, 1) := by decide +kernel
theorem dX7_empty_5 : decode cX7_empty 5 = .ok (.aload_n 0, 1) := by decide +kernel
theorem dX7_empty_6 : decode cX7_empty 6 = .ok (.iconst 0, 1) := by decide +kernel
theorem dX7_empty_7 : decode cX7_empty 7 = .ok (.putfield 15, 3) := by decide +kernel
theorem dX7_empty_10 : decode cX7_empty 10 = .ok (.aload_n 0, 1) := by decide +kernel
theorem dX7_empty_11 : decode cX7_empty 11 = .ok (.iconst 0, 1) := by decide +kernel
theorem dX7_empty_12 : decode cX7_empty 12 = .ok (.putfield 23, 3) := by decide +kernel
theorem dX7_empty_15 : decode cX7_empty 15 = .ok (.iload_n 1, 1) := by decide +kernel
theorem dX7_empty_16 : decode cX7_empty 16 = .ok (.ireturn, 1) := by decide +kernel
theorem dX7_together_0 : decode cX7_together 0 = .ok (.iconst 0, 1) := by decide +kernel
theorem dX7_together_1 : decode cX7_together 1 = .ok (.istore_n 2, 1) := by decide +kernel
theorem dX7_together_2 : decode cX7_together 2 = .ok (.iconst 0, 1) := by decide +kernel
theorem dX7_together_3 : decode cX7_together 3 = .ok (.istore_n 3, 1) := by decide +kernel
theorem dX7_together_4 : decode cX7_together 4 = .ok (.iload_n 3, 1) := by decide +kernel
theorem dX7_together_5 : decode cX7_together 5 = .ok (.aload_n 0, 1) := by decide +kernel
theorem dX7_together_6 : decode cX7_together 6 = .ok (.getfield 15, 3) := by decide +kernel
theorem dX7_together_9 : decode cX7_together 9 = .ok (.if_icmp .ge 28, 3) := by decide +kernel
theorem dX7_together_12 : decode cX7_together 12 = .ok (.iload_n 1, 1) := by decide +kernel
theorem dX7_together_13 : decode cX7_together 13 = .ok (.iload_n 3, 1) := by decide +kernel
theorem dX7_together_14 : decode cX7_together 14 = .ok (.invokestatic 26, 3) := by decide +kernel
theorem dX7_together_17 : decode cX7_together 17 = .ok (.ifCond .eq 14, 3) := by decide +kernel
theorem dX7_together_20 : decode cX7_together 20 = .ok (.iload_n 2, 1) := by decide +kernel
theorem dX7_together_21 : decode cX7_together 21 = .ok (.aload_n 0, 1) := by decide +kernel
theorem dX7_together_22 : decode cX7_together 22 = .ok (.getfield 9, 3) := by decide +kernel
theorem dX7_together_25 : decode cX7_together 25 = .ok (.iload_n 3, 1) := by decide +kernel
theorem dX7_together_26 : decode cX7_together 26 = .ok (.invokestatic 30, 3) := by decide +kernel
theorem dX7_together_29 : decode cX7_together 29 = .ok (.iadd, 1) := by decide +kernel
theorem dX7_together_30 : decode cX7_together 30 = .ok (.istore_n 2, 1) := by decide +kernel
theorem dX7_together_31 : decode cX7_together 31 = .ok (.iinc 3 1, 3) := by decide +kernel
theorem dX7_together_34 : decode cX7_together 34 = .ok (.goto (-30), 3) := by decide +kernel
theorem dX7_together_37 : decode cX7_together 37 = .ok (.iload_n 2, 1) := by decide +kernel
theorem dX7_together_38 : decode cX7_together 38 = .ok (.ireturn, 1) := by decide +kernel
theorem dX7_deals_0 : decode cX7_deals 0 = .ok (.aload_n 0, 1) := by decide +kernel
theorem dX7_deals_1 : decode cX7_deals 1 = .ok (.aload_n 0, 1) := by decide +kernel
theorem dX7_deals_2 : decode cX7_deals 2 = .ok (.getfield 23, 3) := by decide +kernel
theorem dX7_deals_5 : decode cX7_deals 5 = .ok (.invokevirtual 34, 3) := by decide +kernel
theorem dX7_deals_8 : decode cX7_deals 8 = .ok (.istore_n 2, 1) := by decide +kernel
theorem dX7_deals_9 : decode cX7_deals 9 = .ok (.lconst 0, 1) := by decide +kernel
theorem dX7_deals_10 : decode cX7_deals 10 = .ok (.lstore_n 3, 1) := by decide +kernel
theorem dX7_deals_11 : decode cX7_deals 11 = .ok (.iconst 0, 1) := by decide +kernel
theorem dX7_deals_12 : decode cX7_deals 12 = .ok (.istore 5, 2) := by decide +kernel
theorem dX7_deals_14 : decode cX7_deals 14 = .ok (.iload 5, 2) := by decide +kernel
theorem dX7_deals_16 : decode cX7_deals 16 = .ok (.iconst 1, 1) := by decide +kernel
theorem dX7_deals_17 : decode cX7_deals 17 = .ok (.aload_n 0, 1) := by decide +kernel
theorem dX7_deals_18 : decode cX7_deals 18 = .ok (.getfield 15, 3) := by decide +kernel
theorem dX7_deals_21 : decode cX7_deals 21 = .ok (.ishl, 1) := by decide +kernel
theorem dX7_deals_22 : decode cX7_deals 22 = .ok (.if_icmp .ge 54, 3) := by decide +kernel
theorem dX7_deals_25 : decode cX7_deals 25 = .ok (.iload 5, 2) := by decide +kernel
theorem dX7_deals_27 : decode cX7_deals 27 = .ok (.invokestatic 38, 3) := by decide +kernel
theorem dX7_deals_30 : decode cX7_deals 30 = .ok (.aload_n 0, 1) := by decide +kernel
theorem dX7_deals_31 : decode cX7_deals 31 = .ok (.getfield 23, 3) := by decide +kernel
theorem dX7_deals_34 : decode cX7_deals 34 = .ok (.invokestatic 38, 3) := by decide +kernel
theorem dX7_deals_37 : decode cX7_deals 37 = .ok (.if_icmp .ne 7, 3) := by decide +kernel
theorem dX7_deals_40 : decode cX7_deals 40 = .ok (.iconst 1, 1) := by decide +kernel
theorem dX7_deals_41 : decode cX7_deals 41 = .ok (.goto 4, 3) := by decide +kernel
theorem dX7_deals_44 : decode cX7_deals 44 = .ok (.iconst 0, 1) := by decide +kernel
theorem dX7_deals_45 : decode cX7_deals 45 = .ok (.istore 6, 2) := by decide +kernel
theorem dX7_deals_47 : decode cX7_deals 47 = .ok (.iload 6, 2) := by decide +kernel
theorem dX7_deals_49 : decode cX7_deals 49 = .ok (.ifCond .eq 21, 3) := by decide +kernel
theorem dX7_deals_52 : decode cX7_deals 52 = .ok (.iload_n 1, 1) := by decide +kernel
theorem dX7_deals_53 : decode cX7_deals 53 = .ok (.ifCond .eq 13, 3) := by decide +kernel
theorem dX7_deals_56 : decode cX7_deals 56 = .ok (.aload_n 0, 1) := by decide +kernel
theorem dX7_deals_57 : decode cX7_deals 57 = .ok (.iload 5, 2) := by decide +kernel
theorem dX7_deals_59 : decode cX7_deals 59 = .ok (.invokevirtual 34, 3) := by decide +kernel
theorem dX7_deals_62 : decode cX7_deals 62 = .ok (.iload_n 2, 1) := by decide +kernel
theorem dX7_deals_63 : decode cX7_deals 63 = .ok (.if_icmp .lt 7, 3) := by decide +kernel
theorem dX7_deals_66 : decode cX7_deals 66 = .ok (.lload_n 3, 1) := by decide +kernel
theorem dX7_deals_67 : decode cX7_deals 67 = .ok (.lconst 1, 1) := by decide +kernel
theorem dX7_deals_68 : decode cX7_deals 68 = .ok (.ladd, 1) := by decide +kernel
theorem dX7_deals_69 : decode cX7_deals 69 = .ok (.lstore_n 3, 1) := by decide +kernel
theorem dX7_deals_70 : decode cX7_deals 70 = .ok (.iinc 5 1, 3) := by decide +kernel
theorem dX7_deals_73 : decode cX7_deals 73 = .ok (.goto (-59), 3) := by decide +kernel
theorem dX7_deals_76 : decode cX7_deals 76 = .ok (.lload_n 3, 1) := by decide +kernel
theorem dX7_deals_77 : decode cX7_deals 77 = .ok (.lreturn, 1) := by decide +kernel
theorem dJ6_bitCount_0f7a4_0 : decode cJ6_bitCount_0f7a4 0 = .ok (.iload_n 0, 1) := by decide +kernel
theorem dJ6_bitCount_0f7a4_1 : decode cJ6_bitCount_0f7a4 1 = .ok (.iload_n 0, 1) := by decide +kernel
theorem dJ6_bitCount_0f7a4_2 : decode cJ6_bitCount_0f7a4 2 = .ok (.iconst 1, 1) := by decide +kernel
theorem dJ6_bitCount_0f7a4_3 : decode cJ6_bitCount_0f7a4 3 = .ok (.iushr, 1) := by decide +kernel
theorem dJ6_bitCount_0f7a4_4 : decode cJ6_bitCount_0f7a4 4 = .ok (.ldc_w 265, 3) := by decide +kernel
theorem dJ6_bitCount_0f7a4_7 : decode cJ6_bitCount_0f7a4 7 = .ok (.iand, 1) := by decide +kernel
theorem dJ6_bitCount_0f7a4_8 : decode cJ6_bitCount_0f7a4 8 = .ok (.isub, 1) := by decide +kernel
theorem dJ6_bitCount_0f7a4_9 : decode cJ6_bitCount_0f7a4 9 = .ok (.istore_n 0, 1) := by decide +kernel
theorem dJ6_bitCount_0f7a4_10 : decode cJ6_bitCount_0f7a4 10 = .ok (.iload_n 0, 1) := by decide +kernel
theorem dJ6_bitCount_0f7a4_11 : decode cJ6_bitCount_0f7a4 11 = .ok (.ldc_w 266, 3) := by decide +kernel
theorem dJ6_bitCount_0f7a4_14 : decode cJ6_bitCount_0f7a4 14 = .ok (.iand, 1) := by decide +kernel
theorem dJ6_bitCount_0f7a4_15 : decode cJ6_bitCount_0f7a4 15 = .ok (.iload_n 0, 1) := by decide +kernel
theorem dJ6_bitCount_0f7a4_16 : decode cJ6_bitCount_0f7a4 16 = .ok (.iconst 2, 1) := by decide +kernel
theorem dJ6_bitCount_0f7a4_17 : decode cJ6_bitCount_0f7a4 17 = .ok (.iushr, 1) := by decide +kernel
theorem dJ6_bitCount_0f7a4_18 : decode cJ6_bitCount_0f7a4 18 = .ok (.ldc_w 266, 3) := by decide +kernel
theorem dJ6_bitCount_0f7a4_21 : decode cJ6_bitCount_0f7a4 21 = .ok (.iand, 1) := by decide +kernel
theorem dJ6_bitCount_0f7a4_22 : decode cJ6_bitCount_0f7a4 22 = .ok (.iadd, 1) := by decide +kernel
theorem dJ6_bitCount_0f7a4_23 : decode cJ6_bitCount_0f7a4 23 = .ok (.istore_n 0, 1) := by decide +kernel
theorem dJ6_bitCount_0f7a4_24 : decode cJ6_bitCount_0f7a4 24 = .ok (.iload_n 0, 1) := by decide +kernel
theorem dJ6_bitCount_0f7a4_25 : decode cJ6_bitCount_0f7a4 25 = .ok (.iload_n 0, 1) := by decide +kernel
theorem dJ6_bitCount_0f7a4_26 : decode cJ6_bitCount_0f7a4 26 = .ok (.iconst 4, 1) := by decide +kernel
theorem dJ6_bitCount_0f7a4_27 : decode cJ6_bitCount_0f7a4 27 = .ok (.iushr, 1) := by decide +kernel
theorem dJ6_bitCount_0f7a4_28 : decode cJ6_bitCount_0f7a4 28 = .ok (.iadd, 1) := by decide +kernel
theorem dJ6_bitCount_0f7a4_29 : decode cJ6_bitCount_0f7a4 29 = .ok (.ldc_w 267, 3) := by decide +kernel
theorem dJ6_bitCount_0f7a4_32 : decode cJ6_bitCount_0f7a4 32 = .ok (.iand, 1) := by decide +kernel
theorem dJ6_bitCount_0f7a4_33 : decode cJ6_bitCount_0f7a4 33 = .ok (.istore_n 0, 1) := by decide +kernel
theorem dJ6_bitCount_0f7a4_34 : decode cJ6_bitCount_0f7a4 34 = .ok (.iload_n 0, 1) := by decide +kernel
theorem dJ6_bitCount_0f7a4_35 : decode cJ6_bitCount_0f7a4 35 = .ok (.iload_n 0, 1) := by decide +kernel
theorem dJ6_bitCount_0f7a4_36 : decode cJ6_bitCount_0f7a4 36 = .ok (.bipush 8, 2) := by decide +kernel
theorem dJ6_bitCount_0f7a4_38 : decode cJ6_bitCount_0f7a4 38 = .ok (.iushr, 1) := by decide +kernel
theorem dJ6_bitCount_0f7a4_39 : decode cJ6_bitCount_0f7a4 39 = .ok (.iadd, 1) := by decide +kernel
theorem dJ6_bitCount_0f7a4_40 : decode cJ6_bitCount_0f7a4 40 = .ok (.istore_n 0, 1) := by decide +kernel
theorem dJ6_bitCount_0f7a4_41 : decode cJ6_bitCount_0f7a4 41 = .ok (.iload_n 0, 1) := by decide +kernel
theorem dJ6_bitCount_0f7a4_42 : decode cJ6_bitCount_0f7a4 42 = .ok (.iload_n 0, 1) := by decide +kernel
theorem dJ6_bitCount_0f7a4_43 : decode cJ6_bitCount_0f7a4 43 = .ok (.bipush 16, 2) := by decide +kernel
theorem dJ6_bitCount_0f7a4_45 : decode cJ6_bitCount_0f7a4 45 = .ok (.iushr, 1) := by decide +kernel
theorem dJ6_bitCount_0f7a4_46 : decode cJ6_bitCount_0f7a4 46 = .ok (.iadd, 1) := by decide +kernel
theorem dJ6_bitCount_0f7a4_47 : decode cJ6_bitCount_0f7a4 47 = .ok (.istore_n 0, 1) := by decide +kernel
theorem dJ6_bitCount_0f7a4_48 : decode cJ6_bitCount_0f7a4 48 = .ok (.iload_n 0, 1) := by decide +kernel
theorem dJ6_bitCount_0f7a4_49 : decode cJ6_bitCount_0f7a4 49 = .ok (.bipush 63, 2) := by decide +kernel
theorem dJ6_bitCount_0f7a4_51 : decode cJ6_bitCount_0f7a4 51 = .ok (.iand, 1) := by decide +kernel
theorem dJ6_bitCount_0f7a4_52 : decode cJ6_bitCount_0f7a4 52 = .ok (.ireturn, 1) := by decide +kernel
theorem dJ9_abs_0f7a4_0 : decode cJ9_abs_0f7a4 0 = .ok (.iload_n 0, 1) := by decide +kernel
theorem dJ9_abs_0f7a4_1 : decode cJ9_abs_0f7a4 1 = .ok (.ifCond .ge 8, 3) := by decide +kernel
theorem dJ9_abs_0f7a4_4 : decode cJ9_abs_0f7a4 4 = .ok (.iload_n 0, 1) := by decide +kernel
theorem dJ9_abs_0f7a4_5 : decode cJ9_abs_0f7a4 5 = .ok (.ineg, 1) := by decide +kernel
theorem dJ9_abs_0f7a4_6 : decode cJ9_abs_0f7a4 6 = .ok (.goto 4, 3) := by decide +kernel
theorem dJ9_abs_0f7a4_9 : decode cJ9_abs_0f7a4 9 = .ok (.iload_n 0, 1) := by decide +kernel
theorem dJ9_abs_0f7a4_10 : decode cJ9_abs_0f7a4 10 = .ok (.ireturn, 1) := by decide +kernel
theorem dJ9_max_7cf53_0 : decode cJ9_max_7cf53 0 = .ok (.iload_n 0, 1) := by decide +kernel
theorem dJ9_max_7cf53_1 : decode cJ9_max_7cf53 1 = .ok (.iload_n 1, 1) := by decide +kernel
theorem dJ9_max_7cf53_2 : decode cJ9_max_7cf53 2 = .ok (.if_icmp .lt 7, 3) := by decide +kernel
theorem dJ9_max_7cf53_5 : decode cJ9_max_7cf53 5 = .ok (.iload_n 0, 1) := by decide +kernel
theorem dJ9_max_7cf53_6 : decode cJ9_max_7cf53 6 = .ok (.goto 4, 3) := by decide +kernel
theorem dJ9_max_7cf53_9 : decode cJ9_max_7cf53 9 = .ok (.iload_n 1, 1) := by decide +kernel
theorem dJ9_max_7cf53_10 : decode cJ9_max_7cf53 10 = .ok (.ireturn, 1) := by decide +kernel
theorem dJ9_min_7cf53_0 : decode cJ9_min_7cf53 0 = .ok (.iload_n 0, 1) := by decide +kernel
theorem dJ9_min_7cf53_1 : decode cJ9_min_7cf53 1 = .ok (.iload_n 1, 1) := by decide +kernel
theorem dJ9_min_7cf53_2 : decode cJ9_min_7cf53 2 = .ok (.if_icmp .gt 7, 3) := by decide +kernel
theorem dJ9_min_7cf53_5 : decode cJ9_min_7cf53 5 = .ok (.iload_n 0, 1) := by decide +kernel
theorem dJ9_min_7cf53_6 : decode cJ9_min_7cf53 6 = .ok (.goto 4, 3) := by decide +kernel
theorem dJ9_min_7cf53_9 : decode cJ9_min_7cf53 9 = .ok (.iload_n 1, 1) := by decide +kernel
theorem dJ9_min_7cf53_10 : decode cJ9_min_7cf53 10 = .ok (.ireturn, 1) := by decide +kernel
theorem dJ7_fill_d0a16_0 : decode cJ7_fill_d0a16 0 = .ok (.iconst 0, 1) := by decide +kernel
theorem dJ7_fill_d0a16_1 : decode cJ7_fill_d0a16 1 = .ok (.istore_n 3, 1) := by decide +kernel
theorem dJ7_fill_d0a16_2 : decode cJ7_fill_d0a16 2 = .ok (.aload_n 0, 1) := by decide +kernel
theorem dJ7_fill_d0a16_3 : decode cJ7_fill_d0a16 3 = .ok (.arraylength, 1) := by decide +kernel
theorem dJ7_fill_d0a16_4 : decode cJ7_fill_d0a16 4 = .ok (.istore 4, 2) := by decide +kernel
theorem dJ7_fill_d0a16_6 : decode cJ7_fill_d0a16 6 = .ok (.iload_n 3, 1) := by decide +kernel
theorem dJ7_fill_d0a16_7 : decode cJ7_fill_d0a16 7 = .ok (.iload 4, 2) := by decide +kernel
theorem dJ7_fill_d0a16_9 : decode cJ7_fill_d0a16 9 = .ok (.if_icmp .ge 13, 3) := by decide +kernel
theorem dJ7_fill_d0a16_12 : decode cJ7_fill_d0a16 12 = .ok (.aload_n 0, 1) := by decide +kernel
theorem dJ7_fill_d0a16_13 : decode cJ7_fill_d0a16 13 = .ok (.iload_n 3, 1) := by decide +kernel
theorem dJ7_fill_d0a16_14 : decode cJ7_fill_d0a16 14 = .ok (.lload_n 1, 1) := by decide +kernel
theorem dJ7_fill_d0a16_15 : decode cJ7_fill_d0a16 15 = .ok (.lastore, 1) := by decide +kernel
theorem dJ7_fill_d0a16_16 : decode cJ7_fill_d0a16 16 = .ok (.iinc 3 1, 3) := by decide +kernel
theorem dJ7_fill_d0a16_19 : decode cJ7_fill_d0a16 19 = .ok (.goto (-13), 3) := by decide +kernel
theorem dJ7_fill_d0a16_22 : decode cJ7_fill_d0a16 22 = .ok (.return_, 1) := by decide +kernel
theorem dJ7_fill_53178_0 : decode cJ7_fill_53178 0 = .ok (.iconst 0, 1) := by decide +kernel
theorem dJ7_fill_53178_1 : decode cJ7_fill_53178 1 = .ok (.istore_n 2, 1) := by decide +kernel
theorem dJ7_fill_53178_2 : decode cJ7_fill_53178 2 = .ok (.aload_n 0, 1) := by decide +kernel
theorem dJ7_fill_53178_3 : decode cJ7_fill_53178 3 = .ok (.arraylength, 1) := by decide +kernel
theorem dJ7_fill_53178_4 : decode cJ7_fill_53178 4 = .ok (.istore_n 3, 1) := by decide +kernel
theorem dJ7_fill_53178_5 : decode cJ7_fill_53178 5 = .ok (.iload_n 2, 1) := by decide +kernel
theorem dJ7_fill_53178_6 : decode cJ7_fill_53178 6 = .ok (.iload_n 3, 1) := by decide +kernel
theorem dJ7_fill_53178_7 : decode cJ7_fill_53178 7 = .ok (.if_icmp .ge 13, 3) := by decide +kernel
theorem dJ7_fill_53178_10 : decode cJ7_fill_53178 10 = .ok (.aload_n 0, 1) := by decide +kernel
theorem dJ7_fill_53178_11 : decode cJ7_fill_53178 11 = .ok (.iload_n 2, 1) := by decide +kernel
theorem dJ7_fill_53178_12 : decode cJ7_fill_53178 12 = .ok (.iload_n 1, 1) := by decide +kernel
theorem dJ7_fill_53178_13 : decode cJ7_fill_53178 13 = .ok (.iastore, 1) := by decide +kernel
theorem dJ7_fill_53178_14 : decode cJ7_fill_53178 14 = .ok (.iinc 2 1, 3) := by decide +kernel
theorem dJ7_fill_53178_17 : decode cJ7_fill_53178 17 = .ok (.goto (-12), 3) := by decide +kernel
theorem dJ7_fill_53178_20 : decode cJ7_fill_53178 20 = .ok (.return_, 1) := by decide +kernel
