theorem dX8_init_0 : decode cX8_init 0 = .ok (.aload_n 0, 1) := by decide +kernel
theorem dX8_init_1 : decode cX8_init 1 = .ok (.invokespecial 1, 3) := by decide +kernel
theorem dX8_init_4 : decode cX8_init 4 = .ok (.aload_n 0, 1) := by decide +kernel
theorem dX8_init_5 : decode cX8_init 5 = .ok (.new 7, 3) := by decide +kernel
theorem dX8_init_8 : decode cX8_init 8 = .ok (.dup, 1) := by decide +kernel
theorem dX8_init_9 : decode cX8_init 9 = .ok (.invokespecial 9, 3) := by decide +kernel
theorem dX8_init_12 : decode cX8_init 12 = .ok (.putfield 10, 3) := by decide +kernel
theorem dX8_init_15 : decode cX8_init 15 = .ok (.aload_n 0, 1) := by decide +kernel
theorem dX8_init_16 : decode cX8_init 16 = .ok (.new 16, 3) := by decide +kernel
theorem dX8_init_19 : decode cX8_init 19 = .ok (.dup, 1) := by decide +kernel
theorem dX8_init_20 : decode cX8_init 20 = .ok (.invokespecial 18, 3) := by decide +kernel
theorem dX8_init_23 : decode cX8_init 23 = .ok (.putfield 19, 3) := by decide +kernel
theorem dX8_init_26 : decode cX8_init 26 = .ok (.aload_n 0, 1) := by decide +kernel
theorem dX8_init_27 : decode cX8_init 27 = .ok (.new 23, 3) := by decide +kernel
theorem dX8_init_30 : decode cX8_init 30 = .ok (.dup, 1) := by decide +kernel
theorem dX8_init_31 : decode cX8_init 31 = .ok (.invokespecial 25, 3) := by decide +kernel
theorem dX8_init_34 : decode cX8_init 34 = .ok (.putfield 26, 3) := by decide +kernel
theorem dX8_init_37 : decode cX8_init 37 = .ok (.aload_n 0, 1) := by decide +kernel
theorem dX8_init_38 : decode cX8_init 38 = .ok (.new 30, 3) := by decide +kernel
theorem dX8_init_41 : decode cX8_init 41 = .ok (.dup, 1) := by decide +kernel
theorem dX8_init_42 : decode cX8_init 42 = .ok (.invokespecial 32, 3) := by decide +kernel
theorem dX8_init_45 : decode cX8_init 45 = .ok (.putfield 33, 3) := by decide +kernel
theorem dX8_init_48 : decode cX8_init 48 = .ok (.aload_n 0, 1) := by decide +kernel
theorem dX8_init_49 : decode cX8_init 49 = .ok (.new 37, 3) := by decide +kernel
theorem dX8_init_52 : decode cX8_init 52 = .ok (.dup, 1) := by decide +kernel
theorem dX8_init_53 : decode cX8_init 53 = .ok (.invokespecial 39, 3) := by decide +kernel
theorem dX8_init_56 : decode cX8_init 56 = .ok (.putfield 40, 3) := by decide +kernel
theorem dX8_init_59 : decode cX8_init 59 = .ok (.aload_n 0, 1) := by decide +kernel
theorem dX8_init_60 : decode cX8_init 60 = .ok (.new 37, 3) := by decide +kernel
theorem dX8_init_63 : decode cX8_init 63 = .ok (.dup, 1) := by decide +kernel
theorem dX8_init_64 : decode cX8_init 64 = .ok (.invokespecial 39, 3) := by decide +kernel
theorem dX8_init_67 : decode cX8_init 67 = .ok (.putfield 44, 3) := by decide +kernel
theorem dX8_init_70 : decode cX8_init 70 = .ok (.aload_n 0, 1) := by decide +kernel
theorem dX8_init_71 : decode cX8_init 71 = .ok (.new 47, 3) := by decide +kernel
theorem dX8_init_74 : decode cX8_init 74 = .ok (.dup, 1) := by decide +kernel
theorem dX8_init_75 : decode cX8_init 75 = .ok (.invokespecial 49, 3) := by decide +kernel
theorem dX8_init_78 : decode cX8_init 78 = .ok (.putfield 50, 3) := by decide +kernel
theorem dX8_init_81 : decode cX8_init 81 = .ok (.aload_n 0, 1) := by decide +kernel
theorem dX8_init_82 : decode cX8_init 82 = .ok (.new 54, 3) := by decide +kernel
theorem dX8_init_85 : decode cX8_init 85 = .ok (.dup, 1) := by decide +kernel
theorem dX8_init_86 : decode cX8_init 86 = .ok (.invokespecial 56, 3) := by decide +kernel
theorem dX8_init_89 : decode cX8_init 89 = .ok (.putfield 57, 3) := by decide +kernel
theorem dX8_init_92 : decode cX8_init 92 = .ok (.return_, 1) := by decide +kernel
theorem dX8_write_0 : decode cX8_write 0 = .ok (.iload_n 1, 1) := by decide +kernel
theorem dX8_write_1 : decode cX8_write 1 = .ok (.iconst 1, 1) := by decide +kernel
theorem dX8_write_2 : decode cX8_write 2 = .ok (.bipush 8, 2) := by decide +kernel
theorem dX8_write_4 : decode cX8_write 4 = .ok (.invokestatic 61, 3) := by decide +kernel
theorem dX8_write_7 : decode cX8_write 7 = .ok (.ifCond .eq 8, 3) := by decide +kernel
theorem dX8_write_10 : decode cX8_write 10 = .ok (.bipush (-2), 2) := by decide +kernel
theorem dX8_write_12 : decode cX8_write 12 = .ok (.goto 12, 3) := by decide +kernel
theorem dX8_write_15 : decode cX8_write 15 = .ok (.aload_n 0, 1) := by decide +kernel
theorem dX8_write_16 : decode cX8_write 16 = .ok (.getfield 10, 3) := by decide +kernel
theorem dX8_write_19 : decode cX8_write 19 = .ok (.iload_n 1, 1) := by decide +kernel
theorem dX8_write_20 : decode cX8_write 20 = .ok (.lload_n 2, 1) := by decide +kernel
theorem dX8_write_21 : decode cX8_write 21 = .ok (.invokevirtual 65, 3) := by decide +kernel
theorem dX8_write_24 : decode cX8_write 24 = .ok (.ireturn, 1) := by decide +kernel
theorem dX8_wipe_0 : decode cX8_wipe 0 = .ok (.aload_n 0, 1) := by decide +kernel
theorem dX8_wipe_1 : decode cX8_wipe 1 = .ok (.getfield 10, 3) := by decide +kernel
theorem dX8_wipe_4 : decode cX8_wipe 4 = .ok (.invokevirtual 69, 3) := by decide +kernel
theorem dX8_wipe_7 : decode cX8_wipe 7 = .ok (.ireturn, 1) := by decide +kernel
theorem dX8_fault_0 : decode cX8_fault 0 = .ok (.aload_n 0, 1) := by decide +kernel
theorem dX8_fault_1 : decode cX8_fault 1 = .ok (.getfield 10, 3) := by decide +kernel
theorem dX8_fault_4 : decode cX8_fault 4 = .ok (.invokevirtual 73, 3) := by decide +kernel
theorem dX8_fault_7 : decode cX8_fault 7 = .ok (.ireturn, 1) := by decide +kernel
theorem dX8_room_0 : decode cX8_room 0 = .ok (.aload_n 0, 1) := by decide +kernel
theorem dX8_room_1 : decode cX8_room 1 = .ok (.getfield 10, 3) := by decide +kernel
theorem dX8_room_4 : decode cX8_room 4 = .ok (.invokevirtual 73, 3) := by decide +kernel
theorem dX8_room_7 : decode cX8_room 7 = .ok (.bipush (-9), 2) := by decide +kernel
theorem dX8_room_9 : decode cX8_room 9 = .ok (.if_icmp .eq 6, 3) := by decide +kernel
theorem dX8_room_12 : decode cX8_room 12 = .ok (.bipush (-3), 2) := by decide +kernel
theorem dX8_room_14 : decode cX8_room 14 = .ok (.ireturn, 1) := by decide +kernel
theorem dX8_room_15 : decode cX8_room 15 = .ok (.aload_n 0, 1) := by decide +kernel
theorem dX8_room_16 : decode cX8_room 16 = .ok (.getfield 19, 3) := by decide +kernel
theorem dX8_room_19 : decode cX8_room 19 = .ok (.aload_n 0, 1) := by decide +kernel
theorem dX8_room_20 : decode cX8_room 20 = .ok (.getfield 10, 3) := by decide +kernel
theorem dX8_room_23 : decode cX8_room 23 = .ok (.invokevirtual 76, 3) := by decide +kernel
theorem dX8_room_26 : decode cX8_room 26 = .ok (.aload_n 0, 1) := by decide +kernel
theorem dX8_room_27 : decode cX8_room 27 = .ok (.getfield 40, 3) := by decide +kernel
theorem dX8_room_30 : decode cX8_room 30 = .ok (.iconst 0, 1) := by decide +kernel
theorem dX8_room_31 : decode cX8_room 31 = .ok (.putfield 80, 3) := by decide +kernel
theorem dX8_room_34 : decode cX8_room 34 = .ok (.aload_n 0, 1) := by decide +kernel
theorem dX8_room_35 : decode cX8_room 35 = .ok (.getfield 44, 3) := by decide +kernel
theorem dX8_room_38 : decode cX8_room 38 = .ok (.iconst 0, 1) := by decide +kernel
theorem dX8_room_39 : decode cX8_room 39 = .ok (.putfield 80, 3) := by decide +kernel
theorem dX8_room_42 : decode cX8_room 42 = .ok (.aload_n 0, 1) := by decide +kernel
theorem dX8_room_43 : decode cX8_room 43 = .ok (.getfield 19, 3) := by decide +kernel
theorem dX8_room_46 : decode cX8_room 46 = .ok (.getfield 84, 3) := by decide +kernel
theorem dX8_room_49 : decode cX8_room 49 = .ok (.ireturn, 1) := by decide +kernel
theorem dX8_about_0 : decode cX8_about 0 = .ok (.aload_n 0, 1) := by decide +kernel
theorem dX8_about_1 : decode cX8_about 1 = .ok (.getfield 19, 3) := by decide +kernel
theorem dX8_about_4 : decode cX8_about 4 = .ok (.iload_n 1, 1) := by decide +kernel
theorem dX8_about_5 : decode cX8_about 5 = .ok (.invokevirtual 88, 3) := by decide +kernel
theorem dX8_about_8 : decode cX8_about 8 = .ok (.ifCond .eq 5, 3) := by decide +kernel
theorem dX8_about_11 : decode cX8_about 11 = .ok (.iconst (-1), 1) := by decide +kernel
theorem dX8_about_12 : decode cX8_about 12 = .ok (.ireturn, 1) := by decide +kernel
theorem dX8_about_13 : decode cX8_about 13 = .ok (.iload_n 2, 1) := by decide +kernel
theorem dX8_about_14 : decode cX8_about 14 = .ok (.iconst 0, 1) := by decide +kernel
theorem dX8_about_15 : decode cX8_about 15 = .ok (.bipush 7, 2) := by decide +kernel
theorem dX8_about_17 : decode cX8_about 17 = .ok (.invokestatic 61, 3) := by decide +kernel
theorem dX8_about_20 : decode cX8_about 20 = .ok (.ifCond .eq 8, 3) := by decide +kernel
theorem dX8_about_23 : decode cX8_about 23 = .ok (.bipush (-2), 2) := by decide +kernel
theorem dX8_about_25 : decode cX8_about 25 = .ok (.goto 12, 3) := by decide +kernel
theorem dX8_about_28 : decode cX8_about 28 = .ok (.aload_n 0, 1) := by decide +kernel
theorem dX8_about_29 : decode cX8_about 29 = .ok (.getfield 19, 3) := by decide +kernel
theorem dX8_about_32 : decode cX8_about 32 = .ok (.iload_n 1, 1) := by decide +kernel
theorem dX8_about_33 : decode cX8_about 33 = .ok (.iload_n 2, 1) := by decide +kernel
theorem dX8_about_34 : decode cX8_about 34 = .ok (.invokevirtual 92, 3) := by decide +kernel
theorem dX8_about_37 : decode cX8_about 37 = .ok (.ireturn, 1) := by decide +kernel
theorem dX8_mood_0 : decode cX8_mood 0 = .ok (.iload_n 1, 1) := by decide +kernel
theorem dX8_mood_1 : decode cX8_mood 1 = .ok (.iconst 0, 1) := by decide +kernel
theorem dX8_mood_2 : decode cX8_mood 2 = .ok (.bipush 9, 2) := by decide +kernel
theorem dX8_mood_4 : decode cX8_mood 4 = .ok (.invokestatic 61, 3) := by decide +kernel
theorem dX8_mood_7 : decode cX8_mood 7 = .ok (.ifCond .eq 6, 3) := by decide +kernel
theorem dX8_mood_10 : decode cX8_mood 10 = .ok (.bipush (-2), 2) := by decide +kernel
theorem dX8_mood_12 : decode cX8_mood 12 = .ok (.ireturn, 1) := by decide +kernel
theorem dX8_mood_13 : decode cX8_mood 13 = .ok (.aload_n 0, 1) := by decide +kernel
theorem dX8_mood_14 : decode cX8_mood 14 = .ok (.getfield 19, 3) := by decide +kernel
theorem dX8_mood_17 : decode cX8_mood 17 = .ok (.getfield 96, 3) := by decide +kernel
theorem dX8_mood_20 : decode cX8_mood 20 = .ok (.istore_n 2, 1) := by decide +kernel
theorem dX8_mood_21 : decode cX8_mood 21 = .ok (.aload_n 0, 1) := by decide +kernel
theorem dX8_mood_22 : decode cX8_mood 22 = .ok (.getfield 19, 3) := by decide +kernel
theorem dX8_mood_25 : decode cX8_mood 25 = .ok (.iload_n 1, 1) := by decide +kernel
theorem dX8_mood_26 : decode cX8_mood 26 = .ok (.putfield 96, 3) := by decide +kernel
theorem dX8_mood_29 : decode cX8_mood 29 = .ok (.iload_n 2, 1) := by decide +kernel
theorem dX8_mood_30 : decode cX8_mood 30 = .ok (.ireturn, 1) := by decide +kernel
theorem dX8_up_0 : decode cX8_up 0 = .ok (.aload_n 0, 1) := by decide +kernel
theorem dX8_up_1 : decode cX8_up 1 = .ok (.getfield 19, 3) := by decide +kernel
theorem dX8_up_4 : decode cX8_up 4 = .ok (.iload_n 1, 1) := by decide +kernel
theorem dX8_up_5 : decode cX8_up 5 = .ok (.invokevirtual 88, 3) := by decide +kernel
theorem dX8_up_8 : decode cX8_up 8 = .ok (.ifCond .eq 5, 3) := by decide +kernel
theorem dX8_up_11 : decode cX8_up 11 = .ok (.iconst (-1), 1) := by decide +kernel
theorem dX8_up_12 : decode cX8_up 12 = .ok (.ireturn, 1) := by decide +kernel
theorem dX8_up_13 : decode cX8_up 13 = .ok (.iload_n 2, 1) := by decide +kernel
theorem dX8_up_14 : decode cX8_up 14 = .ok (.invokestatic 99, 3) := by decide +kernel
theorem dX8_up_17 : decode cX8_up 17 = .ok (.ifCond .eq 8, 3) := by decide +kernel
theorem dX8_up_20 : decode cX8_up 20 = .ok (.bipush (-2), 2) := by decide +kernel
theorem dX8_up_22 : decode cX8_up 22 = .ok (.goto 12, 3) := by decide +kernel
theorem dX8_up_25 : decode cX8_up 25 = .ok (.aload_n 0, 1) := by decide +kernel
theorem dX8_up_26 : decode cX8_up 26 = .ok (.getfield 19, 3) := by decide +kernel
theorem dX8_up_29 : decode cX8_up 29 = .ok (.iload_n 1, 1) := by decide +kernel
theorem dX8_up_30 : decode cX8_up 30 = .ok (.iload_n 2, 1) := by decide +kernel
theorem dX8_up_31 : decode cX8_up 31 = .ok (.invokevirtual 102, 3) := by decide +kernel
theorem dX8_up_34 : decode cX8_up 34 = .ok (.ireturn, 1) := by decide +kernel
theorem dX8_mean_0 : decode cX8_mean 0 = .ok (.iload_n 1, 1) := by decide +kernel
theorem dX8_mean_1 : decode cX8_mean 1 = .ok (.invokestatic 99, 3) := by decide +kernel
theorem dX8_mean_4 : decode cX8_mean 4 = .ok (.ifCond .eq 8, 3) := by decide +kernel
theorem dX8_mean_7 : decode cX8_mean 7 = .ok (.bipush (-2), 2) := by decide +kernel
theorem dX8_mean_9 : decode cX8_mean 9 = .ok (.goto 11, 3) := by decide +kernel
theorem dX8_mean_12 : decode cX8_mean 12 = .ok (.aload_n 0, 1) := by decide +kernel
theorem dX8_mean_13 : decode cX8_mean 13 = .ok (.getfield 19, 3) := by decide +kernel
theorem dX8_mean_16 : decode cX8_mean 16 = .ok (.iload_n 1, 1) := by decide +kernel
theorem dX8_mean_17 : decode cX8_mean 17 = .ok (.invokevirtual 105, 3) := by decide +kernel
theorem dX8_mean_20 : decode cX8_mean 20 = .ok (.ireturn, 1) := by decide +kernel
theorem dX8_quiet_0 : decode cX8_quiet 0 = .ok (.iload_n 1, 1) := by decide +kernel
theorem dX8_quiet_1 : decode cX8_quiet 1 = .ok (.invokestatic 99, 3) := by decide +kernel
theorem dX8_quiet_4 : decode cX8_quiet 4 = .ok (.ifCond .eq 8, 3) := by decide +kernel
theorem dX8_quiet_7 : decode cX8_quiet 7 = .ok (.bipush (-2), 2) := by decide +kernel
theorem dX8_quiet_9 : decode cX8_quiet 9 = .ok (.goto 11, 3) := by decide +kernel
theorem dX8_quiet_12 : decode cX8_quiet 12 = .ok (.aload_n 0, 1) := by decide +kernel
theorem dX8_quiet_13 : decode cX8_quiet 13 = .ok (.getfield 19, 3) := by decide +kernel
theorem dX8_quiet_16 : decode cX8_quiet 16 = .ok (.iload_n 1, 1) := by decide +kernel
theorem dX8_quiet_17 : decode cX8_quiet 17 = .ok (.invokevirtual 109, 3) := by decide +kernel
theorem dX8_quiet_20 : decode cX8_quiet 20 = .ok (.ireturn, 1) := by decide +kernel
theorem dX8_hands_0 : decode cX8_hands 0 = .ok (.iload_n 1, 1) := by decide +kernel
theorem dX8_hands_1 : decode cX8_hands 1 = .ok (.invokestatic 99, 3) := by decide +kernel
theorem dX8_hands_4 : decode cX8_hands 4 = .ok (.ifCond .ne 13, 3) := by decide +kernel
theorem dX8_hands_7 : decode cX8_hands 7 = .ok (.iload_n 2, 1) := by decide +kernel
theorem dX8_hands_8 : decode cX8_hands 8 = .ok (.iconst 0, 1) := by decide +kernel
theorem dX8_hands_9 : decode cX8_hands 9 = .ok (.bipush 12, 2) := by decide +kernel
theorem dX8_hands_11 : decode cX8_hands 11 = .ok (.invokestatic 61, 3) := by decide +kernel
theorem dX8_hands_14 : decode cX8_hands 14 = .ok (.ifCond .eq 7, 3) := by decide +kernel
theorem dX8_hands_17 : decode cX8_hands 17 = .ok (.ldc2_w 112, 3) := by decide +kernel
theorem dX8_hands_20 : decode cX8_hands 20 = .ok (.lreturn, 1) := by decide +kernel
theorem dX8_hands_21 : decode cX8_hands 21 = .ok (.aload_n 0, 1) := by decide +kernel
theorem dX8_hands_22 : decode cX8_hands 22 = .ok (.getfield 26, 3) := by decide +kernel
theorem dX8_hands_25 : decode cX8_hands 25 = .ok (.aload_n 0, 1) := by decide +kernel
theorem dX8_hands_26 : decode cX8_hands 26 = .ok (.getfield 19, 3) := by decide +kernel
theorem dX8_hands_29 : decode cX8_hands 29 = .ok (.iload_n 1, 1) := by decide +kernel
theorem dX8_hands_30 : decode cX8_hands 30 = .ok (.invokevirtual 114, 3) := by decide +kernel
theorem dX8_hands_33 : decode cX8_hands 33 = .ok (.aload_n 0, 1) := by decide +kernel
theorem dX8_hands_34 : decode cX8_hands 34 = .ok (.getfield 26, 3) := by decide +kernel
theorem dX8_hands_37 : decode cX8_hands 37 = .ok (.getfield 118, 3) := by decide +kernel
theorem dX8_hands_40 : decode cX8_hands 40 = .ok (.iload_n 2, 1) := by decide +kernel
theorem dX8_hands_41 : decode cX8_hands 41 = .ok (.invokevirtual 122, 3) := by decide +kernel
theorem dX8_hands_44 : decode cX8_hands 44 = .ok (.aload_n 0, 1) := by decide +kernel
theorem dX8_hands_45 : decode cX8_hands 45 = .ok (.getfield 19, 3) := by decide +kernel
theorem dX8_hands_48 : decode cX8_hands 48 = .ok (.getfield 84, 3) := by decide +kernel
theorem dX8_hands_51 : decode cX8_hands 51 = .ok (.invokestatic 128, 3) := by decide +kernel
theorem dX8_hands_54 : decode cX8_hands 54 = .ok (.iload_n 3, 1) := by decide +kernel
theorem dX8_hands_55 : decode cX8_hands 55 = .ok (.invokestatic 131, 3) := by decide +kernel
theorem dX8_hands_58 : decode cX8_hands 58 = .ok (.lreturn, 1) := by decide +kernel
theorem dX8_given_0 : decode cX8_given 0 = .ok (.iload_n 1, 1) := by decide +kernel
theorem dX8_given_1 : decode cX8_given 1 = .ok (.invokestatic 99, 3) := by decide +kernel
theorem dX8_given_4 : decode cX8_given 4 = .ok (.ifCond .ne 23, 3) := by decide +kernel
theorem dX8_given_7 : decode cX8_given 7 = .ok (.iload_n 2, 1) := by decide +kernel
theorem dX8_given_8 : decode cX8_given 8 = .ok (.iconst 0, 1) := by decide +kernel
theorem dX8_given_9 : decode cX8_given 9 = .ok (.bipush 12, 2) := by decide +kernel
theorem dX8_given_11 : decode cX8_given 11 = .ok (.invokestatic 61, 3) := by decide +kernel
theorem dX8_given_14 : decode cX8_given 14 = .ok (.ifCond .ne 13, 3) := by decide +kernel
theorem dX8_given_17 : decode cX8_given 17 = .ok (.iload_n 3, 1) := by decide +kernel
theorem dX8_given_18 : decode cX8_given 18 = .ok (.iconst 0, 1) := by decide +kernel
theorem dX8_given_19 : decode cX8_given 19 = .ok (.bipush 12, 2) := by decide +kernel
theorem dX8_given_21 : decode cX8_given 21 = .ok (.invokestatic 61, 3) := by decide +kernel
theorem dX8_given_24 : decode cX8_given 24 = .ok (.ifCond .eq 7, 3) := by decide +kernel
theorem dX8_given_27 : decode cX8_given 27 = .ok (.ldc2_w 112, 3) := by decide +kernel
theorem dX8_given_30 : decode cX8_given 30 = .ok (.lreturn, 1) := by decide +kernel
theorem dX8_given_31 : decode cX8_given 31 = .ok (.aload_n 0, 1) := by decide +kernel
theorem dX8_given_32 : decode cX8_given 32 = .ok (.getfield 26, 3) := by decide +kernel
theorem dX8_given_35 : decode cX8_given 35 = .ok (.aload_n 0, 1) := by decide +kernel
theorem dX8_given_36 : decode cX8_given 36 = .ok (.getfield 19, 3) := by decide +kernel
theorem dX8_given_39 : decode cX8_given 39 = .ok (.iload_n 1, 1) := by decide +kernel
theorem dX8_given_40 : decode cX8_given 40 = .ok (.invokevirtual 114, 3) := by decide +kernel
theorem dX8_given_43 : decode cX8_given 43 = .ok (.aload_n 0, 1) := by decide +kernel
theorem dX8_given_44 : decode cX8_given 44 = .ok (.getfield 26, 3) := by decide +kernel
theorem dX8_given_47 : decode cX8_given 47 = .ok (.getfield 118, 3) := by decide +kernel
theorem dX8_given_50 : decode cX8_given 50 = .ok (.iload_n 2, 1) := by decide +kernel
theorem dX8_given_51 : decode cX8_given 51 = .ok (.invokevirtual 122, 3) := by decide +kernel
theorem dX8_given_54 : decode cX8_given 54 = .ok (.lstore 5, 2) := by decide +kernel
theorem dX8_given_56 : decode cX8_given 56 = .ok (.lload 5, 2) := by decide +kernel
theorem dX8_given_58 : decode cX8_given 58 = .ok (.lconst 1, 1) := by decide +kernel
theorem dX8_given_59 : decode cX8_given 59 = .ok (.lcmp, 1) := by decide +kernel
theorem dX8_given_60 : decode cX8_given 60 = .ok (.ifCond .ge 9, 3) := by decide +kernel
theorem dX8_given_63 : decode cX8_given 63 = .ok (.ldc2_w 135, 3) := by decide +kernel
theorem dX8_given_66 : decode cX8_given 66 = .ok (.goto 22, 3) := by decide +kernel
theorem dX8_given_69 : decode cX8_given 69 = .ok (.aload_n 0, 1) := by decide +kernel
theorem dX8_given_70 : decode cX8_given 70 = .ok (.getfield 26, 3) := by decide +kernel
theorem dX8_given_73 : decode cX8_given 73 = .ok (.getfield 118, 3) := by decide +kernel
theorem dX8_given_76 : decode cX8_given 76 = .ok (.iload_n 2, 1) := by decide +kernel
theorem dX8_given_77 : decode cX8_given 77 = .ok (.iload_n 3, 1) := by decide +kernel
theorem dX8_given_78 : decode cX8_given 78 = .ok (.invokevirtual 137, 3) := by decide +kernel
theorem dX8_given_81 : decode cX8_given 81 = .ok (.lload 5, 2) := by decide +kernel
theorem dX8_given_83 : decode cX8_given 83 = .ok (.iload 4, 2) := by decide +kernel
theorem dX8_given_85 : decode cX8_given 85 = .ok (.invokestatic 131, 3) := by decide +kernel
theorem dX8_given_88 : decode cX8_given 88 = .ok (.lreturn, 1) := by decide +kernel
theorem dX8_likely_0 : decode cX8_likely 0 = .ok (.iload_n 1, 1) := by decide +kernel
theorem dX8_likely_1 : decode cX8_likely 1 = .ok (.invokestatic 99, 3) := by decide +kernel
theorem dX8_likely_4 : decode cX8_likely 4 = .ok (.ifCond .ne 13, 3) := by decide +kernel
theorem dX8_likely_7 : decode cX8_likely 7 = .ok (.iload_n 2, 1) := by decide +kernel
theorem dX8_likely_8 : decode cX8_likely 8 = .ok (.iconst 0, 1) := by decide +kernel
theorem dX8_likely_9 : decode cX8_likely 9 = .ok (.bipush 12, 2) := by decide +kernel
theorem dX8_likely_11 : decode cX8_likely 11 = .ok (.invokestatic 61, 3) := by decide +kernel
theorem dX8_likely_14 : decode cX8_likely 14 = .ok (.ifCond .eq 6, 3) := by decide +kernel
theorem dX8_likely_17 : decode cX8_likely 17 = .ok (.bipush (-2), 2) := by decide +kernel
theorem dX8_likely_19 : decode cX8_likely 19 = .ok (.ireturn, 1) := by decide +kernel
theorem dX8_likely_20 : decode cX8_likely 20 = .ok (.aload_n 0, 1) := by decide +kernel
theorem dX8_likely_21 : decode cX8_likely 21 = .ok (.getfield 26, 3) := by decide +kernel
theorem dX8_likely_24 : decode cX8_likely 24 = .ok (.aload_n 0, 1) := by decide +kernel
theorem dX8_likely_25 : decode cX8_likely 25 = .ok (.getfield 19, 3) := by decide +kernel
theorem dX8_likely_28 : decode cX8_likely 28 = .ok (.iload_n 1, 1) := by decide +kernel
theorem dX8_likely_29 : decode cX8_likely 29 = .ok (.invokevirtual 114, 3) := by decide +kernel
theorem dX8_likely_32 : decode cX8_likely 32 = .ok (.aload_n 0, 1) := by decide +kernel
theorem dX8_likely_33 : decode cX8_likely 33 = .ok (.getfield 26, 3) := by decide +kernel
theorem dX8_likely_36 : decode cX8_likely 36 = .ok (.getfield 118, 3) := by decide +kernel
theorem dX8_likely_39 : decode cX8_likely 39 = .ok (.iload_n 2, 1) := by decide +kernel
theorem dX8_likely_40 : decode cX8_likely 40 = .ok (.invokevirtual 122, 3) := by decide +kernel
theorem dX8_likely_43 : decode cX8_likely 43 = .ok (.lconst 1, 1) := by decide +kernel
theorem dX8_likely_44 : decode cX8_likely 44 = .ok (.lcmp, 1) := by decide +kernel
theorem dX8_likely_45 : decode cX8_likely 45 = .ok (.ifCond .ge 8, 3) := by decide +kernel
theorem dX8_likely_48 : decode cX8_likely 48 = .ok (.bipush (-3), 2) := by decide +kernel
theorem dX8_likely_50 : decode cX8_likely 50 = .ok (.goto 11, 3) := by decide +kernel
theorem dX8_likely_53 : decode cX8_likely 53 = .ok (.aload_n 0, 1) := by decide +kernel
theorem dX8_likely_54 : decode cX8_likely 54 = .ok (.getfield 26, 3) := by decide +kernel
theorem dX8_likely_57 : decode cX8_likely 57 = .ok (.iload_n 2, 1) := by decide +kernel
theorem dX8_likely_58 : decode cX8_likely 58 = .ok (.invokevirtual 141, 3) := by decide +kernel
theorem dX8_likely_61 : decode cX8_likely 61 = .ok (.ireturn, 1) := by decide +kernel
theorem dX8_taken_0 : decode cX8_taken 0 = .ok (.aload_n 0, 1) := by decide +kernel
theorem dX8_taken_1 : decode cX8_taken 1 = .ok (.getfield 19, 3) := by decide +kernel
theorem dX8_taken_4 : decode cX8_taken 4 = .ok (.iload_n 1, 1) := by decide +kernel
theorem dX8_taken_5 : decode cX8_taken 5 = .ok (.invokevirtual 88, 3) := by decide +kernel
theorem dX8_taken_8 : decode cX8_taken 8 = .ok (.ifCond .ne 10, 3) := by decide +kernel
theorem dX8_taken_11 : decode cX8_taken 11 = .ok (.iload_n 3, 1) := by decide +kernel
theorem dX8_taken_12 : decode cX8_taken 12 = .ok (.invokestatic 144, 3) := by decide +kernel
theorem dX8_taken_15 : decode cX8_taken 15 = .ok (.ifCond .eq 7, 3) := by decide +kernel
theorem dX8_taken_18 : decode cX8_taken 18 = .ok (.ldc2_w 147, 3) := by decide +kernel
theorem dX8_taken_21 : decode cX8_taken 21 = .ok (.lreturn, 1) := by decide +kernel
theorem dX8_taken_22 : decode cX8_taken 22 = .ok (.iload_n 2, 1) := by decide +kernel
theorem dX8_taken_23 : decode cX8_taken 23 = .ok (.invokestatic 99, 3) := by decide +kernel
theorem dX8_taken_26 : decode cX8_taken 26 = .ok (.ifCond .eq 7, 3) := by decide +kernel
theorem dX8_taken_29 : decode cX8_taken 29 = .ok (.ldc2_w 112, 3) := by decide +kernel
theorem dX8_taken_32 : decode cX8_taken 32 = .ok (.lreturn, 1) := by decide +kernel
theorem dX8_taken_33 : decode cX8_taken 33 = .ok (.aload_n 0, 1) := by decide +kernel
theorem dX8_taken_34 : decode cX8_taken 34 = .ok (.getfield 33, 3) := by decide +kernel
theorem dX8_taken_37 : decode cX8_taken 37 = .ok (.aload_n 0, 1) := by decide +kernel
theorem dX8_taken_38 : decode cX8_taken 38 = .ok (.getfield 19, 3) := by decide +kernel
theorem dX8_taken_41 : decode cX8_taken 41 = .ok (.iload_n 2, 1) := by decide +kernel
theorem dX8_taken_42 : decode cX8_taken 42 = .ok (.iload_n 3, 1) := by decide +kernel
theorem dX8_taken_43 : decode cX8_taken 43 = .ok (.invokevirtual 149, 3) := by decide +kernel
theorem dX8_taken_46 : decode cX8_taken 46 = .ok (.aload_n 0, 1) := by decide +kernel
theorem dX8_taken_47 : decode cX8_taken 47 = .ok (.getfield 33, 3) := by decide +kernel
theorem dX8_taken_50 : decode cX8_taken 50 = .ok (.iload_n 1, 1) := by decide +kernel
theorem dX8_taken_51 : decode cX8_taken 51 = .ok (.invokevirtual 152, 3) := by decide +kernel
theorem dX8_taken_54 : decode cX8_taken 54 = .ok (.aload_n 0, 1) := by decide +kernel
theorem dX8_taken_55 : decode cX8_taken 55 = .ok (.getfield 33, 3) := by decide +kernel
theorem dX8_taken_58 : decode cX8_taken 58 = .ok (.invokevirtual 155, 3) := by decide +kernel
theorem dX8_taken_61 : decode cX8_taken 61 = .ok (.iload 4, 2) := by decide +kernel
theorem dX8_taken_63 : decode cX8_taken 63 = .ok (.invokestatic 131, 3) := by decide +kernel
theorem dX8_taken_66 : decode cX8_taken 66 = .ok (.lreturn, 1) := by decide +kernel
theorem dX8_right_0 : decode cX8_right 0 = .ok (.iload_n 2, 1) := by decide +kernel
theorem dX8_right_1 : decode cX8_right 1 = .ok (.invokestatic 144, 3) := by decide +kernel
theorem dX8_right_4 : decode cX8_right 4 = .ok (.ifCond .eq 7, 3) := by decide +kernel
theorem dX8_right_7 : decode cX8_right 7 = .ok (.ldc2_w 147, 3) := by decide +kernel
theorem dX8_right_10 : decode cX8_right 10 = .ok (.lreturn, 1) := by decide +kernel
theorem dX8_right_11 : decode cX8_right 11 = .ok (.iload_n 1, 1) := by decide +kernel
theorem dX8_right_12 : decode cX8_right 12 = .ok (.invokestatic 99, 3) := by decide +kernel
theorem dX8_right_15 : decode cX8_right 15 = .ok (.ifCond .eq 7, 3) := by decide +kernel
theorem dX8_right_18 : decode cX8_right 18 = .ok (.ldc2_w 112, 3) := by decide +kernel
theorem dX8_right_21 : decode cX8_right 21 = .ok (.lreturn, 1) := by decide +kernel
theorem dX8_right_22 : decode cX8_right 22 = .ok (.aload_n 0, 1) := by decide +kernel
theorem dX8_right_23 : decode cX8_right 23 = .ok (.getfield 33, 3) := by decide +kernel
theorem dX8_right_26 : decode cX8_right 26 = .ok (.aload_n 0, 1) := by decide +kernel
theorem dX8_right_27 : decode cX8_right 27 = .ok (.getfield 19, 3) := by decide +kernel
theorem dX8_right_30 : decode cX8_right 30 = .ok (.iload_n 1, 1) := by decide +kernel
theorem dX8_right_31 : decode cX8_right 31 = .ok (.iload_n 2, 1) := by decide +kernel
theorem dX8_right_32 : decode cX8_right 32 = .ok (.invokevirtual 149, 3) := by decide +kernel
theorem dX8_right_35 : decode cX8_right 35 = .ok (.aload_n 0, 1) := by decide +kernel
theorem dX8_right_36 : decode cX8_right 36 = .ok (.getfield 33, 3) := by decide +kernel
theorem dX8_right_39 : decode cX8_right 39 = .ok (.invokevirtual 159, 3) := by decide +kernel
theorem dX8_right_42 : decode cX8_right 42 = .ok (.aload_n 0, 1) := by decide +kernel
theorem dX8_right_43 : decode cX8_right 43 = .ok (.getfield 33, 3) := by decide +kernel
theorem dX8_right_46 : decode cX8_right 46 = .ok (.invokevirtual 155, 3) := by decide +kernel
theorem dX8_right_49 : decode cX8_right 49 = .ok (.iload_n 3, 1) := by decide +kernel
theorem dX8_right_50 : decode cX8_right 50 = .ok (.invokestatic 131, 3) := by decide +kernel
theorem dX8_right_53 : decode cX8_right 53 = .ok (.lreturn, 1) := by decide +kernel
theorem dX8_mostly_0 : decode cX8_mostly 0 = .ok (.iload_n 2, 1) := by decide +kernel
theorem dX8_mostly_1 : decode cX8_mostly 1 = .ok (.invokestatic 144, 3) := by decide +kernel
theorem dX8_mostly_4 : decode cX8_mostly 4 = .ok (.ifCond .eq 5, 3) := by decide +kernel
theorem dX8_mostly_7 : decode cX8_mostly 7 = .ok (.iconst (-1), 1) := by decide +kernel
theorem dX8_mostly_8 : decode cX8_mostly 8 = .ok (.ireturn, 1) := by decide +kernel
theorem dX8_mostly_9 : decode cX8_mostly 9 = .ok (.iload_n 1, 1) := by decide +kernel
theorem dX8_mostly_10 : decode cX8_mostly 10 = .ok (.invokestatic 99, 3) := by decide +kernel
theorem dX8_mostly_13 : decode cX8_mostly 13 = .ok (.ifCond .eq 6, 3) := by decide +kernel
theorem dX8_mostly_16 : decode cX8_mostly 16 = .ok (.bipush (-2), 2) := by decide +kernel
theorem dX8_mostly_18 : decode cX8_mostly 18 = .ok (.ireturn, 1) := by decide +kernel
theorem dX8_mostly_19 : decode cX8_mostly 19 = .ok (.aload_n 0, 1) := by decide +kernel
theorem dX8_mostly_20 : decode cX8_mostly 20 = .ok (.getfield 33, 3) := by decide +kernel
theorem dX8_mostly_23 : decode cX8_mostly 23 = .ok (.aload_n 0, 1) := by decide +kernel
theorem dX8_mostly_24 : decode cX8_mostly 24 = .ok (.getfield 19, 3) := by decide +kernel
theorem dX8_mostly_27 : decode cX8_mostly 27 = .ok (.iload_n 1, 1) := by decide +kernel
theorem dX8_mostly_28 : decode cX8_mostly 28 = .ok (.iload_n 2, 1) := by decide +kernel
theorem dX8_mostly_29 : decode cX8_mostly 29 = .ok (.invokevirtual 149, 3) := by decide +kernel
theorem dX8_mostly_32 : decode cX8_mostly 32 = .ok (.aload_n 0, 1) := by decide +kernel
theorem dX8_mostly_33 : decode cX8_mostly 33 = .ok (.getfield 33, 3) := by decide +kernel
theorem dX8_mostly_36 : decode cX8_mostly 36 = .ok (.invokevirtual 162, 3) := by decide +kernel
theorem dX8_mostly_39 : decode cX8_mostly 39 = .ok (.ireturn, 1) := by decide +kernel
theorem dX8_await_0 : decode cX8_await 0 = .ok (.iload_n 1, 1) := by decide +kernel
theorem dX8_await_1 : decode cX8_await 1 = .ok (.iconst 0, 1) := by decide +kernel
theorem dX8_await_2 : decode cX8_await 2 = .ok (.bipush 99, 2) := by decide +kernel
theorem dX8_await_4 : decode cX8_await 4 = .ok (.invokestatic 61, 3) := by decide +kernel
theorem dX8_await_7 : decode cX8_await 7 = .ok (.ifCond .ne 13, 3) := by decide +kernel
theorem dX8_await_10 : decode cX8_await 10 = .ok (.iload_n 2, 1) := by decide +kernel
theorem dX8_await_11 : decode cX8_await 11 = .ok (.iconst 0, 1) := by decide +kernel
theorem dX8_await_12 : decode cX8_await 12 = .ok (.bipush 99, 2) := by decide +kernel
theorem dX8_await_14 : decode cX8_await 14 = .ok (.invokestatic 61, 3) := by decide +kernel
theorem dX8_await_17 : decode cX8_await 17 = .ok (.ifCond .eq 6, 3) := by decide +kernel
theorem dX8_await_20 : decode cX8_await 20 = .ok (.bipush (-2), 2) := by decide +kernel
theorem dX8_await_22 : decode cX8_await 22 = .ok (.ireturn, 1) := by decide +kernel
theorem dX8_await_23 : decode cX8_await 23 = .ok (.aload_n 0, 1) := by decide +kernel
theorem dX8_await_24 : decode cX8_await 24 = .ok (.getfield 19, 3) := by decide +kernel
theorem dX8_await_27 : decode cX8_await 27 = .ok (.iload_n 1, 1) := by decide +kernel
theorem dX8_await_28 : decode cX8_await 28 = .ok (.iload_n 2, 1) := by decide +kernel
theorem dX8_await_29 : decode cX8_await 29 = .ok (.invokevirtual 165, 3) := by decide +kernel
theorem dX8_await_32 : decode cX8_await 32 = .ok (.ireturn, 1) := by decide +kernel
theorem dX8_raised_0 : decode cX8_raised 0 = .ok (.aload_n 0, 1) := by decide +kernel
theorem dX8_raised_1 : decode cX8_raised 1 = .ok (.getfield 19, 3) := by decide +kernel
theorem dX8_raised_4 : decode cX8_raised 4 = .ok (.iload_n 1, 1) := by decide +kernel
theorem dX8_raised_5 : decode cX8_raised 5 = .ok (.invokevirtual 168, 3) := by decide +kernel
theorem dX8_raised_8 : decode cX8_raised 8 = .ok (.ifCond .ne 10, 3) := by decide +kernel
theorem dX8_raised_11 : decode cX8_raised 11 = .ok (.iload_n 2, 1) := by decide +kernel
theorem dX8_raised_12 : decode cX8_raised 12 = .ok (.invokestatic 99, 3) := by decide +kernel
theorem dX8_raised_15 : decode cX8_raised 15 = .ok (.ifCond .eq 8, 3) := by decide +kernel
theorem dX8_raised_18 : decode cX8_raised 18 = .ok (.bipush (-2), 2) := by decide +kernel
theorem dX8_raised_20 : decode cX8_raised 20 = .ok (.goto 12, 3) := by decide +kernel
theorem dX8_raised_23 : decode cX8_raised 23 = .ok (.aload_n 0, 1) := by decide +kernel
theorem dX8_raised_24 : decode cX8_raised 24 = .ok (.getfield 19, 3) := by decide +kernel
theorem dX8_raised_27 : decode cX8_raised 27 = .ok (.iload_n 1, 1) := by decide +kernel
theorem dX8_raised_28 : decode cX8_raised 28 = .ok (.iload_n 2, 1) := by decide +kernel
theorem dX8_raised_29 : decode cX8_raised 29 = .ok (.invokevirtual 171, 3) := by decide +kernel
theorem dX8_raised_32 : decode cX8_raised 32 = .ok (.ireturn, 1) := by decide +kernel
theorem dX8_silent_0 : decode cX8_silent 0 = .ok (.aload_n 0, 1) := by decide +kernel
theorem dX8_silent_1 : decode cX8_silent 1 = .ok (.getfield 19, 3) := by decide +kernel
theorem dX8_silent_4 : decode cX8_silent 4 = .ok (.iload_n 1, 1) := by decide +kernel
theorem dX8_silent_5 : decode cX8_silent 5 = .ok (.invokevirtual 168, 3) := by decide +kernel
theorem dX8_silent_8 : decode cX8_silent 8 = .ok (.ifCond .ne 10, 3) := by decide +kernel
theorem dX8_silent_11 : decode cX8_silent 11 = .ok (.iload_n 2, 1) := by decide +kernel
theorem dX8_silent_12 : decode cX8_silent 12 = .ok (.invokestatic 99, 3) := by decide +kernel
theorem dX8_silent_15 : decode cX8_silent 15 = .ok (.ifCond .eq 8, 3) := by decide +kernel
theorem dX8_silent_18 : decode cX8_silent 18 = .ok (.bipush (-2), 2) := by decide +kernel
theorem dX8_silent_20 : decode cX8_silent 20 = .ok (.goto 16, 3) := by decide +kernel
theorem dX8_silent_23 : decode cX8_silent 23 = .ok (.iload_n 1, 1) := by decide +kernel
theorem dX8_silent_24 : decode cX8_silent 24 = .ok (.aload_n 0, 1) := by decide +kernel
theorem dX8_silent_25 : decode cX8_silent 25 = .ok (.getfield 19, 3) := by decide +kernel
theorem dX8_silent_28 : decode cX8_silent 28 = .ok (.iload_n 1, 1) := by decide +kernel
theorem dX8_silent_29 : decode cX8_silent 29 = .ok (.iload_n 2, 1) := by decide +kernel
theorem dX8_silent_30 : decode cX8_silent 30 = .ok (.invokevirtual 171, 3) := by decide +kernel
theorem dX8_silent_33 : decode cX8_silent 33 = .ok (.iconst (-1), 1) := by decide +kernel
theorem dX8_silent_34 : decode cX8_silent 34 = .ok (.ixor, 1) := by decide +kernel
theorem dX8_silent_35 : decode cX8_silent 35 = .ok (.iand, 1) := by decide +kernel
theorem dX8_silent_36 : decode cX8_silent 36 = .ok (.ireturn, 1) := by decide +kernel
theorem dX8_seed_0 : decode cX8_seed 0 = .ok (.aload_n 0, 1) := by decide +kernel
theorem dX8_seed_1 : decode cX8_seed 1 = .ok (.getfield 19, 3) := by decide +kernel
theorem dX8_seed_4 : decode cX8_seed 4 = .ok (.getfield 174, 3) := by decide +kernel
theorem dX8_seed_7 : decode cX8_seed 7 = .ok (.getfield 177, 3) := by decide +kernel
theorem dX8_seed_10 : decode cX8_seed 10 = .ok (.lstore_n 3, 1) := by decide +kernel
theorem dX8_seed_11 : decode cX8_seed 11 = .ok (.aload_n 0, 1) := by decide +kernel
theorem dX8_seed_12 : decode cX8_seed 12 = .ok (.getfield 19, 3) := by decide +kernel
theorem dX8_seed_15 : decode cX8_seed 15 = .ok (.getfield 174, 3) := by decide +kernel
theorem dX8_seed_18 : decode cX8_seed 18 = .ok (.lload_n 1, 1) := by decide +kernel
theorem dX8_seed_19 : decode cX8_seed 19 = .ok (.putfield 177, 3) := by decide +kernel
theorem dX8_seed_22 : decode cX8_seed 22 = .ok (.lload_n 3, 1) := by decide +kernel
theorem dX8_seed_23 : decode cX8_seed 23 = .ok (.lreturn, 1) := by decide +kernel
theorem dX8_ask_0 : decode cX8_ask 0 = .ok (.iload_n 3, 1) := by decide +kernel
theorem dX8_ask_1 : decode cX8_ask 1 = .ok (.invokestatic 144, 3) := by decide +kernel
theorem dX8_ask_4 : decode cX8_ask 4 = .ok (.ifCond .eq 5, 3) := by decide +kernel
theorem dX8_ask_7 : decode cX8_ask 7 = .ok (.iconst (-1), 1) := by decide +kernel
theorem dX8_ask_8 : decode cX8_ask 8 = .ok (.ireturn, 1) := by decide +kernel
theorem dX8_ask_9 : decode cX8_ask 9 = .ok (.aload_n 0, 1) := by decide +kernel
theorem dX8_ask_10 : decode cX8_ask 10 = .ok (.getfield 19, 3) := by decide +kernel
theorem dX8_ask_13 : decode cX8_ask 13 = .ok (.iload_n 1, 1) := by decide +kernel
theorem dX8_ask_14 : decode cX8_ask 14 = .ok (.invokevirtual 168, 3) := by decide +kernel
theorem dX8_ask_17 : decode cX8_ask 17 = .ok (.ifCond .ne 10, 3) := by decide +kernel
theorem dX8_ask_20 : decode cX8_ask 20 = .ok (.iload_n 2, 1) := by decide +kernel
theorem dX8_ask_21 : decode cX8_ask 21 = .ok (.invokestatic 99, 3) := by decide +kernel
theorem dX8_ask_24 : decode cX8_ask 24 = .ok (.ifCond .eq 6, 3) := by decide +kernel
theorem dX8_ask_27 : decode cX8_ask 27 = .ok (.bipush (-2), 2) := by decide +kernel
theorem dX8_ask_29 : decode cX8_ask 29 = .ok (.ireturn, 1) := by decide +kernel
theorem dX8_ask_30 : decode cX8_ask 30 = .ok (.aload_n 0, 1) := by decide +kernel
theorem dX8_ask_31 : decode cX8_ask 31 = .ok (.getfield 19, 3) := by decide +kernel
theorem dX8_ask_34 : decode cX8_ask 34 = .ok (.iload_n 1, 1) := by decide +kernel
theorem dX8_ask_35 : decode cX8_ask 35 = .ok (.iload_n 2, 1) := by decide +kernel
theorem dX8_ask_36 : decode cX8_ask 36 = .ok (.iload_n 3, 1) := by decide +kernel
theorem dX8_ask_37 : decode cX8_ask 37 = .ok (.invokevirtual 181, 3) := by decide +kernel
theorem dX8_ask_40 : decode cX8_ask 40 = .ok (.istore 5, 2) := by decide +kernel
theorem dX8_ask_42 : decode cX8_ask 42 = .ok (.aload_n 0, 1) := by decide +kernel
theorem dX8_ask_43 : decode cX8_ask 43 = .ok (.getfield 19, 3) := by decide +kernel
theorem dX8_ask_46 : decode cX8_ask 46 = .ok (.getfield 174, 3) := by decide +kernel
theorem dX8_ask_49 : decode cX8_ask 49 = .ok (.iload 5, 2) := by decide +kernel
theorem dX8_ask_51 : decode cX8_ask 51 = .ok (.aload_n 0, 1) := by decide +kernel
theorem dX8_ask_52 : decode cX8_ask 52 = .ok (.getfield 19, 3) := by decide +kernel
theorem dX8_ask_55 : decode cX8_ask 55 = .ok (.iload 5, 2) := by decide +kernel
theorem dX8_ask_57 : decode cX8_ask 57 = .ok (.iload_n 1, 1) := by decide +kernel
theorem dX8_ask_58 : decode cX8_ask 58 = .ok (.iload 5, 2) := by decide +kernel
theorem dX8_ask_60 : decode cX8_ask 60 = .ok (.invokestatic 185, 3) := by decide +kernel
theorem dX8_ask_63 : decode cX8_ask 63 = .ok (.iload_n 2, 1) := by decide +kernel
theorem dX8_ask_64 : decode cX8_ask 64 = .ok (.invokevirtual 189, 3) := by decide +kernel
theorem dX8_ask_67 : decode cX8_ask 67 = .ok (.iload 4, 2) := by decide +kernel
theorem dX8_ask_69 : decode cX8_ask 69 = .ok (.invokevirtual 193, 3) := by decide +kernel
theorem dX8_ask_72 : decode cX8_ask 72 = .ok (.iload 5, 2) := by decide +kernel
theorem dX8_ask_74 : decode cX8_ask 74 = .ok (.ireturn, 1) := by decide +kernel
theorem dX8_lesson_0 : decode cX8_lesson 0 = .ok (.iload_n 1, 1) := by decide +kernel
theorem dX8_lesson_1 : decode cX8_lesson 1 = .ok (.tableswitch 121 0 5 #[39, 50, 61, 72, 105, 113], 39) := by decide +kernel
theorem dX8_lesson_40 : decode cX8_lesson 40 = .ok (.aload_n 0, 1) := by decide +kernel
theorem dX8_lesson_41 : decode cX8_lesson 41 = .ok (.getfield 19, 3) := by decide +kernel
theorem dX8_lesson_44 : decode cX8_lesson 44 = .ok (.getfield 174, 3) := by decide +kernel
theorem dX8_lesson_47 : decode cX8_lesson 47 = .ok (.getfield 197, 3) := by decide +kernel
theorem dX8_lesson_50 : decode cX8_lesson 50 = .ok (.ireturn, 1) := by decide +kernel
theorem dX8_lesson_51 : decode cX8_lesson 51 = .ok (.aload_n 0, 1) := by decide +kernel
theorem dX8_lesson_52 : decode cX8_lesson 52 = .ok (.getfield 19, 3) := by decide +kernel
theorem dX8_lesson_55 : decode cX8_lesson 55 = .ok (.getfield 174, 3) := by decide +kernel
theorem dX8_lesson_58 : decode cX8_lesson 58 = .ok (.getfield 200, 3) := by decide +kernel
theorem dX8_lesson_61 : decode cX8_lesson 61 = .ok (.ireturn, 1) := by decide +kernel
theorem dX8_lesson_62 : decode cX8_lesson 62 = .ok (.aload_n 0, 1) := by decide +kernel
theorem dX8_lesson_63 : decode cX8_lesson 63 = .ok (.getfield 19, 3) := by decide +kernel
theorem dX8_lesson_66 : decode cX8_lesson 66 = .ok (.getfield 174, 3) := by decide +kernel
theorem dX8_lesson_69 : decode cX8_lesson 69 = .ok (.getfield 203, 3) := by decide +kernel
theorem dX8_lesson_72 : decode cX8_lesson 72 = .ok (.ireturn, 1) := by decide +kernel
theorem dX8_lesson_73 : decode cX8_lesson 73 = .ok (.aload_n 0, 1) := by decide +kernel
theorem dX8_lesson_74 : decode cX8_lesson 74 = .ok (.getfield 19, 3) := by decide +kernel
theorem dX8_lesson_77 : decode cX8_lesson 77 = .ok (.getfield 174, 3) := by decide +kernel
theorem dX8_lesson_80 : decode cX8_lesson 80 = .ok (.getfield 197, 3) := by decide +kernel
theorem dX8_lesson_83 : decode cX8_lesson 83 = .ok (.aload_n 0, 1) := by decide +kernel
theorem dX8_lesson_84 : decode cX8_lesson 84 = .ok (.getfield 19, 3) := by decide +kernel
theorem dX8_lesson_87 : decode cX8_lesson 87 = .ok (.getfield 174, 3) := by decide +kernel
theorem dX8_lesson_90 : decode cX8_lesson 90 = .ok (.getfield 200, 3) := by decide +kernel
theorem dX8_lesson_93 : decode cX8_lesson 93 = .ok (.isub, 1) := by decide +kernel
theorem dX8_lesson_94 : decode cX8_lesson 94 = .ok (.aload_n 0, 1) := by decide +kernel
theorem dX8_lesson_95 : decode cX8_lesson 95 = .ok (.getfield 19, 3) := by decide +kernel
theorem dX8_lesson_98 : decode cX8_lesson 98 = .ok (.getfield 174, 3) := by decide +kernel
theorem dX8_lesson_101 : decode cX8_lesson 101 = .ok (.getfield 203, 3) := by decide +kernel
theorem dX8_lesson_104 : decode cX8_lesson 104 = .ok (.isub, 1) := by decide +kernel
theorem dX8_lesson_105 : decode cX8_lesson 105 = .ok (.ireturn, 1) := by decide +kernel
theorem dX8_lesson_106 : decode cX8_lesson 106 = .ok (.aload_n 0, 1) := by decide +kernel
theorem dX8_lesson_107 : decode cX8_lesson 107 = .ok (.getfield 19, 3) := by decide +kernel
theorem dX8_lesson_110 : decode cX8_lesson 110 = .ok (.invokevirtual 206, 3) := by decide +kernel
theorem dX8_lesson_113 : decode cX8_lesson 113 = .ok (.ireturn, 1) := by decide +kernel
theorem dX8_lesson_114 : decode cX8_lesson 114 = .ok (.aload_n 0, 1) := by decide +kernel
theorem dX8_lesson_115 : decode cX8_lesson 115 = .ok (.getfield 19, 3) := by decide +kernel
theorem dX8_lesson_118 : decode cX8_lesson 118 = .ok (.invokevirtual 209, 3) := by decide +kernel
theorem dX8_lesson_121 : decode cX8_lesson 121 = .ok (.ireturn, 1) := by decide +kernel
theorem dX8_lesson_122 : decode cX8_lesson 122 = .ok (.bipush (-2), 2) := by decide +kernel
theorem dX8_lesson_124 : decode cX8_lesson 124 = .ok (.ireturn, 1) := by decide +kernel
theorem dX8_tape_0 : decode cX8_tape 0 = .ok (.iload_n 1, 1) := by decide +kernel
theorem dX8_tape_1 : decode cX8_tape 1 = .ok (.iconst 1, 1) := by decide +kernel
theorem dX8_tape_2 : decode cX8_tape 2 = .ok (.sipush 4095, 3) := by decide +kernel
theorem dX8_tape_5 : decode cX8_tape 5 = .ok (.invokestatic 61, 3) := by decide +kernel
theorem dX8_tape_8 : decode cX8_tape 8 = .ok (.ifCond .ne 11, 3) := by decide +kernel
theorem dX8_tape_11 : decode cX8_tape 11 = .ok (.iload_n 1, 1) := by decide +kernel
theorem dX8_tape_12 : decode cX8_tape 12 = .ok (.iload_n 2, 1) := by decide +kernel
theorem dX8_tape_13 : decode cX8_tape 13 = .ok (.invokestatic 185, 3) := by decide +kernel
theorem dX8_tape_16 : decode cX8_tape 16 = .ok (.ifCond .ne 6, 3) := by decide +kernel
theorem dX8_tape_19 : decode cX8_tape 19 = .ok (.bipush (-2), 2) := by decide +kernel
theorem dX8_tape_21 : decode cX8_tape 21 = .ok (.ireturn, 1) := by decide +kernel
theorem dX8_tape_22 : decode cX8_tape 22 = .ok (.aload_n 0, 1) := by decide +kernel
theorem dX8_tape_23 : decode cX8_tape 23 = .ok (.getfield 50, 3) := by decide +kernel
theorem dX8_tape_26 : decode cX8_tape 26 = .ok (.iload_n 1, 1) := by decide +kernel
theorem dX8_tape_27 : decode cX8_tape 27 = .ok (.iload_n 2, 1) := by decide +kernel
theorem dX8_tape_28 : decode cX8_tape 28 = .ok (.invokevirtual 212, 3) := by decide +kernel
theorem dX8_tape_31 : decode cX8_tape 31 = .ok (.ireturn, 1) := by decide +kernel
theorem dX8_untape_0 : decode cX8_untape 0 = .ok (.aload_n 0, 1) := by decide +kernel
theorem dX8_untape_1 : decode cX8_untape 1 = .ok (.getfield 50, 3) := by decide +kernel
theorem dX8_untape_4 : decode cX8_untape 4 = .ok (.invokevirtual 215, 3) := by decide +kernel
theorem dX8_untape_7 : decode cX8_untape 7 = .ok (.ireturn, 1) := by decide +kernel
theorem dX8_came_0 : decode cX8_came 0 = .ok (.iload_n 1, 1) := by decide +kernel
theorem dX8_came_1 : decode cX8_came 1 = .ok (.iconst 0, 1) := by decide +kernel
theorem dX8_came_2 : decode cX8_came 2 = .ok (.sipush 4095, 3) := by decide +kernel
theorem dX8_came_5 : decode cX8_came 5 = .ok (.invokestatic 61, 3) := by decide +kernel
theorem dX8_came_8 : decode cX8_came 8 = .ok (.ifCond .eq 8, 3) := by decide +kernel
theorem dX8_came_11 : decode cX8_came 11 = .ok (.bipush (-2), 2) := by decide +kernel
theorem dX8_came_13 : decode cX8_came 13 = .ok (.goto 11, 3) := by decide +kernel
theorem dX8_came_16 : decode cX8_came 16 = .ok (.aload_n 0, 1) := by decide +kernel
theorem dX8_came_17 : decode cX8_came 17 = .ok (.getfield 50, 3) := by decide +kernel
theorem dX8_came_20 : decode cX8_came 20 = .ok (.iload_n 1, 1) := by decide +kernel
theorem dX8_came_21 : decode cX8_came 21 = .ok (.invokevirtual 216, 3) := by decide +kernel
theorem dX8_came_24 : decode cX8_came 24 = .ok (.ireturn, 1) := by decide +kernel
theorem dX8_due_0 : decode cX8_due 0 = .ok (.iload_n 1, 1) := by decide +kernel
theorem dX8_due_1 : decode cX8_due 1 = .ok (.iconst 0, 1) := by decide +kernel
theorem dX8_due_2 : decode cX8_due 2 = .ok (.sipush 4095, 3) := by decide +kernel
theorem dX8_due_5 : decode cX8_due 5 = .ok (.invokestatic 61, 3) := by decide +kernel
theorem dX8_due_8 : decode cX8_due 8 = .ok (.ifCond .eq 9, 3) := by decide +kernel
theorem dX8_due_11 : decode cX8_due 11 = .ok (.ldc2_w 112, 3) := by decide +kernel
theorem dX8_due_14 : decode cX8_due 14 = .ok (.goto 18, 3) := by decide +kernel
theorem dX8_due_17 : decode cX8_due 17 = .ok (.aload_n 0, 1) := by decide +kernel
theorem dX8_due_18 : decode cX8_due 18 = .ok (.getfield 50, 3) := by decide +kernel
theorem dX8_due_21 : decode cX8_due 21 = .ok (.iload_n 1, 1) := by decide +kernel
theorem dX8_due_22 : decode cX8_due 22 = .ok (.invokevirtual 219, 3) := by decide +kernel
theorem dX8_due_25 : decode cX8_due 25 = .ok (.ldc2_w 222, 3) := by decide +kernel
theorem dX8_due_28 : decode cX8_due 28 = .ok (.iload_n 2, 1) := by decide +kernel
theorem dX8_due_29 : decode cX8_due 29 = .ok (.invokestatic 131, 3) := by decide +kernel
theorem dX8_due_32 : decode cX8_due 32 = .ok (.lreturn, 1) := by decide +kernel
theorem dX8_luck_0 : decode cX8_luck 0 = .ok (.iload_n 1, 1) := by decide +kernel
theorem dX8_luck_1 : decode cX8_luck 1 = .ok (.iconst 0, 1) := by decide +kernel
theorem dX8_luck_2 : decode cX8_luck 2 = .ok (.sipush 4095, 3) := by decide +kernel
theorem dX8_luck_5 : decode cX8_luck 5 = .ok (.invokestatic 61, 3) := by decide +kernel
theorem dX8_luck_8 : decode cX8_luck 8 = .ok (.ifCond .eq 7, 3) := by decide +kernel
theorem dX8_luck_11 : decode cX8_luck 11 = .ok (.ldc2_w 112, 3) := by decide +kernel
theorem dX8_luck_14 : decode cX8_luck 14 = .ok (.lreturn, 1) := by decide +kernel
theorem dX8_luck_15 : decode cX8_luck 15 = .ok (.aload_n 0, 1) := by decide +kernel
theorem dX8_luck_16 : decode cX8_luck 16 = .ok (.getfield 50, 3) := by decide +kernel
theorem dX8_luck_19 : decode cX8_luck 19 = .ok (.iload_n 1, 1) := by decide +kernel
theorem dX8_luck_20 : decode cX8_luck 20 = .ok (.invokevirtual 224, 3) := by decide +kernel
theorem dX8_luck_23 : decode cX8_luck 23 = .ok (.aload_n 0, 1) := by decide +kernel
theorem dX8_luck_24 : decode cX8_luck 24 = .ok (.getfield 50, 3) := by decide +kernel
theorem dX8_luck_27 : decode cX8_luck 27 = .ok (.invokevirtual 227, 3) := by decide +kernel
theorem dX8_luck_30 : decode cX8_luck 30 = .ok (.iload_n 2, 1) := by decide +kernel
theorem dX8_luck_31 : decode cX8_luck 31 = .ok (.invokestatic 131, 3) := by decide +kernel
theorem dX8_luck_34 : decode cX8_luck 34 = .ok (.lreturn, 1) := by decide +kernel
theorem dX8_boards_0 : decode cX8_boards 0 = .ok (.iload_n 1, 1) := by decide +kernel
theorem dX8_boards_1 : decode cX8_boards 1 = .ok (.iconst 1, 1) := by decide +kernel
theorem dX8_boards_2 : decode cX8_boards 2 = .ok (.bipush 30, 2) := by decide +kernel
theorem dX8_boards_4 : decode cX8_boards 4 = .ok (.invokestatic 61, 3) := by decide +kernel
theorem dX8_boards_7 : decode cX8_boards 7 = .ok (.ifCond .ne 31, 3) := by decide +kernel
theorem dX8_boards_10 : decode cX8_boards 10 = .ok (.iload_n 2, 1) := by decide +kernel
theorem dX8_boards_11 : decode cX8_boards 11 = .ok (.iconst 0, 1) := by decide +kernel
theorem dX8_boards_12 : decode cX8_boards 12 = .ok (.iload_n 1, 1) := by decide +kernel
theorem dX8_boards_13 : decode cX8_boards 13 = .ok (.invokestatic 61, 3) := by decide +kernel
theorem dX8_boards_16 : decode cX8_boards 16 = .ok (.ifCond .ne 22, 3) := by decide +kernel
theorem dX8_boards_19 : decode cX8_boards 19 = .ok (.iload_n 3, 1) := by decide +kernel
theorem dX8_boards_20 : decode cX8_boards 20 = .ok (.iconst 1, 1) := by decide +kernel
theorem dX8_boards_21 : decode cX8_boards 21 = .ok (.iload_n 1, 1) := by decide +kernel
theorem dX8_boards_22 : decode cX8_boards 22 = .ok (.invokestatic 61, 3) := by decide +kernel
theorem dX8_boards_25 : decode cX8_boards 25 = .ok (.ifCond .ne 13, 3) := by decide +kernel
theorem dX8_boards_28 : decode cX8_boards 28 = .ok (.iload 4, 2) := by decide +kernel
theorem dX8_boards_30 : decode cX8_boards 30 = .ok (.iconst 0, 1) := by decide +kernel
theorem dX8_boards_31 : decode cX8_boards 31 = .ok (.iload_n 3, 1) := by decide +kernel
theorem dX8_boards_32 : decode cX8_boards 32 = .ok (.invokestatic 61, 3) := by decide +kernel
theorem dX8_boards_35 : decode cX8_boards 35 = .ok (.ifCond .eq 7, 3) := by decide +kernel
theorem dX8_boards_38 : decode cX8_boards 38 = .ok (.ldc2_w 112, 3) := by decide +kernel
theorem dX8_boards_41 : decode cX8_boards 41 = .ok (.lreturn, 1) := by decide +kernel
theorem dX8_boards_42 : decode cX8_boards 42 = .ok (.iload_n 1, 1) := by decide +kernel
theorem dX8_boards_43 : decode cX8_boards 43 = .ok (.iload_n 2, 1) := by decide +kernel
theorem dX8_boards_44 : decode cX8_boards 44 = .ok (.iload_n 3, 1) := by decide +kernel
theorem dX8_boards_45 : decode cX8_boards 45 = .ok (.iload 4, 2) := by decide +kernel
theorem dX8_boards_47 : decode cX8_boards 47 = .ok (.invokestatic 230, 3) := by decide +kernel
theorem dX8_boards_50 : decode cX8_boards 50 = .ok (.iload_n 1, 1) := by decide +kernel
theorem dX8_boards_51 : decode cX8_boards 51 = .ok (.iload_n 3, 1) := by decide +kernel
theorem dX8_boards_52 : decode cX8_boards 52 = .ok (.invokestatic 234, 3) := by decide +kernel
theorem dX8_boards_55 : decode cX8_boards 55 = .ok (.iload 5, 2) := by decide +kernel
theorem dX8_boards_57 : decode cX8_boards 57 = .ok (.invokestatic 131, 3) := by decide +kernel
theorem dX8_boards_60 : decode cX8_boards 60 = .ok (.lreturn, 1) := by decide +kernel
theorem dX8_span_0 : decode cX8_span 0 = .ok (.iload_n 1, 1) := by decide +kernel
theorem dX8_span_1 : decode cX8_span 1 = .ok (.iconst 1, 1) := by decide +kernel
theorem dX8_span_2 : decode cX8_span 2 = .ok (.bipush 30, 2) := by decide +kernel
theorem dX8_span_4 : decode cX8_span 4 = .ok (.invokestatic 61, 3) := by decide +kernel
theorem dX8_span_7 : decode cX8_span 7 = .ok (.ifCond .ne 21, 3) := by decide +kernel
theorem dX8_span_10 : decode cX8_span 10 = .ok (.iload_n 2, 1) := by decide +kernel
theorem dX8_span_11 : decode cX8_span 11 = .ok (.iconst 1, 1) := by decide +kernel
theorem dX8_span_12 : decode cX8_span 12 = .ok (.iload_n 1, 1) := by decide +kernel
theorem dX8_span_13 : decode cX8_span 13 = .ok (.invokestatic 61, 3) := by decide +kernel
theorem dX8_span_16 : decode cX8_span 16 = .ok (.ifCond .ne 12, 3) := by decide +kernel
theorem dX8_span_19 : decode cX8_span 19 = .ok (.iload_n 3, 1) := by decide +kernel
theorem dX8_span_20 : decode cX8_span 20 = .ok (.iconst 0, 1) := by decide +kernel
theorem dX8_span_21 : decode cX8_span 21 = .ok (.iload_n 2, 1) := by decide +kernel
theorem dX8_span_22 : decode cX8_span 22 = .ok (.invokestatic 61, 3) := by decide +kernel
theorem dX8_span_25 : decode cX8_span 25 = .ok (.ifCond .eq 6, 3) := by decide +kernel
theorem dX8_span_28 : decode cX8_span 28 = .ok (.bipush (-2), 2) := by decide +kernel
theorem dX8_span_30 : decode cX8_span 30 = .ok (.ireturn, 1) := by decide +kernel
theorem dX8_span_31 : decode cX8_span 31 = .ok (.iload_n 1, 1) := by decide +kernel
theorem dX8_span_32 : decode cX8_span 32 = .ok (.iload_n 2, 1) := by decide +kernel
theorem dX8_span_33 : decode cX8_span 33 = .ok (.invokestatic 234, 3) := by decide +kernel
theorem dX8_span_36 : decode cX8_span 36 = .ok (.lstore 5, 2) := by decide +kernel
theorem dX8_span_38 : decode cX8_span 38 = .ok (.bipush (-9), 2) := by decide +kernel
theorem dX8_span_40 : decode cX8_span 40 = .ok (.istore 7, 2) := by decide +kernel
theorem dX8_span_42 : decode cX8_span 42 = .ok (.iconst 0, 1) := by decide +kernel
theorem dX8_span_43 : decode cX8_span 43 = .ok (.istore 8, 2) := by decide +kernel
theorem dX8_span_45 : decode cX8_span 45 = .ok (.iload 8, 2) := by decide +kernel
theorem dX8_span_47 : decode cX8_span 47 = .ok (.iload_n 1, 1) := by decide +kernel
theorem dX8_span_48 : decode cX8_span 48 = .ok (.if_icmp .gt 55, 3) := by decide +kernel
theorem dX8_span_51 : decode cX8_span 51 = .ok (.ldc2_w 237, 3) := by decide +kernel
theorem dX8_span_54 : decode cX8_span 54 = .ok (.iload_n 1, 1) := by decide +kernel
theorem dX8_span_55 : decode cX8_span 55 = .ok (.iload 8, 2) := by decide +kernel
theorem dX8_span_57 : decode cX8_span 57 = .ok (.iload_n 2, 1) := by decide +kernel
theorem dX8_span_58 : decode cX8_span 58 = .ok (.iload_n 3, 1) := by decide +kernel
theorem dX8_span_59 : decode cX8_span 59 = .ok (.invokestatic 230, 3) := by decide +kernel
theorem dX8_span_62 : decode cX8_span 62 = .ok (.lmul, 1) := by decide +kernel
theorem dX8_span_63 : decode cX8_span 63 = .ok (.lload 5, 2) := by decide +kernel
theorem dX8_span_65 : decode cX8_span 65 = .ok (.lcmp, 1) := by decide +kernel
theorem dX8_span_66 : decode cX8_span 66 = .ok (.ifCond .lt 7, 3) := by decide +kernel
theorem dX8_span_69 : decode cX8_span 69 = .ok (.iconst 1, 1) := by decide +kernel
theorem dX8_span_70 : decode cX8_span 70 = .ok (.goto 4, 3) := by decide +kernel
theorem dX8_span_73 : decode cX8_span 73 = .ok (.iconst 0, 1) := by decide +kernel
theorem dX8_span_74 : decode cX8_span 74 = .ok (.istore 9, 2) := by decide +kernel
theorem dX8_span_76 : decode cX8_span 76 = .ok (.iload 9, 2) := by decide +kernel
theorem dX8_span_78 : decode cX8_span 78 = .ok (.ifCond .eq 19, 3) := by decide +kernel
theorem dX8_span_81 : decode cX8_span 81 = .ok (.iload 4, 2) := by decide +kernel
theorem dX8_span_83 : decode cX8_span 83 = .ok (.ifCond .ne 10, 3) := by decide +kernel
theorem dX8_span_86 : decode cX8_span 86 = .ok (.iload 7, 2) := by decide +kernel
theorem dX8_span_88 : decode cX8_span 88 = .ok (.bipush (-9), 2) := by decide +kernel
theorem dX8_span_90 : decode cX8_span 90 = .ok (.if_icmp .ne 7, 3) := by decide +kernel
theorem dX8_span_93 : decode cX8_span 93 = .ok (.iload 8, 2) := by decide +kernel
theorem dX8_span_95 : decode cX8_span 95 = .ok (.istore 7, 2) := by decide +kernel
theorem dX8_span_97 : decode cX8_span 97 = .ok (.iinc 8 1, 3) := by decide +kernel
theorem dX8_span_100 : decode cX8_span 100 = .ok (.goto (-55), 3) := by decide +kernel
theorem dX8_span_103 : decode cX8_span 103 = .ok (.iload 7, 2) := by decide +kernel
theorem dX8_span_105 : decode cX8_span 105 = .ok (.ireturn, 1) := by decide +kernel
theorem dX8_trial_0 : decode cX8_trial 0 = .ok (.iload_n 1, 1) := by decide +kernel
theorem dX8_trial_1 : decode cX8_trial 1 = .ok (.iconst 0, 1) := by decide +kernel
theorem dX8_trial_2 : decode cX8_trial 2 = .ok (.bipush 99, 2) := by decide +kernel
theorem dX8_trial_4 : decode cX8_trial 4 = .ok (.invokestatic 61, 3) := by decide +kernel
theorem dX8_trial_7 : decode cX8_trial 7 = .ok (.ifCond .eq 8, 3) := by decide +kernel
theorem dX8_trial_10 : decode cX8_trial 10 = .ok (.bipush (-2), 2) := by decide +kernel
theorem dX8_trial_12 : decode cX8_trial 12 = .ok (.goto 12, 3) := by decide +kernel
theorem dX8_trial_15 : decode cX8_trial 15 = .ok (.aload_n 0, 1) := by decide +kernel
theorem dX8_trial_16 : decode cX8_trial 16 = .ok (.getfield 57, 3) := by decide +kernel
theorem dX8_trial_19 : decode cX8_trial 19 = .ok (.iload_n 1, 1) := by decide +kernel
theorem dX8_trial_20 : decode cX8_trial 20 = .ok (.iload_n 2, 1) := by decide +kernel
theorem dX8_trial_21 : decode cX8_trial 21 = .ok (.invokevirtual 239, 3) := by decide +kernel
theorem dX8_trial_24 : decode cX8_trial 24 = .ok (.ireturn, 1) := by decide +kernel
theorem dX8_untrial_0 : decode cX8_untrial 0 = .ok (.aload_n 0, 1) := by decide +kernel
theorem dX8_untrial_1 : decode cX8_untrial 1 = .ok (.getfield 57, 3) := by decide +kernel
theorem dX8_untrial_4 : decode cX8_untrial 4 = .ok (.invokevirtual 242, 3) := by decide +kernel
theorem dX8_untrial_7 : decode cX8_untrial 7 = .ok (.ireturn, 1) := by decide +kernel
theorem dX8_chance_0 : decode cX8_chance 0 = .ok (.aload_n 0, 1) := by decide +kernel
theorem dX8_chance_1 : decode cX8_chance 1 = .ok (.getfield 57, 3) := by decide +kernel
theorem dX8_chance_4 : decode cX8_chance 4 = .ok (.iconst 1, 1) := by decide +kernel
theorem dX8_chance_5 : decode cX8_chance 5 = .ok (.invokevirtual 243, 3) := by decide +kernel
theorem dX8_chance_8 : decode cX8_chance 8 = .ok (.aload_n 0, 1) := by decide +kernel
theorem dX8_chance_9 : decode cX8_chance 9 = .ok (.getfield 57, 3) := by decide +kernel
theorem dX8_chance_12 : decode cX8_chance 12 = .ok (.iconst 0, 1) := by decide +kernel
theorem dX8_chance_13 : decode cX8_chance 13 = .ok (.invokevirtual 243, 3) := by decide +kernel
theorem dX8_chance_16 : decode cX8_chance 16 = .ok (.iload_n 1, 1) := by decide +kernel
theorem dX8_chance_17 : decode cX8_chance 17 = .ok (.invokestatic 131, 3) := by decide +kernel
theorem dX8_chance_20 : decode cX8_chance 20 = .ok (.lreturn, 1) := by decide +kernel
theorem dX8_until_0 : decode cX8_until 0 = .ok (.iload_n 1, 1) := by decide +kernel
theorem dX8_until_1 : decode cX8_until 1 = .ok (.iconst 1, 1) := by decide +kernel
theorem dX8_until_2 : decode cX8_until 2 = .ok (.bipush 12, 2) := by decide +kernel
theorem dX8_until_4 : decode cX8_until 4 = .ok (.invokestatic 61, 3) := by decide +kernel
theorem dX8_until_7 : decode cX8_until 7 = .ok (.ifCond .eq 7, 3) := by decide +kernel
theorem dX8_until_10 : decode cX8_until 10 = .ok (.ldc2_w 112, 3) := by decide +kernel
theorem dX8_until_13 : decode cX8_until 13 = .ok (.lreturn, 1) := by decide +kernel
theorem dX8_until_14 : decode cX8_until 14 = .ok (.lconst 0, 1) := by decide +kernel
theorem dX8_until_15 : decode cX8_until 15 = .ok (.lstore_n 3, 1) := by decide +kernel
theorem dX8_until_16 : decode cX8_until 16 = .ok (.iconst 1, 1) := by decide +kernel
theorem dX8_until_17 : decode cX8_until 17 = .ok (.istore 5, 2) := by decide +kernel
theorem dX8_until_19 : decode cX8_until 19 = .ok (.iload 5, 2) := by decide +kernel
theorem dX8_until_21 : decode cX8_until 21 = .ok (.iload_n 1, 1) := by decide +kernel
theorem dX8_until_22 : decode cX8_until 22 = .ok (.if_icmp .gt 20, 3) := by decide +kernel
theorem dX8_until_25 : decode cX8_until 25 = .ok (.lload_n 3, 1) := by decide +kernel
theorem dX8_until_26 : decode cX8_until 26 = .ok (.iload_n 1, 1) := by decide +kernel
theorem dX8_until_27 : decode cX8_until 27 = .ok (.i2l, 1) := by decide +kernel
theorem dX8_until_28 : decode cX8_until 28 = .ok (.iload 5, 2) := by decide +kernel
theorem dX8_until_30 : decode cX8_until 30 = .ok (.invokestatic 247, 3) := by decide +kernel
theorem dX8_until_33 : decode cX8_until 33 = .ok (.lmul, 1) := by decide +kernel
theorem dX8_until_34 : decode cX8_until 34 = .ok (.ladd, 1) := by decide +kernel
theorem dX8_until_35 : decode cX8_until 35 = .ok (.lstore_n 3, 1) := by decide +kernel
theorem dX8_until_36 : decode cX8_until 36 = .ok (.iinc 5 1, 3) := by decide +kernel
theorem dX8_until_39 : decode cX8_until 39 = .ok (.goto (-20), 3) := by decide +kernel
theorem dX8_until_42 : decode cX8_until 42 = .ok (.lload_n 3, 1) := by decide +kernel
theorem dX8_until_43 : decode cX8_until 43 = .ok (.ldc2_w 222, 3) := by decide +kernel
theorem dX8_until_46 : decode cX8_until 46 = .ok (.iload_n 2, 1) := by decide +kernel
theorem dX8_until_47 : decode cX8_until 47 = .ok (.invokestatic 131, 3) := by decide +kernel
theorem dX8_until_50 : decode cX8_until 50 = .ok (.lreturn, 1) := by decide +kernel
theorem dX8_keep_0 : decode cX8_keep 0 = .ok (.iload_n 1, 1) := by decide +kernel
theorem dX8_keep_1 : decode cX8_keep 1 = .ok (.iconst 0, 1) := by decide +kernel
theorem dX8_keep_2 : decode cX8_keep 2 = .ok (.iconst 1, 1) := by decide +kernel
theorem dX8_keep_3 : decode cX8_keep 3 = .ok (.invokestatic 61, 3) := by decide +kernel
theorem dX8_keep_6 : decode cX8_keep 6 = .ok (.ifCond .eq 5, 3) := by decide +kernel
theorem dX8_keep_9 : decode cX8_keep 9 = .ok (.iconst (-1), 1) := by decide +kernel
theorem dX8_keep_10 : decode cX8_keep 10 = .ok (.ireturn, 1) := by decide +kernel
theorem dX8_keep_11 : decode cX8_keep 11 = .ok (.aload_n 0, 1) := by decide +kernel
theorem dX8_keep_12 : decode cX8_keep 12 = .ok (.iload_n 1, 1) := by decide +kernel
theorem dX8_keep_13 : decode cX8_keep 13 = .ok (.invokevirtual 250, 3) := by decide +kernel
theorem dX8_keep_16 : decode cX8_keep 16 = .ok (.astore_n 2, 1) := by decide +kernel
theorem dX8_keep_17 : decode cX8_keep 17 = .ok (.aload_n 2, 1) := by decide +kernel
theorem dX8_keep_18 : decode cX8_keep 18 = .ok (.aload_n 0, 1) := by decide +kernel
theorem dX8_keep_19 : decode cX8_keep 19 = .ok (.getfield 19, 3) := by decide +kernel
theorem dX8_keep_22 : decode cX8_keep 22 = .ok (.getfield 174, 3) := by decide +kernel
theorem dX8_keep_25 : decode cX8_keep 25 = .ok (.invokevirtual 254, 3) := by decide +kernel
theorem dX8_keep_28 : decode cX8_keep 28 = .ok (.aload_n 2, 1) := by decide +kernel
theorem dX8_keep_29 : decode cX8_keep 29 = .ok (.iconst 1, 1) := by decide +kernel
theorem dX8_keep_30 : decode cX8_keep 30 = .ok (.putfield 80, 3) := by decide +kernel
theorem dX8_keep_33 : decode cX8_keep 33 = .ok (.aload_n 0, 1) := by decide +kernel
theorem dX8_keep_34 : decode cX8_keep 34 = .ok (.getfield 19, 3) := by decide +kernel
theorem dX8_keep_37 : decode cX8_keep 37 = .ok (.getfield 174, 3) := by decide +kernel
theorem dX8_keep_40 : decode cX8_keep 40 = .ok (.getfield 197, 3) := by decide +kernel
theorem dX8_keep_43 : decode cX8_keep 43 = .ok (.ireturn, 1) := by decide +kernel
theorem dX8_again_0 : decode cX8_again 0 = .ok (.iload_n 1, 1) := by decide +kernel
theorem dX8_again_1 : decode cX8_again 1 = .ok (.iconst 0, 1) := by decide +kernel
theorem dX8_again_2 : decode cX8_again 2 = .ok (.iconst 1, 1) := by decide +kernel
theorem dX8_again_3 : decode cX8_again 3 = .ok (.invokestatic 61, 3) := by decide +kernel
theorem dX8_again_6 : decode cX8_again 6 = .ok (.ifCond .eq 5, 3) := by decide +kernel
theorem dX8_again_9 : decode cX8_again 9 = .ok (.iconst (-1), 1) := by decide +kernel
theorem dX8_again_10 : decode cX8_again 10 = .ok (.ireturn, 1) := by decide +kernel
theorem dX8_again_11 : decode cX8_again 11 = .ok (.aload_n 0, 1) := by decide +kernel
theorem dX8_again_12 : decode cX8_again 12 = .ok (.iload_n 1, 1) := by decide +kernel
theorem dX8_again_13 : decode cX8_again 13 = .ok (.invokevirtual 250, 3) := by decide +kernel
theorem dX8_again_16 : decode cX8_again 16 = .ok (.astore_n 2, 1) := by decide +kernel
theorem dX8_again_17 : decode cX8_again 17 = .ok (.aload_n 2, 1) := by decide +kernel
theorem dX8_again_18 : decode cX8_again 18 = .ok (.getfield 80, 3) := by decide +kernel
theorem dX8_again_21 : decode cX8_again 21 = .ok (.ifCond .ne 6, 3) := by decide +kernel
theorem dX8_again_24 : decode cX8_again 24 = .ok (.bipush (-3), 2) := by decide +kernel
theorem dX8_again_26 : decode cX8_again 26 = .ok (.ireturn, 1) := by decide +kernel
theorem dX8_again_27 : decode cX8_again 27 = .ok (.aload_n 0, 1) := by decide +kernel
theorem dX8_again_28 : decode cX8_again 28 = .ok (.getfield 19, 3) := by decide +kernel
theorem dX8_again_31 : decode cX8_again 31 = .ok (.getfield 174, 3) := by decide +kernel
theorem dX8_again_34 : decode cX8_again 34 = .ok (.aload_n 2, 1) := by decide +kernel
theorem dX8_again_35 : decode cX8_again 35 = .ok (.invokevirtual 254, 3) := by decide +kernel
theorem dX8_again_38 : decode cX8_again 38 = .ok (.aload_n 0, 1) := by decide +kernel
theorem dX8_again_39 : decode cX8_again 39 = .ok (.getfield 19, 3) := by decide +kernel
theorem dX8_again_42 : decode cX8_again 42 = .ok (.getfield 174, 3) := by decide +kernel
theorem dX8_again_45 : decode cX8_again 45 = .ok (.getfield 197, 3) := by decide +kernel
theorem dX8_again_48 : decode cX8_again 48 = .ok (.ireturn, 1) := by decide +kernel
theorem dX8_count_0 : decode cX8_count 0 = .ok (.iload_n 1, 1) := by decide +kernel
theorem dX8_count_1 : decode cX8_count 1 = .ok (.tableswitch 78 0 4 #[35, 43, 51, 59, 67], 35) := by decide +kernel
theorem dX8_count_36 : decode cX8_count 36 = .ok (.aload_n 0, 1) := by decide +kernel
theorem dX8_count_37 : decode cX8_count 37 = .ok (.getfield 10, 3) := by decide +kernel
theorem dX8_count_40 : decode cX8_count 40 = .ok (.getfield 258, 3) := by decide +kernel
theorem dX8_count_43 : decode cX8_count 43 = .ok (.ireturn, 1) := by decide +kernel
theorem dX8_count_44 : decode cX8_count 44 = .ok (.aload_n 0, 1) := by decide +kernel
theorem dX8_count_45 : decode cX8_count 45 = .ok (.getfield 19, 3) := by decide +kernel
theorem dX8_count_48 : decode cX8_count 48 = .ok (.getfield 84, 3) := by decide +kernel
theorem dX8_count_51 : decode cX8_count 51 = .ok (.ireturn, 1) := by decide +kernel
theorem dX8_count_52 : decode cX8_count 52 = .ok (.aload_n 0, 1) := by decide +kernel
theorem dX8_count_53 : decode cX8_count 53 = .ok (.getfield 50, 3) := by decide +kernel
theorem dX8_count_56 : decode cX8_count 56 = .ok (.getfield 261, 3) := by decide +kernel
theorem dX8_count_59 : decode cX8_count 59 = .ok (.ireturn, 1) := by decide +kernel
theorem dX8_count_60 : decode cX8_count 60 = .ok (.aload_n 0, 1) := by decide +kernel
theorem dX8_count_61 : decode cX8_count 61 = .ok (.getfield 57, 3) := by decide +kernel
theorem dX8_count_64 : decode cX8_count 64 = .ok (.getfield 264, 3) := by decide +kernel
theorem dX8_count_67 : decode cX8_count 67 = .ok (.ireturn, 1) := by decide +kernel
theorem dX8_count_68 : decode cX8_count 68 = .ok (.aload_n 0, 1) := by decide +kernel
theorem dX8_count_69 : decode cX8_count 69 = .ok (.getfield 57, 3) := by decide +kernel
theorem dX8_count_72 : decode cX8_count 72 = .ok (.getfield 265, 3) := by decide +kernel
theorem dX8_count_75 : decode cX8_count 75 = .ok (.invokestatic 268, 3) := by decide +kernel
theorem dX8_count_78 : decode cX8_count 78 = .ok (.ireturn, 1) := by decide +kernel
theorem dX8_count_79 : decode cX8_count 79 = .ok (.bipush (-2), 2) := by decide +kernel
theorem dX8_count_81 : decode cX8_count 81 = .ok (.ireturn, 1) := by decide +kernel
theorem dX8_slotOf_0 : decode cX8_slotOf 0 = .ok (.iload_n 1, 1) := by decide +kernel
theorem dX8_slotOf_1 : decode cX8_slotOf 1 = .ok (.ifCond .ne 10, 3) := by decide +kernel
theorem dX8_slotOf_4 : decode cX8_slotOf 4 = .ok (.aload_n 0, 1) := by decide +kernel
theorem dX8_slotOf_5 : decode cX8_slotOf 5 = .ok (.getfield 40, 3) := by decide +kernel
theorem dX8_slotOf_8 : decode cX8_slotOf 8 = .ok (.goto 7, 3) := by decide +kernel
theorem dX8_slotOf_11 : decode cX8_slotOf 11 = .ok (.aload_n 0, 1) := by decide +kernel
theorem dX8_slotOf_12 : decode cX8_slotOf 12 = .ok (.getfield 44, 3) := by decide +kernel
theorem dX8_slotOf_15 : decode cX8_slotOf 15 = .ok (.areturn, 1) := by decide +kernel
theorem dX8_outside_0 : decode cX8_outside 0 = .ok (.iload_n 0, 1) := by decide +kernel
theorem dX8_outside_1 : decode cX8_outside 1 = .ok (.iload_n 1, 1) := by decide +kernel
theorem dX8_outside_2 : decode cX8_outside 2 = .ok (.if_icmp .lt 8, 3) := by decide +kernel
theorem dX8_outside_5 : decode cX8_outside 5 = .ok (.iload_n 0, 1) := by decide +kernel
theorem dX8_outside_6 : decode cX8_outside 6 = .ok (.iload_n 2, 1) := by decide +kernel
theorem dX8_outside_7 : decode cX8_outside 7 = .ok (.if_icmp .le 7, 3) := by decide +kernel
theorem dX8_outside_10 : decode cX8_outside 10 = .ok (.iconst 1, 1) := by decide +kernel
theorem dX8_outside_11 : decode cX8_outside 11 = .ok (.goto 4, 3) := by decide +kernel
theorem dX8_outside_14 : decode cX8_outside 14 = .ok (.iconst 0, 1) := by decide +kernel
theorem dX8_outside_15 : decode cX8_outside 15 = .ok (.ireturn, 1) := by decide +kernel
theorem dX8_noSeconds_0 : decode cX8_noSeconds 0 = .ok (.iload_n 0, 1) := by decide +kernel
theorem dX8_noSeconds_1 : decode cX8_noSeconds 1 = .ok (.iconst 0, 1) := by decide +kernel
theorem dX8_noSeconds_2 : decode cX8_noSeconds 2 = .ok (.bipush 9, 2) := by decide +kernel
theorem dX8_noSeconds_4 : decode cX8_noSeconds 4 = .ok (.invokestatic 61, 3) := by decide +kernel
theorem dX8_noSeconds_7 : decode cX8_noSeconds 7 = .ok (.ireturn, 1) := by decide +kernel
theorem dX8_noRule_0 : decode cX8_noRule 0 = .ok (.iload_n 0, 1) := by decide +kernel
theorem dX8_noRule_1 : decode cX8_noRule 1 = .ok (.iconst 0, 1) := by decide +kernel
theorem dX8_noRule_2 : decode cX8_noRule 2 = .ok (.iconst 4, 1) := by decide +kernel
theorem dX8_noRule_3 : decode cX8_noRule 3 = .ok (.invokestatic 61, 3) := by decide +kernel
theorem dX8_noRule_6 : decode cX8_noRule 6 = .ok (.ireturn, 1) := by decide +kernel
theorem dX8_isIn_0 : decode cX8_isIn 0 = .ok (.iload_n 1, 1) := by decide +kernel
theorem dX8_isIn_1 : decode cX8_isIn 1 = .ok (.ifCond .lt 22, 3) := by decide +kernel
theorem dX8_isIn_4 : decode cX8_isIn 4 = .ok (.iload_n 1, 1) := by decide +kernel
theorem dX8_isIn_5 : decode cX8_isIn 5 = .ok (.bipush 12, 2) := by decide +kernel
theorem dX8_isIn_7 : decode cX8_isIn 7 = .ok (.if_icmp .ge 16, 3) := by decide +kernel
theorem dX8_isIn_10 : decode cX8_isIn 10 = .ok (.iload_n 0, 1) := by decide +kernel
theorem dX8_isIn_11 : decode cX8_isIn 11 = .ok (.iload_n 1, 1) := by decide +kernel
theorem dX8_isIn_12 : decode cX8_isIn 12 = .ok (.ishr, 1) := by decide +kernel
theorem dX8_isIn_13 : decode cX8_isIn 13 = .ok (.iconst 1, 1) := by decide +kernel
theorem dX8_isIn_14 : decode cX8_isIn 14 = .ok (.iand, 1) := by decide +kernel
theorem dX8_isIn_15 : decode cX8_isIn 15 = .ok (.iconst 1, 1) := by decide +kernel
theorem dX8_isIn_16 : decode cX8_isIn 16 = .ok (.if_icmp .ne 7, 3) := by decide +kernel
theorem dX8_isIn_19 : decode cX8_isIn 19 = .ok (.iconst 1, 1) := by decide +kernel
theorem dX8_isIn_20 : decode cX8_isIn 20 = .ok (.goto 4, 3) := by decide +kernel
theorem dX8_isIn_23 : decode cX8_isIn 23 = .ok (.iconst 0, 1) := by decide +kernel
theorem dX8_isIn_24 : decode cX8_isIn 24 = .ok (.ireturn, 1) := by decide +kernel
theorem dX8_at_0 : decode cX8_at 0 = .ok (.iload_n 1, 1) := by decide +kernel
theorem dX8_at_1 : decode cX8_at 1 = .ok (.ifCond .lt 15, 3) := by decide +kernel
theorem dX8_at_4 : decode cX8_at 4 = .ok (.iload_n 1, 1) := by decide +kernel
theorem dX8_at_5 : decode cX8_at 5 = .ok (.aload_n 0, 1) := by decide +kernel
theorem dX8_at_6 : decode cX8_at 6 = .ok (.arraylength, 1) := by decide +kernel
theorem dX8_at_7 : decode cX8_at 7 = .ok (.if_icmp .ge 9, 3) := by decide +kernel
theorem dX8_at_10 : decode cX8_at 10 = .ok (.aload_n 0, 1) := by decide +kernel
theorem dX8_at_11 : decode cX8_at 11 = .ok (.iload_n 1, 1) := by decide +kernel
theorem dX8_at_12 : decode cX8_at 12 = .ok (.iaload, 1) := by decide +kernel
theorem dX8_at_13 : decode cX8_at 13 = .ok (.goto 4, 3) := by decide +kernel
theorem dX8_at_16 : decode cX8_at 16 = .ok (.iconst 0, 1) := by decide +kernel
theorem dX8_at_17 : decode cX8_at 17 = .ok (.ireturn, 1) := by decide +kernel
theorem dX8_put_0 : decode cX8_put 0 = .ok (.iload_n 1, 1) := by decide +kernel
theorem dX8_put_1 : decode cX8_put 1 = .ok (.ifCond .lt 13, 3) := by decide +kernel
theorem dX8_put_4 : decode cX8_put 4 = .ok (.iload_n 1, 1) := by decide +kernel
theorem dX8_put_5 : decode cX8_put 5 = .ok (.aload_n 0, 1) := by decide +kernel
theorem dX8_put_6 : decode cX8_put 6 = .ok (.arraylength, 1) := by decide +kernel
theorem dX8_put_7 : decode cX8_put 7 = .ok (.if_icmp .ge 7, 3) := by decide +kernel
theorem dX8_put_10 : decode cX8_put 10 = .ok (.aload_n 0, 1) := by decide +kernel
theorem dX8_put_11 : decode cX8_put 11 = .ok (.iload_n 1, 1) := by decide +kernel
theorem dX8_put_12 : decode cX8_put 12 = .ok (.iload_n 2, 1) := by decide +kernel
theorem dX8_put_13 : decode cX8_put 13 = .ok (.iastore, 1) := by decide +kernel
theorem dX8_put_14 : decode cX8_put 14 = .ok (.return_, 1) := by decide +kernel
theorem dX8_fraction_0 : decode cX8_fraction 0 = .ok (.lload_n 0, 1) := by decide +kernel
theorem dX8_fraction_1 : decode cX8_fraction 1 = .ok (.lload_n 2, 1) := by decide +kernel
theorem dX8_fraction_2 : decode cX8_fraction 2 = .ok (.invokestatic 273, 3) := by decide +kernel
theorem dX8_fraction_5 : decode cX8_fraction 5 = .ok (.lstore 5, 2) := by decide +kernel
theorem dX8_fraction_7 : decode cX8_fraction 7 = .ok (.lload 5, 2) := by decide +kernel
theorem dX8_fraction_9 : decode cX8_fraction 9 = .ok (.lconst 1, 1) := by decide +kernel
theorem dX8_fraction_10 : decode cX8_fraction 10 = .ok (.lcmp, 1) := by decide +kernel
theorem dX8_fraction_11 : decode cX8_fraction 11 = .ok (.ifCond .ge 14, 3) := by decide +kernel
theorem dX8_fraction_14 : decode cX8_fraction 14 = .ok (.iload 4, 2) := by decide +kernel
theorem dX8_fraction_16 : decode cX8_fraction 16 = .ok (.ifCond .eq 7, 3) := by decide +kernel
theorem dX8_fraction_19 : decode cX8_fraction 19 = .ok (.lconst 0, 1) := by decide +kernel
theorem dX8_fraction_20 : decode cX8_fraction 20 = .ok (.goto 4, 3) := by decide +kernel
theorem dX8_fraction_23 : decode cX8_fraction 23 = .ok (.lconst 1, 1) := by decide +kernel
theorem dX8_fraction_24 : decode cX8_fraction 24 = .ok (.lreturn, 1) := by decide +kernel
theorem dX8_fraction_25 : decode cX8_fraction 25 = .ok (.iload 4, 2) := by decide +kernel
theorem dX8_fraction_27 : decode cX8_fraction 27 = .ok (.ifCond .eq 7, 3) := by decide +kernel
theorem dX8_fraction_30 : decode cX8_fraction 30 = .ok (.lload_n 0, 1) := by decide +kernel
theorem dX8_fraction_31 : decode cX8_fraction 31 = .ok (.goto 4, 3) := by decide +kernel
theorem dX8_fraction_34 : decode cX8_fraction 34 = .ok (.lload_n 2, 1) := by decide +kernel
theorem dX8_fraction_35 : decode cX8_fraction 35 = .ok (.lload 5, 2) := by decide +kernel
theorem dX8_fraction_37 : decode cX8_fraction 37 = .ok (.ldiv, 1) := by decide +kernel
theorem dX8_fraction_38 : decode cX8_fraction 38 = .ok (.lreturn, 1) := by decide +kernel
theorem dX8_commonDivisor_0 : decode cX8_commonDivisor 0 = .ok (.lload_n 0, 1) := by decide +kernel
theorem dX8_commonDivisor_1 : decode cX8_commonDivisor 1 = .ok (.lstore 4, 2) := by decide +kernel
theorem dX8_commonDivisor_3 : decode cX8_commonDivisor 3 = .ok (.lload_n 2, 1) := by decide +kernel
theorem dX8_commonDivisor_4 : decode cX8_commonDivisor 4 = .ok (.lstore 6, 2) := by decide +kernel
theorem dX8_commonDivisor_6 : decode cX8_commonDivisor 6 = .ok (.iconst 0, 1) := by decide +kernel
theorem dX8_commonDivisor_7 : decode cX8_commonDivisor 7 = .ok (.istore 8, 2) := by decide +kernel
theorem dX8_commonDivisor_9 : decode cX8_commonDivisor 9 = .ok (.iload 8, 2) := by decide +kernel
theorem dX8_commonDivisor_11 : decode cX8_commonDivisor 11 = .ok (.bipush 100, 2) := by decide +kernel
theorem dX8_commonDivisor_13 : decode cX8_commonDivisor 13 = .ok (.if_icmp .ge 31, 3) := by decide +kernel
theorem dX8_commonDivisor_16 : decode cX8_commonDivisor 16 = .ok (.lload 6, 2) := by decide +kernel
theorem dX8_commonDivisor_18 : decode cX8_commonDivisor 18 = .ok (.lconst 0, 1) := by decide +kernel
theorem dX8_commonDivisor_19 : decode cX8_commonDivisor 19 = .ok (.lcmp, 1) := by decide +kernel
theorem dX8_commonDivisor_20 : decode cX8_commonDivisor 20 = .ok (.ifCond .eq 24, 3) := by decide +kernel
theorem dX8_commonDivisor_23 : decode cX8_commonDivisor 23 = .ok (.lload 4, 2) := by decide +kernel
theorem dX8_commonDivisor_25 : decode cX8_commonDivisor 25 = .ok (.lload 6, 2) := by decide +kernel
theorem dX8_commonDivisor_27 : decode cX8_commonDivisor 27 = .ok (.lrem, 1) := by decide +kernel
theorem dX8_commonDivisor_28 : decode cX8_commonDivisor 28 = .ok (.lstore 9, 2) := by decide +kernel
theorem dX8_commonDivisor_30 : decode cX8_commonDivisor 30 = .ok (.lload 6, 2) := by decide +kernel
theorem dX8_commonDivisor_32 : decode cX8_commonDivisor 32 = .ok (.lstore 4, 2) := by decide +kernel
theorem dX8_commonDivisor_34 : decode cX8_commonDivisor 34 = .ok (.lload 9, 2) := by decide +kernel
theorem dX8_commonDivisor_36 : decode cX8_commonDivisor 36 = .ok (.lstore 6, 2) := by decide +kernel
theorem dX8_commonDivisor_38 : decode cX8_commonDivisor 38 = .ok (.iinc 8 1, 3) := by decide +kernel
theorem dX8_commonDivisor_41 : decode cX8_commonDivisor 41 = .ok (.goto (-32), 3) := by decide +kernel
theorem dX8_commonDivisor_44 : decode cX8_commonDivisor 44 = .ok (.lload 4, 2) := by decide +kernel
theorem dX8_commonDivisor_46 : decode cX8_commonDivisor 46 = .ok (.lreturn, 1) := by decide +kernel
theorem dX8_tenTo_0 : decode cX8_tenTo 0 = .ok (.lconst 1, 1) := by decide +kernel
theorem dX8_tenTo_1 : decode cX8_tenTo 1 = .ok (.lstore_n 1, 1) := by decide +kernel
theorem dX8_tenTo_2 : decode cX8_tenTo 2 = .ok (.iconst 0, 1) := by decide +kernel
theorem dX8_tenTo_3 : decode cX8_tenTo 3 = .ok (.istore_n 3, 1) := by decide +kernel
theorem dX8_tenTo_4 : decode cX8_tenTo 4 = .ok (.iload_n 3, 1) := by decide +kernel
theorem dX8_tenTo_5 : decode cX8_tenTo 5 = .ok (.iload_n 0, 1) := by decide +kernel
theorem dX8_tenTo_6 : decode cX8_tenTo 6 = .ok (.if_icmp .ge 15, 3) := by decide +kernel
theorem dX8_tenTo_9 : decode cX8_tenTo 9 = .ok (.lload_n 1, 1) := by decide +kernel
theorem dX8_tenTo_10 : decode cX8_tenTo 10 = .ok (.ldc2_w 277, 3) := by decide +kernel
theorem dX8_tenTo_13 : decode cX8_tenTo 13 = .ok (.lmul, 1) := by decide +kernel
theorem dX8_tenTo_14 : decode cX8_tenTo 14 = .ok (.lstore_n 1, 1) := by decide +kernel
theorem dX8_tenTo_15 : decode cX8_tenTo 15 = .ok (.iinc 3 1, 3) := by decide +kernel
theorem dX8_tenTo_18 : decode cX8_tenTo 18 = .ok (.goto (-14), 3) := by decide +kernel
theorem dX8_tenTo_21 : decode cX8_tenTo 21 = .ok (.lload_n 1, 1) := by decide +kernel
theorem dX8_tenTo_22 : decode cX8_tenTo 22 = .ok (.lreturn, 1) := by decide +kernel
theorem dX8_share_0 : decode cX8_share 0 = .ok (.iload_n 0, 1) := by decide +kernel
theorem dX8_share_1 : decode cX8_share 1 = .ok (.iconst 1, 1) := by decide +kernel
theorem dX8_share_2 : decode cX8_share 2 = .ok (.if_icmp .ge 7, 3) := by decide +kernel
theorem dX8_share_5 : decode cX8_share 5 = .ok (.lconst 0, 1) := by decide +kernel
theorem dX8_share_6 : decode cX8_share 6 = .ok (.goto 9, 3) := by decide +kernel
theorem dX8_share_9 : decode cX8_share 9 = .ok (.sipush 27720, 3) := by decide +kernel
theorem dX8_share_12 : decode cX8_share 12 = .ok (.iload_n 0, 1) := by decide +kernel
theorem dX8_share_13 : decode cX8_share 13 = .ok (.idiv, 1) := by decide +kernel
theorem dX8_share_14 : decode cX8_share 14 = .ok (.i2l, 1) := by decide +kernel
theorem dX8_share_15 : decode cX8_share 15 = .ok (.lreturn, 1) := by decide +kernel
theorem dX8_choices_0 : decode cX8_choices 0 = .ok (.iload_n 1, 1) := by decide +kernel
theorem dX8_choices_1 : decode cX8_choices 1 = .ok (.ifCond .lt 8, 3) := by decide +kernel
theorem dX8_choices_4 : decode cX8_choices 4 = .ok (.iload_n 1, 1) := by decide +kernel
theorem dX8_choices_5 : decode cX8_choices 5 = .ok (.iload_n 0, 1) := by decide +kernel
theorem dX8_choices_6 : decode cX8_choices 6 = .ok (.if_icmp .le 5, 3) := by decide +kernel
theorem dX8_choices_9 : decode cX8_choices 9 = .ok (.lconst 0, 1) := by decide +kernel
theorem dX8_choices_10 : decode cX8_choices 10 = .ok (.lreturn, 1) := by decide +kernel
theorem dX8_choices_11 : decode cX8_choices 11 = .ok (.lconst 1, 1) := by decide +kernel
theorem dX8_choices_12 : decode cX8_choices 12 = .ok (.lstore_n 2, 1) := by decide +kernel
theorem dX8_choices_13 : decode cX8_choices 13 = .ok (.iconst 1, 1) := by decide +kernel
theorem dX8_choices_14 : decode cX8_choices 14 = .ok (.istore 4, 2) := by decide +kernel
theorem dX8_choices_16 : decode cX8_choices 16 = .ok (.iload 4, 2) := by decide +kernel
theorem dX8_choices_18 : decode cX8_choices 18 = .ok (.iload_n 1, 1) := by decide +kernel
theorem dX8_choices_19 : decode cX8_choices 19 = .ok (.if_icmp .gt 23, 3) := by decide +kernel
theorem dX8_choices_22 : decode cX8_choices 22 = .ok (.lload_n 2, 1) := by decide +kernel
theorem dX8_choices_23 : decode cX8_choices 23 = .ok (.iload_n 0, 1) := by decide +kernel
theorem dX8_choices_24 : decode cX8_choices 24 = .ok (.iload_n 1, 1) := by decide +kernel
theorem dX8_choices_25 : decode cX8_choices 25 = .ok (.isub, 1) := by decide +kernel
theorem dX8_choices_26 : decode cX8_choices 26 = .ok (.iload 4, 2) := by decide +kernel
theorem dX8_choices_28 : decode cX8_choices 28 = .ok (.iadd, 1) := by decide +kernel
theorem dX8_choices_29 : decode cX8_choices 29 = .ok (.i2l, 1) := by decide +kernel
theorem dX8_choices_30 : decode cX8_choices 30 = .ok (.lmul, 1) := by decide +kernel
theorem dX8_choices_31 : decode cX8_choices 31 = .ok (.iload 4, 2) := by decide +kernel
theorem dX8_choices_33 : decode cX8_choices 33 = .ok (.i2l, 1) := by decide +kernel
theorem dX8_choices_34 : decode cX8_choices 34 = .ok (.ldiv, 1) := by decide +kernel
theorem dX8_choices_35 : decode cX8_choices 35 = .ok (.lstore_n 2, 1) := by decide +kernel
theorem dX8_choices_36 : decode cX8_choices 36 = .ok (.iinc 4 1, 3) := by decide +kernel
theorem dX8_choices_39 : decode cX8_choices 39 = .ok (.goto (-23), 3) := by decide +kernel
theorem dX8_choices_42 : decode cX8_choices 42 = .ok (.lload_n 2, 1) := by decide +kernel
theorem dX8_choices_43 : decode cX8_choices 43 = .ok (.lreturn, 1) := by decide +kernel
theorem dX8_waysToSee_0 : decode cX8_waysToSee 0 = .ok (.iload_n 1, 1) := by decide +kernel
theorem dX8_waysToSee_1 : decode cX8_waysToSee 1 = .ok (.iload_n 3, 1) := by decide +kernel
theorem dX8_waysToSee_2 : decode cX8_waysToSee 2 = .ok (.invokestatic 234, 3) := by decide +kernel
theorem dX8_waysToSee_5 : decode cX8_waysToSee 5 = .ok (.iload_n 0, 1) := by decide +kernel
theorem dX8_waysToSee_6 : decode cX8_waysToSee 6 = .ok (.iload_n 1, 1) := by decide +kernel
theorem dX8_waysToSee_7 : decode cX8_waysToSee 7 = .ok (.isub, 1) := by decide +kernel
theorem dX8_waysToSee_8 : decode cX8_waysToSee 8 = .ok (.iload_n 2, 1) := by decide +kernel
theorem dX8_waysToSee_9 : decode cX8_waysToSee 9 = .ok (.iload_n 3, 1) := by decide +kernel
theorem dX8_waysToSee_10 : decode cX8_waysToSee 10 = .ok (.isub, 1) := by decide +kernel
theorem dX8_waysToSee_11 : decode cX8_waysToSee 11 = .ok (.invokestatic 234, 3) := by decide +kernel
theorem dX8_waysToSee_14 : decode cX8_waysToSee 14 = .ok (.lmul, 1) := by decide +kernel
theorem dX8_waysToSee_15 : decode cX8_waysToSee 15 = .ok (.lreturn, 1) := by decide +kernel
