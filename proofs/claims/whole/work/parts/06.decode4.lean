theorem dX6_load_65 : decode cX6_load 65 = .ok (.iload_n 1, 1) := by decide +kernel
theorem dX6_load_66 : decode cX6_load 66 = .ok (.imul, 1) := by decide +kernel
theorem dX6_load_67 : decode cX6_load 67 = .ok (.bipush 10, 2) := by decide +kernel
theorem dX6_load_69 : decode cX6_load 69 = .ok (.iadd, 1) := by decide +kernel
theorem dX6_load_70 : decode cX6_load 70 = .ok (.iaload, 1) := by decide +kernel
theorem dX6_load_71 : decode cX6_load 71 = .ok (.putfield 86, 3) := by decide +kernel
theorem dX6_load_74 : decode cX6_load 74 = .ok (.return_, 1) := by decide +kernel
theorem dX6_begin_0 : decode cX6_begin 0 = .ok (.aload_n 0, 1) := by decide +kernel
theorem dX6_begin_1 : decode cX6_begin 1 = .ok (.iconst 0, 1) := by decide +kernel
theorem dX6_begin_2 : decode cX6_begin 2 = .ok (.invokevirtual 99, 3) := by decide +kernel
theorem dX6_begin_5 : decode cX6_begin 5 = .ok (.iconst 0, 1) := by decide +kernel
theorem dX6_begin_6 : decode cX6_begin 6 = .ok (.istore_n 1, 1) := by decide +kernel
theorem dX6_begin_7 : decode cX6_begin 7 = .ok (.iload_n 1, 1) := by decide +kernel
theorem dX6_begin_8 : decode cX6_begin 8 = .ok (.iconst 5, 1) := by decide +kernel
theorem dX6_begin_9 : decode cX6_begin 9 = .ok (.if_icmp .ge 21, 3) := by decide +kernel
theorem dX6_begin_12 : decode cX6_begin 12 = .ok (.aload_n 0, 1) := by decide +kernel
theorem dX6_begin_13 : decode cX6_begin 13 = .ok (.getfield 36, 3) := by decide +kernel
theorem dX6_begin_16 : decode cX6_begin 16 = .ok (.iload_n 1, 1) := by decide +kernel
theorem dX6_begin_17 : decode cX6_begin 17 = .ok (.aload_n 0, 1) := by decide +kernel
theorem dX6_begin_18 : decode cX6_begin 18 = .ok (.getfield 20, 3) := by decide +kernel
theorem dX6_begin_21 : decode cX6_begin 21 = .ok (.iload_n 1, 1) := by decide +kernel
theorem dX6_begin_22 : decode cX6_begin 22 = .ok (.iaload, 1) := by decide +kernel
theorem dX6_begin_23 : decode cX6_begin 23 = .ok (.iastore, 1) := by decide +kernel
theorem dX6_begin_24 : decode cX6_begin 24 = .ok (.iinc 1 1, 3) := by decide +kernel
theorem dX6_begin_27 : decode cX6_begin 27 = .ok (.goto (-20), 3) := by decide +kernel
theorem dX6_begin_30 : decode cX6_begin 30 = .ok (.return_, 1) := by decide +kernel
theorem dX6_end_0 : decode cX6_end 0 = .ok (.aload_n 0, 1) := by decide +kernel
theorem dX6_end_1 : decode cX6_end 1 = .ok (.iconst 0, 1) := by decide +kernel
theorem dX6_end_2 : decode cX6_end 2 = .ok (.invokevirtual 103, 3) := by decide +kernel
theorem dX6_end_5 : decode cX6_end 5 = .ok (.iconst 0, 1) := by decide +kernel
theorem dX6_end_6 : decode cX6_end 6 = .ok (.istore_n 1, 1) := by decide +kernel
theorem dX6_end_7 : decode cX6_end 7 = .ok (.iload_n 1, 1) := by decide +kernel
theorem dX6_end_8 : decode cX6_end 8 = .ok (.iconst 5, 1) := by decide +kernel
theorem dX6_end_9 : decode cX6_end 9 = .ok (.if_icmp .ge 21, 3) := by decide +kernel
theorem dX6_end_12 : decode cX6_end 12 = .ok (.aload_n 0, 1) := by decide +kernel
theorem dX6_end_13 : decode cX6_end 13 = .ok (.getfield 20, 3) := by decide +kernel
theorem dX6_end_16 : decode cX6_end 16 = .ok (.iload_n 1, 1) := by decide +kernel
theorem dX6_end_17 : decode cX6_end 17 = .ok (.aload_n 0, 1) := by decide +kernel
theorem dX6_end_18 : decode cX6_end 18 = .ok (.getfield 36, 3) := by decide +kernel
theorem dX6_end_21 : decode cX6_end 21 = .ok (.iload_n 1, 1) := by decide +kernel
theorem dX6_end_22 : decode cX6_end 22 = .ok (.iaload, 1) := by decide +kernel
theorem dX6_end_23 : decode cX6_end 23 = .ok (.iastore, 1) := by decide +kernel
theorem dX6_end_24 : decode cX6_end 24 = .ok (.iinc 1 1, 3) := by decide +kernel
theorem dX6_end_27 : decode cX6_end 27 = .ok (.goto (-20), 3) := by decide +kernel
theorem dX6_end_30 : decode cX6_end 30 = .ok (.return_, 1) := by decide +kernel
theorem dX6_lodgerNow_0 : decode cX6_lodgerNow 0 = .ok (.iload_n 2, 1) := by decide +kernel
theorem dX6_lodgerNow_1 : decode cX6_lodgerNow 1 = .ok (.tableswitch 95 0 5 #[39, 46, 53, 68, 82, 89], 39) := by decide +kernel
theorem dX6_lodgerNow_40 : decode cX6_lodgerNow 40 = .ok (.aload_n 0, 1) := by decide +kernel
theorem dX6_lodgerNow_41 : decode cX6_lodgerNow 41 = .ok (.getfield 7, 3) := by decide +kernel
theorem dX6_lodgerNow_44 : decode cX6_lodgerNow 44 = .ok (.iload_n 1, 1) := by decide +kernel
theorem dX6_lodgerNow_45 : decode cX6_lodgerNow 45 = .ok (.iaload, 1) := by decide +kernel
theorem dX6_lodgerNow_46 : decode cX6_lodgerNow 46 = .ok (.ireturn, 1) := by decide +kernel
theorem dX6_lodgerNow_47 : decode cX6_lodgerNow 47 = .ok (.aload_n 0, 1) := by decide +kernel
theorem dX6_lodgerNow_48 : decode cX6_lodgerNow 48 = .ok (.getfield 13, 3) := by decide +kernel
theorem dX6_lodgerNow_51 : decode cX6_lodgerNow 51 = .ok (.iload_n 1, 1) := by decide +kernel
theorem dX6_lodgerNow_52 : decode cX6_lodgerNow 52 = .ok (.iaload, 1) := by decide +kernel
theorem dX6_lodgerNow_53 : decode cX6_lodgerNow 53 = .ok (.ireturn, 1) := by decide +kernel
theorem dX6_lodgerNow_54 : decode cX6_lodgerNow 54 = .ok (.aload_n 0, 1) := by decide +kernel
theorem dX6_lodgerNow_55 : decode cX6_lodgerNow 55 = .ok (.getfield 16, 3) := by decide +kernel
theorem dX6_lodgerNow_58 : decode cX6_lodgerNow 58 = .ok (.iload_n 1, 1) := by decide +kernel
theorem dX6_lodgerNow_59 : decode cX6_lodgerNow 59 = .ok (.baload, 1) := by decide +kernel
theorem dX6_lodgerNow_60 : decode cX6_lodgerNow 60 = .ok (.ifCond .eq 7, 3) := by decide +kernel
theorem dX6_lodgerNow_63 : decode cX6_lodgerNow 63 = .ok (.iconst 1, 1) := by decide +kernel
theorem dX6_lodgerNow_64 : decode cX6_lodgerNow 64 = .ok (.goto 4, 3) := by decide +kernel
theorem dX6_lodgerNow_67 : decode cX6_lodgerNow 67 = .ok (.iconst 0, 1) := by decide +kernel
theorem dX6_lodgerNow_68 : decode cX6_lodgerNow 68 = .ok (.ireturn, 1) := by decide +kernel
theorem dX6_lodgerNow_69 : decode cX6_lodgerNow 69 = .ok (.aload_n 0, 1) := by decide +kernel
theorem dX6_lodgerNow_70 : decode cX6_lodgerNow 70 = .ok (.invokevirtual 92, 3) := by decide +kernel
theorem dX6_lodgerNow_73 : decode cX6_lodgerNow 73 = .ok (.iload_n 1, 1) := by decide +kernel
theorem dX6_lodgerNow_74 : decode cX6_lodgerNow 74 = .ok (.if_icmp .ne 7, 3) := by decide +kernel
theorem dX6_lodgerNow_77 : decode cX6_lodgerNow 77 = .ok (.iconst 1, 1) := by decide +kernel
theorem dX6_lodgerNow_78 : decode cX6_lodgerNow 78 = .ok (.goto 4, 3) := by decide +kernel
theorem dX6_lodgerNow_81 : decode cX6_lodgerNow 81 = .ok (.iconst 0, 1) := by decide +kernel
theorem dX6_lodgerNow_82 : decode cX6_lodgerNow 82 = .ok (.ireturn, 1) := by decide +kernel
theorem dX6_lodgerNow_83 : decode cX6_lodgerNow 83 = .ok (.aload_n 0, 1) := by decide +kernel
theorem dX6_lodgerNow_84 : decode cX6_lodgerNow 84 = .ok (.getfield 20, 3) := by decide +kernel
theorem dX6_lodgerNow_87 : decode cX6_lodgerNow 87 = .ok (.iload_n 1, 1) := by decide +kernel
theorem dX6_lodgerNow_88 : decode cX6_lodgerNow 88 = .ok (.iaload, 1) := by decide +kernel
theorem dX6_lodgerNow_89 : decode cX6_lodgerNow 89 = .ok (.ireturn, 1) := by decide +kernel
theorem dX6_lodgerNow_90 : decode cX6_lodgerNow 90 = .ok (.aload_n 0, 1) := by decide +kernel
theorem dX6_lodgerNow_91 : decode cX6_lodgerNow 91 = .ok (.iload_n 1, 1) := by decide +kernel
theorem dX6_lodgerNow_92 : decode cX6_lodgerNow 92 = .ok (.invokevirtual 106, 3) := by decide +kernel
theorem dX6_lodgerNow_95 : decode cX6_lodgerNow 95 = .ok (.ireturn, 1) := by decide +kernel
theorem dX6_lodgerNow_96 : decode cX6_lodgerNow 96 = .ok (.aload_n 0, 1) := by decide +kernel
theorem dX6_lodgerNow_97 : decode cX6_lodgerNow 97 = .ok (.iload_n 1, 1) := by decide +kernel
theorem dX6_lodgerNow_98 : decode cX6_lodgerNow 98 = .ok (.invokevirtual 109, 3) := by decide +kernel
theorem dX6_lodgerNow_101 : decode cX6_lodgerNow 101 = .ok (.ireturn, 1) := by decide +kernel
theorem dX6_about_0 : decode cX6_about 0 = .ok (.aload_n 0, 1) := by decide +kernel
theorem dX6_about_1 : decode cX6_about 1 = .ok (.iload_n 1, 1) := by decide +kernel
theorem dX6_about_2 : decode cX6_about 2 = .ok (.invokevirtual 112, 3) := by decide +kernel
theorem dX6_about_5 : decode cX6_about 5 = .ok (.ifCond .ne 8, 3) := by decide +kernel
theorem dX6_about_8 : decode cX6_about 8 = .ok (.bipush (-101), 2) := by decide +kernel
theorem dX6_about_10 : decode cX6_about 10 = .ok (.goto 24, 3) := by decide +kernel
theorem dX6_about_13 : decode cX6_about 13 = .ok (.iload_n 2, 1) := by decide +kernel
theorem dX6_about_14 : decode cX6_about 14 = .ok (.iconst 0, 1) := by decide +kernel
theorem dX6_about_15 : decode cX6_about 15 = .ok (.bipush 6, 2) := by decide +kernel
theorem dX6_about_17 : decode cX6_about 17 = .ok (.invokestatic 51, 3) := by decide +kernel
theorem dX6_about_20 : decode cX6_about 20 = .ok (.ifCond .eq 12, 3) := by decide +kernel
theorem dX6_about_23 : decode cX6_about 23 = .ok (.aload_n 0, 1) := by decide +kernel
theorem dX6_about_24 : decode cX6_about 24 = .ok (.iload_n 1, 1) := by decide +kernel
theorem dX6_about_25 : decode cX6_about 25 = .ok (.iload_n 2, 1) := by decide +kernel
theorem dX6_about_26 : decode cX6_about 26 = .ok (.invokevirtual 116, 3) := by decide +kernel
theorem dX6_about_29 : decode cX6_about 29 = .ok (.goto 5, 3) := by decide +kernel
theorem dX6_about_32 : decode cX6_about 32 = .ok (.bipush (-102), 2) := by decide +kernel
theorem dX6_about_34 : decode cX6_about 34 = .ok (.ireturn, 1) := by decide +kernel
theorem dX6_as_0 : decode cX6_as 0 = .ok (.aload_n 0, 1) := by decide +kernel
theorem dX6_as_1 : decode cX6_as 1 = .ok (.iload_n 1, 1) := by decide +kernel
theorem dX6_as_2 : decode cX6_as 2 = .ok (.invokevirtual 112, 3) := by decide +kernel
theorem dX6_as_5 : decode cX6_as 5 = .ok (.ifCond .ne 6, 3) := by decide +kernel
theorem dX6_as_8 : decode cX6_as 8 = .ok (.bipush (-101), 2) := by decide +kernel
theorem dX6_as_10 : decode cX6_as 10 = .ok (.ireturn, 1) := by decide +kernel
theorem dX6_as_11 : decode cX6_as 11 = .ok (.iload_n 2, 1) := by decide +kernel
theorem dX6_as_12 : decode cX6_as 12 = .ok (.iconst 0, 1) := by decide +kernel
theorem dX6_as_13 : decode cX6_as 13 = .ok (.iconst 4, 1) := by decide +kernel
theorem dX6_as_14 : decode cX6_as 14 = .ok (.invokestatic 51, 3) := by decide +kernel
theorem dX6_as_17 : decode cX6_as 17 = .ok (.ifCond .ne 6, 3) := by decide +kernel
theorem dX6_as_20 : decode cX6_as 20 = .ok (.bipush (-102), 2) := by decide +kernel
theorem dX6_as_22 : decode cX6_as 22 = .ok (.ireturn, 1) := by decide +kernel
theorem dX6_as_23 : decode cX6_as 23 = .ok (.aload_n 0, 1) := by decide +kernel
theorem dX6_as_24 : decode cX6_as 24 = .ok (.getfield 7, 3) := by decide +kernel
theorem dX6_as_27 : decode cX6_as 27 = .ok (.iload_n 1, 1) := by decide +kernel
theorem dX6_as_28 : decode cX6_as 28 = .ok (.iaload, 1) := by decide +kernel
theorem dX6_as_29 : decode cX6_as 29 = .ok (.istore_n 3, 1) := by decide +kernel
theorem dX6_as_30 : decode cX6_as 30 = .ok (.iload_n 2, 1) := by decide +kernel
theorem dX6_as_31 : decode cX6_as 31 = .ok (.ifCond .eq 18, 3) := by decide +kernel
theorem dX6_as_34 : decode cX6_as 34 = .ok (.iload_n 3, 1) := by decide +kernel
theorem dX6_as_35 : decode cX6_as 35 = .ok (.iload_n 2, 1) := by decide +kernel
theorem dX6_as_36 : decode cX6_as 36 = .ok (.if_icmp .eq 13, 3) := by decide +kernel
theorem dX6_as_39 : decode cX6_as 39 = .ok (.iload_n 2, 1) := by decide +kernel
theorem dX6_as_40 : decode cX6_as 40 = .ok (.iconst 2, 1) := by decide +kernel
theorem dX6_as_41 : decode cX6_as 41 = .ok (.if_icmp .ne 12, 3) := by decide +kernel
theorem dX6_as_44 : decode cX6_as 44 = .ok (.iload_n 3, 1) := by decide +kernel
theorem dX6_as_45 : decode cX6_as 45 = .ok (.iconst 4, 1) := by decide +kernel
theorem dX6_as_46 : decode cX6_as 46 = .ok (.if_icmp .ne 7, 3) := by decide +kernel
theorem dX6_as_49 : decode cX6_as 49 = .ok (.iload_n 1, 1) := by decide +kernel
theorem dX6_as_50 : decode cX6_as 50 = .ok (.goto 4, 3) := by decide +kernel
theorem dX6_as_53 : decode cX6_as 53 = .ok (.iconst (-1), 1) := by decide +kernel
theorem dX6_as_54 : decode cX6_as 54 = .ok (.ireturn, 1) := by decide +kernel
theorem dX6_bed_0 : decode cX6_bed 0 = .ok (.aload_n 0, 1) := by decide +kernel
theorem dX6_bed_1 : decode cX6_bed 1 = .ok (.getfield 77, 3) := by decide +kernel
theorem dX6_bed_4 : decode cX6_bed 4 = .ok (.ifCond .ne 8, 3) := by decide +kernel
theorem dX6_bed_7 : decode cX6_bed 7 = .ok (.bipush (-103), 2) := by decide +kernel
theorem dX6_bed_9 : decode cX6_bed 9 = .ok (.goto 7, 3) := by decide +kernel
theorem dX6_bed_12 : decode cX6_bed 12 = .ok (.aload_n 0, 1) := by decide +kernel
theorem dX6_bed_13 : decode cX6_bed 13 = .ok (.invokevirtual 92, 3) := by decide +kernel
theorem dX6_bed_16 : decode cX6_bed 16 = .ok (.ireturn, 1) := by decide +kernel
theorem dX6_coffee_0 : decode cX6_coffee 0 = .ok (.aload_n 0, 1) := by decide +kernel
theorem dX6_coffee_1 : decode cX6_coffee 1 = .ok (.iload_n 1, 1) := by decide +kernel
theorem dX6_coffee_2 : decode cX6_coffee 2 = .ok (.invokevirtual 112, 3) := by decide +kernel
theorem dX6_coffee_5 : decode cX6_coffee 5 = .ok (.ifCond .ne 6, 3) := by decide +kernel
theorem dX6_coffee_8 : decode cX6_coffee 8 = .ok (.bipush (-101), 2) := by decide +kernel
theorem dX6_coffee_10 : decode cX6_coffee 10 = .ok (.ireturn, 1) := by decide +kernel
theorem dX6_coffee_11 : decode cX6_coffee 11 = .ok (.aload_n 0, 1) := by decide +kernel
theorem dX6_coffee_12 : decode cX6_coffee 12 = .ok (.getfield 16, 3) := by decide +kernel
theorem dX6_coffee_15 : decode cX6_coffee 15 = .ok (.iload_n 1, 1) := by decide +kernel
theorem dX6_coffee_16 : decode cX6_coffee 16 = .ok (.baload, 1) := by decide +kernel
theorem dX6_coffee_17 : decode cX6_coffee 17 = .ok (.ifCond .eq 6, 3) := by decide +kernel
theorem dX6_coffee_20 : decode cX6_coffee 20 = .ok (.bipush (-103), 2) := by decide +kernel
theorem dX6_coffee_22 : decode cX6_coffee 22 = .ok (.ireturn, 1) := by decide +kernel
theorem dX6_coffee_23 : decode cX6_coffee 23 = .ok (.aload_n 0, 1) := by decide +kernel
theorem dX6_coffee_24 : decode cX6_coffee 24 = .ok (.iload_n 1, 1) := by decide +kernel
theorem dX6_coffee_25 : decode cX6_coffee 25 = .ok (.invokevirtual 120, 3) := by decide +kernel
theorem dX6_coffee_28 : decode cX6_coffee 28 = .ok (.aload_n 0, 1) := by decide +kernel
theorem dX6_coffee_29 : decode cX6_coffee 29 = .ok (.getfield 13, 3) := by decide +kernel
theorem dX6_coffee_32 : decode cX6_coffee 32 = .ok (.iload_n 1, 1) := by decide +kernel
theorem dX6_coffee_33 : decode cX6_coffee 33 = .ok (.iaload, 1) := by decide +kernel
theorem dX6_coffee_34 : decode cX6_coffee 34 = .ok (.ireturn, 1) := by decide +kernel
theorem dX6_lecture_0 : decode cX6_lecture 0 = .ok (.aload_n 0, 1) := by decide +kernel
theorem dX6_lecture_1 : decode cX6_lecture 1 = .ok (.iload_n 1, 1) := by decide +kernel
theorem dX6_lecture_2 : decode cX6_lecture 2 = .ok (.invokevirtual 112, 3) := by decide +kernel
theorem dX6_lecture_5 : decode cX6_lecture 5 = .ok (.ifCond .ne 6, 3) := by decide +kernel
theorem dX6_lecture_8 : decode cX6_lecture 8 = .ok (.bipush (-101), 2) := by decide +kernel
theorem dX6_lecture_10 : decode cX6_lecture 10 = .ok (.ireturn, 1) := by decide +kernel
theorem dX6_lecture_11 : decode cX6_lecture 11 = .ok (.aload_n 0, 1) := by decide +kernel
theorem dX6_lecture_12 : decode cX6_lecture 12 = .ok (.getfield 16, 3) := by decide +kernel
theorem dX6_lecture_15 : decode cX6_lecture 15 = .ok (.iload_n 1, 1) := by decide +kernel
theorem dX6_lecture_16 : decode cX6_lecture 16 = .ok (.baload, 1) := by decide +kernel
theorem dX6_lecture_17 : decode cX6_lecture 17 = .ok (.ifCond .eq 6, 3) := by decide +kernel
theorem dX6_lecture_20 : decode cX6_lecture 20 = .ok (.bipush (-103), 2) := by decide +kernel
theorem dX6_lecture_22 : decode cX6_lecture 22 = .ok (.ireturn, 1) := by decide +kernel
theorem dX6_lecture_23 : decode cX6_lecture 23 = .ok (.aload_n 0, 1) := by decide +kernel
theorem dX6_lecture_24 : decode cX6_lecture 24 = .ok (.iload_n 1, 1) := by decide +kernel
theorem dX6_lecture_25 : decode cX6_lecture 25 = .ok (.invokevirtual 123, 3) := by decide +kernel
theorem dX6_lecture_28 : decode cX6_lecture 28 = .ok (.aload_n 0, 1) := by decide +kernel
theorem dX6_lecture_29 : decode cX6_lecture 29 = .ok (.getfield 13, 3) := by decide +kernel
theorem dX6_lecture_32 : decode cX6_lecture 32 = .ok (.iload_n 1, 1) := by decide +kernel
theorem dX6_lecture_33 : decode cX6_lecture 33 = .ok (.iaload, 1) := by decide +kernel
theorem dX6_lecture_34 : decode cX6_lecture 34 = .ok (.ireturn, 1) := by decide +kernel
theorem dX6_hour_0 : decode cX6_hour 0 = .ok (.aload_n 0, 1) := by decide +kernel
theorem dX6_hour_1 : decode cX6_hour 1 = .ok (.getfield 77, 3) := by decide +kernel
theorem dX6_hour_4 : decode cX6_hour 4 = .ok (.ifCond .ne 6, 3) := by decide +kernel
theorem dX6_hour_7 : decode cX6_hour 7 = .ok (.bipush (-103), 2) := by decide +kernel
theorem dX6_hour_9 : decode cX6_hour 9 = .ok (.ireturn, 1) := by decide +kernel
theorem dX6_hour_10 : decode cX6_hour 10 = .ok (.aload_n 0, 1) := by decide +kernel
theorem dX6_hour_11 : decode cX6_hour 11 = .ok (.invokevirtual 126, 3) := by decide +kernel
theorem dX6_hour_14 : decode cX6_hour 14 = .ok (.aload_n 0, 1) := by decide +kernel
theorem dX6_hour_15 : decode cX6_hour 15 = .ok (.invokevirtual 129, 3) := by decide +kernel
theorem dX6_hour_18 : decode cX6_hour 18 = .ok (.ireturn, 1) := by decide +kernel
theorem dX6_isEnough_0 : decode cX6_isEnough 0 = .ok (.aload_n 0, 1) := by decide +kernel
theorem dX6_isEnough_1 : decode cX6_isEnough 1 = .ok (.invokevirtual 132, 3) := by decide +kernel
theorem dX6_isEnough_4 : decode cX6_isEnough 4 = .ok (.iconst 0, 1) := by decide +kernel
theorem dX6_isEnough_5 : decode cX6_isEnough 5 = .ok (.istore 4, 2) := by decide +kernel
theorem dX6_isEnough_7 : decode cX6_isEnough 7 = .ok (.iload 4, 2) := by decide +kernel
theorem dX6_isEnough_9 : decode cX6_isEnough 9 = .ok (.iload_n 2, 1) := by decide +kernel
theorem dX6_isEnough_10 : decode cX6_isEnough 10 = .ok (.if_icmp .ge 14, 3) := by decide +kernel
theorem dX6_isEnough_13 : decode cX6_isEnough 13 = .ok (.aload_n 0, 1) := by decide +kernel
theorem dX6_isEnough_14 : decode cX6_isEnough 14 = .ok (.iload_n 1, 1) := by decide +kernel
theorem dX6_isEnough_15 : decode cX6_isEnough 15 = .ok (.invokevirtual 120, 3) := by decide +kernel
theorem dX6_isEnough_18 : decode cX6_isEnough 18 = .ok (.iinc 4 1, 3) := by decide +kernel
theorem dX6_isEnough_21 : decode cX6_isEnough 21 = .ok (.goto (-14), 3) := by decide +kernel
theorem dX6_isEnough_24 : decode cX6_isEnough 24 = .ok (.aload_n 0, 1) := by decide +kernel
theorem dX6_isEnough_25 : decode cX6_isEnough 25 = .ok (.invokevirtual 92, 3) := by decide +kernel
theorem dX6_isEnough_28 : decode cX6_isEnough 28 = .ok (.iload_n 1, 1) := by decide +kernel
theorem dX6_isEnough_29 : decode cX6_isEnough 29 = .ok (.if_icmp .ne 7, 3) := by decide +kernel
theorem dX6_isEnough_32 : decode cX6_isEnough 32 = .ok (.iconst 1, 1) := by decide +kernel
theorem dX6_isEnough_33 : decode cX6_isEnough 33 = .ok (.goto 4, 3) := by decide +kernel
theorem dX6_isEnough_36 : decode cX6_isEnough 36 = .ok (.iconst 0, 1) := by decide +kernel
theorem dX6_isEnough_37 : decode cX6_isEnough 37 = .ok (.istore 4, 2) := by decide +kernel
theorem dX6_isEnough_39 : decode cX6_isEnough 39 = .ok (.iconst 1, 1) := by decide +kernel
theorem dX6_isEnough_40 : decode cX6_isEnough 40 = .ok (.istore 5, 2) := by decide +kernel
theorem dX6_isEnough_42 : decode cX6_isEnough 42 = .ok (.iload 5, 2) := by decide +kernel
theorem dX6_isEnough_44 : decode cX6_isEnough 44 = .ok (.iload_n 3, 1) := by decide +kernel
theorem dX6_isEnough_45 : decode cX6_isEnough 45 = .ok (.if_icmp .ge 33, 3) := by decide +kernel
theorem dX6_isEnough_48 : decode cX6_isEnough 48 = .ok (.aload_n 0, 1) := by decide +kernel
theorem dX6_isEnough_49 : decode cX6_isEnough 49 = .ok (.invokevirtual 126, 3) := by decide +kernel
theorem dX6_isEnough_52 : decode cX6_isEnough 52 = .ok (.iload 4, 2) := by decide +kernel
theorem dX6_isEnough_54 : decode cX6_isEnough 54 = .ok (.ifCond .eq 15, 3) := by decide +kernel
theorem dX6_isEnough_57 : decode cX6_isEnough 57 = .ok (.aload_n 0, 1) := by decide +kernel
theorem dX6_isEnough_58 : decode cX6_isEnough 58 = .ok (.invokevirtual 92, 3) := by decide +kernel
theorem dX6_isEnough_61 : decode cX6_isEnough 61 = .ok (.iload_n 1, 1) := by decide +kernel
theorem dX6_isEnough_62 : decode cX6_isEnough 62 = .ok (.if_icmp .ne 7, 3) := by decide +kernel
theorem dX6_isEnough_65 : decode cX6_isEnough 65 = .ok (.iconst 1, 1) := by decide +kernel
theorem dX6_isEnough_66 : decode cX6_isEnough 66 = .ok (.goto 4, 3) := by decide +kernel
theorem dX6_isEnough_69 : decode cX6_isEnough 69 = .ok (.iconst 0, 1) := by decide +kernel
theorem dX6_isEnough_70 : decode cX6_isEnough 70 = .ok (.istore 4, 2) := by decide +kernel
theorem dX6_isEnough_72 : decode cX6_isEnough 72 = .ok (.iinc 5 1, 3) := by decide +kernel
theorem dX6_isEnough_75 : decode cX6_isEnough 75 = .ok (.goto (-33), 3) := by decide +kernel
theorem dX6_isEnough_78 : decode cX6_isEnough 78 = .ok (.aload_n 0, 1) := by decide +kernel
theorem dX6_isEnough_79 : decode cX6_isEnough 79 = .ok (.invokevirtual 135, 3) := by decide +kernel
theorem dX6_isEnough_82 : decode cX6_isEnough 82 = .ok (.iload 4, 2) := by decide +kernel
theorem dX6_isEnough_84 : decode cX6_isEnough 84 = .ok (.ireturn, 1) := by decide +kernel
theorem dX6_cupsNow_0 : decode cX6_cupsNow 0 = .ok (.iconst 0, 1) := by decide +kernel
theorem dX6_cupsNow_1 : decode cX6_cupsNow 1 = .ok (.istore_n 3, 1) := by decide +kernel
theorem dX6_cupsNow_2 : decode cX6_cupsNow 2 = .ok (.iload_n 3, 1) := by decide +kernel
theorem dX6_cupsNow_3 : decode cX6_cupsNow 3 = .ok (.iconst 4, 1) := by decide +kernel
theorem dX6_cupsNow_4 : decode cX6_cupsNow 4 = .ok (.if_icmp .gt 21, 3) := by decide +kernel
theorem dX6_cupsNow_7 : decode cX6_cupsNow 7 = .ok (.aload_n 0, 1) := by decide +kernel
theorem dX6_cupsNow_8 : decode cX6_cupsNow 8 = .ok (.iload_n 1, 1) := by decide +kernel
theorem dX6_cupsNow_9 : decode cX6_cupsNow 9 = .ok (.iload_n 3, 1) := by decide +kernel
theorem dX6_cupsNow_10 : decode cX6_cupsNow 10 = .ok (.iload_n 2, 1) := by decide +kernel
theorem dX6_cupsNow_11 : decode cX6_cupsNow 11 = .ok (.invokevirtual 138, 3) := by decide +kernel
theorem dX6_cupsNow_14 : decode cX6_cupsNow 14 = .ok (.ifCond .eq 5, 3) := by decide +kernel
theorem dX6_cupsNow_17 : decode cX6_cupsNow 17 = .ok (.iload_n 3, 1) := by decide +kernel
theorem dX6_cupsNow_18 : decode cX6_cupsNow 18 = .ok (.ireturn, 1) := by decide +kernel
theorem dX6_cupsNow_19 : decode cX6_cupsNow 19 = .ok (.iinc 3 1, 3) := by decide +kernel
theorem dX6_cupsNow_22 : decode cX6_cupsNow 22 = .ok (.goto (-20), 3) := by decide +kernel
theorem dX6_cupsNow_25 : decode cX6_cupsNow 25 = .ok (.iconst (-1), 1) := by decide +kernel
theorem dX6_cupsNow_26 : decode cX6_cupsNow 26 = .ok (.ireturn, 1) := by decide +kernel
theorem dX6_cups_0 : decode cX6_cups 0 = .ok (.aload_n 0, 1) := by decide +kernel
theorem dX6_cups_1 : decode cX6_cups 1 = .ok (.iload_n 1, 1) := by decide +kernel
theorem dX6_cups_2 : decode cX6_cups 2 = .ok (.invokevirtual 112, 3) := by decide +kernel
theorem dX6_cups_5 : decode cX6_cups 5 = .ok (.ifCond .ne 6, 3) := by decide +kernel
theorem dX6_cups_8 : decode cX6_cups 8 = .ok (.bipush (-101), 2) := by decide +kernel
theorem dX6_cups_10 : decode cX6_cups 10 = .ok (.ireturn, 1) := by decide +kernel
theorem dX6_cups_11 : decode cX6_cups 11 = .ok (.iload_n 2, 1) := by decide +kernel
theorem dX6_cups_12 : decode cX6_cups 12 = .ok (.iconst 1, 1) := by decide +kernel
theorem dX6_cups_13 : decode cX6_cups 13 = .ok (.bipush 6, 2) := by decide +kernel
theorem dX6_cups_15 : decode cX6_cups 15 = .ok (.invokestatic 51, 3) := by decide +kernel
theorem dX6_cups_18 : decode cX6_cups 18 = .ok (.ifCond .ne 6, 3) := by decide +kernel
theorem dX6_cups_21 : decode cX6_cups 21 = .ok (.bipush (-102), 2) := by decide +kernel
theorem dX6_cups_23 : decode cX6_cups 23 = .ok (.ireturn, 1) := by decide +kernel
theorem dX6_cups_24 : decode cX6_cups 24 = .ok (.aload_n 0, 1) := by decide +kernel
theorem dX6_cups_25 : decode cX6_cups 25 = .ok (.getfield 16, 3) := by decide +kernel
theorem dX6_cups_28 : decode cX6_cups 28 = .ok (.iload_n 1, 1) := by decide +kernel
theorem dX6_cups_29 : decode cX6_cups 29 = .ok (.baload, 1) := by decide +kernel
theorem dX6_cups_30 : decode cX6_cups 30 = .ok (.ifCond .eq 8, 3) := by decide +kernel
theorem dX6_cups_33 : decode cX6_cups 33 = .ok (.bipush (-103), 2) := by decide +kernel
theorem dX6_cups_35 : decode cX6_cups 35 = .ok (.goto 9, 3) := by decide +kernel
theorem dX6_cups_38 : decode cX6_cups 38 = .ok (.aload_n 0, 1) := by decide +kernel
theorem dX6_cups_39 : decode cX6_cups 39 = .ok (.iload_n 1, 1) := by decide +kernel
theorem dX6_cups_40 : decode cX6_cups 40 = .ok (.iload_n 2, 1) := by decide +kernel
theorem dX6_cups_41 : decode cX6_cups 41 = .ok (.invokevirtual 141, 3) := by decide +kernel
theorem dX6_cups_44 : decode cX6_cups 44 = .ok (.ireturn, 1) := by decide +kernel
theorem dX6_hoursBy_0 : decode cX6_hoursBy 0 = .ok (.iload_n 3, 1) := by decide +kernel
theorem dX6_hoursBy_1 : decode cX6_hoursBy 1 = .ok (.istore 4, 2) := by decide +kernel
theorem dX6_hoursBy_3 : decode cX6_hoursBy 3 = .ok (.iconst 1, 1) := by decide +kernel
theorem dX6_hoursBy_4 : decode cX6_hoursBy 4 = .ok (.istore 5, 2) := by decide +kernel
theorem dX6_hoursBy_6 : decode cX6_hoursBy 6 = .ok (.iconst 0, 1) := by decide +kernel
theorem dX6_hoursBy_7 : decode cX6_hoursBy 7 = .ok (.istore 6, 2) := by decide +kernel
theorem dX6_hoursBy_9 : decode cX6_hoursBy 9 = .ok (.iload 6, 2) := by decide +kernel
theorem dX6_hoursBy_11 : decode cX6_hoursBy 11 = .ok (.iload_n 2, 1) := by decide +kernel
theorem dX6_hoursBy_12 : decode cX6_hoursBy 12 = .ok (.if_icmp .ge 16, 3) := by decide +kernel
theorem dX6_hoursBy_15 : decode cX6_hoursBy 15 = .ok (.iload 5, 2) := by decide +kernel
theorem dX6_hoursBy_17 : decode cX6_hoursBy 17 = .ok (.bipush 6, 2) := by decide +kernel
theorem dX6_hoursBy_19 : decode cX6_hoursBy 19 = .ok (.imul, 1) := by decide +kernel
theorem dX6_hoursBy_20 : decode cX6_hoursBy 20 = .ok (.istore 5, 2) := by decide +kernel
theorem dX6_hoursBy_22 : decode cX6_hoursBy 22 = .ok (.iinc 6 1, 3) := by decide +kernel
theorem dX6_hoursBy_25 : decode cX6_hoursBy 25 = .ok (.goto (-16), 3) := by decide +kernel
theorem dX6_hoursBy_28 : decode cX6_hoursBy 28 = .ok (.iconst 0, 1) := by decide +kernel
theorem dX6_hoursBy_29 : decode cX6_hoursBy 29 = .ok (.istore 6, 2) := by decide +kernel
theorem dX6_hoursBy_31 : decode cX6_hoursBy 31 = .ok (.iconst 1, 1) := by decide +kernel
theorem dX6_hoursBy_32 : decode cX6_hoursBy 32 = .ok (.istore 7, 2) := by decide +kernel
theorem dX6_hoursBy_34 : decode cX6_hoursBy 34 = .ok (.aload_n 0, 1) := by decide +kernel
theorem dX6_hoursBy_35 : decode cX6_hoursBy 35 = .ok (.invokevirtual 132, 3) := by decide +kernel
theorem dX6_hoursBy_38 : decode cX6_hoursBy 38 = .ok (.iconst 0, 1) := by decide +kernel
theorem dX6_hoursBy_39 : decode cX6_hoursBy 39 = .ok (.istore 8, 2) := by decide +kernel
theorem dX6_hoursBy_41 : decode cX6_hoursBy 41 = .ok (.iload 8, 2) := by decide +kernel
theorem dX6_hoursBy_43 : decode cX6_hoursBy 43 = .ok (.iload_n 2, 1) := by decide +kernel
theorem dX6_hoursBy_44 : decode cX6_hoursBy 44 = .ok (.if_icmp .ge 104, 3) := by decide +kernel
theorem dX6_hoursBy_47 : decode cX6_hoursBy 47 = .ok (.iload 5, 2) := by decide +kernel
theorem dX6_hoursBy_49 : decode cX6_hoursBy 49 = .ok (.bipush 6, 2) := by decide +kernel
theorem dX6_hoursBy_51 : decode cX6_hoursBy 51 = .ok (.idiv, 1) := by decide +kernel
theorem dX6_hoursBy_52 : decode cX6_hoursBy 52 = .ok (.istore 5, 2) := by decide +kernel
theorem dX6_hoursBy_54 : decode cX6_hoursBy 54 = .ok (.iload 4, 2) := by decide +kernel
theorem dX6_hoursBy_56 : decode cX6_hoursBy 56 = .ok (.iload 5, 2) := by decide +kernel
theorem dX6_hoursBy_58 : decode cX6_hoursBy 58 = .ok (.idiv, 1) := by decide +kernel
theorem dX6_hoursBy_59 : decode cX6_hoursBy 59 = .ok (.iconst 1, 1) := by decide +kernel
theorem dX6_hoursBy_60 : decode cX6_hoursBy 60 = .ok (.isub, 1) := by decide +kernel
theorem dX6_hoursBy_61 : decode cX6_hoursBy 61 = .ok (.istore 9, 2) := by decide +kernel
theorem dX6_hoursBy_63 : decode cX6_hoursBy 63 = .ok (.iload 4, 2) := by decide +kernel
theorem dX6_hoursBy_65 : decode cX6_hoursBy 65 = .ok (.iload 5, 2) := by decide +kernel
theorem dX6_hoursBy_67 : decode cX6_hoursBy 67 = .ok (.irem, 1) := by decide +kernel
theorem dX6_hoursBy_68 : decode cX6_hoursBy 68 = .ok (.istore 4, 2) := by decide +kernel
theorem dX6_hoursBy_70 : decode cX6_hoursBy 70 = .ok (.iload 7, 2) := by decide +kernel
theorem dX6_hoursBy_72 : decode cX6_hoursBy 72 = .ok (.ifCond .eq 28, 3) := by decide +kernel
theorem dX6_hoursBy_75 : decode cX6_hoursBy 75 = .ok (.iload 9, 2) := by decide +kernel
theorem dX6_hoursBy_77 : decode cX6_hoursBy 77 = .ok (.iconst (-1), 1) := by decide +kernel
theorem dX6_hoursBy_78 : decode cX6_hoursBy 78 = .ok (.if_icmp .eq 18, 3) := by decide +kernel
theorem dX6_hoursBy_81 : decode cX6_hoursBy 81 = .ok (.aload_n 0, 1) := by decide +kernel
theorem dX6_hoursBy_82 : decode cX6_hoursBy 82 = .ok (.iload 9, 2) := by decide +kernel
theorem dX6_hoursBy_84 : decode cX6_hoursBy 84 = .ok (.invokevirtual 112, 3) := by decide +kernel
theorem dX6_hoursBy_87 : decode cX6_hoursBy 87 = .ok (.ifCond .eq 13, 3) := by decide +kernel
theorem dX6_hoursBy_90 : decode cX6_hoursBy 90 = .ok (.iload 9, 2) := by decide +kernel
theorem dX6_hoursBy_92 : decode cX6_hoursBy 92 = .ok (.iload_n 1, 1) := by decide +kernel
theorem dX6_hoursBy_93 : decode cX6_hoursBy 93 = .ok (.if_icmp .eq 7, 3) := by decide +kernel
theorem dX6_hoursBy_96 : decode cX6_hoursBy 96 = .ok (.iconst 1, 1) := by decide +kernel
theorem dX6_hoursBy_97 : decode cX6_hoursBy 97 = .ok (.goto 4, 3) := by decide +kernel
theorem dX6_hoursBy_100 : decode cX6_hoursBy 100 = .ok (.iconst 0, 1) := by decide +kernel
theorem dX6_hoursBy_101 : decode cX6_hoursBy 101 = .ok (.istore 7, 2) := by decide +kernel
theorem dX6_hoursBy_103 : decode cX6_hoursBy 103 = .ok (.iload 7, 2) := by decide +kernel
theorem dX6_hoursBy_105 : decode cX6_hoursBy 105 = .ok (.ifCond .eq 15, 3) := by decide +kernel
theorem dX6_hoursBy_108 : decode cX6_hoursBy 108 = .ok (.iload 9, 2) := by decide +kernel
theorem dX6_hoursBy_110 : decode cX6_hoursBy 110 = .ok (.iconst (-1), 1) := by decide +kernel
theorem dX6_hoursBy_111 : decode cX6_hoursBy 111 = .ok (.if_icmp .eq 9, 3) := by decide +kernel
theorem dX6_hoursBy_114 : decode cX6_hoursBy 114 = .ok (.aload_n 0, 1) := by decide +kernel
theorem dX6_hoursBy_115 : decode cX6_hoursBy 115 = .ok (.iload 9, 2) := by decide +kernel
theorem dX6_hoursBy_117 : decode cX6_hoursBy 117 = .ok (.invokevirtual 123, 3) := by decide +kernel
theorem dX6_hoursBy_120 : decode cX6_hoursBy 120 = .ok (.iload 6, 2) := by decide +kernel
theorem dX6_hoursBy_122 : decode cX6_hoursBy 122 = .ok (.aload_n 0, 1) := by decide +kernel
theorem dX6_hoursBy_123 : decode cX6_hoursBy 123 = .ok (.invokevirtual 92, 3) := by decide +kernel
theorem dX6_hoursBy_126 : decode cX6_hoursBy 126 = .ok (.iload_n 1, 1) := by decide +kernel
theorem dX6_hoursBy_127 : decode cX6_hoursBy 127 = .ok (.if_icmp .ne 7, 3) := by decide +kernel
theorem dX6_hoursBy_130 : decode cX6_hoursBy 130 = .ok (.iconst 1, 1) := by decide +kernel
theorem dX6_hoursBy_131 : decode cX6_hoursBy 131 = .ok (.goto 4, 3) := by decide +kernel
theorem dX6_hoursBy_134 : decode cX6_hoursBy 134 = .ok (.iconst 0, 1) := by decide +kernel
theorem dX6_hoursBy_135 : decode cX6_hoursBy 135 = .ok (.iadd, 1) := by decide +kernel
theorem dX6_hoursBy_136 : decode cX6_hoursBy 136 = .ok (.istore 6, 2) := by decide +kernel
theorem dX6_hoursBy_138 : decode cX6_hoursBy 138 = .ok (.aload_n 0, 1) := by decide +kernel
theorem dX6_hoursBy_139 : decode cX6_hoursBy 139 = .ok (.invokevirtual 126, 3) := by decide +kernel
theorem dX6_hoursBy_142 : decode cX6_hoursBy 142 = .ok (.iinc 8 1, 3) := by decide +kernel
theorem dX6_hoursBy_145 : decode cX6_hoursBy 145 = .ok (.goto (-104), 3) := by decide +kernel
theorem dX6_hoursBy_148 : decode cX6_hoursBy 148 = .ok (.aload_n 0, 1) := by decide +kernel
theorem dX6_hoursBy_149 : decode cX6_hoursBy 149 = .ok (.invokevirtual 135, 3) := by decide +kernel
theorem dX6_hoursBy_152 : decode cX6_hoursBy 152 = .ok (.iload 7, 2) := by decide +kernel
theorem dX6_hoursBy_154 : decode cX6_hoursBy 154 = .ok (.ifCond .eq 8, 3) := by decide +kernel
theorem dX6_hoursBy_157 : decode cX6_hoursBy 157 = .ok (.iload 6, 2) := by decide +kernel
theorem dX6_hoursBy_159 : decode cX6_hoursBy 159 = .ok (.goto 4, 3) := by decide +kernel
theorem dX6_hoursBy_162 : decode cX6_hoursBy 162 = .ok (.iconst (-1), 1) := by decide +kernel
theorem dX6_hoursBy_163 : decode cX6_hoursBy 163 = .ok (.ireturn, 1) := by decide +kernel
theorem dX6_lecturesNow_0 : decode cX6_lecturesNow 0 = .ok (.iconst 1, 1) := by decide +kernel
theorem dX6_lecturesNow_1 : decode cX6_lecturesNow 1 = .ok (.istore 4, 2) := by decide +kernel
theorem dX6_lecturesNow_3 : decode cX6_lecturesNow 3 = .ok (.iconst 0, 1) := by decide +kernel
theorem dX6_lecturesNow_4 : decode cX6_lecturesNow 4 = .ok (.istore 5, 2) := by decide +kernel
theorem dX6_lecturesNow_6 : decode cX6_lecturesNow 6 = .ok (.iload 5, 2) := by decide +kernel
theorem dX6_lecturesNow_8 : decode cX6_lecturesNow 8 = .ok (.iload_n 2, 1) := by decide +kernel
theorem dX6_lecturesNow_9 : decode cX6_lecturesNow 9 = .ok (.if_icmp .ge 16, 3) := by decide +kernel
theorem dX6_lecturesNow_12 : decode cX6_lecturesNow 12 = .ok (.iload 4, 2) := by decide +kernel
theorem dX6_lecturesNow_14 : decode cX6_lecturesNow 14 = .ok (.bipush 6, 2) := by decide +kernel
theorem dX6_lecturesNow_16 : decode cX6_lecturesNow 16 = .ok (.imul, 1) := by decide +kernel
theorem dX6_lecturesNow_17 : decode cX6_lecturesNow 17 = .ok (.istore 4, 2) := by decide +kernel
theorem dX6_lecturesNow_19 : decode cX6_lecturesNow 19 = .ok (.iinc 5 1, 3) := by decide +kernel
theorem dX6_lecturesNow_22 : decode cX6_lecturesNow 22 = .ok (.goto (-16), 3) := by decide +kernel
theorem dX6_lecturesNow_25 : decode cX6_lecturesNow 25 = .ok (.iconst 0, 1) := by decide +kernel
theorem dX6_lecturesNow_26 : decode cX6_lecturesNow 26 = .ok (.istore 5, 2) := by decide +kernel
theorem dX6_lecturesNow_28 : decode cX6_lecturesNow 28 = .ok (.iconst (-1), 1) := by decide +kernel
theorem dX6_lecturesNow_29 : decode cX6_lecturesNow 29 = .ok (.istore 6, 2) := by decide +kernel
theorem dX6_lecturesNow_31 : decode cX6_lecturesNow 31 = .ok (.iconst 0, 1) := by decide +kernel
theorem dX6_lecturesNow_32 : decode cX6_lecturesNow 32 = .ok (.istore 7, 2) := by decide +kernel
theorem dX6_lecturesNow_34 : decode cX6_lecturesNow 34 = .ok (.iload 7, 2) := by decide +kernel
theorem dX6_lecturesNow_36 : decode cX6_lecturesNow 36 = .ok (.iload 4, 2) := by decide +kernel
theorem dX6_lecturesNow_38 : decode cX6_lecturesNow 38 = .ok (.if_icmp .ge 51, 3) := by decide +kernel
theorem dX6_lecturesNow_41 : decode cX6_lecturesNow 41 = .ok (.aload_n 0, 1) := by decide +kernel
theorem dX6_lecturesNow_42 : decode cX6_lecturesNow 42 = .ok (.iload_n 1, 1) := by decide +kernel
theorem dX6_lecturesNow_43 : decode cX6_lecturesNow 43 = .ok (.iload_n 2, 1) := by decide +kernel
theorem dX6_lecturesNow_44 : decode cX6_lecturesNow 44 = .ok (.iload 7, 2) := by decide +kernel
theorem dX6_lecturesNow_46 : decode cX6_lecturesNow 46 = .ok (.invokevirtual 144, 3) := by decide +kernel
theorem dX6_lecturesNow_49 : decode cX6_lecturesNow 49 = .ok (.istore 8, 2) := by decide +kernel
theorem dX6_lecturesNow_51 : decode cX6_lecturesNow 51 = .ok (.iload 8, 2) := by decide +kernel
theorem dX6_lecturesNow_53 : decode cX6_lecturesNow 53 = .ok (.iload 6, 2) := by decide +kernel
theorem dX6_lecturesNow_55 : decode cX6_lecturesNow 55 = .ok (.if_icmp .le 8, 3) := by decide +kernel
theorem dX6_lecturesNow_58 : decode cX6_lecturesNow 58 = .ok (.iload 7, 2) := by decide +kernel
theorem dX6_lecturesNow_60 : decode cX6_lecturesNow 60 = .ok (.goto 5, 3) := by decide +kernel
theorem dX6_lecturesNow_63 : decode cX6_lecturesNow 63 = .ok (.iload 5, 2) := by decide +kernel
theorem dX6_lecturesNow_65 : decode cX6_lecturesNow 65 = .ok (.istore 5, 2) := by decide +kernel
theorem dX6_lecturesNow_67 : decode cX6_lecturesNow 67 = .ok (.iload 8, 2) := by decide +kernel
theorem dX6_lecturesNow_69 : decode cX6_lecturesNow 69 = .ok (.iload 6, 2) := by decide +kernel
theorem dX6_lecturesNow_71 : decode cX6_lecturesNow 71 = .ok (.if_icmp .le 8, 3) := by decide +kernel
theorem dX6_lecturesNow_74 : decode cX6_lecturesNow 74 = .ok (.iload 8, 2) := by decide +kernel
theorem dX6_lecturesNow_76 : decode cX6_lecturesNow 76 = .ok (.goto 5, 3) := by decide +kernel
theorem dX6_lecturesNow_79 : decode cX6_lecturesNow 79 = .ok (.iload 6, 2) := by decide +kernel
theorem dX6_lecturesNow_81 : decode cX6_lecturesNow 81 = .ok (.istore 6, 2) := by decide +kernel
theorem dX6_lecturesNow_83 : decode cX6_lecturesNow 83 = .ok (.iinc 7 1, 3) := by decide +kernel
theorem dX6_lecturesNow_86 : decode cX6_lecturesNow 86 = .ok (.goto (-52), 3) := by decide +kernel
theorem dX6_lecturesNow_89 : decode cX6_lecturesNow 89 = .ok (.iload_n 3, 1) := by decide +kernel
theorem dX6_lecturesNow_90 : decode cX6_lecturesNow 90 = .ok (.ifCond .ne 8, 3) := by decide +kernel
theorem dX6_lecturesNow_93 : decode cX6_lecturesNow 93 = .ok (.iload 6, 2) := by decide +kernel
theorem dX6_lecturesNow_95 : decode cX6_lecturesNow 95 = .ok (.goto 13, 3) := by decide +kernel
theorem dX6_lecturesNow_98 : decode cX6_lecturesNow 98 = .ok (.iload 5, 2) := by decide +kernel
theorem dX6_lecturesNow_100 : decode cX6_lecturesNow 100 = .ok (.iload 4, 2) := by decide +kernel
theorem dX6_lecturesNow_102 : decode cX6_lecturesNow 102 = .ok (.bipush 6, 2) := by decide +kernel
theorem dX6_lecturesNow_104 : decode cX6_lecturesNow 104 = .ok (.idiv, 1) := by decide +kernel
theorem dX6_lecturesNow_105 : decode cX6_lecturesNow 105 = .ok (.idiv, 1) := by decide +kernel
theorem dX6_lecturesNow_106 : decode cX6_lecturesNow 106 = .ok (.iconst 1, 1) := by decide +kernel
theorem dX6_lecturesNow_107 : decode cX6_lecturesNow 107 = .ok (.isub, 1) := by decide +kernel
theorem dX6_lecturesNow_108 : decode cX6_lecturesNow 108 = .ok (.ireturn, 1) := by decide +kernel
theorem dX6_lectures_0 : decode cX6_lectures 0 = .ok (.aload_n 0, 1) := by decide +kernel
theorem dX6_lectures_1 : decode cX6_lectures 1 = .ok (.iload_n 1, 1) := by decide +kernel
theorem dX6_lectures_2 : decode cX6_lectures 2 = .ok (.invokevirtual 112, 3) := by decide +kernel
theorem dX6_lectures_5 : decode cX6_lectures 5 = .ok (.ifCond .ne 6, 3) := by decide +kernel
theorem dX6_lectures_8 : decode cX6_lectures 8 = .ok (.bipush (-101), 2) := by decide +kernel
theorem dX6_lectures_10 : decode cX6_lectures 10 = .ok (.ireturn, 1) := by decide +kernel
theorem dX6_lectures_11 : decode cX6_lectures 11 = .ok (.iload_n 2, 1) := by decide +kernel
theorem dX6_lectures_12 : decode cX6_lectures 12 = .ok (.iconst 1, 1) := by decide +kernel
theorem dX6_lectures_13 : decode cX6_lectures 13 = .ok (.iconst 3, 1) := by decide +kernel
theorem dX6_lectures_14 : decode cX6_lectures 14 = .ok (.invokestatic 51, 3) := by decide +kernel
theorem dX6_lectures_17 : decode cX6_lectures 17 = .ok (.ifCond .eq 12, 3) := by decide +kernel
theorem dX6_lectures_20 : decode cX6_lectures 20 = .ok (.iload_n 3, 1) := by decide +kernel
theorem dX6_lectures_21 : decode cX6_lectures 21 = .ok (.iconst 0, 1) := by decide +kernel
theorem dX6_lectures_22 : decode cX6_lectures 22 = .ok (.iconst 1, 1) := by decide +kernel
theorem dX6_lectures_23 : decode cX6_lectures 23 = .ok (.invokestatic 51, 3) := by decide +kernel
theorem dX6_lectures_26 : decode cX6_lectures 26 = .ok (.ifCond .ne 6, 3) := by decide +kernel
theorem dX6_lectures_29 : decode cX6_lectures 29 = .ok (.bipush (-102), 2) := by decide +kernel
theorem dX6_lectures_31 : decode cX6_lectures 31 = .ok (.ireturn, 1) := by decide +kernel
theorem dX6_lectures_32 : decode cX6_lectures 32 = .ok (.aload_n 0, 1) := by decide +kernel
theorem dX6_lectures_33 : decode cX6_lectures 33 = .ok (.getfield 148, 3) := by decide +kernel
theorem dX6_lectures_36 : decode cX6_lectures 36 = .ok (.bipush 40, 2) := by decide +kernel
theorem dX6_lectures_38 : decode cX6_lectures 38 = .ok (.if_icmp .ne 6, 3) := by decide +kernel
theorem dX6_lectures_41 : decode cX6_lectures 41 = .ok (.bipush (-103), 2) := by decide +kernel
theorem dX6_lectures_43 : decode cX6_lectures 43 = .ok (.ireturn, 1) := by decide +kernel
theorem dX6_lectures_44 : decode cX6_lectures 44 = .ok (.aload_n 0, 1) := by decide +kernel
theorem dX6_lectures_45 : decode cX6_lectures 45 = .ok (.dup, 1) := by decide +kernel
theorem dX6_lectures_46 : decode cX6_lectures 46 = .ok (.getfield 148, 3) := by decide +kernel
theorem dX6_lectures_49 : decode cX6_lectures 49 = .ok (.iconst 1, 1) := by decide +kernel
theorem dX6_lectures_50 : decode cX6_lectures 50 = .ok (.iadd, 1) := by decide +kernel
theorem dX6_lectures_51 : decode cX6_lectures 51 = .ok (.putfield 148, 3) := by decide +kernel
theorem dX6_lectures_54 : decode cX6_lectures 54 = .ok (.aload_n 0, 1) := by decide +kernel
theorem dX6_lectures_55 : decode cX6_lectures 55 = .ok (.iload_n 1, 1) := by decide +kernel
theorem dX6_lectures_56 : decode cX6_lectures 56 = .ok (.iload_n 2, 1) := by decide +kernel
theorem dX6_lectures_57 : decode cX6_lectures 57 = .ok (.iload_n 3, 1) := by decide +kernel
theorem dX6_lectures_58 : decode cX6_lectures 58 = .ok (.invokevirtual 151, 3) := by decide +kernel
theorem dX6_lectures_61 : decode cX6_lectures 61 = .ok (.ireturn, 1) := by decide +kernel
theorem dX6_mayLie_0 : decode cX6_mayLie 0 = .ok (.aload_n 0, 1) := by decide +kernel
theorem dX6_mayLie_1 : decode cX6_mayLie 1 = .ok (.iload_n 1, 1) := by decide +kernel
theorem dX6_mayLie_2 : decode cX6_mayLie 2 = .ok (.invokevirtual 112, 3) := by decide +kernel
theorem dX6_mayLie_5 : decode cX6_mayLie 5 = .ok (.ifCond .eq 26, 3) := by decide +kernel
theorem dX6_mayLie_8 : decode cX6_mayLie 8 = .ok (.aload_n 0, 1) := by decide +kernel
theorem dX6_mayLie_9 : decode cX6_mayLie 9 = .ok (.getfield 16, 3) := by decide +kernel
theorem dX6_mayLie_12 : decode cX6_mayLie 12 = .ok (.iload_n 1, 1) := by decide +kernel
theorem dX6_mayLie_13 : decode cX6_mayLie 13 = .ok (.baload, 1) := by decide +kernel
theorem dX6_mayLie_14 : decode cX6_mayLie 14 = .ok (.ifCond .ne 17, 3) := by decide +kernel
theorem dX6_mayLie_17 : decode cX6_mayLie 17 = .ok (.aload_n 0, 1) := by decide +kernel
theorem dX6_mayLie_18 : decode cX6_mayLie 18 = .ok (.getfield 7, 3) := by decide +kernel
theorem dX6_mayLie_21 : decode cX6_mayLie 21 = .ok (.iload_n 1, 1) := by decide +kernel
theorem dX6_mayLie_22 : decode cX6_mayLie 22 = .ok (.iaload, 1) := by decide +kernel
theorem dX6_mayLie_23 : decode cX6_mayLie 23 = .ok (.iconst 1, 1) := by decide +kernel
theorem dX6_mayLie_24 : decode cX6_mayLie 24 = .ok (.if_icmp .eq 7, 3) := by decide +kernel
theorem dX6_mayLie_27 : decode cX6_mayLie 27 = .ok (.iconst 1, 1) := by decide +kernel
theorem dX6_mayLie_28 : decode cX6_mayLie 28 = .ok (.goto 4, 3) := by decide +kernel
theorem dX6_mayLie_31 : decode cX6_mayLie 31 = .ok (.iconst 0, 1) := by decide +kernel
theorem dX6_mayLie_32 : decode cX6_mayLie 32 = .ok (.ireturn, 1) := by decide +kernel
theorem dX6_awakeFor_0 : decode cX6_awakeFor 0 = .ok (.aload_n 0, 1) := by decide +kernel
theorem dX6_awakeFor_1 : decode cX6_awakeFor 1 = .ok (.getfield 13, 3) := by decide +kernel
theorem dX6_awakeFor_4 : decode cX6_awakeFor 4 = .ok (.iload_n 1, 1) := by decide +kernel
theorem dX6_awakeFor_5 : decode cX6_awakeFor 5 = .ok (.iaload, 1) := by decide +kernel
theorem dX6_awakeFor_6 : decode cX6_awakeFor 6 = .ok (.istore_n 3, 1) := by decide +kernel
theorem dX6_awakeFor_7 : decode cX6_awakeFor 7 = .ok (.aload_n 0, 1) := by decide +kernel
theorem dX6_awakeFor_8 : decode cX6_awakeFor 8 = .ok (.getfield 13, 3) := by decide +kernel
theorem dX6_awakeFor_11 : decode cX6_awakeFor 11 = .ok (.iload_n 2, 1) := by decide +kernel
theorem dX6_awakeFor_12 : decode cX6_awakeFor 12 = .ok (.iaload, 1) := by decide +kernel
theorem dX6_awakeFor_13 : decode cX6_awakeFor 13 = .ok (.istore 4, 2) := by decide +kernel
theorem dX6_awakeFor_15 : decode cX6_awakeFor 15 = .ok (.iconst 1, 1) := by decide +kernel
theorem dX6_awakeFor_16 : decode cX6_awakeFor 16 = .ok (.istore 5, 2) := by decide +kernel
theorem dX6_awakeFor_18 : decode cX6_awakeFor 18 = .ok (.iload 5, 2) := by decide +kernel
theorem dX6_awakeFor_20 : decode cX6_awakeFor 20 = .ok (.bipush 60, 2) := by decide +kernel
theorem dX6_awakeFor_22 : decode cX6_awakeFor 22 = .ok (.if_icmp .gt 70, 3) := by decide +kernel
theorem dX6_awakeFor_25 : decode cX6_awakeFor 25 = .ok (.iload_n 3, 1) := by decide +kernel
theorem dX6_awakeFor_26 : decode cX6_awakeFor 26 = .ok (.aload_n 0, 1) := by decide +kernel
theorem dX6_awakeFor_27 : decode cX6_awakeFor 27 = .ok (.getfield 7, 3) := by decide +kernel
theorem dX6_awakeFor_30 : decode cX6_awakeFor 30 = .ok (.iload_n 1, 1) := by decide +kernel
theorem dX6_awakeFor_31 : decode cX6_awakeFor 31 = .ok (.iaload, 1) := by decide +kernel
theorem dX6_awakeFor_32 : decode cX6_awakeFor 32 = .ok (.iload_n 3, 1) := by decide +kernel
theorem dX6_awakeFor_33 : decode cX6_awakeFor 33 = .ok (.aload_n 0, 1) := by decide +kernel
theorem dX6_awakeFor_34 : decode cX6_awakeFor 34 = .ok (.getfield 86, 3) := by decide +kernel
theorem dX6_awakeFor_37 : decode cX6_awakeFor 37 = .ok (.iload 5, 2) := by decide +kernel
theorem dX6_awakeFor_39 : decode cX6_awakeFor 39 = .ok (.iadd, 1) := by decide +kernel
theorem dX6_awakeFor_40 : decode cX6_awakeFor 40 = .ok (.iconst 1, 1) := by decide +kernel
theorem dX6_awakeFor_41 : decode cX6_awakeFor 41 = .ok (.invokestatic 95, 3) := by decide +kernel
theorem dX6_awakeFor_44 : decode cX6_awakeFor 44 = .ok (.iadd, 1) := by decide +kernel
theorem dX6_awakeFor_45 : decode cX6_awakeFor 45 = .ok (.istore_n 3, 1) := by decide +kernel
theorem dX6_awakeFor_46 : decode cX6_awakeFor 46 = .ok (.iload 4, 2) := by decide +kernel
theorem dX6_awakeFor_48 : decode cX6_awakeFor 48 = .ok (.aload_n 0, 1) := by decide +kernel
theorem dX6_awakeFor_49 : decode cX6_awakeFor 49 = .ok (.getfield 7, 3) := by decide +kernel
theorem dX6_awakeFor_52 : decode cX6_awakeFor 52 = .ok (.iload_n 2, 1) := by decide +kernel
theorem dX6_awakeFor_53 : decode cX6_awakeFor 53 = .ok (.iaload, 1) := by decide +kernel
theorem dX6_awakeFor_54 : decode cX6_awakeFor 54 = .ok (.iload 4, 2) := by decide +kernel
theorem dX6_awakeFor_56 : decode cX6_awakeFor 56 = .ok (.aload_n 0, 1) := by decide +kernel
theorem dX6_awakeFor_57 : decode cX6_awakeFor 57 = .ok (.getfield 86, 3) := by decide +kernel
theorem dX6_awakeFor_60 : decode cX6_awakeFor 60 = .ok (.iload 5, 2) := by decide +kernel
theorem dX6_awakeFor_62 : decode cX6_awakeFor 62 = .ok (.iadd, 1) := by decide +kernel
theorem dX6_awakeFor_63 : decode cX6_awakeFor 63 = .ok (.iconst 1, 1) := by decide +kernel
theorem dX6_awakeFor_64 : decode cX6_awakeFor 64 = .ok (.invokestatic 95, 3) := by decide +kernel
theorem dX6_awakeFor_67 : decode cX6_awakeFor 67 = .ok (.iadd, 1) := by decide +kernel
theorem dX6_awakeFor_68 : decode cX6_awakeFor 68 = .ok (.istore 4, 2) := by decide +kernel
theorem dX6_awakeFor_70 : decode cX6_awakeFor 70 = .ok (.iload_n 3, 1) := by decide +kernel
theorem dX6_awakeFor_71 : decode cX6_awakeFor 71 = .ok (.bipush 10, 2) := by decide +kernel
theorem dX6_awakeFor_73 : decode cX6_awakeFor 73 = .ok (.if_icmp .ge 10, 3) := by decide +kernel
theorem dX6_awakeFor_76 : decode cX6_awakeFor 76 = .ok (.iload 4, 2) := by decide +kernel
theorem dX6_awakeFor_78 : decode cX6_awakeFor 78 = .ok (.bipush 10, 2) := by decide +kernel
theorem dX6_awakeFor_80 : decode cX6_awakeFor 80 = .ok (.if_icmp .lt 6, 3) := by decide +kernel
theorem dX6_awakeFor_83 : decode cX6_awakeFor 83 = .ok (.iload 5, 2) := by decide +kernel
theorem dX6_awakeFor_85 : decode cX6_awakeFor 85 = .ok (.ireturn, 1) := by decide +kernel
theorem dX6_awakeFor_86 : decode cX6_awakeFor 86 = .ok (.iinc 5 1, 3) := by decide +kernel
theorem dX6_awakeFor_89 : decode cX6_awakeFor 89 = .ok (.goto (-71), 3) := by decide +kernel
theorem dX6_awakeFor_92 : decode cX6_awakeFor 92 = .ok (.bipush 60, 2) := by decide +kernel
theorem dX6_awakeFor_94 : decode cX6_awakeFor 94 = .ok (.ireturn, 1) := by decide +kernel
theorem dX6_sundayNow_0 : decode cX6_sundayNow 0 = .ok (.iconst (-1), 1) := by decide +kernel
theorem dX6_sundayNow_1 : decode cX6_sundayNow 1 = .ok (.istore_n 2, 1) := by decide +kernel
theorem dX6_sundayNow_2 : decode cX6_sundayNow 2 = .ok (.iconst (-1), 1) := by decide +kernel
theorem dX6_sundayNow_3 : decode cX6_sundayNow 3 = .ok (.istore_n 3, 1) := by decide +kernel
theorem dX6_sundayNow_4 : decode cX6_sundayNow 4 = .ok (.iconst 0, 1) := by decide +kernel
theorem dX6_sundayNow_5 : decode cX6_sundayNow 5 = .ok (.istore 4, 2) := by decide +kernel
theorem dX6_sundayNow_7 : decode cX6_sundayNow 7 = .ok (.iload 4, 2) := by decide +kernel
theorem dX6_sundayNow_9 : decode cX6_sundayNow 9 = .ok (.bipush 50, 2) := by decide +kernel
theorem dX6_sundayNow_11 : decode cX6_sundayNow 11 = .ok (.if_icmp .ge 84, 3) := by decide +kernel
theorem dX6_sundayNow_14 : decode cX6_sundayNow 14 = .ok (.iload 4, 2) := by decide +kernel
theorem dX6_sundayNow_16 : decode cX6_sundayNow 16 = .ok (.bipush 10, 2) := by decide +kernel
theorem dX6_sundayNow_18 : decode cX6_sundayNow 18 = .ok (.idiv, 1) := by decide +kernel
theorem dX6_sundayNow_19 : decode cX6_sundayNow 19 = .ok (.istore 5, 2) := by decide +kernel
theorem dX6_sundayNow_21 : decode cX6_sundayNow 21 = .ok (.iload 4, 2) := by decide +kernel
theorem dX6_sundayNow_23 : decode cX6_sundayNow 23 = .ok (.bipush 10, 2) := by decide +kernel
theorem dX6_sundayNow_25 : decode cX6_sundayNow 25 = .ok (.irem, 1) := by decide +kernel
theorem dX6_sundayNow_26 : decode cX6_sundayNow 26 = .ok (.istore 6, 2) := by decide +kernel
theorem dX6_sundayNow_28 : decode cX6_sundayNow 28 = .ok (.iload 5, 2) := by decide +kernel
theorem dX6_sundayNow_30 : decode cX6_sundayNow 30 = .ok (.iload 6, 2) := by decide +kernel
theorem dX6_sundayNow_32 : decode cX6_sundayNow 32 = .ok (.if_icmp .ge 57, 3) := by decide +kernel
theorem dX6_sundayNow_35 : decode cX6_sundayNow 35 = .ok (.aload_n 0, 1) := by decide +kernel
theorem dX6_sundayNow_36 : decode cX6_sundayNow 36 = .ok (.iload 5, 2) := by decide +kernel
theorem dX6_sundayNow_38 : decode cX6_sundayNow 38 = .ok (.invokevirtual 154, 3) := by decide +kernel
theorem dX6_sundayNow_41 : decode cX6_sundayNow 41 = .ok (.ifCond .eq 48, 3) := by decide +kernel
theorem dX6_sundayNow_44 : decode cX6_sundayNow 44 = .ok (.aload_n 0, 1) := by decide +kernel
theorem dX6_sundayNow_45 : decode cX6_sundayNow 45 = .ok (.iload 6, 2) := by decide +kernel
theorem dX6_sundayNow_47 : decode cX6_sundayNow 47 = .ok (.invokevirtual 154, 3) := by decide +kernel
theorem dX6_sundayNow_50 : decode cX6_sundayNow 50 = .ok (.ifCond .eq 39, 3) := by decide +kernel
theorem dX6_sundayNow_53 : decode cX6_sundayNow 53 = .ok (.aload_n 0, 1) := by decide +kernel
theorem dX6_sundayNow_54 : decode cX6_sundayNow 54 = .ok (.iload 5, 2) := by decide +kernel
theorem dX6_sundayNow_56 : decode cX6_sundayNow 56 = .ok (.iload 6, 2) := by decide +kernel
theorem dX6_sundayNow_58 : decode cX6_sundayNow 58 = .ok (.invokevirtual 157, 3) := by decide +kernel
theorem dX6_sundayNow_61 : decode cX6_sundayNow 61 = .ok (.istore 7, 2) := by decide +kernel
theorem dX6_sundayNow_63 : decode cX6_sundayNow 63 = .ok (.iload 7, 2) := by decide +kernel
theorem dX6_sundayNow_65 : decode cX6_sundayNow 65 = .ok (.iload_n 3, 1) := by decide +kernel
theorem dX6_sundayNow_66 : decode cX6_sundayNow 66 = .ok (.if_icmp .le 8, 3) := by decide +kernel
theorem dX6_sundayNow_69 : decode cX6_sundayNow 69 = .ok (.iload 4, 2) := by decide +kernel
theorem dX6_sundayNow_71 : decode cX6_sundayNow 71 = .ok (.goto 4, 3) := by decide +kernel
theorem dX6_sundayNow_74 : decode cX6_sundayNow 74 = .ok (.iload_n 2, 1) := by decide +kernel
theorem dX6_sundayNow_75 : decode cX6_sundayNow 75 = .ok (.istore_n 2, 1) := by decide +kernel
theorem dX6_sundayNow_76 : decode cX6_sundayNow 76 = .ok (.iload 7, 2) := by decide +kernel
theorem dX6_sundayNow_78 : decode cX6_sundayNow 78 = .ok (.iload_n 3, 1) := by decide +kernel
theorem dX6_sundayNow_79 : decode cX6_sundayNow 79 = .ok (.if_icmp .le 8, 3) := by decide +kernel
theorem dX6_sundayNow_82 : decode cX6_sundayNow 82 = .ok (.iload 7, 2) := by decide +kernel
theorem dX6_sundayNow_84 : decode cX6_sundayNow 84 = .ok (.goto 4, 3) := by decide +kernel
theorem dX6_sundayNow_87 : decode cX6_sundayNow 87 = .ok (.iload_n 3, 1) := by decide +kernel
theorem dX6_sundayNow_88 : decode cX6_sundayNow 88 = .ok (.istore_n 3, 1) := by decide +kernel
theorem dX6_sundayNow_89 : decode cX6_sundayNow 89 = .ok (.iinc 4 1, 3) := by decide +kernel
theorem dX6_sundayNow_92 : decode cX6_sundayNow 92 = .ok (.goto (-85), 3) := by decide +kernel
theorem dX6_sundayNow_95 : decode cX6_sundayNow 95 = .ok (.iload_n 1, 1) := by decide +kernel
theorem dX6_sundayNow_96 : decode cX6_sundayNow 96 = .ok (.ifCond .ne 7, 3) := by decide +kernel
theorem dX6_sundayNow_99 : decode cX6_sundayNow 99 = .ok (.iload_n 2, 1) := by decide +kernel
theorem dX6_sundayNow_100 : decode cX6_sundayNow 100 = .ok (.goto 4, 3) := by decide +kernel
theorem dX6_sundayNow_103 : decode cX6_sundayNow 103 = .ok (.iload_n 3, 1) := by decide +kernel
theorem dX6_sundayNow_104 : decode cX6_sundayNow 104 = .ok (.ireturn, 1) := by decide +kernel
theorem dX6_sunday_0 : decode cX6_sunday 0 = .ok (.iload_n 1, 1) := by decide +kernel
theorem dX6_sunday_1 : decode cX6_sunday 1 = .ok (.iconst 0, 1) := by decide +kernel
theorem dX6_sunday_2 : decode cX6_sunday 2 = .ok (.iconst 1, 1) := by decide +kernel
theorem dX6_sunday_3 : decode cX6_sunday 3 = .ok (.invokestatic 51, 3) := by decide +kernel
theorem dX6_sunday_6 : decode cX6_sunday 6 = .ok (.ifCond .ne 6, 3) := by decide +kernel
theorem dX6_sunday_9 : decode cX6_sunday 9 = .ok (.bipush (-102), 2) := by decide +kernel
theorem dX6_sunday_11 : decode cX6_sunday 11 = .ok (.ireturn, 1) := by decide +kernel
theorem dX6_sunday_12 : decode cX6_sunday 12 = .ok (.aload_n 0, 1) := by decide +kernel
theorem dX6_sunday_13 : decode cX6_sunday 13 = .ok (.getfield 77, 3) := by decide +kernel
theorem dX6_sunday_16 : decode cX6_sunday 16 = .ok (.ifCond .ne 8, 3) := by decide +kernel
theorem dX6_sunday_19 : decode cX6_sunday 19 = .ok (.bipush (-103), 2) := by decide +kernel
theorem dX6_sunday_21 : decode cX6_sunday 21 = .ok (.goto 8, 3) := by decide +kernel
theorem dX6_sunday_24 : decode cX6_sunday 24 = .ok (.aload_n 0, 1) := by decide +kernel
theorem dX6_sunday_25 : decode cX6_sunday 25 = .ok (.iload_n 1, 1) := by decide +kernel
theorem dX6_sunday_26 : decode cX6_sunday 26 = .ok (.invokevirtual 160, 3) := by decide +kernel
theorem dX6_sunday_29 : decode cX6_sunday 29 = .ok (.ireturn, 1) := by decide +kernel
theorem dX6_see_0 : decode cX6_see 0 = .ok (.iload_n 1, 1) := by decide +kernel
theorem dX6_see_1 : decode cX6_see 1 = .ok (.iconst 0, 1) := by decide +kernel
theorem dX6_see_2 : decode cX6_see 2 = .ok (.bipush 12, 2) := by decide +kernel
theorem dX6_see_4 : decode cX6_see 4 = .ok (.invokestatic 51, 3) := by decide +kernel
theorem dX6_see_7 : decode cX6_see 7 = .ok (.ifCond .ne 6, 3) := by decide +kernel
theorem dX6_see_10 : decode cX6_see 10 = .ok (.bipush (-102), 2) := by decide +kernel
theorem dX6_see_12 : decode cX6_see 12 = .ok (.ireturn, 1) := by decide +kernel
theorem dX6_see_13 : decode cX6_see 13 = .ok (.iload_n 2, 1) := by decide +kernel
theorem dX6_see_14 : decode cX6_see 14 = .ok (.iconst (-1), 1) := by decide +kernel
theorem dX6_see_15 : decode cX6_see 15 = .ok (.if_icmp .eq 14, 3) := by decide +kernel
theorem dX6_see_18 : decode cX6_see 18 = .ok (.aload_n 0, 1) := by decide +kernel
theorem dX6_see_19 : decode cX6_see 19 = .ok (.iload_n 2, 1) := by decide +kernel
theorem dX6_see_20 : decode cX6_see 20 = .ok (.invokevirtual 112, 3) := by decide +kernel
theorem dX6_see_23 : decode cX6_see 23 = .ok (.ifCond .ne 6, 3) := by decide +kernel
theorem dX6_see_26 : decode cX6_see 26 = .ok (.bipush (-101), 2) := by decide +kernel
theorem dX6_see_28 : decode cX6_see 28 = .ok (.ireturn, 1) := by decide +kernel
theorem dX6_see_29 : decode cX6_see 29 = .ok (.aload_n 0, 1) := by decide +kernel
theorem dX6_see_30 : decode cX6_see 30 = .ok (.getfield 89, 3) := by decide +kernel
theorem dX6_see_33 : decode cX6_see 33 = .ok (.bipush 6, 2) := by decide +kernel
theorem dX6_see_35 : decode cX6_see 35 = .ok (.if_icmp .ne 6, 3) := by decide +kernel
theorem dX6_see_38 : decode cX6_see 38 = .ok (.bipush (-104), 2) := by decide +kernel
theorem dX6_see_40 : decode cX6_see 40 = .ok (.ireturn, 1) := by decide +kernel
theorem dX6_see_41 : decode cX6_see 41 = .ok (.aload_n 0, 1) := by decide +kernel
theorem dX6_see_42 : decode cX6_see 42 = .ok (.getfield 23, 3) := by decide +kernel
theorem dX6_see_45 : decode cX6_see 45 = .ok (.aload_n 0, 1) := by decide +kernel
theorem dX6_see_46 : decode cX6_see 46 = .ok (.getfield 89, 3) := by decide +kernel
theorem dX6_see_49 : decode cX6_see 49 = .ok (.iload_n 1, 1) := by decide +kernel
theorem dX6_see_50 : decode cX6_see 50 = .ok (.iastore, 1) := by decide +kernel
theorem dX6_see_51 : decode cX6_see 51 = .ok (.aload_n 0, 1) := by decide +kernel
theorem dX6_see_52 : decode cX6_see 52 = .ok (.getfield 26, 3) := by decide +kernel
theorem dX6_see_55 : decode cX6_see 55 = .ok (.aload_n 0, 1) := by decide +kernel
theorem dX6_see_56 : decode cX6_see 56 = .ok (.getfield 89, 3) := by decide +kernel
theorem dX6_see_59 : decode cX6_see 59 = .ok (.iload_n 2, 1) := by decide +kernel
theorem dX6_see_60 : decode cX6_see 60 = .ok (.iastore, 1) := by decide +kernel
theorem dX6_see_61 : decode cX6_see 61 = .ok (.aload_n 0, 1) := by decide +kernel
theorem dX6_see_62 : decode cX6_see 62 = .ok (.dup, 1) := by decide +kernel
theorem dX6_see_63 : decode cX6_see 63 = .ok (.getfield 89, 3) := by decide +kernel
theorem dX6_see_66 : decode cX6_see 66 = .ok (.iconst 1, 1) := by decide +kernel
theorem dX6_see_67 : decode cX6_see 67 = .ok (.iadd, 1) := by decide +kernel
theorem dX6_see_68 : decode cX6_see 68 = .ok (.putfield 89, 3) := by decide +kernel
theorem dX6_see_71 : decode cX6_see 71 = .ok (.aload_n 0, 1) := by decide +kernel
theorem dX6_see_72 : decode cX6_see 72 = .ok (.getfield 89, 3) := by decide +kernel
theorem dX6_see_75 : decode cX6_see 75 = .ok (.ireturn, 1) := by decide +kernel
theorem dX6_forget_0 : decode cX6_forget 0 = .ok (.aload_n 0, 1) := by decide +kernel
theorem dX6_forget_1 : decode cX6_forget 1 = .ok (.getfield 89, 3) := by decide +kernel
theorem dX6_forget_4 : decode cX6_forget 4 = .ok (.istore_n 1, 1) := by decide +kernel
theorem dX6_forget_5 : decode cX6_forget 5 = .ok (.aload_n 0, 1) := by decide +kernel
theorem dX6_forget_6 : decode cX6_forget 6 = .ok (.iconst 0, 1) := by decide +kernel
theorem dX6_forget_7 : decode cX6_forget 7 = .ok (.putfield 89, 3) := by decide +kernel
theorem dX6_forget_10 : decode cX6_forget 10 = .ok (.iload_n 1, 1) := by decide +kernel
theorem dX6_forget_11 : decode cX6_forget 11 = .ok (.ireturn, 1) := by decide +kernel
theorem dX6_layTired_0 : decode cX6_layTired 0 = .ok (.aload_n 0, 1) := by decide +kernel
theorem dX6_layTired_1 : decode cX6_layTired 1 = .ok (.invokevirtual 132, 3) := by decide +kernel
theorem dX6_layTired_4 : decode cX6_layTired 4 = .ok (.iconst 0, 1) := by decide +kernel
theorem dX6_layTired_5 : decode cX6_layTired 5 = .ok (.istore_n 2, 1) := by decide +kernel
theorem dX6_layTired_6 : decode cX6_layTired 6 = .ok (.iload_n 2, 1) := by decide +kernel
theorem dX6_layTired_7 : decode cX6_layTired 7 = .ok (.bipush 10, 2) := by decide +kernel
theorem dX6_layTired_9 : decode cX6_layTired 9 = .ok (.if_icmp .ge 61, 3) := by decide +kernel
theorem dX6_layTired_12 : decode cX6_layTired 12 = .ok (.aload_n 0, 1) := by decide +kernel
theorem dX6_layTired_13 : decode cX6_layTired 13 = .ok (.iconst 0, 1) := by decide +kernel
theorem dX6_layTired_14 : decode cX6_layTired 14 = .ok (.invokevirtual 103, 3) := by decide +kernel
theorem dX6_layTired_17 : decode cX6_layTired 17 = .ok (.aload_n 0, 1) := by decide +kernel
theorem dX6_layTired_18 : decode cX6_layTired 18 = .ok (.getfield 13, 3) := by decide +kernel
theorem dX6_layTired_21 : decode cX6_layTired 21 = .ok (.iload_n 1, 1) := by decide +kernel
theorem dX6_layTired_22 : decode cX6_layTired 22 = .ok (.iload_n 2, 1) := by decide +kernel
theorem dX6_layTired_23 : decode cX6_layTired 23 = .ok (.iastore, 1) := by decide +kernel
theorem dX6_layTired_24 : decode cX6_layTired 24 = .ok (.aload_n 0, 1) := by decide +kernel
theorem dX6_layTired_25 : decode cX6_layTired 25 = .ok (.getfield 16, 3) := by decide +kernel
theorem dX6_layTired_28 : decode cX6_layTired 28 = .ok (.iload_n 1, 1) := by decide +kernel
theorem dX6_layTired_29 : decode cX6_layTired 29 = .ok (.iconst 0, 1) := by decide +kernel
theorem dX6_layTired_30 : decode cX6_layTired 30 = .ok (.bastore, 1) := by decide +kernel
theorem dX6_layTired_31 : decode cX6_layTired 31 = .ok (.iconst 0, 1) := by decide +kernel
theorem dX6_layTired_32 : decode cX6_layTired 32 = .ok (.istore_n 3, 1) := by decide +kernel
theorem dX6_layTired_33 : decode cX6_layTired 33 = .ok (.iload_n 3, 1) := by decide +kernel
theorem dX6_layTired_34 : decode cX6_layTired 34 = .ok (.bipush 12, 2) := by decide +kernel
theorem dX6_layTired_36 : decode cX6_layTired 36 = .ok (.if_icmp .gt 28, 3) := by decide +kernel
theorem dX6_layTired_39 : decode cX6_layTired 39 = .ok (.aload_n 0, 1) := by decide +kernel
theorem dX6_layTired_40 : decode cX6_layTired 40 = .ok (.getfield 39, 3) := by decide +kernel
theorem dX6_layTired_43 : decode cX6_layTired 43 = .ok (.bipush 13, 2) := by decide +kernel
theorem dX6_layTired_45 : decode cX6_layTired 45 = .ok (.iload_n 2, 1) := by decide +kernel
theorem dX6_layTired_46 : decode cX6_layTired 46 = .ok (.imul, 1) := by decide +kernel
theorem dX6_layTired_47 : decode cX6_layTired 47 = .ok (.iload_n 3, 1) := by decide +kernel
theorem dX6_layTired_48 : decode cX6_layTired 48 = .ok (.iadd, 1) := by decide +kernel
theorem dX6_layTired_49 : decode cX6_layTired 49 = .ok (.aload_n 0, 1) := by decide +kernel
theorem dX6_layTired_50 : decode cX6_layTired 50 = .ok (.invokevirtual 92, 3) := by decide +kernel
theorem dX6_layTired_53 : decode cX6_layTired 53 = .ok (.iastore, 1) := by decide +kernel
theorem dX6_layTired_54 : decode cX6_layTired 54 = .ok (.aload_n 0, 1) := by decide +kernel
theorem dX6_layTired_55 : decode cX6_layTired 55 = .ok (.invokevirtual 126, 3) := by decide +kernel
theorem dX6_layTired_58 : decode cX6_layTired 58 = .ok (.iinc 3 1, 3) := by decide +kernel
theorem dX6_layTired_61 : decode cX6_layTired 61 = .ok (.goto (-28), 3) := by decide +kernel
theorem dX6_layTired_64 : decode cX6_layTired 64 = .ok (.iinc 2 1, 3) := by decide +kernel
theorem dX6_layTired_67 : decode cX6_layTired 67 = .ok (.goto (-61), 3) := by decide +kernel
theorem dX6_layTired_70 : decode cX6_layTired 70 = .ok (.aload_n 0, 1) := by decide +kernel
theorem dX6_layTired_71 : decode cX6_layTired 71 = .ok (.invokevirtual 135, 3) := by decide +kernel
theorem dX6_layTired_74 : decode cX6_layTired 74 = .ok (.return_, 1) := by decide +kernel
theorem dX6_fitting_0 : decode cX6_fitting 0 = .ok (.iconst 0, 1) := by decide +kernel
theorem dX6_fitting_1 : decode cX6_fitting 1 = .ok (.istore_n 1, 1) := by decide +kernel
theorem dX6_fitting_2 : decode cX6_fitting 2 = .ok (.iconst 0, 1) := by decide +kernel
theorem dX6_fitting_3 : decode cX6_fitting 3 = .ok (.istore_n 2, 1) := by decide +kernel
theorem dX6_fitting_4 : decode cX6_fitting 4 = .ok (.iload_n 2, 1) := by decide +kernel
theorem dX6_fitting_5 : decode cX6_fitting 5 = .ok (.bipush 10, 2) := by decide +kernel
theorem dX6_fitting_7 : decode cX6_fitting 7 = .ok (.if_icmp .ge 80, 3) := by decide +kernel
theorem dX6_fitting_10 : decode cX6_fitting 10 = .ok (.iconst 1, 1) := by decide +kernel
theorem dX6_fitting_11 : decode cX6_fitting 11 = .ok (.istore_n 3, 1) := by decide +kernel
theorem dX6_fitting_12 : decode cX6_fitting 12 = .ok (.iconst 0, 1) := by decide +kernel
theorem dX6_fitting_13 : decode cX6_fitting 13 = .ok (.istore 4, 2) := by decide +kernel
theorem dX6_fitting_15 : decode cX6_fitting 15 = .ok (.iload 4, 2) := by decide +kernel
theorem dX6_fitting_17 : decode cX6_fitting 17 = .ok (.aload_n 0, 1) := by decide +kernel
theorem dX6_fitting_18 : decode cX6_fitting 18 = .ok (.getfield 89, 3) := by decide +kernel
theorem dX6_fitting_21 : decode cX6_fitting 21 = .ok (.if_icmp .ge 46, 3) := by decide +kernel
theorem dX6_fitting_24 : decode cX6_fitting 24 = .ok (.iload_n 3, 1) := by decide +kernel
theorem dX6_fitting_25 : decode cX6_fitting 25 = .ok (.ifCond .eq 34, 3) := by decide +kernel
theorem dX6_fitting_28 : decode cX6_fitting 28 = .ok (.aload_n 0, 1) := by decide +kernel
theorem dX6_fitting_29 : decode cX6_fitting 29 = .ok (.getfield 39, 3) := by decide +kernel
theorem dX6_fitting_32 : decode cX6_fitting 32 = .ok (.bipush 13, 2) := by decide +kernel
theorem dX6_fitting_34 : decode cX6_fitting 34 = .ok (.iload_n 2, 1) := by decide +kernel
theorem dX6_fitting_35 : decode cX6_fitting 35 = .ok (.imul, 1) := by decide +kernel
theorem dX6_fitting_36 : decode cX6_fitting 36 = .ok (.aload_n 0, 1) := by decide +kernel
theorem dX6_fitting_37 : decode cX6_fitting 37 = .ok (.getfield 23, 3) := by decide +kernel
theorem dX6_fitting_40 : decode cX6_fitting 40 = .ok (.iload 4, 2) := by decide +kernel
theorem dX6_fitting_42 : decode cX6_fitting 42 = .ok (.iaload, 1) := by decide +kernel
theorem dX6_fitting_43 : decode cX6_fitting 43 = .ok (.iadd, 1) := by decide +kernel
theorem dX6_fitting_44 : decode cX6_fitting 44 = .ok (.iaload, 1) := by decide +kernel
theorem dX6_fitting_45 : decode cX6_fitting 45 = .ok (.aload_n 0, 1) := by decide +kernel
theorem dX6_fitting_46 : decode cX6_fitting 46 = .ok (.getfield 26, 3) := by decide +kernel
theorem dX6_fitting_49 : decode cX6_fitting 49 = .ok (.iload 4, 2) := by decide +kernel
theorem dX6_fitting_51 : decode cX6_fitting 51 = .ok (.iaload, 1) := by decide +kernel
theorem dX6_fitting_52 : decode cX6_fitting 52 = .ok (.if_icmp .ne 7, 3) := by decide +kernel
theorem dX6_fitting_55 : decode cX6_fitting 55 = .ok (.iconst 1, 1) := by decide +kernel
theorem dX6_fitting_56 : decode cX6_fitting 56 = .ok (.goto 4, 3) := by decide +kernel
theorem dX6_fitting_59 : decode cX6_fitting 59 = .ok (.iconst 0, 1) := by decide +kernel
theorem dX6_fitting_60 : decode cX6_fitting 60 = .ok (.istore_n 3, 1) := by decide +kernel
theorem dX6_fitting_61 : decode cX6_fitting 61 = .ok (.iinc 4 1, 3) := by decide +kernel
theorem dX6_fitting_64 : decode cX6_fitting 64 = .ok (.goto (-49), 3) := by decide +kernel
theorem dX6_fitting_67 : decode cX6_fitting 67 = .ok (.iload_n 1, 1) := by decide +kernel
theorem dX6_fitting_68 : decode cX6_fitting 68 = .ok (.iload_n 3, 1) := by decide +kernel
theorem dX6_fitting_69 : decode cX6_fitting 69 = .ok (.ifCond .eq 9, 3) := by decide +kernel
theorem dX6_fitting_72 : decode cX6_fitting 72 = .ok (.iconst 1, 1) := by decide +kernel
theorem dX6_fitting_73 : decode cX6_fitting 73 = .ok (.iload_n 2, 1) := by decide +kernel
theorem dX6_fitting_74 : decode cX6_fitting 74 = .ok (.ishl, 1) := by decide +kernel
theorem dX6_fitting_75 : decode cX6_fitting 75 = .ok (.goto 4, 3) := by decide +kernel
theorem dX6_fitting_78 : decode cX6_fitting 78 = .ok (.iconst 0, 1) := by decide +kernel
theorem dX6_fitting_79 : decode cX6_fitting 79 = .ok (.ior, 1) := by decide +kernel
theorem dX6_fitting_80 : decode cX6_fitting 80 = .ok (.istore_n 1, 1) := by decide +kernel
theorem dX6_fitting_81 : decode cX6_fitting 81 = .ok (.iinc 2 1, 3) := by decide +kernel
theorem dX6_fitting_84 : decode cX6_fitting 84 = .ok (.goto (-80), 3) := by decide +kernel
theorem dX6_fitting_87 : decode cX6_fitting 87 = .ok (.iload_n 1, 1) := by decide +kernel
theorem dX6_fitting_88 : decode cX6_fitting 88 = .ok (.ireturn, 1) := by decide +kernel
theorem dX6_howTired_0 : decode cX6_howTired 0 = .ok (.aload_n 0, 1) := by decide +kernel
theorem dX6_howTired_1 : decode cX6_howTired 1 = .ok (.iload_n 1, 1) := by decide +kernel
theorem dX6_howTired_2 : decode cX6_howTired 2 = .ok (.invokevirtual 163, 3) := by decide +kernel
theorem dX6_howTired_5 : decode cX6_howTired 5 = .ok (.aload_n 0, 1) := by decide +kernel
theorem dX6_howTired_6 : decode cX6_howTired 6 = .ok (.invokevirtual 166, 3) := by decide +kernel
theorem dX6_howTired_9 : decode cX6_howTired 9 = .ok (.ireturn, 1) := by decide +kernel
theorem dX6_worstBehind_0 : decode cX6_worstBehind 0 = .ok (.iconst 0, 1) := by decide +kernel
theorem dX6_worstBehind_1 : decode cX6_worstBehind 1 = .ok (.istore_n 3, 1) := by decide +kernel
theorem dX6_worstBehind_2 : decode cX6_worstBehind 2 = .ok (.iconst (-1), 1) := by decide +kernel
theorem dX6_worstBehind_3 : decode cX6_worstBehind 3 = .ok (.istore 4, 2) := by decide +kernel
theorem dX6_worstBehind_5 : decode cX6_worstBehind 5 = .ok (.iload 4, 2) := by decide +kernel
theorem dX6_worstBehind_7 : decode cX6_worstBehind 7 = .ok (.aload_n 0, 1) := by decide +kernel
theorem dX6_worstBehind_8 : decode cX6_worstBehind 8 = .ok (.getfield 77, 3) := by decide +kernel
theorem dX6_worstBehind_11 : decode cX6_worstBehind 11 = .ok (.if_icmp .ge 77, 3) := by decide +kernel
theorem dX6_worstBehind_14 : decode cX6_worstBehind 14 = .ok (.iconst 0, 1) := by decide +kernel
theorem dX6_worstBehind_15 : decode cX6_worstBehind 15 = .ok (.istore 5, 2) := by decide +kernel
theorem dX6_worstBehind_17 : decode cX6_worstBehind 17 = .ok (.iconst 0, 1) := by decide +kernel
theorem dX6_worstBehind_18 : decode cX6_worstBehind 18 = .ok (.istore 6, 2) := by decide +kernel
theorem dX6_worstBehind_20 : decode cX6_worstBehind 20 = .ok (.iload 6, 2) := by decide +kernel
theorem dX6_worstBehind_22 : decode cX6_worstBehind 22 = .ok (.bipush 10, 2) := by decide +kernel
theorem dX6_worstBehind_24 : decode cX6_worstBehind 24 = .ok (.if_icmp .ge 45, 3) := by decide +kernel
theorem dX6_worstBehind_27 : decode cX6_worstBehind 27 = .ok (.iload 5, 2) := by decide +kernel
theorem dX6_worstBehind_29 : decode cX6_worstBehind 29 = .ok (.iload_n 1, 1) := by decide +kernel
theorem dX6_worstBehind_30 : decode cX6_worstBehind 30 = .ok (.iload 6, 2) := by decide +kernel
theorem dX6_worstBehind_32 : decode cX6_worstBehind 32 = .ok (.invokestatic 169, 3) := by decide +kernel
theorem dX6_worstBehind_35 : decode cX6_worstBehind 35 = .ok (.ifCond .eq 24, 3) := by decide +kernel
theorem dX6_worstBehind_38 : decode cX6_worstBehind 38 = .ok (.aload_n 0, 1) := by decide +kernel
theorem dX6_worstBehind_39 : decode cX6_worstBehind 39 = .ok (.getfield 39, 3) := by decide +kernel
theorem dX6_worstBehind_42 : decode cX6_worstBehind 42 = .ok (.bipush 13, 2) := by decide +kernel
theorem dX6_worstBehind_44 : decode cX6_worstBehind 44 = .ok (.iload 6, 2) := by decide +kernel
theorem dX6_worstBehind_46 : decode cX6_worstBehind 46 = .ok (.imul, 1) := by decide +kernel
theorem dX6_worstBehind_47 : decode cX6_worstBehind 47 = .ok (.iload_n 2, 1) := by decide +kernel
theorem dX6_worstBehind_48 : decode cX6_worstBehind 48 = .ok (.iadd, 1) := by decide +kernel
theorem dX6_worstBehind_49 : decode cX6_worstBehind 49 = .ok (.iaload, 1) := by decide +kernel
theorem dX6_worstBehind_50 : decode cX6_worstBehind 50 = .ok (.iload 4, 2) := by decide +kernel
theorem dX6_worstBehind_52 : decode cX6_worstBehind 52 = .ok (.if_icmp .ne 7, 3) := by decide +kernel
theorem dX6_worstBehind_55 : decode cX6_worstBehind 55 = .ok (.iconst 1, 1) := by decide +kernel
theorem dX6_worstBehind_56 : decode cX6_worstBehind 56 = .ok (.goto 4, 3) := by decide +kernel
theorem dX6_worstBehind_59 : decode cX6_worstBehind 59 = .ok (.iconst 0, 1) := by decide +kernel
theorem dX6_worstBehind_60 : decode cX6_worstBehind 60 = .ok (.iadd, 1) := by decide +kernel
theorem dX6_worstBehind_61 : decode cX6_worstBehind 61 = .ok (.istore 5, 2) := by decide +kernel
theorem dX6_worstBehind_63 : decode cX6_worstBehind 63 = .ok (.iinc 6 1, 3) := by decide +kernel
theorem dX6_worstBehind_66 : decode cX6_worstBehind 66 = .ok (.goto (-46), 3) := by decide +kernel
theorem dX6_worstBehind_69 : decode cX6_worstBehind 69 = .ok (.iload 5, 2) := by decide +kernel
theorem dX6_worstBehind_71 : decode cX6_worstBehind 71 = .ok (.iload_n 3, 1) := by decide +kernel
theorem dX6_worstBehind_72 : decode cX6_worstBehind 72 = .ok (.if_icmp .le 8, 3) := by decide +kernel
theorem dX6_worstBehind_75 : decode cX6_worstBehind 75 = .ok (.iload 5, 2) := by decide +kernel
theorem dX6_worstBehind_77 : decode cX6_worstBehind 77 = .ok (.goto 4, 3) := by decide +kernel
theorem dX6_worstBehind_80 : decode cX6_worstBehind 80 = .ok (.iload_n 3, 1) := by decide +kernel
theorem dX6_worstBehind_81 : decode cX6_worstBehind 81 = .ok (.istore_n 3, 1) := by decide +kernel
theorem dX6_worstBehind_82 : decode cX6_worstBehind 82 = .ok (.iinc 4 1, 3) := by decide +kernel
theorem dX6_worstBehind_85 : decode cX6_worstBehind 85 = .ok (.goto (-80), 3) := by decide +kernel
theorem dX6_worstBehind_88 : decode cX6_worstBehind 88 = .ok (.iload_n 3, 1) := by decide +kernel
theorem dX6_worstBehind_89 : decode cX6_worstBehind 89 = .ok (.ireturn, 1) := by decide +kernel
theorem dX6_lookOf_0 : decode cX6_lookOf 0 = .ok (.aload_n 0, 1) := by decide +kernel
theorem dX6_lookOf_1 : decode cX6_lookOf 1 = .ok (.iload_n 1, 1) := by decide +kernel
theorem dX6_lookOf_2 : decode cX6_lookOf 2 = .ok (.invokevirtual 163, 3) := by decide +kernel
theorem dX6_lookOf_5 : decode cX6_lookOf 5 = .ok (.aload_n 0, 1) := by decide +kernel
theorem dX6_lookOf_6 : decode cX6_lookOf 6 = .ok (.invokevirtual 166, 3) := by decide +kernel
theorem dX6_lookOf_9 : decode cX6_lookOf 9 = .ok (.istore_n 2, 1) := by decide +kernel
theorem dX6_lookOf_10 : decode cX6_lookOf 10 = .ok (.iconst (-1), 1) := by decide +kernel
theorem dX6_lookOf_11 : decode cX6_lookOf 11 = .ok (.istore_n 3, 1) := by decide +kernel
theorem dX6_lookOf_12 : decode cX6_lookOf 12 = .ok (.ldc 173, 2) := by decide +kernel
theorem dX6_lookOf_14 : decode cX6_lookOf 14 = .ok (.istore 4, 2) := by decide +kernel
theorem dX6_lookOf_16 : decode cX6_lookOf 16 = .ok (.iconst 0, 1) := by decide +kernel
theorem dX6_lookOf_17 : decode cX6_lookOf 17 = .ok (.istore 5, 2) := by decide +kernel
theorem dX6_lookOf_19 : decode cX6_lookOf 19 = .ok (.iload 5, 2) := by decide +kernel
theorem dX6_lookOf_21 : decode cX6_lookOf 21 = .ok (.bipush 12, 2) := by decide +kernel
theorem dX6_lookOf_23 : decode cX6_lookOf 23 = .ok (.if_icmp .gt 52, 3) := by decide +kernel
theorem dX6_lookOf_26 : decode cX6_lookOf 26 = .ok (.iload_n 2, 1) := by decide +kernel
theorem dX6_lookOf_27 : decode cX6_lookOf 27 = .ok (.ifCond .eq 48, 3) := by decide +kernel
theorem dX6_lookOf_30 : decode cX6_lookOf 30 = .ok (.aload_n 0, 1) := by decide +kernel
theorem dX6_lookOf_31 : decode cX6_lookOf 31 = .ok (.iload_n 2, 1) := by decide +kernel
theorem dX6_lookOf_32 : decode cX6_lookOf 32 = .ok (.iload 5, 2) := by decide +kernel
theorem dX6_lookOf_34 : decode cX6_lookOf 34 = .ok (.invokevirtual 174, 3) := by decide +kernel
theorem dX6_lookOf_37 : decode cX6_lookOf 37 = .ok (.istore 6, 2) := by decide +kernel
theorem dX6_lookOf_39 : decode cX6_lookOf 39 = .ok (.iload 6, 2) := by decide +kernel
theorem dX6_lookOf_41 : decode cX6_lookOf 41 = .ok (.iload 4, 2) := by decide +kernel
theorem dX6_lookOf_43 : decode cX6_lookOf 43 = .ok (.if_icmp .ge 8, 3) := by decide +kernel
theorem dX6_lookOf_46 : decode cX6_lookOf 46 = .ok (.iload 5, 2) := by decide +kernel
theorem dX6_lookOf_48 : decode cX6_lookOf 48 = .ok (.goto 4, 3) := by decide +kernel
theorem dX6_lookOf_51 : decode cX6_lookOf 51 = .ok (.iload_n 3, 1) := by decide +kernel
theorem dX6_lookOf_52 : decode cX6_lookOf 52 = .ok (.istore_n 3, 1) := by decide +kernel
theorem dX6_lookOf_53 : decode cX6_lookOf 53 = .ok (.iload 6, 2) := by decide +kernel
theorem dX6_lookOf_55 : decode cX6_lookOf 55 = .ok (.iload 4, 2) := by decide +kernel
theorem dX6_lookOf_57 : decode cX6_lookOf 57 = .ok (.if_icmp .ge 8, 3) := by decide +kernel
theorem dX6_lookOf_60 : decode cX6_lookOf 60 = .ok (.iload 6, 2) := by decide +kernel
theorem dX6_lookOf_62 : decode cX6_lookOf 62 = .ok (.goto 5, 3) := by decide +kernel
theorem dX6_lookOf_65 : decode cX6_lookOf 65 = .ok (.iload 4, 2) := by decide +kernel
theorem dX6_lookOf_67 : decode cX6_lookOf 67 = .ok (.istore 4, 2) := by decide +kernel
theorem dX6_lookOf_69 : decode cX6_lookOf 69 = .ok (.iinc 5 1, 3) := by decide +kernel
theorem dX6_lookOf_72 : decode cX6_lookOf 72 = .ok (.goto (-53), 3) := by decide +kernel
theorem dX6_lookOf_75 : decode cX6_lookOf 75 = .ok (.iload_n 3, 1) := by decide +kernel
theorem dX6_lookOf_76 : decode cX6_lookOf 76 = .ok (.ireturn, 1) := by decide +kernel
theorem dX6_draw_0 : decode cX6_draw 0 = .ok (.aload_n 0, 1) := by decide +kernel
theorem dX6_draw_1 : decode cX6_draw 1 = .ok (.ldc2_w 177, 3) := by decide +kernel
theorem dX6_draw_4 : decode cX6_draw 4 = .ok (.aload_n 0, 1) := by decide +kernel
theorem dX6_draw_5 : decode cX6_draw 5 = .ok (.getfield 179, 3) := by decide +kernel
theorem dX6_draw_8 : decode cX6_draw 8 = .ok (.lmul, 1) := by decide +kernel
theorem dX6_draw_9 : decode cX6_draw 9 = .ok (.ldc2_w 183, 3) := by decide +kernel
theorem dX6_draw_12 : decode cX6_draw 12 = .ok (.ladd, 1) := by decide +kernel
theorem dX6_draw_13 : decode cX6_draw 13 = .ok (.ldc2_w 185, 3) := by decide +kernel
theorem dX6_draw_16 : decode cX6_draw 16 = .ok (.land, 1) := by decide +kernel
theorem dX6_draw_17 : decode cX6_draw 17 = .ok (.putfield 179, 3) := by decide +kernel
theorem dX6_draw_20 : decode cX6_draw 20 = .ok (.aload_n 0, 1) := by decide +kernel
theorem dX6_draw_21 : decode cX6_draw 21 = .ok (.getfield 179, 3) := by decide +kernel
theorem dX6_draw_24 : decode cX6_draw 24 = .ok (.ldc2_w 187, 3) := by decide +kernel
theorem dX6_draw_27 : decode cX6_draw 27 = .ok (.ldiv, 1) := by decide +kernel
theorem dX6_draw_28 : decode cX6_draw 28 = .ok (.iload_n 1, 1) := by decide +kernel
theorem dX6_draw_29 : decode cX6_draw 29 = .ok (.i2l, 1) := by decide +kernel
theorem dX6_draw_30 : decode cX6_draw 30 = .ok (.lrem, 1) := by decide +kernel
theorem dX6_draw_31 : decode cX6_draw 31 = .ok (.l2i, 1) := by decide +kernel
theorem dX6_draw_32 : decode cX6_draw 32 = .ok (.ireturn, 1) := by decide +kernel
theorem dX6_nightsNow_0 : decode cX6_nightsNow 0 = .ok (.aload_n 0, 1) := by decide +kernel
theorem dX6_nightsNow_1 : decode cX6_nightsNow 1 = .ok (.invokevirtual 132, 3) := by decide +kernel
theorem dX6_nightsNow_4 : decode cX6_nightsNow 4 = .ok (.aload_n 0, 1) := by decide +kernel
theorem dX6_nightsNow_5 : decode cX6_nightsNow 5 = .ok (.iload_n 2, 1) := by decide +kernel
theorem dX6_nightsNow_6 : decode cX6_nightsNow 6 = .ok (.i2l, 1) := by decide +kernel
theorem dX6_nightsNow_7 : decode cX6_nightsNow 7 = .ok (.putfield 179, 3) := by decide +kernel
theorem dX6_nightsNow_10 : decode cX6_nightsNow 10 = .ok (.iconst 0, 1) := by decide +kernel
theorem dX6_nightsNow_11 : decode cX6_nightsNow 11 = .ok (.istore 4, 2) := by decide +kernel
theorem dX6_nightsNow_13 : decode cX6_nightsNow 13 = .ok (.iconst 0, 1) := by decide +kernel
theorem dX6_nightsNow_14 : decode cX6_nightsNow 14 = .ok (.istore 5, 2) := by decide +kernel
theorem dX6_nightsNow_16 : decode cX6_nightsNow 16 = .ok (.iload 5, 2) := by decide +kernel
theorem dX6_nightsNow_18 : decode cX6_nightsNow 18 = .ok (.iload_n 1, 1) := by decide +kernel
theorem dX6_nightsNow_19 : decode cX6_nightsNow 19 = .ok (.if_icmp .ge 54, 3) := by decide +kernel
theorem dX6_nightsNow_22 : decode cX6_nightsNow 22 = .ok (.aload_n 0, 1) := by decide +kernel
theorem dX6_nightsNow_23 : decode cX6_nightsNow 23 = .ok (.aload_n 0, 1) := by decide +kernel
theorem dX6_nightsNow_24 : decode cX6_nightsNow 24 = .ok (.aload_n 0, 1) := by decide +kernel
theorem dX6_nightsNow_25 : decode cX6_nightsNow 25 = .ok (.getfield 77, 3) := by decide +kernel
theorem dX6_nightsNow_28 : decode cX6_nightsNow 28 = .ok (.invokevirtual 189, 3) := by decide +kernel
theorem dX6_nightsNow_31 : decode cX6_nightsNow 31 = .ok (.invokevirtual 120, 3) := by decide +kernel
theorem dX6_nightsNow_34 : decode cX6_nightsNow 34 = .ok (.aload_n 0, 1) := by decide +kernel
theorem dX6_nightsNow_35 : decode cX6_nightsNow 35 = .ok (.aload_n 0, 1) := by decide +kernel
theorem dX6_nightsNow_36 : decode cX6_nightsNow 36 = .ok (.aload_n 0, 1) := by decide +kernel
theorem dX6_nightsNow_37 : decode cX6_nightsNow 37 = .ok (.getfield 77, 3) := by decide +kernel
theorem dX6_nightsNow_40 : decode cX6_nightsNow 40 = .ok (.invokevirtual 189, 3) := by decide +kernel
theorem dX6_nightsNow_43 : decode cX6_nightsNow 43 = .ok (.invokevirtual 123, 3) := by decide +kernel
theorem dX6_nightsNow_46 : decode cX6_nightsNow 46 = .ok (.iload 4, 2) := by decide +kernel
theorem dX6_nightsNow_48 : decode cX6_nightsNow 48 = .ok (.aload_n 0, 1) := by decide +kernel
theorem dX6_nightsNow_49 : decode cX6_nightsNow 49 = .ok (.invokevirtual 92, 3) := by decide +kernel
theorem dX6_nightsNow_52 : decode cX6_nightsNow 52 = .ok (.ifCond .ne 7, 3) := by decide +kernel
theorem dX6_nightsNow_55 : decode cX6_nightsNow 55 = .ok (.iconst 1, 1) := by decide +kernel
theorem dX6_nightsNow_56 : decode cX6_nightsNow 56 = .ok (.goto 4, 3) := by decide +kernel
theorem dX6_nightsNow_59 : decode cX6_nightsNow 59 = .ok (.iconst 0, 1) := by decide +kernel
theorem dX6_nightsNow_60 : decode cX6_nightsNow 60 = .ok (.iadd, 1) := by decide +kernel
