theorem dX2_settle_52 : decode cX2_settle 52 = .ok (.iload_n 1, 1) := by decide +kernel
theorem dX2_settle_53 : decode cX2_settle 53 = .ok (.iconst 0, 1) := by decide +kernel
theorem dX2_settle_54 : decode cX2_settle 54 = .ok (.bastore, 1) := by decide +kernel
theorem dX2_settle_55 : decode cX2_settle 55 = .ok (.return_, 1) := by decide +kernel
theorem dX3_init_0 : decode cX3_init 0 = .ok (.aload_n 0, 1) := by decide +kernel
theorem dX3_init_1 : decode cX3_init 1 = .ok (.invokespecial 5, 3) := by decide +kernel
theorem dX3_init_4 : decode cX3_init 4 = .ok (.aload_n 0, 1) := by decide +kernel
theorem dX3_init_5 : decode cX3_init 5 = .ok (.bipush 18, 2) := by decide +kernel
theorem dX3_init_7 : decode cX3_init 7 = .ok (.newarray .int, 2) := by decide +kernel
theorem dX3_init_9 : decode cX3_init 9 = .ok (.putfield 11, 3) := by decide +kernel
theorem dX3_init_12 : decode cX3_init 12 = .ok (.aload_n 0, 1) := by decide +kernel
theorem dX3_init_13 : decode cX3_init 13 = .ok (.iconst 0, 1) := by decide +kernel
theorem dX3_init_14 : decode cX3_init 14 = .ok (.putfield 15, 3) := by decide +kernel
theorem dX3_init_17 : decode cX3_init 17 = .ok (.return_, 1) := by decide +kernel
theorem dX3_length_0 : decode cX3_length 0 = .ok (.aload_n 0, 1) := by decide +kernel
theorem dX3_length_1 : decode cX3_length 1 = .ok (.getfield 15, 3) := by decide +kernel
theorem dX3_length_4 : decode cX3_length 4 = .ok (.ireturn, 1) := by decide +kernel
theorem dX3_codeAt_0 : decode cX3_codeAt 0 = .ok (.iload_n 1, 1) := by decide +kernel
theorem dX3_codeAt_1 : decode cX3_codeAt 1 = .ok (.ifCond .lt 20, 3) := by decide +kernel
theorem dX3_codeAt_4 : decode cX3_codeAt 4 = .ok (.iload_n 1, 1) := by decide +kernel
theorem dX3_codeAt_5 : decode cX3_codeAt 5 = .ok (.aload_n 0, 1) := by decide +kernel
theorem dX3_codeAt_6 : decode cX3_codeAt 6 = .ok (.getfield 15, 3) := by decide +kernel
theorem dX3_codeAt_9 : decode cX3_codeAt 9 = .ok (.if_icmp .ge 12, 3) := by decide +kernel
theorem dX3_codeAt_12 : decode cX3_codeAt 12 = .ok (.aload_n 0, 1) := by decide +kernel
theorem dX3_codeAt_13 : decode cX3_codeAt 13 = .ok (.getfield 11, 3) := by decide +kernel
theorem dX3_codeAt_16 : decode cX3_codeAt 16 = .ok (.iload_n 1, 1) := by decide +kernel
theorem dX3_codeAt_17 : decode cX3_codeAt 17 = .ok (.iaload, 1) := by decide +kernel
theorem dX3_codeAt_18 : decode cX3_codeAt 18 = .ok (.goto 4, 3) := by decide +kernel
theorem dX3_codeAt_21 : decode cX3_codeAt 21 = .ok (.iconst 0, 1) := by decide +kernel
theorem dX3_codeAt_22 : decode cX3_codeAt 22 = .ok (.ireturn, 1) := by decide +kernel
theorem dX3_digitAt_0 : decode cX3_digitAt 0 = .ok (.aload_n 0, 1) := by decide +kernel
theorem dX3_digitAt_1 : decode cX3_digitAt 1 = .ok (.iload_n 1, 1) := by decide +kernel
theorem dX3_digitAt_2 : decode cX3_digitAt 2 = .ok (.invokevirtual 19, 3) := by decide +kernel
theorem dX3_digitAt_5 : decode cX3_digitAt 5 = .ok (.bipush 48, 2) := by decide +kernel
theorem dX3_digitAt_7 : decode cX3_digitAt 7 = .ok (.isub, 1) := by decide +kernel
theorem dX3_digitAt_8 : decode cX3_digitAt 8 = .ok (.ireturn, 1) := by decide +kernel
theorem dX3_put_0 : decode cX3_put 0 = .ok (.aload_n 0, 1) := by decide +kernel
theorem dX3_put_1 : decode cX3_put 1 = .ok (.getfield 15, 3) := by decide +kernel
theorem dX3_put_4 : decode cX3_put 4 = .ok (.aload_n 0, 1) := by decide +kernel
theorem dX3_put_5 : decode cX3_put 5 = .ok (.getfield 11, 3) := by decide +kernel
theorem dX3_put_8 : decode cX3_put 8 = .ok (.arraylength, 1) := by decide +kernel
theorem dX3_put_9 : decode cX3_put 9 = .ok (.if_icmp .ge 23, 3) := by decide +kernel
theorem dX3_put_12 : decode cX3_put 12 = .ok (.aload_n 0, 1) := by decide +kernel
theorem dX3_put_13 : decode cX3_put 13 = .ok (.getfield 11, 3) := by decide +kernel
theorem dX3_put_16 : decode cX3_put 16 = .ok (.aload_n 0, 1) := by decide +kernel
theorem dX3_put_17 : decode cX3_put 17 = .ok (.getfield 15, 3) := by decide +kernel
theorem dX3_put_20 : decode cX3_put 20 = .ok (.iload_n 1, 1) := by decide +kernel
theorem dX3_put_21 : decode cX3_put 21 = .ok (.iastore, 1) := by decide +kernel
theorem dX3_put_22 : decode cX3_put 22 = .ok (.aload_n 0, 1) := by decide +kernel
theorem dX3_put_23 : decode cX3_put 23 = .ok (.dup, 1) := by decide +kernel
theorem dX3_put_24 : decode cX3_put 24 = .ok (.getfield 15, 3) := by decide +kernel
theorem dX3_put_27 : decode cX3_put 27 = .ok (.iconst 1, 1) := by decide +kernel
theorem dX3_put_28 : decode cX3_put 28 = .ok (.iadd, 1) := by decide +kernel
theorem dX3_put_29 : decode cX3_put 29 = .ok (.putfield 15, 3) := by decide +kernel
theorem dX3_put_32 : decode cX3_put 32 = .ok (.aload_n 0, 1) := by decide +kernel
theorem dX3_put_33 : decode cX3_put 33 = .ok (.getfield 15, 3) := by decide +kernel
theorem dX3_put_36 : decode cX3_put 36 = .ok (.ireturn, 1) := by decide +kernel
theorem dX3_empty_0 : decode cX3_empty 0 = .ok (.aload_n 0, 1) := by decide +kernel
theorem dX3_empty_1 : decode cX3_empty 1 = .ok (.getfield 15, 3) := by decide +kernel
theorem dX3_empty_4 : decode cX3_empty 4 = .ok (.istore_n 1, 1) := by decide +kernel
theorem dX3_empty_5 : decode cX3_empty 5 = .ok (.aload_n 0, 1) := by decide +kernel
theorem dX3_empty_6 : decode cX3_empty 6 = .ok (.iconst 0, 1) := by decide +kernel
theorem dX3_empty_7 : decode cX3_empty 7 = .ok (.putfield 15, 3) := by decide +kernel
theorem dX3_empty_10 : decode cX3_empty 10 = .ok (.iload_n 1, 1) := by decide +kernel
theorem dX3_empty_11 : decode cX3_empty 11 = .ok (.ireturn, 1) := by decide +kernel
theorem dX3_firstFault_0 : decode cX3_firstFault 0 = .ok (.iconst 0, 1) := by decide +kernel
theorem dX3_firstFault_1 : decode cX3_firstFault 1 = .ok (.istore_n 1, 1) := by decide +kernel
theorem dX3_firstFault_2 : decode cX3_firstFault 2 = .ok (.iload_n 1, 1) := by decide +kernel
theorem dX3_firstFault_3 : decode cX3_firstFault 3 = .ok (.aload_n 0, 1) := by decide +kernel
theorem dX3_firstFault_4 : decode cX3_firstFault 4 = .ok (.getfield 15, 3) := by decide +kernel
theorem dX3_firstFault_7 : decode cX3_firstFault 7 = .ok (.if_icmp .ge 19, 3) := by decide +kernel
theorem dX3_firstFault_10 : decode cX3_firstFault 10 = .ok (.aload_n 0, 1) := by decide +kernel
theorem dX3_firstFault_11 : decode cX3_firstFault 11 = .ok (.iload_n 1, 1) := by decide +kernel
theorem dX3_firstFault_12 : decode cX3_firstFault 12 = .ok (.invokevirtual 23, 3) := by decide +kernel
theorem dX3_firstFault_15 : decode cX3_firstFault 15 = .ok (.ifCond .ne 5, 3) := by decide +kernel
theorem dX3_firstFault_18 : decode cX3_firstFault 18 = .ok (.iload_n 1, 1) := by decide +kernel
theorem dX3_firstFault_19 : decode cX3_firstFault 19 = .ok (.ireturn, 1) := by decide +kernel
theorem dX3_firstFault_20 : decode cX3_firstFault 20 = .ok (.iinc 1 1, 3) := by decide +kernel
theorem dX3_firstFault_23 : decode cX3_firstFault 23 = .ok (.goto (-21), 3) := by decide +kernel
theorem dX3_firstFault_26 : decode cX3_firstFault 26 = .ok (.aload_n 0, 1) := by decide +kernel
theorem dX3_firstFault_27 : decode cX3_firstFault 27 = .ok (.getfield 15, 3) := by decide +kernel
theorem dX3_firstFault_30 : decode cX3_firstFault 30 = .ok (.ireturn, 1) := by decide +kernel
theorem dX3_isHouse_0 : decode cX3_isHouse 0 = .ok (.aload_n 0, 1) := by decide +kernel
theorem dX3_isHouse_1 : decode cX3_isHouse 1 = .ok (.aload_n 0, 1) := by decide +kernel
theorem dX3_isHouse_2 : decode cX3_isHouse 2 = .ok (.getfield 15, 3) := by decide +kernel
theorem dX3_isHouse_5 : decode cX3_isHouse 5 = .ok (.iconst 2, 1) := by decide +kernel
theorem dX3_isHouse_6 : decode cX3_isHouse 6 = .ok (.isub, 1) := by decide +kernel
theorem dX3_isHouse_7 : decode cX3_isHouse 7 = .ok (.invokevirtual 19, 3) := by decide +kernel
theorem dX3_isHouse_10 : decode cX3_isHouse 10 = .ok (.bipush 59, 2) := by decide +kernel
theorem dX3_isHouse_12 : decode cX3_isHouse 12 = .ok (.if_icmp .ne 18, 3) := by decide +kernel
theorem dX3_isHouse_15 : decode cX3_isHouse 15 = .ok (.aload_n 0, 1) := by decide +kernel
theorem dX3_isHouse_16 : decode cX3_isHouse 16 = .ok (.invokevirtual 27, 3) := by decide +kernel
theorem dX3_isHouse_19 : decode cX3_isHouse 19 = .ok (.aload_n 0, 1) := by decide +kernel
theorem dX3_isHouse_20 : decode cX3_isHouse 20 = .ok (.getfield 15, 3) := by decide +kernel
theorem dX3_isHouse_23 : decode cX3_isHouse 23 = .ok (.if_icmp .ne 7, 3) := by decide +kernel
theorem dX3_isHouse_26 : decode cX3_isHouse 26 = .ok (.iconst 1, 1) := by decide +kernel
theorem dX3_isHouse_27 : decode cX3_isHouse 27 = .ok (.goto 4, 3) := by decide +kernel
theorem dX3_isHouse_30 : decode cX3_isHouse 30 = .ok (.iconst 0, 1) := by decide +kernel
theorem dX3_isHouse_31 : decode cX3_isHouse 31 = .ok (.ireturn, 1) := by decide +kernel
theorem dX3_lodgers_0 : decode cX3_lodgers 0 = .ok (.aload_n 0, 1) := by decide +kernel
theorem dX3_lodgers_1 : decode cX3_lodgers 1 = .ok (.getfield 15, 3) := by decide +kernel
theorem dX3_lodgers_4 : decode cX3_lodgers 4 = .ok (.iconst 3, 1) := by decide +kernel
theorem dX3_lodgers_5 : decode cX3_lodgers 5 = .ok (.idiv, 1) := by decide +kernel
theorem dX3_lodgers_6 : decode cX3_lodgers 6 = .ok (.ireturn, 1) := by decide +kernel
theorem dX3_kindOf_0 : decode cX3_kindOf 0 = .ok (.aload_n 0, 1) := by decide +kernel
theorem dX3_kindOf_1 : decode cX3_kindOf 1 = .ok (.iload_n 1, 1) := by decide +kernel
theorem dX3_kindOf_2 : decode cX3_kindOf 2 = .ok (.iconst 3, 1) := by decide +kernel
theorem dX3_kindOf_3 : decode cX3_kindOf 3 = .ok (.imul, 1) := by decide +kernel
theorem dX3_kindOf_4 : decode cX3_kindOf 4 = .ok (.invokevirtual 19, 3) := by decide +kernel
theorem dX3_kindOf_7 : decode cX3_kindOf 7 = .ok (.invokestatic 31, 3) := by decide +kernel
theorem dX3_kindOf_10 : decode cX3_kindOf 10 = .ok (.ireturn, 1) := by decide +kernel
theorem dX3_tiredOf_0 : decode cX3_tiredOf 0 = .ok (.aload_n 0, 1) := by decide +kernel
theorem dX3_tiredOf_1 : decode cX3_tiredOf 1 = .ok (.iload_n 1, 1) := by decide +kernel
theorem dX3_tiredOf_2 : decode cX3_tiredOf 2 = .ok (.iconst 3, 1) := by decide +kernel
theorem dX3_tiredOf_3 : decode cX3_tiredOf 3 = .ok (.imul, 1) := by decide +kernel
theorem dX3_tiredOf_4 : decode cX3_tiredOf 4 = .ok (.iconst 1, 1) := by decide +kernel
theorem dX3_tiredOf_5 : decode cX3_tiredOf 5 = .ok (.iadd, 1) := by decide +kernel
theorem dX3_tiredOf_6 : decode cX3_tiredOf 6 = .ok (.invokevirtual 34, 3) := by decide +kernel
theorem dX3_tiredOf_9 : decode cX3_tiredOf 9 = .ok (.ireturn, 1) := by decide +kernel
theorem dX3_drowse_0 : decode cX3_drowse 0 = .ok (.aload_n 0, 1) := by decide +kernel
theorem dX3_drowse_1 : decode cX3_drowse 1 = .ok (.aload_n 0, 1) := by decide +kernel
theorem dX3_drowse_2 : decode cX3_drowse 2 = .ok (.getfield 15, 3) := by decide +kernel
theorem dX3_drowse_5 : decode cX3_drowse 5 = .ok (.iconst 1, 1) := by decide +kernel
theorem dX3_drowse_6 : decode cX3_drowse 6 = .ok (.isub, 1) := by decide +kernel
theorem dX3_drowse_7 : decode cX3_drowse 7 = .ok (.invokevirtual 34, 3) := by decide +kernel
theorem dX3_drowse_10 : decode cX3_drowse 10 = .ok (.ireturn, 1) := by decide +kernel
theorem dX3_fits_0 : decode cX3_fits 0 = .ok (.aload_n 0, 1) := by decide +kernel
theorem dX3_fits_1 : decode cX3_fits 1 = .ok (.iload_n 1, 1) := by decide +kernel
theorem dX3_fits_2 : decode cX3_fits 2 = .ok (.invokevirtual 19, 3) := by decide +kernel
theorem dX3_fits_5 : decode cX3_fits 5 = .ok (.istore_n 2, 1) := by decide +kernel
theorem dX3_fits_6 : decode cX3_fits 6 = .ok (.aload_n 0, 1) := by decide +kernel
theorem dX3_fits_7 : decode cX3_fits 7 = .ok (.iload_n 1, 1) := by decide +kernel
theorem dX3_fits_8 : decode cX3_fits 8 = .ok (.iconst 1, 1) := by decide +kernel
theorem dX3_fits_9 : decode cX3_fits 9 = .ok (.isub, 1) := by decide +kernel
theorem dX3_fits_10 : decode cX3_fits 10 = .ok (.invokevirtual 19, 3) := by decide +kernel
theorem dX3_fits_13 : decode cX3_fits 13 = .ok (.bipush 59, 2) := by decide +kernel
theorem dX3_fits_15 : decode cX3_fits 15 = .ok (.if_icmp .ne 12, 3) := by decide +kernel
theorem dX3_fits_18 : decode cX3_fits 18 = .ok (.iload_n 2, 1) := by decide +kernel
theorem dX3_fits_19 : decode cX3_fits 19 = .ok (.bipush 49, 2) := by decide +kernel
theorem dX3_fits_21 : decode cX3_fits 21 = .ok (.bipush 52, 2) := by decide +kernel
theorem dX3_fits_23 : decode cX3_fits 23 = .ok (.invokestatic 37, 3) := by decide +kernel
theorem dX3_fits_26 : decode cX3_fits 26 = .ok (.ireturn, 1) := by decide +kernel
theorem dX3_fits_27 : decode cX3_fits 27 = .ok (.aload_n 0, 1) := by decide +kernel
theorem dX3_fits_28 : decode cX3_fits 28 = .ok (.iload_n 1, 1) := by decide +kernel
theorem dX3_fits_29 : decode cX3_fits 29 = .ok (.iconst 2, 1) := by decide +kernel
theorem dX3_fits_30 : decode cX3_fits 30 = .ok (.isub, 1) := by decide +kernel
theorem dX3_fits_31 : decode cX3_fits 31 = .ok (.invokevirtual 19, 3) := by decide +kernel
theorem dX3_fits_34 : decode cX3_fits 34 = .ok (.bipush 59, 2) := by decide +kernel
theorem dX3_fits_36 : decode cX3_fits 36 = .ok (.if_icmp .ne 5, 3) := by decide +kernel
theorem dX3_fits_39 : decode cX3_fits 39 = .ok (.iconst 0, 1) := by decide +kernel
theorem dX3_fits_40 : decode cX3_fits 40 = .ok (.ireturn, 1) := by decide +kernel
theorem dX3_fits_41 : decode cX3_fits 41 = .ok (.iload_n 1, 1) := by decide +kernel
theorem dX3_fits_42 : decode cX3_fits 42 = .ok (.iconst 3, 1) := by decide +kernel
theorem dX3_fits_43 : decode cX3_fits 43 = .ok (.irem, 1) := by decide +kernel
theorem dX3_fits_44 : decode cX3_fits 44 = .ok (.lookupswitch 51 #[(0, 28), (1, 42)], 28) := by decide +kernel
theorem dX3_fits_72 : decode cX3_fits 72 = .ok (.iload_n 2, 1) := by decide +kernel
theorem dX3_fits_73 : decode cX3_fits 73 = .ok (.invokestatic 31, 3) := by decide +kernel
theorem dX3_fits_76 : decode cX3_fits 76 = .ok (.iconst (-1), 1) := by decide +kernel
theorem dX3_fits_77 : decode cX3_fits 77 = .ok (.if_icmp .eq 7, 3) := by decide +kernel
theorem dX3_fits_80 : decode cX3_fits 80 = .ok (.iconst 1, 1) := by decide +kernel
theorem dX3_fits_81 : decode cX3_fits 81 = .ok (.goto 4, 3) := by decide +kernel
theorem dX3_fits_84 : decode cX3_fits 84 = .ok (.iconst 0, 1) := by decide +kernel
theorem dX3_fits_85 : decode cX3_fits 85 = .ok (.ireturn, 1) := by decide +kernel
theorem dX3_fits_86 : decode cX3_fits 86 = .ok (.iload_n 2, 1) := by decide +kernel
theorem dX3_fits_87 : decode cX3_fits 87 = .ok (.bipush 48, 2) := by decide +kernel
theorem dX3_fits_89 : decode cX3_fits 89 = .ok (.bipush 57, 2) := by decide +kernel
theorem dX3_fits_91 : decode cX3_fits 91 = .ok (.invokestatic 37, 3) := by decide +kernel
theorem dX3_fits_94 : decode cX3_fits 94 = .ok (.ireturn, 1) := by decide +kernel
theorem dX3_fits_95 : decode cX3_fits 95 = .ok (.iload_n 2, 1) := by decide +kernel
theorem dX3_fits_96 : decode cX3_fits 96 = .ok (.bipush 44, 2) := by decide +kernel
theorem dX3_fits_98 : decode cX3_fits 98 = .ok (.if_icmp .ne 9, 3) := by decide +kernel
theorem dX3_fits_101 : decode cX3_fits 101 = .ok (.iload_n 1, 1) := by decide +kernel
theorem dX3_fits_102 : decode cX3_fits 102 = .ok (.bipush 14, 2) := by decide +kernel
theorem dX3_fits_104 : decode cX3_fits 104 = .ok (.if_icmp .lt 14, 3) := by decide +kernel
theorem dX3_fits_107 : decode cX3_fits 107 = .ok (.iload_n 2, 1) := by decide +kernel
theorem dX3_fits_108 : decode cX3_fits 108 = .ok (.bipush 59, 2) := by decide +kernel
theorem dX3_fits_110 : decode cX3_fits 110 = .ok (.if_icmp .ne 12, 3) := by decide +kernel
theorem dX3_fits_113 : decode cX3_fits 113 = .ok (.iload_n 1, 1) := by decide +kernel
theorem dX3_fits_114 : decode cX3_fits 114 = .ok (.iconst 5, 1) := by decide +kernel
theorem dX3_fits_115 : decode cX3_fits 115 = .ok (.if_icmp .lt 7, 3) := by decide +kernel
theorem dX3_fits_118 : decode cX3_fits 118 = .ok (.iconst 1, 1) := by decide +kernel
theorem dX3_fits_119 : decode cX3_fits 119 = .ok (.goto 4, 3) := by decide +kernel
theorem dX3_fits_122 : decode cX3_fits 122 = .ok (.iconst 0, 1) := by decide +kernel
theorem dX3_fits_123 : decode cX3_fits 123 = .ok (.ireturn, 1) := by decide +kernel
theorem dX4_init_0 : decode cX4_init 0 = .ok (.aload_n 0, 1) := by decide +kernel
theorem dX4_init_1 : decode cX4_init 1 = .ok (.invokespecial 3, 3) := by decide +kernel
theorem dX4_init_4 : decode cX4_init 4 = .ok (.aload_n 0, 1) := by decide +kernel
theorem dX4_init_5 : decode cX4_init 5 = .ok (.bipush 6, 2) := by decide +kernel
theorem dX4_init_7 : decode cX4_init 7 = .ok (.newarray .int, 2) := by decide +kernel
theorem dX4_init_9 : decode cX4_init 9 = .ok (.putfield 9, 3) := by decide +kernel
theorem dX4_init_12 : decode cX4_init 12 = .ok (.aload_n 0, 1) := by decide +kernel
theorem dX4_init_13 : decode cX4_init 13 = .ok (.bipush 6, 2) := by decide +kernel
theorem dX4_init_15 : decode cX4_init 15 = .ok (.newarray .int, 2) := by decide +kernel
theorem dX4_init_17 : decode cX4_init 17 = .ok (.putfield 15, 3) := by decide +kernel
theorem dX4_init_20 : decode cX4_init 20 = .ok (.aload_n 0, 1) := by decide +kernel
theorem dX4_init_21 : decode cX4_init 21 = .ok (.iconst 0, 1) := by decide +kernel
theorem dX4_init_22 : decode cX4_init 22 = .ok (.putfield 18, 3) := by decide +kernel
theorem dX4_init_25 : decode cX4_init 25 = .ok (.return_, 1) := by decide +kernel
theorem dX4_size_0 : decode cX4_size 0 = .ok (.aload_n 0, 1) := by decide +kernel
theorem dX4_size_1 : decode cX4_size 1 = .ok (.getfield 18, 3) := by decide +kernel
theorem dX4_size_4 : decode cX4_size 4 = .ok (.ireturn, 1) := by decide +kernel
theorem dX4_put_0 : decode cX4_put 0 = .ok (.aload_n 0, 1) := by decide +kernel
theorem dX4_put_1 : decode cX4_put 1 = .ok (.getfield 18, 3) := by decide +kernel
theorem dX4_put_4 : decode cX4_put 4 = .ok (.bipush 6, 2) := by decide +kernel
theorem dX4_put_6 : decode cX4_put 6 = .ok (.if_icmp .ge 33, 3) := by decide +kernel
theorem dX4_put_9 : decode cX4_put 9 = .ok (.aload_n 0, 1) := by decide +kernel
theorem dX4_put_10 : decode cX4_put 10 = .ok (.getfield 9, 3) := by decide +kernel
theorem dX4_put_13 : decode cX4_put 13 = .ok (.aload_n 0, 1) := by decide +kernel
theorem dX4_put_14 : decode cX4_put 14 = .ok (.getfield 18, 3) := by decide +kernel
theorem dX4_put_17 : decode cX4_put 17 = .ok (.iload_n 1, 1) := by decide +kernel
theorem dX4_put_18 : decode cX4_put 18 = .ok (.iastore, 1) := by decide +kernel
theorem dX4_put_19 : decode cX4_put 19 = .ok (.aload_n 0, 1) := by decide +kernel
theorem dX4_put_20 : decode cX4_put 20 = .ok (.getfield 15, 3) := by decide +kernel
theorem dX4_put_23 : decode cX4_put 23 = .ok (.aload_n 0, 1) := by decide +kernel
theorem dX4_put_24 : decode cX4_put 24 = .ok (.getfield 18, 3) := by decide +kernel
theorem dX4_put_27 : decode cX4_put 27 = .ok (.iload_n 2, 1) := by decide +kernel
theorem dX4_put_28 : decode cX4_put 28 = .ok (.iastore, 1) := by decide +kernel
theorem dX4_put_29 : decode cX4_put 29 = .ok (.aload_n 0, 1) := by decide +kernel
theorem dX4_put_30 : decode cX4_put 30 = .ok (.dup, 1) := by decide +kernel
theorem dX4_put_31 : decode cX4_put 31 = .ok (.getfield 18, 3) := by decide +kernel
theorem dX4_put_34 : decode cX4_put 34 = .ok (.iconst 1, 1) := by decide +kernel
theorem dX4_put_35 : decode cX4_put 35 = .ok (.iadd, 1) := by decide +kernel
theorem dX4_put_36 : decode cX4_put 36 = .ok (.putfield 18, 3) := by decide +kernel
theorem dX4_put_39 : decode cX4_put 39 = .ok (.aload_n 0, 1) := by decide +kernel
theorem dX4_put_40 : decode cX4_put 40 = .ok (.getfield 18, 3) := by decide +kernel
theorem dX4_put_43 : decode cX4_put 43 = .ok (.ireturn, 1) := by decide +kernel
theorem dX4_empty_0 : decode cX4_empty 0 = .ok (.aload_n 0, 1) := by decide +kernel
theorem dX4_empty_1 : decode cX4_empty 1 = .ok (.getfield 18, 3) := by decide +kernel
theorem dX4_empty_4 : decode cX4_empty 4 = .ok (.istore_n 1, 1) := by decide +kernel
theorem dX4_empty_5 : decode cX4_empty 5 = .ok (.aload_n 0, 1) := by decide +kernel
theorem dX4_empty_6 : decode cX4_empty 6 = .ok (.iconst 0, 1) := by decide +kernel
theorem dX4_empty_7 : decode cX4_empty 7 = .ok (.putfield 18, 3) := by decide +kernel
theorem dX4_empty_10 : decode cX4_empty 10 = .ok (.iload_n 1, 1) := by decide +kernel
theorem dX4_empty_11 : decode cX4_empty 11 = .ok (.ireturn, 1) := by decide +kernel
theorem dX4_copyFrom_0 : decode cX4_copyFrom 0 = .ok (.aload_n 0, 1) := by decide +kernel
theorem dX4_copyFrom_1 : decode cX4_copyFrom 1 = .ok (.aload_n 1, 1) := by decide +kernel
theorem dX4_copyFrom_2 : decode cX4_copyFrom 2 = .ok (.getfield 18, 3) := by decide +kernel
theorem dX4_copyFrom_5 : decode cX4_copyFrom 5 = .ok (.putfield 18, 3) := by decide +kernel
theorem dX4_copyFrom_8 : decode cX4_copyFrom 8 = .ok (.iconst 0, 1) := by decide +kernel
theorem dX4_copyFrom_9 : decode cX4_copyFrom 9 = .ok (.istore_n 2, 1) := by decide +kernel
theorem dX4_copyFrom_10 : decode cX4_copyFrom 10 = .ok (.iload_n 2, 1) := by decide +kernel
theorem dX4_copyFrom_11 : decode cX4_copyFrom 11 = .ok (.aload_n 0, 1) := by decide +kernel
theorem dX4_copyFrom_12 : decode cX4_copyFrom 12 = .ok (.getfield 18, 3) := by decide +kernel
theorem dX4_copyFrom_15 : decode cX4_copyFrom 15 = .ok (.if_icmp .ge 33, 3) := by decide +kernel
theorem dX4_copyFrom_18 : decode cX4_copyFrom 18 = .ok (.aload_n 0, 1) := by decide +kernel
theorem dX4_copyFrom_19 : decode cX4_copyFrom 19 = .ok (.getfield 9, 3) := by decide +kernel
theorem dX4_copyFrom_22 : decode cX4_copyFrom 22 = .ok (.iload_n 2, 1) := by decide +kernel
theorem dX4_copyFrom_23 : decode cX4_copyFrom 23 = .ok (.aload_n 1, 1) := by decide +kernel
theorem dX4_copyFrom_24 : decode cX4_copyFrom 24 = .ok (.getfield 9, 3) := by decide +kernel
theorem dX4_copyFrom_27 : decode cX4_copyFrom 27 = .ok (.iload_n 2, 1) := by decide +kernel
theorem dX4_copyFrom_28 : decode cX4_copyFrom 28 = .ok (.iaload, 1) := by decide +kernel
theorem dX4_copyFrom_29 : decode cX4_copyFrom 29 = .ok (.iastore, 1) := by decide +kernel
theorem dX4_copyFrom_30 : decode cX4_copyFrom 30 = .ok (.aload_n 0, 1) := by decide +kernel
theorem dX4_copyFrom_31 : decode cX4_copyFrom 31 = .ok (.getfield 15, 3) := by decide +kernel
theorem dX4_copyFrom_34 : decode cX4_copyFrom 34 = .ok (.iload_n 2, 1) := by decide +kernel
theorem dX4_copyFrom_35 : decode cX4_copyFrom 35 = .ok (.aload_n 1, 1) := by decide +kernel
theorem dX4_copyFrom_36 : decode cX4_copyFrom 36 = .ok (.getfield 15, 3) := by decide +kernel
theorem dX4_copyFrom_39 : decode cX4_copyFrom 39 = .ok (.iload_n 2, 1) := by decide +kernel
theorem dX4_copyFrom_40 : decode cX4_copyFrom 40 = .ok (.iaload, 1) := by decide +kernel
theorem dX4_copyFrom_41 : decode cX4_copyFrom 41 = .ok (.iastore, 1) := by decide +kernel
theorem dX4_copyFrom_42 : decode cX4_copyFrom 42 = .ok (.iinc 2 1, 3) := by decide +kernel
theorem dX4_copyFrom_45 : decode cX4_copyFrom 45 = .ok (.goto (-35), 3) := by decide +kernel
theorem dX4_copyFrom_48 : decode cX4_copyFrom 48 = .ok (.return_, 1) := by decide +kernel
theorem dX4_allows_0 : decode cX4_allows 0 = .ok (.iconst 0, 1) := by decide +kernel
theorem dX4_allows_1 : decode cX4_allows 1 = .ok (.istore_n 3, 1) := by decide +kernel
theorem dX4_allows_2 : decode cX4_allows 2 = .ok (.iload_n 3, 1) := by decide +kernel
theorem dX4_allows_3 : decode cX4_allows 3 = .ok (.aload_n 0, 1) := by decide +kernel
theorem dX4_allows_4 : decode cX4_allows 4 = .ok (.getfield 18, 3) := by decide +kernel
theorem dX4_allows_7 : decode cX4_allows 7 = .ok (.if_icmp .ge 31, 3) := by decide +kernel
theorem dX4_allows_10 : decode cX4_allows 10 = .ok (.aload_n 0, 1) := by decide +kernel
theorem dX4_allows_11 : decode cX4_allows 11 = .ok (.getfield 9, 3) := by decide +kernel
theorem dX4_allows_14 : decode cX4_allows 14 = .ok (.iload_n 3, 1) := by decide +kernel
theorem dX4_allows_15 : decode cX4_allows 15 = .ok (.iaload, 1) := by decide +kernel
theorem dX4_allows_16 : decode cX4_allows 16 = .ok (.iload_n 1, 1) := by decide +kernel
theorem dX4_allows_17 : decode cX4_allows 17 = .ok (.if_icmp .ne 15, 3) := by decide +kernel
theorem dX4_allows_20 : decode cX4_allows 20 = .ok (.aload_n 0, 1) := by decide +kernel
theorem dX4_allows_21 : decode cX4_allows 21 = .ok (.getfield 15, 3) := by decide +kernel
theorem dX4_allows_24 : decode cX4_allows 24 = .ok (.iload_n 3, 1) := by decide +kernel
theorem dX4_allows_25 : decode cX4_allows 25 = .ok (.iaload, 1) := by decide +kernel
theorem dX4_allows_26 : decode cX4_allows 26 = .ok (.iload_n 2, 1) := by decide +kernel
theorem dX4_allows_27 : decode cX4_allows 27 = .ok (.if_icmp .eq 5, 3) := by decide +kernel
theorem dX4_allows_30 : decode cX4_allows 30 = .ok (.iconst 0, 1) := by decide +kernel
theorem dX4_allows_31 : decode cX4_allows 31 = .ok (.ireturn, 1) := by decide +kernel
theorem dX4_allows_32 : decode cX4_allows 32 = .ok (.iinc 3 1, 3) := by decide +kernel
theorem dX4_allows_35 : decode cX4_allows 35 = .ok (.goto (-33), 3) := by decide +kernel
theorem dX4_allows_38 : decode cX4_allows 38 = .ok (.iconst 1, 1) := by decide +kernel
theorem dX4_allows_39 : decode cX4_allows 39 = .ok (.ireturn, 1) := by decide +kernel
theorem dX5_init_0 : decode cX5_init 0 = .ok (.aload_n 0, 1) := by decide +kernel
theorem dX5_init_1 : decode cX5_init 1 = .ok (.invokespecial 1, 3) := by decide +kernel
theorem dX5_init_4 : decode cX5_init 4 = .ok (.aload_n 0, 1) := by decide +kernel
theorem dX5_init_5 : decode cX5_init 5 = .ok (.new 7, 3) := by decide +kernel
theorem dX5_init_8 : decode cX5_init 8 = .ok (.dup, 1) := by decide +kernel
theorem dX5_init_9 : decode cX5_init 9 = .ok (.invokespecial 9, 3) := by decide +kernel
theorem dX5_init_12 : decode cX5_init 12 = .ok (.putfield 10, 3) := by decide +kernel
theorem dX5_init_15 : decode cX5_init 15 = .ok (.aload_n 0, 1) := by decide +kernel
theorem dX5_init_16 : decode cX5_init 16 = .ok (.new 16, 3) := by decide +kernel
theorem dX5_init_19 : decode cX5_init 19 = .ok (.dup, 1) := by decide +kernel
theorem dX5_init_20 : decode cX5_init 20 = .ok (.invokespecial 18, 3) := by decide +kernel
theorem dX5_init_23 : decode cX5_init 23 = .ok (.putfield 19, 3) := by decide +kernel
theorem dX5_init_26 : decode cX5_init 26 = .ok (.aload_n 0, 1) := by decide +kernel
theorem dX5_init_27 : decode cX5_init 27 = .ok (.new 23, 3) := by decide +kernel
theorem dX5_init_30 : decode cX5_init 30 = .ok (.dup, 1) := by decide +kernel
theorem dX5_init_31 : decode cX5_init 31 = .ok (.invokespecial 25, 3) := by decide +kernel
theorem dX5_init_34 : decode cX5_init 34 = .ok (.putfield 26, 3) := by decide +kernel
theorem dX5_init_37 : decode cX5_init 37 = .ok (.aload_n 0, 1) := by decide +kernel
theorem dX5_init_38 : decode cX5_init 38 = .ok (.new 16, 3) := by decide +kernel
theorem dX5_init_41 : decode cX5_init 41 = .ok (.dup, 1) := by decide +kernel
theorem dX5_init_42 : decode cX5_init 42 = .ok (.invokespecial 18, 3) := by decide +kernel
theorem dX5_init_45 : decode cX5_init 45 = .ok (.putfield 30, 3) := by decide +kernel
theorem dX5_init_48 : decode cX5_init 48 = .ok (.aload_n 0, 1) := by decide +kernel
theorem dX5_init_49 : decode cX5_init 49 = .ok (.new 23, 3) := by decide +kernel
theorem dX5_init_52 : decode cX5_init 52 = .ok (.dup, 1) := by decide +kernel
theorem dX5_init_53 : decode cX5_init 53 = .ok (.invokespecial 25, 3) := by decide +kernel
theorem dX5_init_56 : decode cX5_init 56 = .ok (.putfield 33, 3) := by decide +kernel
theorem dX5_init_59 : decode cX5_init 59 = .ok (.aload_n 0, 1) := by decide +kernel
theorem dX5_init_60 : decode cX5_init 60 = .ok (.iconst 0, 1) := by decide +kernel
theorem dX5_init_61 : decode cX5_init 61 = .ok (.putfield 36, 3) := by decide +kernel
theorem dX5_init_64 : decode cX5_init 64 = .ok (.aload_n 0, 1) := by decide +kernel
theorem dX5_init_65 : decode cX5_init 65 = .ok (.new 16, 3) := by decide +kernel
theorem dX5_init_68 : decode cX5_init 68 = .ok (.dup, 1) := by decide +kernel
theorem dX5_init_69 : decode cX5_init 69 = .ok (.invokespecial 18, 3) := by decide +kernel
theorem dX5_init_72 : decode cX5_init 72 = .ok (.putfield 40, 3) := by decide +kernel
theorem dX5_init_75 : decode cX5_init 75 = .ok (.aload_n 0, 1) := by decide +kernel
theorem dX5_init_76 : decode cX5_init 76 = .ok (.new 43, 3) := by decide +kernel
theorem dX5_init_79 : decode cX5_init 79 = .ok (.dup, 1) := by decide +kernel
theorem dX5_init_80 : decode cX5_init 80 = .ok (.invokespecial 45, 3) := by decide +kernel
theorem dX5_init_83 : decode cX5_init 83 = .ok (.putfield 46, 3) := by decide +kernel
theorem dX5_init_86 : decode cX5_init 86 = .ok (.aload_n 0, 1) := by decide +kernel
theorem dX5_init_87 : decode cX5_init 87 = .ok (.new 50, 3) := by decide +kernel
theorem dX5_init_90 : decode cX5_init 90 = .ok (.dup, 1) := by decide +kernel
theorem dX5_init_91 : decode cX5_init 91 = .ok (.invokespecial 52, 3) := by decide +kernel
theorem dX5_init_94 : decode cX5_init 94 = .ok (.putfield 53, 3) := by decide +kernel
theorem dX5_init_97 : decode cX5_init 97 = .ok (.aload_n 0, 1) := by decide +kernel
theorem dX5_init_98 : decode cX5_init 98 = .ok (.iconst 0, 1) := by decide +kernel
theorem dX5_init_99 : decode cX5_init 99 = .ok (.putfield 57, 3) := by decide +kernel
theorem dX5_init_102 : decode cX5_init 102 = .ok (.aload_n 0, 1) := by decide +kernel
theorem dX5_init_103 : decode cX5_init 103 = .ok (.iconst 0, 1) := by decide +kernel
theorem dX5_init_104 : decode cX5_init 104 = .ok (.putfield 61, 3) := by decide +kernel
theorem dX5_init_107 : decode cX5_init 107 = .ok (.return_, 1) := by decide +kernel
theorem dX5_letter_0 : decode cX5_letter 0 = .ok (.iload_n 1, 1) := by decide +kernel
theorem dX5_letter_1 : decode cX5_letter 1 = .ok (.bipush 32, 2) := by decide +kernel
theorem dX5_letter_3 : decode cX5_letter 3 = .ok (.bipush 126, 2) := by decide +kernel
theorem dX5_letter_5 : decode cX5_letter 5 = .ok (.invokestatic 64, 3) := by decide +kernel
theorem dX5_letter_8 : decode cX5_letter 8 = .ok (.ifCond .ne 6, 3) := by decide +kernel
theorem dX5_letter_11 : decode cX5_letter 11 = .ok (.bipush (-102), 2) := by decide +kernel
theorem dX5_letter_13 : decode cX5_letter 13 = .ok (.ireturn, 1) := by decide +kernel
theorem dX5_letter_14 : decode cX5_letter 14 = .ok (.aload_n 0, 1) := by decide +kernel
theorem dX5_letter_15 : decode cX5_letter 15 = .ok (.getfield 10, 3) := by decide +kernel
theorem dX5_letter_18 : decode cX5_letter 18 = .ok (.invokevirtual 68, 3) := by decide +kernel
theorem dX5_letter_21 : decode cX5_letter 21 = .ok (.bipush 18, 2) := by decide +kernel
theorem dX5_letter_23 : decode cX5_letter 23 = .ok (.if_icmp .lt 6, 3) := by decide +kernel
theorem dX5_letter_26 : decode cX5_letter 26 = .ok (.bipush (-104), 2) := by decide +kernel
theorem dX5_letter_28 : decode cX5_letter 28 = .ok (.ireturn, 1) := by decide +kernel
theorem dX5_letter_29 : decode cX5_letter 29 = .ok (.aload_n 0, 1) := by decide +kernel
theorem dX5_letter_30 : decode cX5_letter 30 = .ok (.getfield 10, 3) := by decide +kernel
theorem dX5_letter_33 : decode cX5_letter 33 = .ok (.iload_n 1, 1) := by decide +kernel
theorem dX5_letter_34 : decode cX5_letter 34 = .ok (.invokevirtual 72, 3) := by decide +kernel
theorem dX5_letter_37 : decode cX5_letter 37 = .ok (.ireturn, 1) := by decide +kernel
theorem dX5_blank_0 : decode cX5_blank 0 = .ok (.aload_n 0, 1) := by decide +kernel
theorem dX5_blank_1 : decode cX5_blank 1 = .ok (.getfield 10, 3) := by decide +kernel
theorem dX5_blank_4 : decode cX5_blank 4 = .ok (.invokevirtual 76, 3) := by decide +kernel
theorem dX5_blank_7 : decode cX5_blank 7 = .ok (.ireturn, 1) := by decide +kernel
theorem dX5_fault_0 : decode cX5_fault 0 = .ok (.aload_n 0, 1) := by decide +kernel
theorem dX5_fault_1 : decode cX5_fault 1 = .ok (.getfield 10, 3) := by decide +kernel
theorem dX5_fault_4 : decode cX5_fault 4 = .ok (.invokevirtual 79, 3) := by decide +kernel
theorem dX5_fault_7 : decode cX5_fault 7 = .ok (.ireturn, 1) := by decide +kernel
theorem dX5_house_0 : decode cX5_house 0 = .ok (.aload_n 0, 1) := by decide +kernel
theorem dX5_house_1 : decode cX5_house 1 = .ok (.getfield 10, 3) := by decide +kernel
theorem dX5_house_4 : decode cX5_house 4 = .ok (.invokevirtual 82, 3) := by decide +kernel
theorem dX5_house_7 : decode cX5_house 7 = .ok (.ifCond .ne 6, 3) := by decide +kernel
theorem dX5_house_10 : decode cX5_house 10 = .ok (.bipush (-103), 2) := by decide +kernel
theorem dX5_house_12 : decode cX5_house 12 = .ok (.ireturn, 1) := by decide +kernel
theorem dX5_house_13 : decode cX5_house 13 = .ok (.aload_n 0, 1) := by decide +kernel
theorem dX5_house_14 : decode cX5_house 14 = .ok (.getfield 19, 3) := by decide +kernel
theorem dX5_house_17 : decode cX5_house 17 = .ok (.aload_n 0, 1) := by decide +kernel
theorem dX5_house_18 : decode cX5_house 18 = .ok (.getfield 10, 3) := by decide +kernel
theorem dX5_house_21 : decode cX5_house 21 = .ok (.invokevirtual 86, 3) := by decide +kernel
theorem dX5_house_24 : decode cX5_house 24 = .ok (.aload_n 0, 1) := by decide +kernel
theorem dX5_house_25 : decode cX5_house 25 = .ok (.getfield 10, 3) := by decide +kernel
theorem dX5_house_28 : decode cX5_house 28 = .ok (.invokevirtual 76, 3) := by decide +kernel
theorem dX5_house_31 : decode cX5_house 31 = .ok (.pop, 1) := by decide +kernel
theorem dX5_house_32 : decode cX5_house 32 = .ok (.aload_n 0, 1) := by decide +kernel
theorem dX5_house_33 : decode cX5_house 33 = .ok (.getfield 26, 3) := by decide +kernel
theorem dX5_house_36 : decode cX5_house 36 = .ok (.invokevirtual 90, 3) := by decide +kernel
theorem dX5_house_39 : decode cX5_house 39 = .ok (.pop, 1) := by decide +kernel
theorem dX5_house_40 : decode cX5_house 40 = .ok (.aload_n 0, 1) := by decide +kernel
theorem dX5_house_41 : decode cX5_house 41 = .ok (.iconst 0, 1) := by decide +kernel
theorem dX5_house_42 : decode cX5_house 42 = .ok (.putfield 36, 3) := by decide +kernel
theorem dX5_house_45 : decode cX5_house 45 = .ok (.aload_n 0, 1) := by decide +kernel
theorem dX5_house_46 : decode cX5_house 46 = .ok (.dup, 1) := by decide +kernel
theorem dX5_house_47 : decode cX5_house 47 = .ok (.getfield 57, 3) := by decide +kernel
theorem dX5_house_50 : decode cX5_house 50 = .ok (.iconst 1, 1) := by decide +kernel
theorem dX5_house_51 : decode cX5_house 51 = .ok (.iadd, 1) := by decide +kernel
theorem dX5_house_52 : decode cX5_house 52 = .ok (.putfield 57, 3) := by decide +kernel
theorem dX5_house_55 : decode cX5_house 55 = .ok (.aload_n 0, 1) := by decide +kernel
theorem dX5_house_56 : decode cX5_house 56 = .ok (.getfield 19, 3) := by decide +kernel
theorem dX5_house_59 : decode cX5_house 59 = .ok (.invokevirtual 91, 3) := by decide +kernel
theorem dX5_house_62 : decode cX5_house 62 = .ok (.ireturn, 1) := by decide +kernel
theorem dX5_about_0 : decode cX5_about 0 = .ok (.aload_n 0, 1) := by decide +kernel
theorem dX5_about_1 : decode cX5_about 1 = .ok (.getfield 19, 3) := by decide +kernel
theorem dX5_about_4 : decode cX5_about 4 = .ok (.iload_n 1, 1) := by decide +kernel
theorem dX5_about_5 : decode cX5_about 5 = .ok (.invokevirtual 94, 3) := by decide +kernel
theorem dX5_about_8 : decode cX5_about 8 = .ok (.ifCond .ne 6, 3) := by decide +kernel
theorem dX5_about_11 : decode cX5_about 11 = .ok (.bipush (-101), 2) := by decide +kernel
theorem dX5_about_13 : decode cX5_about 13 = .ok (.ireturn, 1) := by decide +kernel
theorem dX5_about_14 : decode cX5_about 14 = .ok (.iload_n 2, 1) := by decide +kernel
theorem dX5_about_15 : decode cX5_about 15 = .ok (.tableswitch 150 0 6 #[41, 50, 59, 76, 93, 102, 126], 41) := by decide +kernel
theorem dX5_about_56 : decode cX5_about 56 = .ok (.aload_n 0, 1) := by decide +kernel
theorem dX5_about_57 : decode cX5_about 57 = .ok (.getfield 19, 3) := by decide +kernel
theorem dX5_about_60 : decode cX5_about 60 = .ok (.iload_n 1, 1) := by decide +kernel
theorem dX5_about_61 : decode cX5_about 61 = .ok (.invokevirtual 98, 3) := by decide +kernel
theorem dX5_about_64 : decode cX5_about 64 = .ok (.ireturn, 1) := by decide +kernel
theorem dX5_about_65 : decode cX5_about 65 = .ok (.aload_n 0, 1) := by decide +kernel
theorem dX5_about_66 : decode cX5_about 66 = .ok (.getfield 19, 3) := by decide +kernel
theorem dX5_about_69 : decode cX5_about 69 = .ok (.iload_n 1, 1) := by decide +kernel
theorem dX5_about_70 : decode cX5_about 70 = .ok (.invokevirtual 101, 3) := by decide +kernel
theorem dX5_about_73 : decode cX5_about 73 = .ok (.ireturn, 1) := by decide +kernel
theorem dX5_about_74 : decode cX5_about 74 = .ok (.aload_n 0, 1) := by decide +kernel
theorem dX5_about_75 : decode cX5_about 75 = .ok (.getfield 19, 3) := by decide +kernel
theorem dX5_about_78 : decode cX5_about 78 = .ok (.iload_n 1, 1) := by decide +kernel
theorem dX5_about_79 : decode cX5_about 79 = .ok (.invokevirtual 104, 3) := by decide +kernel
theorem dX5_about_82 : decode cX5_about 82 = .ok (.ifCond .eq 7, 3) := by decide +kernel
theorem dX5_about_85 : decode cX5_about 85 = .ok (.iconst 1, 1) := by decide +kernel
theorem dX5_about_86 : decode cX5_about 86 = .ok (.goto 4, 3) := by decide +kernel
theorem dX5_about_89 : decode cX5_about 89 = .ok (.iconst 0, 1) := by decide +kernel
theorem dX5_about_90 : decode cX5_about 90 = .ok (.ireturn, 1) := by decide +kernel
theorem dX5_about_91 : decode cX5_about 91 = .ok (.aload_n 0, 1) := by decide +kernel
theorem dX5_about_92 : decode cX5_about 92 = .ok (.getfield 19, 3) := by decide +kernel
theorem dX5_about_95 : decode cX5_about 95 = .ok (.invokevirtual 107, 3) := by decide +kernel
theorem dX5_about_98 : decode cX5_about 98 = .ok (.iload_n 1, 1) := by decide +kernel
theorem dX5_about_99 : decode cX5_about 99 = .ok (.if_icmp .ne 7, 3) := by decide +kernel
theorem dX5_about_102 : decode cX5_about 102 = .ok (.iconst 1, 1) := by decide +kernel
theorem dX5_about_103 : decode cX5_about 103 = .ok (.goto 4, 3) := by decide +kernel
theorem dX5_about_106 : decode cX5_about 106 = .ok (.iconst 0, 1) := by decide +kernel
theorem dX5_about_107 : decode cX5_about 107 = .ok (.ireturn, 1) := by decide +kernel
theorem dX5_about_108 : decode cX5_about 108 = .ok (.aload_n 0, 1) := by decide +kernel
theorem dX5_about_109 : decode cX5_about 109 = .ok (.getfield 19, 3) := by decide +kernel
theorem dX5_about_112 : decode cX5_about 112 = .ok (.iload_n 1, 1) := by decide +kernel
theorem dX5_about_113 : decode cX5_about 113 = .ok (.invokevirtual 110, 3) := by decide +kernel
theorem dX5_about_116 : decode cX5_about 116 = .ok (.ireturn, 1) := by decide +kernel
theorem dX5_about_117 : decode cX5_about 117 = .ok (.aload_n 0, 1) := by decide +kernel
theorem dX5_about_118 : decode cX5_about 118 = .ok (.getfield 53, 3) := by decide +kernel
theorem dX5_about_121 : decode cX5_about 121 = .ok (.aload_n 0, 1) := by decide +kernel
theorem dX5_about_122 : decode cX5_about 122 = .ok (.getfield 19, 3) := by decide +kernel
theorem dX5_about_125 : decode cX5_about 125 = .ok (.aload_n 0, 1) := by decide +kernel
theorem dX5_about_126 : decode cX5_about 126 = .ok (.getfield 26, 3) := by decide +kernel
theorem dX5_about_129 : decode cX5_about 129 = .ok (.iload_n 1, 1) := by decide +kernel
theorem dX5_about_130 : decode cX5_about 130 = .ok (.invokevirtual 113, 3) := by decide +kernel
theorem dX5_about_133 : decode cX5_about 133 = .ok (.aload_n 0, 1) := by decide +kernel
theorem dX5_about_134 : decode cX5_about 134 = .ok (.getfield 53, 3) := by decide +kernel
theorem dX5_about_137 : decode cX5_about 137 = .ok (.invokevirtual 117, 3) := by decide +kernel
theorem dX5_about_140 : decode cX5_about 140 = .ok (.ireturn, 1) := by decide +kernel
theorem dX5_about_141 : decode cX5_about 141 = .ok (.aload_n 0, 1) := by decide +kernel
theorem dX5_about_142 : decode cX5_about 142 = .ok (.getfield 53, 3) := by decide +kernel
theorem dX5_about_145 : decode cX5_about 145 = .ok (.aload_n 0, 1) := by decide +kernel
theorem dX5_about_146 : decode cX5_about 146 = .ok (.getfield 19, 3) := by decide +kernel
theorem dX5_about_149 : decode cX5_about 149 = .ok (.aload_n 0, 1) := by decide +kernel
theorem dX5_about_150 : decode cX5_about 150 = .ok (.getfield 26, 3) := by decide +kernel
theorem dX5_about_153 : decode cX5_about 153 = .ok (.iload_n 1, 1) := by decide +kernel
theorem dX5_about_154 : decode cX5_about 154 = .ok (.invokevirtual 113, 3) := by decide +kernel
theorem dX5_about_157 : decode cX5_about 157 = .ok (.aload_n 0, 1) := by decide +kernel
theorem dX5_about_158 : decode cX5_about 158 = .ok (.getfield 53, 3) := by decide +kernel
theorem dX5_about_161 : decode cX5_about 161 = .ok (.invokevirtual 120, 3) := by decide +kernel
theorem dX5_about_164 : decode cX5_about 164 = .ok (.ireturn, 1) := by decide +kernel
theorem dX5_about_165 : decode cX5_about 165 = .ok (.bipush (-102), 2) := by decide +kernel
theorem dX5_about_167 : decode cX5_about 167 = .ok (.ireturn, 1) := by decide +kernel
theorem dX5_as_0 : decode cX5_as 0 = .ok (.aload_n 0, 1) := by decide +kernel
theorem dX5_as_1 : decode cX5_as 1 = .ok (.getfield 19, 3) := by decide +kernel
theorem dX5_as_4 : decode cX5_as 4 = .ok (.iload_n 1, 1) := by decide +kernel
theorem dX5_as_5 : decode cX5_as 5 = .ok (.invokevirtual 94, 3) := by decide +kernel
theorem dX5_as_8 : decode cX5_as 8 = .ok (.ifCond .ne 6, 3) := by decide +kernel
theorem dX5_as_11 : decode cX5_as 11 = .ok (.bipush (-101), 2) := by decide +kernel
theorem dX5_as_13 : decode cX5_as 13 = .ok (.ireturn, 1) := by decide +kernel
theorem dX5_as_14 : decode cX5_as 14 = .ok (.iload_n 2, 1) := by decide +kernel
theorem dX5_as_15 : decode cX5_as 15 = .ok (.iconst 0, 1) := by decide +kernel
theorem dX5_as_16 : decode cX5_as 16 = .ok (.iconst 4, 1) := by decide +kernel
theorem dX5_as_17 : decode cX5_as 17 = .ok (.invokestatic 64, 3) := by decide +kernel
theorem dX5_as_20 : decode cX5_as 20 = .ok (.ifCond .ne 6, 3) := by decide +kernel
theorem dX5_as_23 : decode cX5_as 23 = .ok (.bipush (-102), 2) := by decide +kernel
theorem dX5_as_25 : decode cX5_as 25 = .ok (.ireturn, 1) := by decide +kernel
theorem dX5_as_26 : decode cX5_as 26 = .ok (.aload_n 0, 1) := by decide +kernel
theorem dX5_as_27 : decode cX5_as 27 = .ok (.getfield 19, 3) := by decide +kernel
theorem dX5_as_30 : decode cX5_as 30 = .ok (.iload_n 1, 1) := by decide +kernel
theorem dX5_as_31 : decode cX5_as 31 = .ok (.invokevirtual 98, 3) := by decide +kernel
theorem dX5_as_34 : decode cX5_as 34 = .ok (.iload_n 2, 1) := by decide +kernel
theorem dX5_as_35 : decode cX5_as 35 = .ok (.invokestatic 123, 3) := by decide +kernel
theorem dX5_as_38 : decode cX5_as 38 = .ok (.ifCond .eq 7, 3) := by decide +kernel
theorem dX5_as_41 : decode cX5_as 41 = .ok (.iload_n 1, 1) := by decide +kernel
theorem dX5_as_42 : decode cX5_as 42 = .ok (.goto 4, 3) := by decide +kernel
theorem dX5_as_45 : decode cX5_as 45 = .ok (.iconst (-1), 1) := by decide +kernel
theorem dX5_as_46 : decode cX5_as 46 = .ok (.ireturn, 1) := by decide +kernel
theorem dX5_bed_0 : decode cX5_bed 0 = .ok (.aload_n 0, 1) := by decide +kernel
theorem dX5_bed_1 : decode cX5_bed 1 = .ok (.invokevirtual 127, 3) := by decide +kernel
theorem dX5_bed_4 : decode cX5_bed 4 = .ok (.ifCond .eq 13, 3) := by decide +kernel
theorem dX5_bed_7 : decode cX5_bed 7 = .ok (.aload_n 0, 1) := by decide +kernel
theorem dX5_bed_8 : decode cX5_bed 8 = .ok (.getfield 19, 3) := by decide +kernel
theorem dX5_bed_11 : decode cX5_bed 11 = .ok (.invokevirtual 107, 3) := by decide +kernel
theorem dX5_bed_14 : decode cX5_bed 14 = .ok (.goto 5, 3) := by decide +kernel
theorem dX5_bed_17 : decode cX5_bed 17 = .ok (.bipush (-103), 2) := by decide +kernel
theorem dX5_bed_19 : decode cX5_bed 19 = .ok (.ireturn, 1) := by decide +kernel
theorem dX5_coffee_0 : decode cX5_coffee 0 = .ok (.aload_n 0, 1) := by decide +kernel
theorem dX5_coffee_1 : decode cX5_coffee 1 = .ok (.getfield 19, 3) := by decide +kernel
theorem dX5_coffee_4 : decode cX5_coffee 4 = .ok (.iload_n 1, 1) := by decide +kernel
theorem dX5_coffee_5 : decode cX5_coffee 5 = .ok (.invokevirtual 94, 3) := by decide +kernel
theorem dX5_coffee_8 : decode cX5_coffee 8 = .ok (.ifCond .ne 6, 3) := by decide +kernel
theorem dX5_coffee_11 : decode cX5_coffee 11 = .ok (.bipush (-101), 2) := by decide +kernel
theorem dX5_coffee_13 : decode cX5_coffee 13 = .ok (.ireturn, 1) := by decide +kernel
theorem dX5_coffee_14 : decode cX5_coffee 14 = .ok (.aload_n 0, 1) := by decide +kernel
theorem dX5_coffee_15 : decode cX5_coffee 15 = .ok (.getfield 19, 3) := by decide +kernel
theorem dX5_coffee_18 : decode cX5_coffee 18 = .ok (.iload_n 1, 1) := by decide +kernel
theorem dX5_coffee_19 : decode cX5_coffee 19 = .ok (.invokevirtual 104, 3) := by decide +kernel
theorem dX5_coffee_22 : decode cX5_coffee 22 = .ok (.ifCond .eq 6, 3) := by decide +kernel
theorem dX5_coffee_25 : decode cX5_coffee 25 = .ok (.bipush (-103), 2) := by decide +kernel
theorem dX5_coffee_27 : decode cX5_coffee 27 = .ok (.ireturn, 1) := by decide +kernel
theorem dX5_coffee_28 : decode cX5_coffee 28 = .ok (.aload_n 0, 1) := by decide +kernel
theorem dX5_coffee_29 : decode cX5_coffee 29 = .ok (.getfield 19, 3) := by decide +kernel
theorem dX5_coffee_32 : decode cX5_coffee 32 = .ok (.iload_n 1, 1) := by decide +kernel
theorem dX5_coffee_33 : decode cX5_coffee 33 = .ok (.invokevirtual 130, 3) := by decide +kernel
theorem dX5_coffee_36 : decode cX5_coffee 36 = .ok (.aload_n 0, 1) := by decide +kernel
theorem dX5_coffee_37 : decode cX5_coffee 37 = .ok (.getfield 19, 3) := by decide +kernel
theorem dX5_coffee_40 : decode cX5_coffee 40 = .ok (.iload_n 1, 1) := by decide +kernel
theorem dX5_coffee_41 : decode cX5_coffee 41 = .ok (.invokevirtual 101, 3) := by decide +kernel
theorem dX5_coffee_44 : decode cX5_coffee 44 = .ok (.ireturn, 1) := by decide +kernel
theorem dX5_lecture_0 : decode cX5_lecture 0 = .ok (.aload_n 0, 1) := by decide +kernel
theorem dX5_lecture_1 : decode cX5_lecture 1 = .ok (.getfield 19, 3) := by decide +kernel
theorem dX5_lecture_4 : decode cX5_lecture 4 = .ok (.iload_n 1, 1) := by decide +kernel
theorem dX5_lecture_5 : decode cX5_lecture 5 = .ok (.invokevirtual 94, 3) := by decide +kernel
theorem dX5_lecture_8 : decode cX5_lecture 8 = .ok (.ifCond .ne 6, 3) := by decide +kernel
theorem dX5_lecture_11 : decode cX5_lecture 11 = .ok (.bipush (-101), 2) := by decide +kernel
theorem dX5_lecture_13 : decode cX5_lecture 13 = .ok (.ireturn, 1) := by decide +kernel
theorem dX5_lecture_14 : decode cX5_lecture 14 = .ok (.aload_n 0, 1) := by decide +kernel
theorem dX5_lecture_15 : decode cX5_lecture 15 = .ok (.getfield 19, 3) := by decide +kernel
theorem dX5_lecture_18 : decode cX5_lecture 18 = .ok (.iload_n 1, 1) := by decide +kernel
theorem dX5_lecture_19 : decode cX5_lecture 19 = .ok (.invokevirtual 104, 3) := by decide +kernel
theorem dX5_lecture_22 : decode cX5_lecture 22 = .ok (.ifCond .eq 6, 3) := by decide +kernel
theorem dX5_lecture_25 : decode cX5_lecture 25 = .ok (.bipush (-103), 2) := by decide +kernel
theorem dX5_lecture_27 : decode cX5_lecture 27 = .ok (.ireturn, 1) := by decide +kernel
theorem dX5_lecture_28 : decode cX5_lecture 28 = .ok (.aload_n 0, 1) := by decide +kernel
theorem dX5_lecture_29 : decode cX5_lecture 29 = .ok (.getfield 19, 3) := by decide +kernel
theorem dX5_lecture_32 : decode cX5_lecture 32 = .ok (.iload_n 1, 1) := by decide +kernel
theorem dX5_lecture_33 : decode cX5_lecture 33 = .ok (.invokevirtual 134, 3) := by decide +kernel
theorem dX5_lecture_36 : decode cX5_lecture 36 = .ok (.aload_n 0, 1) := by decide +kernel
theorem dX5_lecture_37 : decode cX5_lecture 37 = .ok (.getfield 19, 3) := by decide +kernel
theorem dX5_lecture_40 : decode cX5_lecture 40 = .ok (.iload_n 1, 1) := by decide +kernel
theorem dX5_lecture_41 : decode cX5_lecture 41 = .ok (.invokevirtual 101, 3) := by decide +kernel
theorem dX5_lecture_44 : decode cX5_lecture 44 = .ok (.ireturn, 1) := by decide +kernel
theorem dX5_hour_0 : decode cX5_hour 0 = .ok (.aload_n 0, 1) := by decide +kernel
theorem dX5_hour_1 : decode cX5_hour 1 = .ok (.invokevirtual 127, 3) := by decide +kernel
theorem dX5_hour_4 : decode cX5_hour 4 = .ok (.ifCond .ne 6, 3) := by decide +kernel
theorem dX5_hour_7 : decode cX5_hour 7 = .ok (.bipush (-103), 2) := by decide +kernel
theorem dX5_hour_9 : decode cX5_hour 9 = .ok (.ireturn, 1) := by decide +kernel
theorem dX5_hour_10 : decode cX5_hour 10 = .ok (.aload_n 0, 1) := by decide +kernel
theorem dX5_hour_11 : decode cX5_hour 11 = .ok (.getfield 19, 3) := by decide +kernel
theorem dX5_hour_14 : decode cX5_hour 14 = .ok (.invokevirtual 137, 3) := by decide +kernel
theorem dX5_hour_17 : decode cX5_hour 17 = .ok (.aload_n 0, 1) := by decide +kernel
theorem dX5_hour_18 : decode cX5_hour 18 = .ok (.getfield 19, 3) := by decide +kernel
theorem dX5_hour_21 : decode cX5_hour 21 = .ok (.invokevirtual 140, 3) := by decide +kernel
theorem dX5_hour_24 : decode cX5_hour 24 = .ok (.ireturn, 1) := by decide +kernel
theorem dX5_cups_0 : decode cX5_cups 0 = .ok (.aload_n 0, 1) := by decide +kernel
theorem dX5_cups_1 : decode cX5_cups 1 = .ok (.getfield 19, 3) := by decide +kernel
theorem dX5_cups_4 : decode cX5_cups 4 = .ok (.iload_n 1, 1) := by decide +kernel
theorem dX5_cups_5 : decode cX5_cups 5 = .ok (.invokevirtual 94, 3) := by decide +kernel
theorem dX5_cups_8 : decode cX5_cups 8 = .ok (.ifCond .ne 6, 3) := by decide +kernel
theorem dX5_cups_11 : decode cX5_cups 11 = .ok (.bipush (-101), 2) := by decide +kernel
theorem dX5_cups_13 : decode cX5_cups 13 = .ok (.ireturn, 1) := by decide +kernel
theorem dX5_cups_14 : decode cX5_cups 14 = .ok (.iload_n 2, 1) := by decide +kernel
theorem dX5_cups_15 : decode cX5_cups 15 = .ok (.iconst 1, 1) := by decide +kernel
theorem dX5_cups_16 : decode cX5_cups 16 = .ok (.bipush 6, 2) := by decide +kernel
theorem dX5_cups_18 : decode cX5_cups 18 = .ok (.invokestatic 64, 3) := by decide +kernel
theorem dX5_cups_21 : decode cX5_cups 21 = .ok (.ifCond .ne 6, 3) := by decide +kernel
theorem dX5_cups_24 : decode cX5_cups 24 = .ok (.bipush (-102), 2) := by decide +kernel
theorem dX5_cups_26 : decode cX5_cups 26 = .ok (.ireturn, 1) := by decide +kernel
theorem dX5_cups_27 : decode cX5_cups 27 = .ok (.aload_n 0, 1) := by decide +kernel
theorem dX5_cups_28 : decode cX5_cups 28 = .ok (.getfield 19, 3) := by decide +kernel
theorem dX5_cups_31 : decode cX5_cups 31 = .ok (.iload_n 1, 1) := by decide +kernel
theorem dX5_cups_32 : decode cX5_cups 32 = .ok (.invokevirtual 104, 3) := by decide +kernel
theorem dX5_cups_35 : decode cX5_cups 35 = .ok (.ifCond .eq 6, 3) := by decide +kernel
theorem dX5_cups_38 : decode cX5_cups 38 = .ok (.bipush (-103), 2) := by decide +kernel
theorem dX5_cups_40 : decode cX5_cups 40 = .ok (.ireturn, 1) := by decide +kernel
theorem dX5_cups_41 : decode cX5_cups 41 = .ok (.aload_n 0, 1) := by decide +kernel
theorem dX5_cups_42 : decode cX5_cups 42 = .ok (.iload_n 1, 1) := by decide +kernel
theorem dX5_cups_43 : decode cX5_cups 43 = .ok (.iload_n 2, 1) := by decide +kernel
theorem dX5_cups_44 : decode cX5_cups 44 = .ok (.invokevirtual 143, 3) := by decide +kernel
theorem dX5_cups_47 : decode cX5_cups 47 = .ok (.ireturn, 1) := by decide +kernel
theorem dX5_lectures_0 : decode cX5_lectures 0 = .ok (.aload_n 0, 1) := by decide +kernel
theorem dX5_lectures_1 : decode cX5_lectures 1 = .ok (.getfield 19, 3) := by decide +kernel
theorem dX5_lectures_4 : decode cX5_lectures 4 = .ok (.iload_n 1, 1) := by decide +kernel
theorem dX5_lectures_5 : decode cX5_lectures 5 = .ok (.invokevirtual 94, 3) := by decide +kernel
theorem dX5_lectures_8 : decode cX5_lectures 8 = .ok (.ifCond .ne 6, 3) := by decide +kernel
theorem dX5_lectures_11 : decode cX5_lectures 11 = .ok (.bipush (-101), 2) := by decide +kernel
theorem dX5_lectures_13 : decode cX5_lectures 13 = .ok (.ireturn, 1) := by decide +kernel
theorem dX5_lectures_14 : decode cX5_lectures 14 = .ok (.iload_n 2, 1) := by decide +kernel
theorem dX5_lectures_15 : decode cX5_lectures 15 = .ok (.iconst 1, 1) := by decide +kernel
theorem dX5_lectures_16 : decode cX5_lectures 16 = .ok (.iconst 3, 1) := by decide +kernel
theorem dX5_lectures_17 : decode cX5_lectures 17 = .ok (.invokestatic 64, 3) := by decide +kernel
theorem dX5_lectures_20 : decode cX5_lectures 20 = .ok (.ifCond .eq 12, 3) := by decide +kernel
theorem dX5_lectures_23 : decode cX5_lectures 23 = .ok (.iload_n 3, 1) := by decide +kernel
theorem dX5_lectures_24 : decode cX5_lectures 24 = .ok (.iconst 0, 1) := by decide +kernel
theorem dX5_lectures_25 : decode cX5_lectures 25 = .ok (.iconst 1, 1) := by decide +kernel
theorem dX5_lectures_26 : decode cX5_lectures 26 = .ok (.invokestatic 64, 3) := by decide +kernel
theorem dX5_lectures_29 : decode cX5_lectures 29 = .ok (.ifCond .ne 6, 3) := by decide +kernel
theorem dX5_lectures_32 : decode cX5_lectures 32 = .ok (.bipush (-102), 2) := by decide +kernel
theorem dX5_lectures_34 : decode cX5_lectures 34 = .ok (.ireturn, 1) := by decide +kernel
theorem dX5_lectures_35 : decode cX5_lectures 35 = .ok (.aload_n 0, 1) := by decide +kernel
theorem dX5_lectures_36 : decode cX5_lectures 36 = .ok (.getfield 61, 3) := by decide +kernel
theorem dX5_lectures_39 : decode cX5_lectures 39 = .ok (.bipush 40, 2) := by decide +kernel
theorem dX5_lectures_41 : decode cX5_lectures 41 = .ok (.if_icmp .lt 6, 3) := by decide +kernel
theorem dX5_lectures_44 : decode cX5_lectures 44 = .ok (.bipush (-103), 2) := by decide +kernel
theorem dX5_lectures_46 : decode cX5_lectures 46 = .ok (.ireturn, 1) := by decide +kernel
theorem dX5_lectures_47 : decode cX5_lectures 47 = .ok (.aload_n 0, 1) := by decide +kernel
theorem dX5_lectures_48 : decode cX5_lectures 48 = .ok (.dup, 1) := by decide +kernel
theorem dX5_lectures_49 : decode cX5_lectures 49 = .ok (.getfield 61, 3) := by decide +kernel
theorem dX5_lectures_52 : decode cX5_lectures 52 = .ok (.iconst 1, 1) := by decide +kernel
theorem dX5_lectures_53 : decode cX5_lectures 53 = .ok (.iadd, 1) := by decide +kernel
theorem dX5_lectures_54 : decode cX5_lectures 54 = .ok (.putfield 61, 3) := by decide +kernel
theorem dX5_lectures_57 : decode cX5_lectures 57 = .ok (.aload_n 0, 1) := by decide +kernel
theorem dX5_lectures_58 : decode cX5_lectures 58 = .ok (.getfield 46, 3) := by decide +kernel
theorem dX5_lectures_61 : decode cX5_lectures 61 = .ok (.aload_n 0, 1) := by decide +kernel
theorem dX5_lectures_62 : decode cX5_lectures 62 = .ok (.getfield 19, 3) := by decide +kernel
theorem dX5_lectures_65 : decode cX5_lectures 65 = .ok (.iload_n 1, 1) := by decide +kernel
theorem dX5_lectures_66 : decode cX5_lectures 66 = .ok (.iload_n 2, 1) := by decide +kernel
theorem dX5_lectures_67 : decode cX5_lectures 67 = .ok (.invokevirtual 147, 3) := by decide +kernel
theorem dX5_lectures_70 : decode cX5_lectures 70 = .ok (.iload_n 3, 1) := by decide +kernel
theorem dX5_lectures_71 : decode cX5_lectures 71 = .ok (.ifCond .ne 13, 3) := by decide +kernel
theorem dX5_lectures_74 : decode cX5_lectures 74 = .ok (.aload_n 0, 1) := by decide +kernel
theorem dX5_lectures_75 : decode cX5_lectures 75 = .ok (.getfield 46, 3) := by decide +kernel
theorem dX5_lectures_78 : decode cX5_lectures 78 = .ok (.invokevirtual 150, 3) := by decide +kernel
theorem dX5_lectures_81 : decode cX5_lectures 81 = .ok (.goto 10, 3) := by decide +kernel
theorem dX5_lectures_84 : decode cX5_lectures 84 = .ok (.aload_n 0, 1) := by decide +kernel
theorem dX5_lectures_85 : decode cX5_lectures 85 = .ok (.getfield 46, 3) := by decide +kernel
theorem dX5_lectures_88 : decode cX5_lectures 88 = .ok (.invokevirtual 153, 3) := by decide +kernel
theorem dX5_lectures_91 : decode cX5_lectures 91 = .ok (.ireturn, 1) := by decide +kernel
theorem dX5_sunday_0 : decode cX5_sunday 0 = .ok (.iload_n 1, 1) := by decide +kernel
theorem dX5_sunday_1 : decode cX5_sunday 1 = .ok (.iconst 0, 1) := by decide +kernel
theorem dX5_sunday_2 : decode cX5_sunday 2 = .ok (.iconst 1, 1) := by decide +kernel
theorem dX5_sunday_3 : decode cX5_sunday 3 = .ok (.invokestatic 64, 3) := by decide +kernel
theorem dX5_sunday_6 : decode cX5_sunday 6 = .ok (.ifCond .ne 6, 3) := by decide +kernel
theorem dX5_sunday_9 : decode cX5_sunday 9 = .ok (.bipush (-102), 2) := by decide +kernel
theorem dX5_sunday_11 : decode cX5_sunday 11 = .ok (.ireturn, 1) := by decide +kernel
theorem dX5_sunday_12 : decode cX5_sunday 12 = .ok (.aload_n 0, 1) := by decide +kernel
theorem dX5_sunday_13 : decode cX5_sunday 13 = .ok (.invokevirtual 127, 3) := by decide +kernel
theorem dX5_sunday_16 : decode cX5_sunday 16 = .ok (.ifCond .ne 6, 3) := by decide +kernel
theorem dX5_sunday_19 : decode cX5_sunday 19 = .ok (.bipush (-103), 2) := by decide +kernel
theorem dX5_sunday_21 : decode cX5_sunday 21 = .ok (.ireturn, 1) := by decide +kernel
theorem dX5_sunday_22 : decode cX5_sunday 22 = .ok (.aload_n 0, 1) := by decide +kernel
theorem dX5_sunday_23 : decode cX5_sunday 23 = .ok (.getfield 19, 3) := by decide +kernel
theorem dX5_sunday_26 : decode cX5_sunday 26 = .ok (.invokevirtual 156, 3) := by decide +kernel
theorem dX5_sunday_29 : decode cX5_sunday 29 = .ok (.istore_n 2, 1) := by decide +kernel
theorem dX5_sunday_30 : decode cX5_sunday 30 = .ok (.iload_n 2, 1) := by decide +kernel
theorem dX5_sunday_31 : decode cX5_sunday 31 = .ok (.iconst (-1), 1) := by decide +kernel
theorem dX5_sunday_32 : decode cX5_sunday 32 = .ok (.if_icmp .eq 7, 3) := by decide +kernel
theorem dX5_sunday_35 : decode cX5_sunday 35 = .ok (.iload_n 1, 1) := by decide +kernel
theorem dX5_sunday_36 : decode cX5_sunday 36 = .ok (.ifCond .ne 5, 3) := by decide +kernel
theorem dX5_sunday_39 : decode cX5_sunday 39 = .ok (.iload_n 2, 1) := by decide +kernel
theorem dX5_sunday_40 : decode cX5_sunday 40 = .ok (.ireturn, 1) := by decide +kernel
theorem dX5_sunday_41 : decode cX5_sunday 41 = .ok (.aload_n 0, 1) := by decide +kernel
theorem dX5_sunday_42 : decode cX5_sunday 42 = .ok (.getfield 19, 3) := by decide +kernel
theorem dX5_sunday_45 : decode cX5_sunday 45 = .ok (.iload_n 2, 1) := by decide +kernel
theorem dX5_sunday_46 : decode cX5_sunday 46 = .ok (.bipush 10, 2) := by decide +kernel
theorem dX5_sunday_48 : decode cX5_sunday 48 = .ok (.idiv, 1) := by decide +kernel
theorem dX5_sunday_49 : decode cX5_sunday 49 = .ok (.iload_n 2, 1) := by decide +kernel
theorem dX5_sunday_50 : decode cX5_sunday 50 = .ok (.bipush 10, 2) := by decide +kernel
theorem dX5_sunday_52 : decode cX5_sunday 52 = .ok (.irem, 1) := by decide +kernel
theorem dX5_sunday_53 : decode cX5_sunday 53 = .ok (.invokevirtual 159, 3) := by decide +kernel
theorem dX5_sunday_56 : decode cX5_sunday 56 = .ok (.ireturn, 1) := by decide +kernel
theorem dX5_see_0 : decode cX5_see 0 = .ok (.iload_n 1, 1) := by decide +kernel
theorem dX5_see_1 : decode cX5_see 1 = .ok (.iconst 0, 1) := by decide +kernel
theorem dX5_see_2 : decode cX5_see 2 = .ok (.bipush 12, 2) := by decide +kernel
theorem dX5_see_4 : decode cX5_see 4 = .ok (.invokestatic 64, 3) := by decide +kernel
theorem dX5_see_7 : decode cX5_see 7 = .ok (.ifCond .ne 6, 3) := by decide +kernel
theorem dX5_see_10 : decode cX5_see 10 = .ok (.bipush (-102), 2) := by decide +kernel
theorem dX5_see_12 : decode cX5_see 12 = .ok (.ireturn, 1) := by decide +kernel
theorem dX5_see_13 : decode cX5_see 13 = .ok (.iload_n 2, 1) := by decide +kernel
theorem dX5_see_14 : decode cX5_see 14 = .ok (.iconst (-1), 1) := by decide +kernel
theorem dX5_see_15 : decode cX5_see 15 = .ok (.if_icmp .eq 17, 3) := by decide +kernel
theorem dX5_see_18 : decode cX5_see 18 = .ok (.aload_n 0, 1) := by decide +kernel
theorem dX5_see_19 : decode cX5_see 19 = .ok (.getfield 19, 3) := by decide +kernel
theorem dX5_see_22 : decode cX5_see 22 = .ok (.iload_n 2, 1) := by decide +kernel
theorem dX5_see_23 : decode cX5_see 23 = .ok (.invokevirtual 94, 3) := by decide +kernel
theorem dX5_see_26 : decode cX5_see 26 = .ok (.ifCond .ne 6, 3) := by decide +kernel
theorem dX5_see_29 : decode cX5_see 29 = .ok (.bipush (-101), 2) := by decide +kernel
theorem dX5_see_31 : decode cX5_see 31 = .ok (.ireturn, 1) := by decide +kernel
theorem dX5_see_32 : decode cX5_see 32 = .ok (.aload_n 0, 1) := by decide +kernel
theorem dX5_see_33 : decode cX5_see 33 = .ok (.getfield 26, 3) := by decide +kernel
theorem dX5_see_36 : decode cX5_see 36 = .ok (.invokevirtual 162, 3) := by decide +kernel
theorem dX5_see_39 : decode cX5_see 39 = .ok (.bipush 6, 2) := by decide +kernel
theorem dX5_see_41 : decode cX5_see 41 = .ok (.if_icmp .lt 6, 3) := by decide +kernel
theorem dX5_see_44 : decode cX5_see 44 = .ok (.bipush (-104), 2) := by decide +kernel
theorem dX5_see_46 : decode cX5_see 46 = .ok (.ireturn, 1) := by decide +kernel
theorem dX5_see_47 : decode cX5_see 47 = .ok (.aload_n 0, 1) := by decide +kernel
theorem dX5_see_48 : decode cX5_see 48 = .ok (.getfield 26, 3) := by decide +kernel
theorem dX5_see_51 : decode cX5_see 51 = .ok (.iload_n 1, 1) := by decide +kernel
theorem dX5_see_52 : decode cX5_see 52 = .ok (.iload_n 2, 1) := by decide +kernel
theorem dX5_see_53 : decode cX5_see 53 = .ok (.invokevirtual 165, 3) := by decide +kernel
theorem dX5_see_56 : decode cX5_see 56 = .ok (.ireturn, 1) := by decide +kernel
theorem dX5_forget_0 : decode cX5_forget 0 = .ok (.aload_n 0, 1) := by decide +kernel
theorem dX5_forget_1 : decode cX5_forget 1 = .ok (.getfield 26, 3) := by decide +kernel
theorem dX5_forget_4 : decode cX5_forget 4 = .ok (.invokevirtual 90, 3) := by decide +kernel
theorem dX5_forget_7 : decode cX5_forget 7 = .ok (.ireturn, 1) := by decide +kernel
theorem dX5_nights_0 : decode cX5_nights 0 = .ok (.iload_n 1, 1) := by decide +kernel
theorem dX5_nights_1 : decode cX5_nights 1 = .ok (.iconst 1, 1) := by decide +kernel
theorem dX5_nights_2 : decode cX5_nights 2 = .ok (.bipush 60, 2) := by decide +kernel
theorem dX5_nights_4 : decode cX5_nights 4 = .ok (.invokestatic 64, 3) := by decide +kernel
theorem dX5_nights_7 : decode cX5_nights 7 = .ok (.ifCond .eq 16, 3) := by decide +kernel
theorem dX5_nights_10 : decode cX5_nights 10 = .ok (.iload_n 2, 1) := by decide +kernel
theorem dX5_nights_11 : decode cX5_nights 11 = .ok (.ifCond .lt 12, 3) := by decide +kernel
theorem dX5_nights_14 : decode cX5_nights 14 = .ok (.iload_n 3, 1) := by decide +kernel
theorem dX5_nights_15 : decode cX5_nights 15 = .ok (.iconst 0, 1) := by decide +kernel
theorem dX5_nights_16 : decode cX5_nights 16 = .ok (.iconst 2, 1) := by decide +kernel
theorem dX5_nights_17 : decode cX5_nights 17 = .ok (.invokestatic 64, 3) := by decide +kernel
theorem dX5_nights_20 : decode cX5_nights 20 = .ok (.ifCond .ne 6, 3) := by decide +kernel
theorem dX5_nights_23 : decode cX5_nights 23 = .ok (.bipush (-102), 2) := by decide +kernel
theorem dX5_nights_25 : decode cX5_nights 25 = .ok (.ireturn, 1) := by decide +kernel
theorem dX5_nights_26 : decode cX5_nights 26 = .ok (.aload_n 0, 1) := by decide +kernel
theorem dX5_nights_27 : decode cX5_nights 27 = .ok (.invokevirtual 127, 3) := by decide +kernel
theorem dX5_nights_30 : decode cX5_nights 30 = .ok (.ifCond .ne 6, 3) := by decide +kernel
theorem dX5_nights_33 : decode cX5_nights 33 = .ok (.bipush (-103), 2) := by decide +kernel
theorem dX5_nights_35 : decode cX5_nights 35 = .ok (.ireturn, 1) := by decide +kernel
theorem dX5_nights_36 : decode cX5_nights 36 = .ok (.aload_n 0, 1) := by decide +kernel
theorem dX5_nights_37 : decode cX5_nights 37 = .ok (.getfield 40, 3) := by decide +kernel
theorem dX5_nights_40 : decode cX5_nights 40 = .ok (.aload_n 0, 1) := by decide +kernel
theorem dX5_nights_41 : decode cX5_nights 41 = .ok (.getfield 19, 3) := by decide +kernel
theorem dX5_nights_44 : decode cX5_nights 44 = .ok (.invokevirtual 167, 3) := by decide +kernel
theorem dX5_nights_47 : decode cX5_nights 47 = .ok (.iload_n 2, 1) := by decide +kernel
theorem dX5_nights_48 : decode cX5_nights 48 = .ok (.istore 4, 2) := by decide +kernel
theorem dX5_nights_50 : decode cX5_nights 50 = .ok (.iconst 0, 1) := by decide +kernel
theorem dX5_nights_51 : decode cX5_nights 51 = .ok (.istore 5, 2) := by decide +kernel
theorem dX5_nights_53 : decode cX5_nights 53 = .ok (.iconst 0, 1) := by decide +kernel
theorem dX5_nights_54 : decode cX5_nights 54 = .ok (.istore 6, 2) := by decide +kernel
theorem dX5_nights_56 : decode cX5_nights 56 = .ok (.iload 6, 2) := by decide +kernel
theorem dX5_nights_58 : decode cX5_nights 58 = .ok (.iload_n 1, 1) := by decide +kernel
theorem dX5_nights_59 : decode cX5_nights 59 = .ok (.if_icmp .ge 88, 3) := by decide +kernel
theorem dX5_nights_62 : decode cX5_nights 62 = .ok (.iload 4, 2) := by decide +kernel
theorem dX5_nights_64 : decode cX5_nights 64 = .ok (.invokestatic 171, 3) := by decide +kernel
theorem dX5_nights_67 : decode cX5_nights 67 = .ok (.istore 4, 2) := by decide +kernel
theorem dX5_nights_69 : decode cX5_nights 69 = .ok (.aload_n 0, 1) := by decide +kernel
theorem dX5_nights_70 : decode cX5_nights 70 = .ok (.getfield 40, 3) := by decide +kernel
theorem dX5_nights_73 : decode cX5_nights 73 = .ok (.iload 4, 2) := by decide +kernel
theorem dX5_nights_75 : decode cX5_nights 75 = .ok (.aload_n 0, 1) := by decide +kernel
theorem dX5_nights_76 : decode cX5_nights 76 = .ok (.getfield 40, 3) := by decide +kernel
theorem dX5_nights_79 : decode cX5_nights 79 = .ok (.invokevirtual 91, 3) := by decide +kernel
theorem dX5_nights_82 : decode cX5_nights 82 = .ok (.invokestatic 174, 3) := by decide +kernel
theorem dX5_nights_85 : decode cX5_nights 85 = .ok (.invokevirtual 130, 3) := by decide +kernel
theorem dX5_nights_88 : decode cX5_nights 88 = .ok (.iload 4, 2) := by decide +kernel
theorem dX5_nights_90 : decode cX5_nights 90 = .ok (.invokestatic 171, 3) := by decide +kernel
theorem dX5_nights_93 : decode cX5_nights 93 = .ok (.istore 4, 2) := by decide +kernel
theorem dX5_nights_95 : decode cX5_nights 95 = .ok (.aload_n 0, 1) := by decide +kernel
theorem dX5_nights_96 : decode cX5_nights 96 = .ok (.getfield 40, 3) := by decide +kernel
theorem dX5_nights_99 : decode cX5_nights 99 = .ok (.iload 4, 2) := by decide +kernel
theorem dX5_nights_101 : decode cX5_nights 101 = .ok (.aload_n 0, 1) := by decide +kernel
theorem dX5_nights_102 : decode cX5_nights 102 = .ok (.getfield 40, 3) := by decide +kernel
theorem dX5_nights_105 : decode cX5_nights 105 = .ok (.invokevirtual 91, 3) := by decide +kernel
theorem dX5_nights_108 : decode cX5_nights 108 = .ok (.invokestatic 174, 3) := by decide +kernel
theorem dX5_nights_111 : decode cX5_nights 111 = .ok (.invokevirtual 134, 3) := by decide +kernel
theorem dX5_nights_114 : decode cX5_nights 114 = .ok (.iload 5, 2) := by decide +kernel
theorem dX5_nights_116 : decode cX5_nights 116 = .ok (.aload_n 0, 1) := by decide +kernel
theorem dX5_nights_117 : decode cX5_nights 117 = .ok (.getfield 40, 3) := by decide +kernel
theorem dX5_nights_120 : decode cX5_nights 120 = .ok (.invokevirtual 107, 3) := by decide +kernel
theorem dX5_nights_123 : decode cX5_nights 123 = .ok (.ifCond .ne 7, 3) := by decide +kernel
theorem dX5_nights_126 : decode cX5_nights 126 = .ok (.iconst 1, 1) := by decide +kernel
theorem dX5_nights_127 : decode cX5_nights 127 = .ok (.goto 4, 3) := by decide +kernel
theorem dX5_nights_130 : decode cX5_nights 130 = .ok (.iconst 0, 1) := by decide +kernel
theorem dX5_nights_131 : decode cX5_nights 131 = .ok (.iadd, 1) := by decide +kernel
theorem dX5_nights_132 : decode cX5_nights 132 = .ok (.istore 5, 2) := by decide +kernel
theorem dX5_nights_134 : decode cX5_nights 134 = .ok (.aload_n 0, 1) := by decide +kernel
theorem dX5_nights_135 : decode cX5_nights 135 = .ok (.getfield 40, 3) := by decide +kernel
theorem dX5_nights_138 : decode cX5_nights 138 = .ok (.invokevirtual 137, 3) := by decide +kernel
theorem dX5_nights_141 : decode cX5_nights 141 = .ok (.iinc 6 1, 3) := by decide +kernel
theorem dX5_nights_144 : decode cX5_nights 144 = .ok (.goto (-88), 3) := by decide +kernel
theorem dX5_nights_147 : decode cX5_nights 147 = .ok (.iload_n 3, 1) := by decide +kernel
theorem dX5_nights_148 : decode cX5_nights 148 = .ok (.iconst 2, 1) := by decide +kernel
theorem dX5_nights_149 : decode cX5_nights 149 = .ok (.if_icmp .ne 6, 3) := by decide +kernel
theorem dX5_nights_152 : decode cX5_nights 152 = .ok (.iload 4, 2) := by decide +kernel
theorem dX5_nights_154 : decode cX5_nights 154 = .ok (.ireturn, 1) := by decide +kernel
theorem dX5_nights_155 : decode cX5_nights 155 = .ok (.iload_n 3, 1) := by decide +kernel
theorem dX5_nights_156 : decode cX5_nights 156 = .ok (.ifCond .ne 8, 3) := by decide +kernel
theorem dX5_nights_159 : decode cX5_nights 159 = .ok (.iload 5, 2) := by decide +kernel
theorem dX5_nights_161 : decode cX5_nights 161 = .ok (.goto 10, 3) := by decide +kernel
theorem dX5_nights_164 : decode cX5_nights 164 = .ok (.aload_n 0, 1) := by decide +kernel
theorem dX5_nights_165 : decode cX5_nights 165 = .ok (.getfield 40, 3) := by decide +kernel
theorem dX5_nights_168 : decode cX5_nights 168 = .ok (.invokevirtual 140, 3) := by decide +kernel
theorem dX5_nights_171 : decode cX5_nights 171 = .ok (.ireturn, 1) := by decide +kernel
theorem dX5_image_0 : decode cX5_image 0 = .ok (.aload_n 0, 1) := by decide +kernel
theorem dX5_image_1 : decode cX5_image 1 = .ok (.invokevirtual 127, 3) := by decide +kernel
theorem dX5_image_4 : decode cX5_image 4 = .ok (.ifCond .ne 6, 3) := by decide +kernel
theorem dX5_image_7 : decode cX5_image 7 = .ok (.bipush (-103), 2) := by decide +kernel
theorem dX5_image_9 : decode cX5_image 9 = .ok (.ireturn, 1) := by decide +kernel
theorem dX5_image_10 : decode cX5_image 10 = .ok (.aload_n 0, 1) := by decide +kernel
theorem dX5_image_11 : decode cX5_image 11 = .ok (.getfield 30, 3) := by decide +kernel
theorem dX5_image_14 : decode cX5_image 14 = .ok (.aload_n 0, 1) := by decide +kernel
theorem dX5_image_15 : decode cX5_image 15 = .ok (.getfield 19, 3) := by decide +kernel
theorem dX5_image_18 : decode cX5_image 18 = .ok (.invokevirtual 167, 3) := by decide +kernel
theorem dX5_image_21 : decode cX5_image 21 = .ok (.aload_n 0, 1) := by decide +kernel
theorem dX5_image_22 : decode cX5_image 22 = .ok (.getfield 33, 3) := by decide +kernel
theorem dX5_image_25 : decode cX5_image 25 = .ok (.aload_n 0, 1) := by decide +kernel
theorem dX5_image_26 : decode cX5_image 26 = .ok (.getfield 26, 3) := by decide +kernel
theorem dX5_image_29 : decode cX5_image 29 = .ok (.invokevirtual 177, 3) := by decide +kernel
theorem dX5_image_32 : decode cX5_image 32 = .ok (.aload_n 0, 1) := by decide +kernel
theorem dX5_image_33 : decode cX5_image 33 = .ok (.iconst 1, 1) := by decide +kernel
theorem dX5_image_34 : decode cX5_image 34 = .ok (.putfield 36, 3) := by decide +kernel
theorem dX5_image_37 : decode cX5_image 37 = .ok (.aload_n 0, 1) := by decide +kernel
theorem dX5_image_38 : decode cX5_image 38 = .ok (.getfield 19, 3) := by decide +kernel
theorem dX5_image_41 : decode cX5_image 41 = .ok (.invokevirtual 180, 3) := by decide +kernel
theorem dX5_image_44 : decode cX5_image 44 = .ok (.ireturn, 1) := by decide +kernel
theorem dX5_restore_0 : decode cX5_restore 0 = .ok (.aload_n 0, 1) := by decide +kernel
theorem dX5_restore_1 : decode cX5_restore 1 = .ok (.getfield 36, 3) := by decide +kernel
theorem dX5_restore_4 : decode cX5_restore 4 = .ok (.ifCond .ne 6, 3) := by decide +kernel
theorem dX5_restore_7 : decode cX5_restore 7 = .ok (.bipush (-103), 2) := by decide +kernel
theorem dX5_restore_9 : decode cX5_restore 9 = .ok (.ireturn, 1) := by decide +kernel
theorem dX5_restore_10 : decode cX5_restore 10 = .ok (.aload_n 0, 1) := by decide +kernel
theorem dX5_restore_11 : decode cX5_restore 11 = .ok (.getfield 19, 3) := by decide +kernel
theorem dX5_restore_14 : decode cX5_restore 14 = .ok (.aload_n 0, 1) := by decide +kernel
theorem dX5_restore_15 : decode cX5_restore 15 = .ok (.getfield 30, 3) := by decide +kernel
theorem dX5_restore_18 : decode cX5_restore 18 = .ok (.invokevirtual 167, 3) := by decide +kernel
theorem dX5_restore_21 : decode cX5_restore 21 = .ok (.aload_n 0, 1) := by decide +kernel
theorem dX5_restore_22 : decode cX5_restore 22 = .ok (.getfield 26, 3) := by decide +kernel
theorem dX5_restore_25 : decode cX5_restore 25 = .ok (.aload_n 0, 1) := by decide +kernel
theorem dX5_restore_26 : decode cX5_restore 26 = .ok (.getfield 33, 3) := by decide +kernel
theorem dX5_restore_29 : decode cX5_restore 29 = .ok (.invokevirtual 177, 3) := by decide +kernel
theorem dX5_restore_32 : decode cX5_restore 32 = .ok (.aload_n 0, 1) := by decide +kernel
theorem dX5_restore_33 : decode cX5_restore 33 = .ok (.getfield 19, 3) := by decide +kernel
theorem dX5_restore_36 : decode cX5_restore 36 = .ok (.invokevirtual 180, 3) := by decide +kernel
theorem dX5_restore_39 : decode cX5_restore 39 = .ok (.ireturn, 1) := by decide +kernel
theorem dX5_count_0 : decode cX5_count 0 = .ok (.iload_n 1, 1) := by decide +kernel
theorem dX5_count_1 : decode cX5_count 1 = .ok (.tableswitch 117 0 8 #[51, 59, 67, 75, 83, 91, 99, 107, 112], 51) := by decide +kernel
theorem dX5_count_52 : decode cX5_count 52 = .ok (.aload_n 0, 1) := by decide +kernel
theorem dX5_count_53 : decode cX5_count 53 = .ok (.getfield 19, 3) := by decide +kernel
theorem dX5_count_56 : decode cX5_count 56 = .ok (.invokevirtual 91, 3) := by decide +kernel
theorem dX5_count_59 : decode cX5_count 59 = .ok (.ireturn, 1) := by decide +kernel
theorem dX5_count_60 : decode cX5_count 60 = .ok (.aload_n 0, 1) := by decide +kernel
theorem dX5_count_61 : decode cX5_count 61 = .ok (.getfield 19, 3) := by decide +kernel
theorem dX5_count_64 : decode cX5_count 64 = .ok (.invokevirtual 183, 3) := by decide +kernel
theorem dX5_count_67 : decode cX5_count 67 = .ok (.ireturn, 1) := by decide +kernel
theorem dX5_count_68 : decode cX5_count 68 = .ok (.aload_n 0, 1) := by decide +kernel
theorem dX5_count_69 : decode cX5_count 69 = .ok (.getfield 19, 3) := by decide +kernel
theorem dX5_count_72 : decode cX5_count 72 = .ok (.invokevirtual 140, 3) := by decide +kernel
theorem dX5_count_75 : decode cX5_count 75 = .ok (.ireturn, 1) := by decide +kernel
theorem dX5_count_76 : decode cX5_count 76 = .ok (.aload_n 0, 1) := by decide +kernel
theorem dX5_count_77 : decode cX5_count 77 = .ok (.getfield 19, 3) := by decide +kernel
theorem dX5_count_80 : decode cX5_count 80 = .ok (.invokevirtual 180, 3) := by decide +kernel
theorem dX5_count_83 : decode cX5_count 83 = .ok (.ireturn, 1) := by decide +kernel
theorem dX5_count_84 : decode cX5_count 84 = .ok (.aload_n 0, 1) := by decide +kernel
theorem dX5_count_85 : decode cX5_count 85 = .ok (.getfield 19, 3) := by decide +kernel
theorem dX5_count_88 : decode cX5_count 88 = .ok (.invokevirtual 186, 3) := by decide +kernel
theorem dX5_count_91 : decode cX5_count 91 = .ok (.ireturn, 1) := by decide +kernel
theorem dX5_count_92 : decode cX5_count 92 = .ok (.aload_n 0, 1) := by decide +kernel
theorem dX5_count_93 : decode cX5_count 93 = .ok (.getfield 26, 3) := by decide +kernel
theorem dX5_count_96 : decode cX5_count 96 = .ok (.invokevirtual 162, 3) := by decide +kernel
theorem dX5_count_99 : decode cX5_count 99 = .ok (.ireturn, 1) := by decide +kernel
theorem dX5_count_100 : decode cX5_count 100 = .ok (.aload_n 0, 1) := by decide +kernel
theorem dX5_count_101 : decode cX5_count 101 = .ok (.getfield 10, 3) := by decide +kernel
theorem dX5_count_104 : decode cX5_count 104 = .ok (.invokevirtual 68, 3) := by decide +kernel
theorem dX5_count_107 : decode cX5_count 107 = .ok (.ireturn, 1) := by decide +kernel
theorem dX5_count_108 : decode cX5_count 108 = .ok (.aload_n 0, 1) := by decide +kernel
theorem dX5_count_109 : decode cX5_count 109 = .ok (.getfield 57, 3) := by decide +kernel
theorem dX5_count_112 : decode cX5_count 112 = .ok (.ireturn, 1) := by decide +kernel
theorem dX5_count_113 : decode cX5_count 113 = .ok (.aload_n 0, 1) := by decide +kernel
theorem dX5_count_114 : decode cX5_count 114 = .ok (.getfield 61, 3) := by decide +kernel
theorem dX5_count_117 : decode cX5_count 117 = .ok (.ireturn, 1) := by decide +kernel
theorem dX5_count_118 : decode cX5_count 118 = .ok (.bipush (-102), 2) := by decide +kernel
theorem dX5_count_120 : decode cX5_count 120 = .ok (.ireturn, 1) := by decide +kernel
theorem dX5_digest_0 : decode cX5_digest 0 = .ok (.ldc2_w 189, 3) := by decide +kernel
theorem dX5_digest_3 : decode cX5_digest 3 = .ok (.lstore_n 1, 1) := by decide +kernel
theorem dX5_digest_4 : decode cX5_digest 4 = .ok (.iconst 0, 1) := by decide +kernel
theorem dX5_digest_5 : decode cX5_digest 5 = .ok (.istore_n 3, 1) := by decide +kernel
theorem dX5_digest_6 : decode cX5_digest 6 = .ok (.iload_n 3, 1) := by decide +kernel
theorem dX5_digest_7 : decode cX5_digest 7 = .ok (.aload_n 0, 1) := by decide +kernel
theorem dX5_digest_8 : decode cX5_digest 8 = .ok (.getfield 19, 3) := by decide +kernel
theorem dX5_digest_11 : decode cX5_digest 11 = .ok (.invokevirtual 91, 3) := by decide +kernel
theorem dX5_digest_14 : decode cX5_digest 14 = .ok (.if_icmp .ge 65, 3) := by decide +kernel
theorem dX5_digest_17 : decode cX5_digest 17 = .ok (.iconst 0, 1) := by decide +kernel
theorem dX5_digest_18 : decode cX5_digest 18 = .ok (.istore 4, 2) := by decide +kernel
theorem dX5_digest_20 : decode cX5_digest 20 = .ok (.iload 4, 2) := by decide +kernel
theorem dX5_digest_22 : decode cX5_digest 22 = .ok (.bipush 6, 2) := by decide +kernel
theorem dX5_digest_24 : decode cX5_digest 24 = .ok (.if_icmp .gt 22, 3) := by decide +kernel
theorem dX5_digest_27 : decode cX5_digest 27 = .ok (.lload_n 1, 1) := by decide +kernel
theorem dX5_digest_28 : decode cX5_digest 28 = .ok (.aload_n 0, 1) := by decide +kernel
theorem dX5_digest_29 : decode cX5_digest 29 = .ok (.iload_n 3, 1) := by decide +kernel
theorem dX5_digest_30 : decode cX5_digest 30 = .ok (.iload 4, 2) := by decide +kernel
theorem dX5_digest_32 : decode cX5_digest 32 = .ok (.invokevirtual 191, 3) := by decide +kernel
theorem dX5_digest_35 : decode cX5_digest 35 = .ok (.i2l, 1) := by decide +kernel
theorem dX5_digest_36 : decode cX5_digest 36 = .ok (.invokestatic 194, 3) := by decide +kernel
theorem dX5_digest_39 : decode cX5_digest 39 = .ok (.lstore_n 1, 1) := by decide +kernel
theorem dX5_digest_40 : decode cX5_digest 40 = .ok (.iinc 4 1, 3) := by decide +kernel
theorem dX5_digest_43 : decode cX5_digest 43 = .ok (.goto (-23), 3) := by decide +kernel
theorem dX5_digest_46 : decode cX5_digest 46 = .ok (.lload_n 1, 1) := by decide +kernel
theorem dX5_digest_47 : decode cX5_digest 47 = .ok (.aload_n 0, 1) := by decide +kernel
theorem dX5_digest_48 : decode cX5_digest 48 = .ok (.getfield 19, 3) := by decide +kernel
theorem dX5_digest_51 : decode cX5_digest 51 = .ok (.iload_n 3, 1) := by decide +kernel
theorem dX5_digest_52 : decode cX5_digest 52 = .ok (.invokevirtual 104, 3) := by decide +kernel
theorem dX5_digest_55 : decode cX5_digest 55 = .ok (.ifCond .eq 7, 3) := by decide +kernel
theorem dX5_digest_58 : decode cX5_digest 58 = .ok (.lconst 0, 1) := by decide +kernel
theorem dX5_digest_59 : decode cX5_digest 59 = .ok (.goto 10, 3) := by decide +kernel
theorem dX5_digest_62 : decode cX5_digest 62 = .ok (.aload_n 0, 1) := by decide +kernel
theorem dX5_digest_63 : decode cX5_digest 63 = .ok (.iload_n 3, 1) := by decide +kernel
theorem dX5_digest_64 : decode cX5_digest 64 = .ok (.iconst 3, 1) := by decide +kernel
theorem dX5_digest_65 : decode cX5_digest 65 = .ok (.invokevirtual 143, 3) := by decide +kernel
theorem dX5_digest_68 : decode cX5_digest 68 = .ok (.i2l, 1) := by decide +kernel
theorem dX5_digest_69 : decode cX5_digest 69 = .ok (.invokestatic 194, 3) := by decide +kernel
theorem dX5_digest_72 : decode cX5_digest 72 = .ok (.lstore_n 1, 1) := by decide +kernel
