theorem dX0_init_0 : decode cX0_init 0 = .ok (.aload_n 0, 1) := by decide +kernel
theorem dX0_init_1 : decode cX0_init 1 = .ok (.invokespecial 3, 3) := by decide +kernel
theorem dX0_init_4 : decode cX0_init 4 = .ok (.aload_n 0, 1) := by decide +kernel
theorem dX0_init_5 : decode cX0_init 5 = .ok (.new 9, 3) := by decide +kernel
theorem dX0_init_8 : decode cX0_init 8 = .ok (.dup, 1) := by decide +kernel
theorem dX0_init_9 : decode cX0_init 9 = .ok (.invokespecial 11, 3) := by decide +kernel
theorem dX0_init_12 : decode cX0_init 12 = .ok (.putfield 12, 3) := by decide +kernel
theorem dX0_init_15 : decode cX0_init 15 = .ok (.aload_n 0, 1) := by decide +kernel
theorem dX0_init_16 : decode cX0_init 16 = .ok (.bipush 10, 2) := by decide +kernel
theorem dX0_init_18 : decode cX0_init 18 = .ok (.bipush 13, 2) := by decide +kernel
theorem dX0_init_20 : decode cX0_init 20 = .ok (.multianewarray 18 2, 4) := by decide +kernel
theorem dX0_init_24 : decode cX0_init 24 = .ok (.putfield 20, 3) := by decide +kernel
theorem dX0_init_27 : decode cX0_init 27 = .ok (.aload_n 0, 1) := by decide +kernel
theorem dX0_init_28 : decode cX0_init 28 = .ok (.iconst 0, 1) := by decide +kernel
theorem dX0_init_29 : decode cX0_init 29 = .ok (.putfield 23, 3) := by decide +kernel
theorem dX0_init_32 : decode cX0_init 32 = .ok (.aload_n 0, 1) := by decide +kernel
theorem dX0_init_33 : decode cX0_init 33 = .ok (.iconst 0, 1) := by decide +kernel
theorem dX0_init_34 : decode cX0_init 34 = .ok (.putfield 27, 3) := by decide +kernel
theorem dX0_init_37 : decode cX0_init 37 = .ok (.return_, 1) := by decide +kernel
theorem dX0_possible_0 : decode cX0_possible 0 = .ok (.aload_n 0, 1) := by decide +kernel
theorem dX0_possible_1 : decode cX0_possible 1 = .ok (.getfield 27, 3) := by decide +kernel
theorem dX0_possible_4 : decode cX0_possible 4 = .ok (.ireturn, 1) := by decide +kernel
theorem dX0_make_0 : decode cX0_make 0 = .ok (.aload_n 0, 1) := by decide +kernel
theorem dX0_make_1 : decode cX0_make 1 = .ok (.aload_n 1, 1) := by decide +kernel
theorem dX0_make_2 : decode cX0_make 2 = .ok (.invokevirtual 30, 3) := by decide +kernel
theorem dX0_make_5 : decode cX0_make 5 = .ok (.putfield 23, 3) := by decide +kernel
theorem dX0_make_8 : decode cX0_make 8 = .ok (.aload_n 0, 1) := by decide +kernel
theorem dX0_make_9 : decode cX0_make 9 = .ok (.iconst 0, 1) := by decide +kernel
theorem dX0_make_10 : decode cX0_make 10 = .ok (.putfield 27, 3) := by decide +kernel
theorem dX0_make_13 : decode cX0_make 13 = .ok (.iconst 0, 1) := by decide +kernel
theorem dX0_make_14 : decode cX0_make 14 = .ok (.istore 4, 2) := by decide +kernel
theorem dX0_make_16 : decode cX0_make 16 = .ok (.iload 4, 2) := by decide +kernel
theorem dX0_make_18 : decode cX0_make 18 = .ok (.bipush 10, 2) := by decide +kernel
theorem dX0_make_20 : decode cX0_make 20 = .ok (.if_icmp .ge 55, 3) := by decide +kernel
theorem dX0_make_23 : decode cX0_make 23 = .ok (.aload_n 0, 1) := by decide +kernel
theorem dX0_make_24 : decode cX0_make 24 = .ok (.getfield 12, 3) := by decide +kernel
theorem dX0_make_27 : decode cX0_make 27 = .ok (.aload_n 1, 1) := by decide +kernel
theorem dX0_make_28 : decode cX0_make 28 = .ok (.invokevirtual 33, 3) := by decide +kernel
theorem dX0_make_31 : decode cX0_make 31 = .ok (.aload_n 0, 1) := by decide +kernel
theorem dX0_make_32 : decode cX0_make 32 = .ok (.getfield 12, 3) := by decide +kernel
theorem dX0_make_35 : decode cX0_make 35 = .ok (.iload_n 3, 1) := by decide +kernel
theorem dX0_make_36 : decode cX0_make 36 = .ok (.iload 4, 2) := by decide +kernel
theorem dX0_make_38 : decode cX0_make 38 = .ok (.invokevirtual 37, 3) := by decide +kernel
theorem dX0_make_41 : decode cX0_make 41 = .ok (.aload_n 0, 1) := by decide +kernel
theorem dX0_make_42 : decode cX0_make 42 = .ok (.aload_n 2, 1) := by decide +kernel
theorem dX0_make_43 : decode cX0_make 43 = .ok (.aload_n 0, 1) := by decide +kernel
theorem dX0_make_44 : decode cX0_make 44 = .ok (.getfield 20, 3) := by decide +kernel
theorem dX0_make_47 : decode cX0_make 47 = .ok (.iload 4, 2) := by decide +kernel
theorem dX0_make_49 : decode cX0_make 49 = .ok (.aaload, 1) := by decide +kernel
theorem dX0_make_50 : decode cX0_make 50 = .ok (.invokevirtual 41, 3) := by decide +kernel
theorem dX0_make_53 : decode cX0_make 53 = .ok (.ifCond .eq 16, 3) := by decide +kernel
theorem dX0_make_56 : decode cX0_make 56 = .ok (.aload_n 0, 1) := by decide +kernel
theorem dX0_make_57 : decode cX0_make 57 = .ok (.dup, 1) := by decide +kernel
theorem dX0_make_58 : decode cX0_make 58 = .ok (.getfield 27, 3) := by decide +kernel
theorem dX0_make_61 : decode cX0_make 61 = .ok (.iconst 1, 1) := by decide +kernel
theorem dX0_make_62 : decode cX0_make 62 = .ok (.iload 4, 2) := by decide +kernel
theorem dX0_make_64 : decode cX0_make 64 = .ok (.ishl, 1) := by decide +kernel
theorem dX0_make_65 : decode cX0_make 65 = .ok (.ior, 1) := by decide +kernel
theorem dX0_make_66 : decode cX0_make 66 = .ok (.putfield 27, 3) := by decide +kernel
theorem dX0_make_69 : decode cX0_make 69 = .ok (.iinc 4 1, 3) := by decide +kernel
theorem dX0_make_72 : decode cX0_make 72 = .ok (.goto (-56), 3) := by decide +kernel
theorem dX0_make_75 : decode cX0_make 75 = .ok (.return_, 1) := by decide +kernel
theorem dX0_bestLook_0 : decode cX0_bestLook 0 = .ok (.aload_n 0, 1) := by decide +kernel
theorem dX0_bestLook_1 : decode cX0_bestLook 1 = .ok (.getfield 27, 3) := by decide +kernel
theorem dX0_bestLook_4 : decode cX0_bestLook 4 = .ok (.ifCond .ne 5, 3) := by decide +kernel
theorem dX0_bestLook_7 : decode cX0_bestLook 7 = .ok (.iconst (-1), 1) := by decide +kernel
theorem dX0_bestLook_8 : decode cX0_bestLook 8 = .ok (.ireturn, 1) := by decide +kernel
theorem dX0_bestLook_9 : decode cX0_bestLook 9 = .ok (.iconst (-1), 1) := by decide +kernel
theorem dX0_bestLook_10 : decode cX0_bestLook 10 = .ok (.istore_n 1, 1) := by decide +kernel
theorem dX0_bestLook_11 : decode cX0_bestLook 11 = .ok (.bipush 11, 2) := by decide +kernel
theorem dX0_bestLook_13 : decode cX0_bestLook 13 = .ok (.istore_n 2, 1) := by decide +kernel
theorem dX0_bestLook_14 : decode cX0_bestLook 14 = .ok (.iconst 0, 1) := by decide +kernel
theorem dX0_bestLook_15 : decode cX0_bestLook 15 = .ok (.istore_n 3, 1) := by decide +kernel
theorem dX0_bestLook_16 : decode cX0_bestLook 16 = .ok (.iload_n 3, 1) := by decide +kernel
theorem dX0_bestLook_17 : decode cX0_bestLook 17 = .ok (.bipush 13, 2) := by decide +kernel
theorem dX0_bestLook_19 : decode cX0_bestLook 19 = .ok (.if_icmp .ge 27, 3) := by decide +kernel
theorem dX0_bestLook_22 : decode cX0_bestLook 22 = .ok (.aload_n 0, 1) := by decide +kernel
theorem dX0_bestLook_23 : decode cX0_bestLook 23 = .ok (.iload_n 3, 1) := by decide +kernel
theorem dX0_bestLook_24 : decode cX0_bestLook 24 = .ok (.invokevirtual 45, 3) := by decide +kernel
theorem dX0_bestLook_27 : decode cX0_bestLook 27 = .ok (.istore 4, 2) := by decide +kernel
theorem dX0_bestLook_29 : decode cX0_bestLook 29 = .ok (.iload 4, 2) := by decide +kernel
theorem dX0_bestLook_31 : decode cX0_bestLook 31 = .ok (.iload_n 2, 1) := by decide +kernel
theorem dX0_bestLook_32 : decode cX0_bestLook 32 = .ok (.if_icmp .ge 8, 3) := by decide +kernel
theorem dX0_bestLook_35 : decode cX0_bestLook 35 = .ok (.iload_n 3, 1) := by decide +kernel
theorem dX0_bestLook_36 : decode cX0_bestLook 36 = .ok (.istore_n 1, 1) := by decide +kernel
theorem dX0_bestLook_37 : decode cX0_bestLook 37 = .ok (.iload 4, 2) := by decide +kernel
theorem dX0_bestLook_39 : decode cX0_bestLook 39 = .ok (.istore_n 2, 1) := by decide +kernel
theorem dX0_bestLook_40 : decode cX0_bestLook 40 = .ok (.iinc 3 1, 3) := by decide +kernel
theorem dX0_bestLook_43 : decode cX0_bestLook 43 = .ok (.goto (-27), 3) := by decide +kernel
theorem dX0_bestLook_46 : decode cX0_bestLook 46 = .ok (.iload_n 1, 1) := by decide +kernel
theorem dX0_bestLook_47 : decode cX0_bestLook 47 = .ok (.ireturn, 1) := by decide +kernel
theorem dX0_isAsSeen_0 : decode cX0_isAsSeen 0 = .ok (.iconst 1, 1) := by decide +kernel
theorem dX0_isAsSeen_1 : decode cX0_isAsSeen 1 = .ok (.istore_n 3, 1) := by decide +kernel
theorem dX0_isAsSeen_2 : decode cX0_isAsSeen 2 = .ok (.iconst 0, 1) := by decide +kernel
theorem dX0_isAsSeen_3 : decode cX0_isAsSeen 3 = .ok (.istore 4, 2) := by decide +kernel
theorem dX0_isAsSeen_5 : decode cX0_isAsSeen 5 = .ok (.iload 4, 2) := by decide +kernel
theorem dX0_isAsSeen_7 : decode cX0_isAsSeen 7 = .ok (.aload_n 2, 1) := by decide +kernel
theorem dX0_isAsSeen_8 : decode cX0_isAsSeen 8 = .ok (.arraylength, 1) := by decide +kernel
theorem dX0_isAsSeen_9 : decode cX0_isAsSeen 9 = .ok (.if_icmp .ge 55, 3) := by decide +kernel
theorem dX0_isAsSeen_12 : decode cX0_isAsSeen 12 = .ok (.iload 4, 2) := by decide +kernel
theorem dX0_isAsSeen_14 : decode cX0_isAsSeen 14 = .ok (.ifCond .le 10, 3) := by decide +kernel
theorem dX0_isAsSeen_17 : decode cX0_isAsSeen 17 = .ok (.aload_n 0, 1) := by decide +kernel
theorem dX0_isAsSeen_18 : decode cX0_isAsSeen 18 = .ok (.getfield 12, 3) := by decide +kernel
theorem dX0_isAsSeen_21 : decode cX0_isAsSeen 21 = .ok (.invokevirtual 49, 3) := by decide +kernel
theorem dX0_isAsSeen_24 : decode cX0_isAsSeen 24 = .ok (.aload_n 2, 1) := by decide +kernel
theorem dX0_isAsSeen_25 : decode cX0_isAsSeen 25 = .ok (.iload 4, 2) := by decide +kernel
theorem dX0_isAsSeen_27 : decode cX0_isAsSeen 27 = .ok (.aload_n 0, 1) := by decide +kernel
theorem dX0_isAsSeen_28 : decode cX0_isAsSeen 28 = .ok (.getfield 12, 3) := by decide +kernel
theorem dX0_isAsSeen_31 : decode cX0_isAsSeen 31 = .ok (.invokevirtual 52, 3) := by decide +kernel
theorem dX0_isAsSeen_34 : decode cX0_isAsSeen 34 = .ok (.iastore, 1) := by decide +kernel
theorem dX0_isAsSeen_35 : decode cX0_isAsSeen 35 = .ok (.iload_n 3, 1) := by decide +kernel
theorem dX0_isAsSeen_36 : decode cX0_isAsSeen 36 = .ok (.ifCond .eq 20, 3) := by decide +kernel
theorem dX0_isAsSeen_39 : decode cX0_isAsSeen 39 = .ok (.aload_n 1, 1) := by decide +kernel
theorem dX0_isAsSeen_40 : decode cX0_isAsSeen 40 = .ok (.iload 4, 2) := by decide +kernel
theorem dX0_isAsSeen_42 : decode cX0_isAsSeen 42 = .ok (.aload_n 2, 1) := by decide +kernel
theorem dX0_isAsSeen_43 : decode cX0_isAsSeen 43 = .ok (.iload 4, 2) := by decide +kernel
theorem dX0_isAsSeen_45 : decode cX0_isAsSeen 45 = .ok (.iaload, 1) := by decide +kernel
theorem dX0_isAsSeen_46 : decode cX0_isAsSeen 46 = .ok (.invokevirtual 55, 3) := by decide +kernel
theorem dX0_isAsSeen_49 : decode cX0_isAsSeen 49 = .ok (.ifCond .eq 7, 3) := by decide +kernel
theorem dX0_isAsSeen_52 : decode cX0_isAsSeen 52 = .ok (.iconst 1, 1) := by decide +kernel
theorem dX0_isAsSeen_53 : decode cX0_isAsSeen 53 = .ok (.goto 4, 3) := by decide +kernel
theorem dX0_isAsSeen_56 : decode cX0_isAsSeen 56 = .ok (.iconst 0, 1) := by decide +kernel
theorem dX0_isAsSeen_57 : decode cX0_isAsSeen 57 = .ok (.istore_n 3, 1) := by decide +kernel
theorem dX0_isAsSeen_58 : decode cX0_isAsSeen 58 = .ok (.iinc 4 1, 3) := by decide +kernel
theorem dX0_isAsSeen_61 : decode cX0_isAsSeen 61 = .ok (.goto (-56), 3) := by decide +kernel
theorem dX0_isAsSeen_64 : decode cX0_isAsSeen 64 = .ok (.iload_n 3, 1) := by decide +kernel
theorem dX0_isAsSeen_65 : decode cX0_isAsSeen 65 = .ok (.ireturn, 1) := by decide +kernel
theorem dX0_leftAtWorst_0 : decode cX0_leftAtWorst 0 = .ok (.iconst 0, 1) := by decide +kernel
theorem dX0_leftAtWorst_1 : decode cX0_leftAtWorst 1 = .ok (.istore_n 2, 1) := by decide +kernel
theorem dX0_leftAtWorst_2 : decode cX0_leftAtWorst 2 = .ok (.iconst (-1), 1) := by decide +kernel
theorem dX0_leftAtWorst_3 : decode cX0_leftAtWorst 3 = .ok (.istore_n 3, 1) := by decide +kernel
theorem dX0_leftAtWorst_4 : decode cX0_leftAtWorst 4 = .ok (.iload_n 3, 1) := by decide +kernel
theorem dX0_leftAtWorst_5 : decode cX0_leftAtWorst 5 = .ok (.aload_n 0, 1) := by decide +kernel
theorem dX0_leftAtWorst_6 : decode cX0_leftAtWorst 6 = .ok (.getfield 23, 3) := by decide +kernel
theorem dX0_leftAtWorst_9 : decode cX0_leftAtWorst 9 = .ok (.if_icmp .ge 20, 3) := by decide +kernel
theorem dX0_leftAtWorst_12 : decode cX0_leftAtWorst 12 = .ok (.iload_n 2, 1) := by decide +kernel
theorem dX0_leftAtWorst_13 : decode cX0_leftAtWorst 13 = .ok (.aload_n 0, 1) := by decide +kernel
theorem dX0_leftAtWorst_14 : decode cX0_leftAtWorst 14 = .ok (.iload_n 1, 1) := by decide +kernel
theorem dX0_leftAtWorst_15 : decode cX0_leftAtWorst 15 = .ok (.iload_n 3, 1) := by decide +kernel
theorem dX0_leftAtWorst_16 : decode cX0_leftAtWorst 16 = .ok (.invokevirtual 61, 3) := by decide +kernel
theorem dX0_leftAtWorst_19 : decode cX0_leftAtWorst 19 = .ok (.invokestatic 65, 3) := by decide +kernel
theorem dX0_leftAtWorst_22 : decode cX0_leftAtWorst 22 = .ok (.istore_n 2, 1) := by decide +kernel
theorem dX0_leftAtWorst_23 : decode cX0_leftAtWorst 23 = .ok (.iinc 3 1, 3) := by decide +kernel
theorem dX0_leftAtWorst_26 : decode cX0_leftAtWorst 26 = .ok (.goto (-22), 3) := by decide +kernel
theorem dX0_leftAtWorst_29 : decode cX0_leftAtWorst 29 = .ok (.iload_n 2, 1) := by decide +kernel
theorem dX0_leftAtWorst_30 : decode cX0_leftAtWorst 30 = .ok (.ireturn, 1) := by decide +kernel
theorem dX0_leftBy_0 : decode cX0_leftBy 0 = .ok (.iconst 0, 1) := by decide +kernel
theorem dX0_leftBy_1 : decode cX0_leftBy 1 = .ok (.istore_n 3, 1) := by decide +kernel
theorem dX0_leftBy_2 : decode cX0_leftBy 2 = .ok (.iconst 0, 1) := by decide +kernel
theorem dX0_leftBy_3 : decode cX0_leftBy 3 = .ok (.istore 4, 2) := by decide +kernel
theorem dX0_leftBy_5 : decode cX0_leftBy 5 = .ok (.iload 4, 2) := by decide +kernel
theorem dX0_leftBy_7 : decode cX0_leftBy 7 = .ok (.bipush 10, 2) := by decide +kernel
theorem dX0_leftBy_9 : decode cX0_leftBy 9 = .ok (.if_icmp .ge 53, 3) := by decide +kernel
theorem dX0_leftBy_12 : decode cX0_leftBy 12 = .ok (.aload_n 0, 1) := by decide +kernel
theorem dX0_leftBy_13 : decode cX0_leftBy 13 = .ok (.getfield 27, 3) := by decide +kernel
theorem dX0_leftBy_16 : decode cX0_leftBy 16 = .ok (.iload 4, 2) := by decide +kernel
theorem dX0_leftBy_18 : decode cX0_leftBy 18 = .ok (.ishr, 1) := by decide +kernel
theorem dX0_leftBy_19 : decode cX0_leftBy 19 = .ok (.iconst 1, 1) := by decide +kernel
theorem dX0_leftBy_20 : decode cX0_leftBy 20 = .ok (.iand, 1) := by decide +kernel
theorem dX0_leftBy_21 : decode cX0_leftBy 21 = .ok (.iconst 1, 1) := by decide +kernel
theorem dX0_leftBy_22 : decode cX0_leftBy 22 = .ok (.if_icmp .ne 7, 3) := by decide +kernel
theorem dX0_leftBy_25 : decode cX0_leftBy 25 = .ok (.iconst 1, 1) := by decide +kernel
theorem dX0_leftBy_26 : decode cX0_leftBy 26 = .ok (.goto 4, 3) := by decide +kernel
theorem dX0_leftBy_29 : decode cX0_leftBy 29 = .ok (.iconst 0, 1) := by decide +kernel
theorem dX0_leftBy_30 : decode cX0_leftBy 30 = .ok (.istore 5, 2) := by decide +kernel
theorem dX0_leftBy_32 : decode cX0_leftBy 32 = .ok (.iload_n 3, 1) := by decide +kernel
theorem dX0_leftBy_33 : decode cX0_leftBy 33 = .ok (.iload 5, 2) := by decide +kernel
theorem dX0_leftBy_35 : decode cX0_leftBy 35 = .ok (.ifCond .eq 18, 3) := by decide +kernel
theorem dX0_leftBy_38 : decode cX0_leftBy 38 = .ok (.aload_n 0, 1) := by decide +kernel
theorem dX0_leftBy_39 : decode cX0_leftBy 39 = .ok (.iload_n 1, 1) := by decide +kernel
theorem dX0_leftBy_40 : decode cX0_leftBy 40 = .ok (.iload 4, 2) := by decide +kernel
theorem dX0_leftBy_42 : decode cX0_leftBy 42 = .ok (.invokevirtual 70, 3) := by decide +kernel
theorem dX0_leftBy_45 : decode cX0_leftBy 45 = .ok (.iload_n 2, 1) := by decide +kernel
theorem dX0_leftBy_46 : decode cX0_leftBy 46 = .ok (.if_icmp .ne 7, 3) := by decide +kernel
theorem dX0_leftBy_49 : decode cX0_leftBy 49 = .ok (.iconst 1, 1) := by decide +kernel
theorem dX0_leftBy_50 : decode cX0_leftBy 50 = .ok (.goto 4, 3) := by decide +kernel
theorem dX0_leftBy_53 : decode cX0_leftBy 53 = .ok (.iconst 0, 1) := by decide +kernel
theorem dX0_leftBy_54 : decode cX0_leftBy 54 = .ok (.iadd, 1) := by decide +kernel
theorem dX0_leftBy_55 : decode cX0_leftBy 55 = .ok (.istore_n 3, 1) := by decide +kernel
theorem dX0_leftBy_56 : decode cX0_leftBy 56 = .ok (.iinc 4 1, 3) := by decide +kernel
theorem dX0_leftBy_59 : decode cX0_leftBy 59 = .ok (.goto (-54), 3) := by decide +kernel
theorem dX0_leftBy_62 : decode cX0_leftBy 62 = .ok (.iload_n 3, 1) := by decide +kernel
theorem dX0_leftBy_63 : decode cX0_leftBy 63 = .ok (.ireturn, 1) := by decide +kernel
theorem dX0_bedBehind_0 : decode cX0_bedBehind 0 = .ok (.iload_n 1, 1) := by decide +kernel
theorem dX0_bedBehind_1 : decode cX0_bedBehind 1 = .ok (.iconst 0, 1) := by decide +kernel
theorem dX0_bedBehind_2 : decode cX0_bedBehind 2 = .ok (.bipush 12, 2) := by decide +kernel
theorem dX0_bedBehind_4 : decode cX0_bedBehind 4 = .ok (.invokestatic 73, 3) := by decide +kernel
theorem dX0_bedBehind_7 : decode cX0_bedBehind 7 = .ok (.ifCond .eq 17, 3) := by decide +kernel
theorem dX0_bedBehind_10 : decode cX0_bedBehind 10 = .ok (.iload_n 2, 1) := by decide +kernel
theorem dX0_bedBehind_11 : decode cX0_bedBehind 11 = .ok (.iconst 0, 1) := by decide +kernel
theorem dX0_bedBehind_12 : decode cX0_bedBehind 12 = .ok (.bipush 9, 2) := by decide +kernel
theorem dX0_bedBehind_14 : decode cX0_bedBehind 14 = .ok (.invokestatic 73, 3) := by decide +kernel
theorem dX0_bedBehind_17 : decode cX0_bedBehind 17 = .ok (.ifCond .eq 7, 3) := by decide +kernel
theorem dX0_bedBehind_20 : decode cX0_bedBehind 20 = .ok (.iconst 1, 1) := by decide +kernel
theorem dX0_bedBehind_21 : decode cX0_bedBehind 21 = .ok (.goto 4, 3) := by decide +kernel
theorem dX0_bedBehind_24 : decode cX0_bedBehind 24 = .ok (.iconst 0, 1) := by decide +kernel
theorem dX0_bedBehind_25 : decode cX0_bedBehind 25 = .ok (.istore_n 3, 1) := by decide +kernel
theorem dX0_bedBehind_26 : decode cX0_bedBehind 26 = .ok (.iload_n 3, 1) := by decide +kernel
theorem dX0_bedBehind_27 : decode cX0_bedBehind 27 = .ok (.ifCond .eq 14, 3) := by decide +kernel
theorem dX0_bedBehind_30 : decode cX0_bedBehind 30 = .ok (.aload_n 0, 1) := by decide +kernel
theorem dX0_bedBehind_31 : decode cX0_bedBehind 31 = .ok (.getfield 20, 3) := by decide +kernel
theorem dX0_bedBehind_34 : decode cX0_bedBehind 34 = .ok (.iload_n 2, 1) := by decide +kernel
theorem dX0_bedBehind_35 : decode cX0_bedBehind 35 = .ok (.aaload, 1) := by decide +kernel
theorem dX0_bedBehind_36 : decode cX0_bedBehind 36 = .ok (.iload_n 1, 1) := by decide +kernel
theorem dX0_bedBehind_37 : decode cX0_bedBehind 37 = .ok (.iaload, 1) := by decide +kernel
theorem dX0_bedBehind_38 : decode cX0_bedBehind 38 = .ok (.goto 4, 3) := by decide +kernel
theorem dX0_bedBehind_41 : decode cX0_bedBehind 41 = .ok (.iconst (-1), 1) := by decide +kernel
theorem dX0_bedBehind_42 : decode cX0_bedBehind 42 = .ok (.ireturn, 1) := by decide +kernel
theorem dX1_init_0 : decode cX1_init 0 = .ok (.aload_n 0, 1) := by decide +kernel
theorem dX1_init_1 : decode cX1_init 1 = .ok (.invokespecial 3, 3) := by decide +kernel
theorem dX1_init_4 : decode cX1_init 4 = .ok (.aload_n 0, 1) := by decide +kernel
theorem dX1_init_5 : decode cX1_init 5 = .ok (.iconst 3, 1) := by decide +kernel
theorem dX1_init_6 : decode cX1_init 6 = .ok (.anewarray 9, 3) := by decide +kernel
theorem dX1_init_9 : decode cX1_init 9 = .ok (.putfield 11, 3) := by decide +kernel
theorem dX1_init_12 : decode cX1_init 12 = .ok (.iconst 0, 1) := by decide +kernel
theorem dX1_init_13 : decode cX1_init 13 = .ok (.istore_n 1, 1) := by decide +kernel
theorem dX1_init_14 : decode cX1_init 14 = .ok (.iload_n 1, 1) := by decide +kernel
theorem dX1_init_15 : decode cX1_init 15 = .ok (.iconst 3, 1) := by decide +kernel
theorem dX1_init_16 : decode cX1_init 16 = .ok (.if_icmp .ge 22, 3) := by decide +kernel
theorem dX1_init_19 : decode cX1_init 19 = .ok (.aload_n 0, 1) := by decide +kernel
theorem dX1_init_20 : decode cX1_init 20 = .ok (.getfield 11, 3) := by decide +kernel
theorem dX1_init_23 : decode cX1_init 23 = .ok (.iload_n 1, 1) := by decide +kernel
theorem dX1_init_24 : decode cX1_init 24 = .ok (.new 9, 3) := by decide +kernel
theorem dX1_init_27 : decode cX1_init 27 = .ok (.dup, 1) := by decide +kernel
theorem dX1_init_28 : decode cX1_init 28 = .ok (.invokespecial 17, 3) := by decide +kernel
theorem dX1_init_31 : decode cX1_init 31 = .ok (.aastore, 1) := by decide +kernel
theorem dX1_init_32 : decode cX1_init 32 = .ok (.iinc 1 1, 3) := by decide +kernel
theorem dX1_init_35 : decode cX1_init 35 = .ok (.goto (-21), 3) := by decide +kernel
theorem dX1_init_38 : decode cX1_init 38 = .ok (.aload_n 0, 1) := by decide +kernel
theorem dX1_init_39 : decode cX1_init 39 = .ok (.iconst 0, 1) := by decide +kernel
theorem dX1_init_40 : decode cX1_init 40 = .ok (.putfield 18, 3) := by decide +kernel
theorem dX1_init_43 : decode cX1_init 43 = .ok (.aload_n 0, 1) := by decide +kernel
theorem dX1_init_44 : decode cX1_init 44 = .ok (.iconst (-1), 1) := by decide +kernel
theorem dX1_init_45 : decode cX1_init 45 = .ok (.putfield 22, 3) := by decide +kernel
theorem dX1_init_48 : decode cX1_init 48 = .ok (.return_, 1) := by decide +kernel
theorem dX1_hoursInBed_0 : decode cX1_hoursInBed 0 = .ok (.aload_n 0, 1) := by decide +kernel
theorem dX1_hoursInBed_1 : decode cX1_hoursInBed 1 = .ok (.getfield 18, 3) := by decide +kernel
theorem dX1_hoursInBed_4 : decode cX1_hoursInBed 4 = .ok (.ireturn, 1) := by decide +kernel
theorem dX1_firstHearer_0 : decode cX1_firstHearer 0 = .ok (.aload_n 0, 1) := by decide +kernel
theorem dX1_firstHearer_1 : decode cX1_firstHearer 1 = .ok (.getfield 22, 3) := by decide +kernel
theorem dX1_firstHearer_4 : decode cX1_firstHearer 4 = .ok (.ireturn, 1) := by decide +kernel
theorem dX1_make_0 : decode cX1_make 0 = .ok (.aload_n 0, 1) := by decide +kernel
theorem dX1_make_1 : decode cX1_make 1 = .ok (.iconst (-1), 1) := by decide +kernel
theorem dX1_make_2 : decode cX1_make 2 = .ok (.putfield 22, 3) := by decide +kernel
theorem dX1_make_5 : decode cX1_make 5 = .ok (.aload_n 0, 1) := by decide +kernel
theorem dX1_make_6 : decode cX1_make 6 = .ok (.aload_n 0, 1) := by decide +kernel
theorem dX1_make_7 : decode cX1_make 7 = .ok (.aload_n 1, 1) := by decide +kernel
theorem dX1_make_8 : decode cX1_make 8 = .ok (.iload_n 2, 1) := by decide +kernel
theorem dX1_make_9 : decode cX1_make 9 = .ok (.iconst 0, 1) := by decide +kernel
theorem dX1_make_10 : decode cX1_make 10 = .ok (.iload_n 3, 1) := by decide +kernel
theorem dX1_make_11 : decode cX1_make 11 = .ok (.iconst 3, 1) := by decide +kernel
theorem dX1_make_12 : decode cX1_make 12 = .ok (.invokestatic 25, 3) := by decide +kernel
theorem dX1_make_15 : decode cX1_make 15 = .ok (.invokevirtual 31, 3) := by decide +kernel
theorem dX1_make_18 : decode cX1_make 18 = .ok (.putfield 18, 3) := by decide +kernel
theorem dX1_make_21 : decode cX1_make 21 = .ok (.return_, 1) := by decide +kernel
theorem dX1_most_0 : decode cX1_most 0 = .ok (.iload_n 3, 1) := by decide +kernel
theorem dX1_most_1 : decode cX1_most 1 = .ok (.ifCond .lt 18, 3) := by decide +kernel
theorem dX1_most_4 : decode cX1_most 4 = .ok (.iload_n 3, 1) := by decide +kernel
theorem dX1_most_5 : decode cX1_most 5 = .ok (.iload 4, 2) := by decide +kernel
theorem dX1_most_7 : decode cX1_most 7 = .ok (.if_icmp .ge 12, 3) := by decide +kernel
theorem dX1_most_10 : decode cX1_most 10 = .ok (.iload_n 3, 1) := by decide +kernel
theorem dX1_most_11 : decode cX1_most 11 = .ok (.aload_n 0, 1) := by decide +kernel
theorem dX1_most_12 : decode cX1_most 12 = .ok (.getfield 11, 3) := by decide +kernel
theorem dX1_most_15 : decode cX1_most 15 = .ok (.arraylength, 1) := by decide +kernel
theorem dX1_most_16 : decode cX1_most 16 = .ok (.if_icmp .lt 5, 3) := by decide +kernel
theorem dX1_most_19 : decode cX1_most 19 = .ok (.iconst 0, 1) := by decide +kernel
theorem dX1_most_20 : decode cX1_most 20 = .ok (.ireturn, 1) := by decide +kernel
theorem dX1_most_21 : decode cX1_most 21 = .ok (.aload_n 0, 1) := by decide +kernel
theorem dX1_most_22 : decode cX1_most 22 = .ok (.getfield 11, 3) := by decide +kernel
theorem dX1_most_25 : decode cX1_most 25 = .ok (.iload_n 3, 1) := by decide +kernel
theorem dX1_most_26 : decode cX1_most 26 = .ok (.aaload, 1) := by decide +kernel
theorem dX1_most_27 : decode cX1_most 27 = .ok (.astore 5, 2) := by decide +kernel
theorem dX1_most_29 : decode cX1_most 29 = .ok (.iconst (-1), 1) := by decide +kernel
theorem dX1_most_30 : decode cX1_most 30 = .ok (.istore 6, 2) := by decide +kernel
theorem dX1_most_32 : decode cX1_most 32 = .ok (.iconst (-1), 1) := by decide +kernel
theorem dX1_most_33 : decode cX1_most 33 = .ok (.istore 7, 2) := by decide +kernel
theorem dX1_most_35 : decode cX1_most 35 = .ok (.iload 7, 2) := by decide +kernel
theorem dX1_most_37 : decode cX1_most 37 = .ok (.aload_n 1, 1) := by decide +kernel
theorem dX1_most_38 : decode cX1_most 38 = .ok (.invokevirtual 35, 3) := by decide +kernel
theorem dX1_most_41 : decode cX1_most 41 = .ok (.if_icmp .ge 97, 3) := by decide +kernel
theorem dX1_most_44 : decode cX1_most 44 = .ok (.iload 7, 2) := by decide +kernel
theorem dX1_most_46 : decode cX1_most 46 = .ok (.iload_n 2, 1) := by decide +kernel
theorem dX1_most_47 : decode cX1_most 47 = .ok (.if_icmp .ne 6, 3) := by decide +kernel
theorem dX1_most_50 : decode cX1_most 50 = .ok (.goto 82, 3) := by decide +kernel
theorem dX1_most_53 : decode cX1_most 53 = .ok (.aload 5, 2) := by decide +kernel
theorem dX1_most_55 : decode cX1_most 55 = .ok (.aload_n 1, 1) := by decide +kernel
theorem dX1_most_56 : decode cX1_most 56 = .ok (.invokevirtual 39, 3) := by decide +kernel
theorem dX1_most_59 : decode cX1_most 59 = .ok (.aload 5, 2) := by decide +kernel
theorem dX1_most_61 : decode cX1_most 61 = .ok (.iload 7, 2) := by decide +kernel
theorem dX1_most_63 : decode cX1_most 63 = .ok (.invokevirtual 43, 3) := by decide +kernel
theorem dX1_most_66 : decode cX1_most 66 = .ok (.aload 5, 2) := by decide +kernel
theorem dX1_most_68 : decode cX1_most 68 = .ok (.invokevirtual 47, 3) := by decide +kernel
theorem dX1_most_71 : decode cX1_most 71 = .ok (.iload_n 2, 1) := by decide +kernel
theorem dX1_most_72 : decode cX1_most 72 = .ok (.if_icmp .ne 7, 3) := by decide +kernel
theorem dX1_most_75 : decode cX1_most 75 = .ok (.iconst 1, 1) := by decide +kernel
theorem dX1_most_76 : decode cX1_most 76 = .ok (.goto 4, 3) := by decide +kernel
theorem dX1_most_79 : decode cX1_most 79 = .ok (.iconst 0, 1) := by decide +kernel
theorem dX1_most_80 : decode cX1_most 80 = .ok (.istore 8, 2) := by decide +kernel
theorem dX1_most_82 : decode cX1_most 82 = .ok (.aload 5, 2) := by decide +kernel
theorem dX1_most_84 : decode cX1_most 84 = .ok (.invokevirtual 50, 3) := by decide +kernel
theorem dX1_most_87 : decode cX1_most 87 = .ok (.iload 8, 2) := by decide +kernel
theorem dX1_most_89 : decode cX1_most 89 = .ok (.aload_n 0, 1) := by decide +kernel
theorem dX1_most_90 : decode cX1_most 90 = .ok (.aload 5, 2) := by decide +kernel
theorem dX1_most_92 : decode cX1_most 92 = .ok (.iload_n 2, 1) := by decide +kernel
theorem dX1_most_93 : decode cX1_most 93 = .ok (.iload_n 3, 1) := by decide +kernel
theorem dX1_most_94 : decode cX1_most 94 = .ok (.iconst 1, 1) := by decide +kernel
theorem dX1_most_95 : decode cX1_most 95 = .ok (.iadd, 1) := by decide +kernel
theorem dX1_most_96 : decode cX1_most 96 = .ok (.iload 4, 2) := by decide +kernel
theorem dX1_most_98 : decode cX1_most 98 = .ok (.invokevirtual 31, 3) := by decide +kernel
theorem dX1_most_101 : decode cX1_most 101 = .ok (.iadd, 1) := by decide +kernel
theorem dX1_most_102 : decode cX1_most 102 = .ok (.istore 8, 2) := by decide +kernel
theorem dX1_most_104 : decode cX1_most 104 = .ok (.iload 8, 2) := by decide +kernel
theorem dX1_most_106 : decode cX1_most 106 = .ok (.iload 6, 2) := by decide +kernel
theorem dX1_most_108 : decode cX1_most 108 = .ok (.if_icmp .le 24, 3) := by decide +kernel
theorem dX1_most_111 : decode cX1_most 111 = .ok (.iload 8, 2) := by decide +kernel
theorem dX1_most_113 : decode cX1_most 113 = .ok (.istore 6, 2) := by decide +kernel
theorem dX1_most_115 : decode cX1_most 115 = .ok (.aload_n 0, 1) := by decide +kernel
theorem dX1_most_116 : decode cX1_most 116 = .ok (.iload_n 3, 1) := by decide +kernel
theorem dX1_most_117 : decode cX1_most 117 = .ok (.ifCond .ne 8, 3) := by decide +kernel
theorem dX1_most_120 : decode cX1_most 120 = .ok (.iload 7, 2) := by decide +kernel
theorem dX1_most_122 : decode cX1_most 122 = .ok (.goto 7, 3) := by decide +kernel
theorem dX1_most_125 : decode cX1_most 125 = .ok (.aload_n 0, 1) := by decide +kernel
theorem dX1_most_126 : decode cX1_most 126 = .ok (.getfield 22, 3) := by decide +kernel
theorem dX1_most_129 : decode cX1_most 129 = .ok (.putfield 22, 3) := by decide +kernel
theorem dX1_most_132 : decode cX1_most 132 = .ok (.iinc 7 1, 3) := by decide +kernel
theorem dX1_most_135 : decode cX1_most 135 = .ok (.goto (-100), 3) := by decide +kernel
theorem dX1_most_138 : decode cX1_most 138 = .ok (.iload 6, 2) := by decide +kernel
theorem dX1_most_140 : decode cX1_most 140 = .ok (.ireturn, 1) := by decide +kernel
theorem dX2_init_0 : decode cX2_init 0 = .ok (.aload_n 0, 1) := by decide +kernel
theorem dX2_init_1 : decode cX2_init 1 = .ok (.invokespecial 3, 3) := by decide +kernel
theorem dX2_init_4 : decode cX2_init 4 = .ok (.aload_n 0, 1) := by decide +kernel
theorem dX2_init_5 : decode cX2_init 5 = .ok (.iconst 5, 1) := by decide +kernel
theorem dX2_init_6 : decode cX2_init 6 = .ok (.newarray .int, 2) := by decide +kernel
theorem dX2_init_8 : decode cX2_init 8 = .ok (.putfield 9, 3) := by decide +kernel
theorem dX2_init_11 : decode cX2_init 11 = .ok (.aload_n 0, 1) := by decide +kernel
theorem dX2_init_12 : decode cX2_init 12 = .ok (.iconst 5, 1) := by decide +kernel
theorem dX2_init_13 : decode cX2_init 13 = .ok (.newarray .int, 2) := by decide +kernel
theorem dX2_init_15 : decode cX2_init 15 = .ok (.putfield 15, 3) := by decide +kernel
theorem dX2_init_18 : decode cX2_init 18 = .ok (.aload_n 0, 1) := by decide +kernel
theorem dX2_init_19 : decode cX2_init 19 = .ok (.iconst 5, 1) := by decide +kernel
theorem dX2_init_20 : decode cX2_init 20 = .ok (.newarray .boolean, 2) := by decide +kernel
theorem dX2_init_22 : decode cX2_init 22 = .ok (.putfield 18, 3) := by decide +kernel
theorem dX2_init_25 : decode cX2_init 25 = .ok (.aload_n 0, 1) := by decide +kernel
theorem dX2_init_26 : decode cX2_init 26 = .ok (.iconst 5, 1) := by decide +kernel
theorem dX2_init_27 : decode cX2_init 27 = .ok (.newarray .int, 2) := by decide +kernel
theorem dX2_init_29 : decode cX2_init 29 = .ok (.putfield 22, 3) := by decide +kernel
theorem dX2_init_32 : decode cX2_init 32 = .ok (.aload_n 0, 1) := by decide +kernel
theorem dX2_init_33 : decode cX2_init 33 = .ok (.iconst 0, 1) := by decide +kernel
theorem dX2_init_34 : decode cX2_init 34 = .ok (.putfield 25, 3) := by decide +kernel
theorem dX2_init_37 : decode cX2_init 37 = .ok (.aload_n 0, 1) := by decide +kernel
theorem dX2_init_38 : decode cX2_init 38 = .ok (.iconst 0, 1) := by decide +kernel
theorem dX2_init_39 : decode cX2_init 39 = .ok (.putfield 29, 3) := by decide +kernel
theorem dX2_init_42 : decode cX2_init 42 = .ok (.aload_n 0, 1) := by decide +kernel
theorem dX2_init_43 : decode cX2_init 43 = .ok (.iconst 0, 1) := by decide +kernel
theorem dX2_init_44 : decode cX2_init 44 = .ok (.putfield 32, 3) := by decide +kernel
theorem dX2_init_47 : decode cX2_init 47 = .ok (.return_, 1) := by decide +kernel
theorem dX2_begin_0 : decode cX2_begin 0 = .ok (.aload_n 0, 1) := by decide +kernel
theorem dX2_begin_1 : decode cX2_begin 1 = .ok (.aload_n 1, 1) := by decide +kernel
theorem dX2_begin_2 : decode cX2_begin 2 = .ok (.invokevirtual 35, 3) := by decide +kernel
theorem dX2_begin_5 : decode cX2_begin 5 = .ok (.iconst 5, 1) := by decide +kernel
theorem dX2_begin_6 : decode cX2_begin 6 = .ok (.invokestatic 40, 3) := by decide +kernel
theorem dX2_begin_9 : decode cX2_begin 9 = .ok (.putfield 25, 3) := by decide +kernel
theorem dX2_begin_12 : decode cX2_begin 12 = .ok (.aload_n 0, 1) := by decide +kernel
theorem dX2_begin_13 : decode cX2_begin 13 = .ok (.aload_n 1, 1) := by decide +kernel
theorem dX2_begin_14 : decode cX2_begin 14 = .ok (.invokevirtual 46, 3) := by decide +kernel
theorem dX2_begin_17 : decode cX2_begin 17 = .ok (.putfield 29, 3) := by decide +kernel
theorem dX2_begin_20 : decode cX2_begin 20 = .ok (.aload_n 0, 1) := by decide +kernel
theorem dX2_begin_21 : decode cX2_begin 21 = .ok (.iconst 0, 1) := by decide +kernel
theorem dX2_begin_22 : decode cX2_begin 22 = .ok (.putfield 32, 3) := by decide +kernel
theorem dX2_begin_25 : decode cX2_begin 25 = .ok (.iconst 0, 1) := by decide +kernel
theorem dX2_begin_26 : decode cX2_begin 26 = .ok (.istore_n 2, 1) := by decide +kernel
theorem dX2_begin_27 : decode cX2_begin 27 = .ok (.iload_n 2, 1) := by decide +kernel
theorem dX2_begin_28 : decode cX2_begin 28 = .ok (.aload_n 0, 1) := by decide +kernel
theorem dX2_begin_29 : decode cX2_begin 29 = .ok (.getfield 25, 3) := by decide +kernel
theorem dX2_begin_32 : decode cX2_begin 32 = .ok (.if_icmp .ge 45, 3) := by decide +kernel
theorem dX2_begin_35 : decode cX2_begin 35 = .ok (.aload_n 0, 1) := by decide +kernel
theorem dX2_begin_36 : decode cX2_begin 36 = .ok (.getfield 9, 3) := by decide +kernel
theorem dX2_begin_39 : decode cX2_begin 39 = .ok (.iload_n 2, 1) := by decide +kernel
theorem dX2_begin_40 : decode cX2_begin 40 = .ok (.aload_n 1, 1) := by decide +kernel
theorem dX2_begin_41 : decode cX2_begin 41 = .ok (.iload_n 2, 1) := by decide +kernel
theorem dX2_begin_42 : decode cX2_begin 42 = .ok (.invokevirtual 48, 3) := by decide +kernel
theorem dX2_begin_45 : decode cX2_begin 45 = .ok (.iastore, 1) := by decide +kernel
theorem dX2_begin_46 : decode cX2_begin 46 = .ok (.aload_n 0, 1) := by decide +kernel
theorem dX2_begin_47 : decode cX2_begin 47 = .ok (.getfield 15, 3) := by decide +kernel
theorem dX2_begin_50 : decode cX2_begin 50 = .ok (.iload_n 2, 1) := by decide +kernel
theorem dX2_begin_51 : decode cX2_begin 51 = .ok (.aload_n 1, 1) := by decide +kernel
theorem dX2_begin_52 : decode cX2_begin 52 = .ok (.iload_n 2, 1) := by decide +kernel
theorem dX2_begin_53 : decode cX2_begin 53 = .ok (.invokevirtual 52, 3) := by decide +kernel
theorem dX2_begin_56 : decode cX2_begin 56 = .ok (.iastore, 1) := by decide +kernel
theorem dX2_begin_57 : decode cX2_begin 57 = .ok (.aload_n 0, 1) := by decide +kernel
theorem dX2_begin_58 : decode cX2_begin 58 = .ok (.getfield 18, 3) := by decide +kernel
theorem dX2_begin_61 : decode cX2_begin 61 = .ok (.iload_n 2, 1) := by decide +kernel
theorem dX2_begin_62 : decode cX2_begin 62 = .ok (.iconst 0, 1) := by decide +kernel
theorem dX2_begin_63 : decode cX2_begin 63 = .ok (.bastore, 1) := by decide +kernel
theorem dX2_begin_64 : decode cX2_begin 64 = .ok (.aload_n 0, 1) := by decide +kernel
theorem dX2_begin_65 : decode cX2_begin 65 = .ok (.getfield 22, 3) := by decide +kernel
theorem dX2_begin_68 : decode cX2_begin 68 = .ok (.iload_n 2, 1) := by decide +kernel
theorem dX2_begin_69 : decode cX2_begin 69 = .ok (.iconst 0, 1) := by decide +kernel
theorem dX2_begin_70 : decode cX2_begin 70 = .ok (.iastore, 1) := by decide +kernel
theorem dX2_begin_71 : decode cX2_begin 71 = .ok (.iinc 2 1, 3) := by decide +kernel
theorem dX2_begin_74 : decode cX2_begin 74 = .ok (.goto (-47), 3) := by decide +kernel
theorem dX2_begin_77 : decode cX2_begin 77 = .ok (.return_, 1) := by decide +kernel
theorem dX2_copyFrom_0 : decode cX2_copyFrom 0 = .ok (.aload_n 0, 1) := by decide +kernel
theorem dX2_copyFrom_1 : decode cX2_copyFrom 1 = .ok (.aload_n 1, 1) := by decide +kernel
theorem dX2_copyFrom_2 : decode cX2_copyFrom 2 = .ok (.getfield 25, 3) := by decide +kernel
theorem dX2_copyFrom_5 : decode cX2_copyFrom 5 = .ok (.putfield 25, 3) := by decide +kernel
theorem dX2_copyFrom_8 : decode cX2_copyFrom 8 = .ok (.aload_n 0, 1) := by decide +kernel
theorem dX2_copyFrom_9 : decode cX2_copyFrom 9 = .ok (.aload_n 1, 1) := by decide +kernel
theorem dX2_copyFrom_10 : decode cX2_copyFrom 10 = .ok (.getfield 29, 3) := by decide +kernel
theorem dX2_copyFrom_13 : decode cX2_copyFrom 13 = .ok (.putfield 29, 3) := by decide +kernel
theorem dX2_copyFrom_16 : decode cX2_copyFrom 16 = .ok (.aload_n 0, 1) := by decide +kernel
theorem dX2_copyFrom_17 : decode cX2_copyFrom 17 = .ok (.aload_n 1, 1) := by decide +kernel
theorem dX2_copyFrom_18 : decode cX2_copyFrom 18 = .ok (.getfield 32, 3) := by decide +kernel
theorem dX2_copyFrom_21 : decode cX2_copyFrom 21 = .ok (.putfield 32, 3) := by decide +kernel
theorem dX2_copyFrom_24 : decode cX2_copyFrom 24 = .ok (.iconst 0, 1) := by decide +kernel
theorem dX2_copyFrom_25 : decode cX2_copyFrom 25 = .ok (.istore_n 2, 1) := by decide +kernel
theorem dX2_copyFrom_26 : decode cX2_copyFrom 26 = .ok (.iload_n 2, 1) := by decide +kernel
theorem dX2_copyFrom_27 : decode cX2_copyFrom 27 = .ok (.aload_n 0, 1) := by decide +kernel
theorem dX2_copyFrom_28 : decode cX2_copyFrom 28 = .ok (.getfield 25, 3) := by decide +kernel
theorem dX2_copyFrom_31 : decode cX2_copyFrom 31 = .ok (.if_icmp .ge 57, 3) := by decide +kernel
theorem dX2_copyFrom_34 : decode cX2_copyFrom 34 = .ok (.aload_n 0, 1) := by decide +kernel
theorem dX2_copyFrom_35 : decode cX2_copyFrom 35 = .ok (.getfield 9, 3) := by decide +kernel
theorem dX2_copyFrom_38 : decode cX2_copyFrom 38 = .ok (.iload_n 2, 1) := by decide +kernel
theorem dX2_copyFrom_39 : decode cX2_copyFrom 39 = .ok (.aload_n 1, 1) := by decide +kernel
theorem dX2_copyFrom_40 : decode cX2_copyFrom 40 = .ok (.getfield 9, 3) := by decide +kernel
theorem dX2_copyFrom_43 : decode cX2_copyFrom 43 = .ok (.iload_n 2, 1) := by decide +kernel
theorem dX2_copyFrom_44 : decode cX2_copyFrom 44 = .ok (.iaload, 1) := by decide +kernel
theorem dX2_copyFrom_45 : decode cX2_copyFrom 45 = .ok (.iastore, 1) := by decide +kernel
theorem dX2_copyFrom_46 : decode cX2_copyFrom 46 = .ok (.aload_n 0, 1) := by decide +kernel
theorem dX2_copyFrom_47 : decode cX2_copyFrom 47 = .ok (.getfield 15, 3) := by decide +kernel
theorem dX2_copyFrom_50 : decode cX2_copyFrom 50 = .ok (.iload_n 2, 1) := by decide +kernel
theorem dX2_copyFrom_51 : decode cX2_copyFrom 51 = .ok (.aload_n 1, 1) := by decide +kernel
theorem dX2_copyFrom_52 : decode cX2_copyFrom 52 = .ok (.getfield 15, 3) := by decide +kernel
theorem dX2_copyFrom_55 : decode cX2_copyFrom 55 = .ok (.iload_n 2, 1) := by decide +kernel
theorem dX2_copyFrom_56 : decode cX2_copyFrom 56 = .ok (.iaload, 1) := by decide +kernel
theorem dX2_copyFrom_57 : decode cX2_copyFrom 57 = .ok (.iastore, 1) := by decide +kernel
theorem dX2_copyFrom_58 : decode cX2_copyFrom 58 = .ok (.aload_n 0, 1) := by decide +kernel
theorem dX2_copyFrom_59 : decode cX2_copyFrom 59 = .ok (.getfield 18, 3) := by decide +kernel
theorem dX2_copyFrom_62 : decode cX2_copyFrom 62 = .ok (.iload_n 2, 1) := by decide +kernel
theorem dX2_copyFrom_63 : decode cX2_copyFrom 63 = .ok (.aload_n 1, 1) := by decide +kernel
theorem dX2_copyFrom_64 : decode cX2_copyFrom 64 = .ok (.getfield 18, 3) := by decide +kernel
theorem dX2_copyFrom_67 : decode cX2_copyFrom 67 = .ok (.iload_n 2, 1) := by decide +kernel
theorem dX2_copyFrom_68 : decode cX2_copyFrom 68 = .ok (.baload, 1) := by decide +kernel
theorem dX2_copyFrom_69 : decode cX2_copyFrom 69 = .ok (.bastore, 1) := by decide +kernel
theorem dX2_copyFrom_70 : decode cX2_copyFrom 70 = .ok (.aload_n 0, 1) := by decide +kernel
theorem dX2_copyFrom_71 : decode cX2_copyFrom 71 = .ok (.getfield 22, 3) := by decide +kernel
theorem dX2_copyFrom_74 : decode cX2_copyFrom 74 = .ok (.iload_n 2, 1) := by decide +kernel
theorem dX2_copyFrom_75 : decode cX2_copyFrom 75 = .ok (.aload_n 1, 1) := by decide +kernel
theorem dX2_copyFrom_76 : decode cX2_copyFrom 76 = .ok (.getfield 22, 3) := by decide +kernel
theorem dX2_copyFrom_79 : decode cX2_copyFrom 79 = .ok (.iload_n 2, 1) := by decide +kernel
theorem dX2_copyFrom_80 : decode cX2_copyFrom 80 = .ok (.iaload, 1) := by decide +kernel
theorem dX2_copyFrom_81 : decode cX2_copyFrom 81 = .ok (.iastore, 1) := by decide +kernel
theorem dX2_copyFrom_82 : decode cX2_copyFrom 82 = .ok (.iinc 2 1, 3) := by decide +kernel
theorem dX2_copyFrom_85 : decode cX2_copyFrom 85 = .ok (.goto (-59), 3) := by decide +kernel
theorem dX2_copyFrom_88 : decode cX2_copyFrom 88 = .ok (.return_, 1) := by decide +kernel
theorem dX2_knows_0 : decode cX2_knows 0 = .ok (.iload_n 1, 1) := by decide +kernel
theorem dX2_knows_1 : decode cX2_knows 1 = .ok (.ifCond .lt 15, 3) := by decide +kernel
theorem dX2_knows_4 : decode cX2_knows 4 = .ok (.iload_n 1, 1) := by decide +kernel
theorem dX2_knows_5 : decode cX2_knows 5 = .ok (.aload_n 0, 1) := by decide +kernel
theorem dX2_knows_6 : decode cX2_knows 6 = .ok (.getfield 25, 3) := by decide +kernel
theorem dX2_knows_9 : decode cX2_knows 9 = .ok (.if_icmp .ge 7, 3) := by decide +kernel
theorem dX2_knows_12 : decode cX2_knows 12 = .ok (.iconst 1, 1) := by decide +kernel
theorem dX2_knows_13 : decode cX2_knows 13 = .ok (.goto 4, 3) := by decide +kernel
theorem dX2_knows_16 : decode cX2_knows 16 = .ok (.iconst 0, 1) := by decide +kernel
theorem dX2_knows_17 : decode cX2_knows 17 = .ok (.ireturn, 1) := by decide +kernel
theorem dX2_lodgers_0 : decode cX2_lodgers 0 = .ok (.aload_n 0, 1) := by decide +kernel
theorem dX2_lodgers_1 : decode cX2_lodgers 1 = .ok (.getfield 25, 3) := by decide +kernel
theorem dX2_lodgers_4 : decode cX2_lodgers 4 = .ok (.ireturn, 1) := by decide +kernel
theorem dX2_drowse_0 : decode cX2_drowse 0 = .ok (.aload_n 0, 1) := by decide +kernel
theorem dX2_drowse_1 : decode cX2_drowse 1 = .ok (.getfield 29, 3) := by decide +kernel
theorem dX2_drowse_4 : decode cX2_drowse 4 = .ok (.ireturn, 1) := by decide +kernel
theorem dX2_hoursPassed_0 : decode cX2_hoursPassed 0 = .ok (.aload_n 0, 1) := by decide +kernel
theorem dX2_hoursPassed_1 : decode cX2_hoursPassed 1 = .ok (.getfield 32, 3) := by decide +kernel
theorem dX2_hoursPassed_4 : decode cX2_hoursPassed 4 = .ok (.ireturn, 1) := by decide +kernel
theorem dX2_kindOf_0 : decode cX2_kindOf 0 = .ok (.aload_n 0, 1) := by decide +kernel
theorem dX2_kindOf_1 : decode cX2_kindOf 1 = .ok (.iload_n 1, 1) := by decide +kernel
theorem dX2_kindOf_2 : decode cX2_kindOf 2 = .ok (.invokevirtual 55, 3) := by decide +kernel
theorem dX2_kindOf_5 : decode cX2_kindOf 5 = .ok (.ifCond .eq 12, 3) := by decide +kernel
theorem dX2_kindOf_8 : decode cX2_kindOf 8 = .ok (.aload_n 0, 1) := by decide +kernel
theorem dX2_kindOf_9 : decode cX2_kindOf 9 = .ok (.getfield 9, 3) := by decide +kernel
theorem dX2_kindOf_12 : decode cX2_kindOf 12 = .ok (.iload_n 1, 1) := by decide +kernel
theorem dX2_kindOf_13 : decode cX2_kindOf 13 = .ok (.iaload, 1) := by decide +kernel
theorem dX2_kindOf_14 : decode cX2_kindOf 14 = .ok (.goto 4, 3) := by decide +kernel
theorem dX2_kindOf_17 : decode cX2_kindOf 17 = .ok (.iconst (-1), 1) := by decide +kernel
theorem dX2_kindOf_18 : decode cX2_kindOf 18 = .ok (.ireturn, 1) := by decide +kernel
theorem dX2_tiredOf_0 : decode cX2_tiredOf 0 = .ok (.aload_n 0, 1) := by decide +kernel
theorem dX2_tiredOf_1 : decode cX2_tiredOf 1 = .ok (.iload_n 1, 1) := by decide +kernel
theorem dX2_tiredOf_2 : decode cX2_tiredOf 2 = .ok (.invokevirtual 55, 3) := by decide +kernel
theorem dX2_tiredOf_5 : decode cX2_tiredOf 5 = .ok (.ifCond .eq 12, 3) := by decide +kernel
theorem dX2_tiredOf_8 : decode cX2_tiredOf 8 = .ok (.aload_n 0, 1) := by decide +kernel
theorem dX2_tiredOf_9 : decode cX2_tiredOf 9 = .ok (.getfield 15, 3) := by decide +kernel
theorem dX2_tiredOf_12 : decode cX2_tiredOf 12 = .ok (.iload_n 1, 1) := by decide +kernel
theorem dX2_tiredOf_13 : decode cX2_tiredOf 13 = .ok (.iaload, 1) := by decide +kernel
theorem dX2_tiredOf_14 : decode cX2_tiredOf 14 = .ok (.goto 4, 3) := by decide +kernel
theorem dX2_tiredOf_17 : decode cX2_tiredOf 17 = .ok (.iconst (-1), 1) := by decide +kernel
theorem dX2_tiredOf_18 : decode cX2_tiredOf 18 = .ok (.ireturn, 1) := by decide +kernel
theorem dX2_sleeps_0 : decode cX2_sleeps 0 = .ok (.aload_n 0, 1) := by decide +kernel
theorem dX2_sleeps_1 : decode cX2_sleeps 1 = .ok (.iload_n 1, 1) := by decide +kernel
theorem dX2_sleeps_2 : decode cX2_sleeps 2 = .ok (.invokevirtual 55, 3) := by decide +kernel
theorem dX2_sleeps_5 : decode cX2_sleeps 5 = .ok (.ifCond .eq 16, 3) := by decide +kernel
theorem dX2_sleeps_8 : decode cX2_sleeps 8 = .ok (.aload_n 0, 1) := by decide +kernel
theorem dX2_sleeps_9 : decode cX2_sleeps 9 = .ok (.getfield 18, 3) := by decide +kernel
theorem dX2_sleeps_12 : decode cX2_sleeps 12 = .ok (.iload_n 1, 1) := by decide +kernel
theorem dX2_sleeps_13 : decode cX2_sleeps 13 = .ok (.baload, 1) := by decide +kernel
theorem dX2_sleeps_14 : decode cX2_sleeps 14 = .ok (.ifCond .eq 7, 3) := by decide +kernel
theorem dX2_sleeps_17 : decode cX2_sleeps 17 = .ok (.iconst 1, 1) := by decide +kernel
theorem dX2_sleeps_18 : decode cX2_sleeps 18 = .ok (.goto 4, 3) := by decide +kernel
theorem dX2_sleeps_21 : decode cX2_sleeps 21 = .ok (.iconst 0, 1) := by decide +kernel
theorem dX2_sleeps_22 : decode cX2_sleeps 22 = .ok (.ireturn, 1) := by decide +kernel
theorem dX2_bedHoursOf_0 : decode cX2_bedHoursOf 0 = .ok (.aload_n 0, 1) := by decide +kernel
theorem dX2_bedHoursOf_1 : decode cX2_bedHoursOf 1 = .ok (.iload_n 1, 1) := by decide +kernel
theorem dX2_bedHoursOf_2 : decode cX2_bedHoursOf 2 = .ok (.invokevirtual 55, 3) := by decide +kernel
theorem dX2_bedHoursOf_5 : decode cX2_bedHoursOf 5 = .ok (.ifCond .eq 12, 3) := by decide +kernel
theorem dX2_bedHoursOf_8 : decode cX2_bedHoursOf 8 = .ok (.aload_n 0, 1) := by decide +kernel
theorem dX2_bedHoursOf_9 : decode cX2_bedHoursOf 9 = .ok (.getfield 22, 3) := by decide +kernel
theorem dX2_bedHoursOf_12 : decode cX2_bedHoursOf 12 = .ok (.iload_n 1, 1) := by decide +kernel
theorem dX2_bedHoursOf_13 : decode cX2_bedHoursOf 13 = .ok (.iaload, 1) := by decide +kernel
theorem dX2_bedHoursOf_14 : decode cX2_bedHoursOf 14 = .ok (.goto 4, 3) := by decide +kernel
theorem dX2_bedHoursOf_17 : decode cX2_bedHoursOf 17 = .ok (.iconst (-1), 1) := by decide +kernel
theorem dX2_bedHoursOf_18 : decode cX2_bedHoursOf 18 = .ok (.ireturn, 1) := by decide +kernel
theorem dX2_sleepers_0 : decode cX2_sleepers 0 = .ok (.iconst 0, 1) := by decide +kernel
theorem dX2_sleepers_1 : decode cX2_sleepers 1 = .ok (.istore_n 1, 1) := by decide +kernel
theorem dX2_sleepers_2 : decode cX2_sleepers 2 = .ok (.iconst 0, 1) := by decide +kernel
theorem dX2_sleepers_3 : decode cX2_sleepers 3 = .ok (.istore_n 2, 1) := by decide +kernel
theorem dX2_sleepers_4 : decode cX2_sleepers 4 = .ok (.iload_n 2, 1) := by decide +kernel
theorem dX2_sleepers_5 : decode cX2_sleepers 5 = .ok (.aload_n 0, 1) := by decide +kernel
theorem dX2_sleepers_6 : decode cX2_sleepers 6 = .ok (.getfield 25, 3) := by decide +kernel
theorem dX2_sleepers_9 : decode cX2_sleepers 9 = .ok (.if_icmp .ge 26, 3) := by decide +kernel
theorem dX2_sleepers_12 : decode cX2_sleepers 12 = .ok (.iload_n 1, 1) := by decide +kernel
theorem dX2_sleepers_13 : decode cX2_sleepers 13 = .ok (.aload_n 0, 1) := by decide +kernel
theorem dX2_sleepers_14 : decode cX2_sleepers 14 = .ok (.getfield 18, 3) := by decide +kernel
theorem dX2_sleepers_17 : decode cX2_sleepers 17 = .ok (.iload_n 2, 1) := by decide +kernel
theorem dX2_sleepers_18 : decode cX2_sleepers 18 = .ok (.baload, 1) := by decide +kernel
theorem dX2_sleepers_19 : decode cX2_sleepers 19 = .ok (.ifCond .eq 7, 3) := by decide +kernel
theorem dX2_sleepers_22 : decode cX2_sleepers 22 = .ok (.iconst 1, 1) := by decide +kernel
theorem dX2_sleepers_23 : decode cX2_sleepers 23 = .ok (.goto 4, 3) := by decide +kernel
theorem dX2_sleepers_26 : decode cX2_sleepers 26 = .ok (.iconst 0, 1) := by decide +kernel
theorem dX2_sleepers_27 : decode cX2_sleepers 27 = .ok (.iadd, 1) := by decide +kernel
theorem dX2_sleepers_28 : decode cX2_sleepers 28 = .ok (.istore_n 1, 1) := by decide +kernel
theorem dX2_sleepers_29 : decode cX2_sleepers 29 = .ok (.iinc 2 1, 3) := by decide +kernel
theorem dX2_sleepers_32 : decode cX2_sleepers 32 = .ok (.goto (-28), 3) := by decide +kernel
theorem dX2_sleepers_35 : decode cX2_sleepers 35 = .ok (.iload_n 1, 1) := by decide +kernel
theorem dX2_sleepers_36 : decode cX2_sleepers 36 = .ok (.ireturn, 1) := by decide +kernel
theorem dX2_tiredTogether_0 : decode cX2_tiredTogether 0 = .ok (.iconst 0, 1) := by decide +kernel
theorem dX2_tiredTogether_1 : decode cX2_tiredTogether 1 = .ok (.istore_n 1, 1) := by decide +kernel
theorem dX2_tiredTogether_2 : decode cX2_tiredTogether 2 = .ok (.iconst 0, 1) := by decide +kernel
theorem dX2_tiredTogether_3 : decode cX2_tiredTogether 3 = .ok (.istore_n 2, 1) := by decide +kernel
theorem dX2_tiredTogether_4 : decode cX2_tiredTogether 4 = .ok (.iload_n 2, 1) := by decide +kernel
theorem dX2_tiredTogether_5 : decode cX2_tiredTogether 5 = .ok (.aload_n 0, 1) := by decide +kernel
theorem dX2_tiredTogether_6 : decode cX2_tiredTogether 6 = .ok (.getfield 25, 3) := by decide +kernel
theorem dX2_tiredTogether_9 : decode cX2_tiredTogether 9 = .ok (.if_icmp .ge 18, 3) := by decide +kernel
theorem dX2_tiredTogether_12 : decode cX2_tiredTogether 12 = .ok (.iload_n 1, 1) := by decide +kernel
theorem dX2_tiredTogether_13 : decode cX2_tiredTogether 13 = .ok (.aload_n 0, 1) := by decide +kernel
theorem dX2_tiredTogether_14 : decode cX2_tiredTogether 14 = .ok (.getfield 15, 3) := by decide +kernel
theorem dX2_tiredTogether_17 : decode cX2_tiredTogether 17 = .ok (.iload_n 2, 1) := by decide +kernel
theorem dX2_tiredTogether_18 : decode cX2_tiredTogether 18 = .ok (.iaload, 1) := by decide +kernel
theorem dX2_tiredTogether_19 : decode cX2_tiredTogether 19 = .ok (.iadd, 1) := by decide +kernel
theorem dX2_tiredTogether_20 : decode cX2_tiredTogether 20 = .ok (.istore_n 1, 1) := by decide +kernel
theorem dX2_tiredTogether_21 : decode cX2_tiredTogether 21 = .ok (.iinc 2 1, 3) := by decide +kernel
theorem dX2_tiredTogether_24 : decode cX2_tiredTogether 24 = .ok (.goto (-20), 3) := by decide +kernel
theorem dX2_tiredTogether_27 : decode cX2_tiredTogether 27 = .ok (.iload_n 1, 1) := by decide +kernel
theorem dX2_tiredTogether_28 : decode cX2_tiredTogether 28 = .ok (.ireturn, 1) := by decide +kernel
theorem dX2_whoseBed_0 : decode cX2_whoseBed 0 = .ok (.iconst (-1), 1) := by decide +kernel
theorem dX2_whoseBed_1 : decode cX2_whoseBed 1 = .ok (.istore_n 1, 1) := by decide +kernel
theorem dX2_whoseBed_2 : decode cX2_whoseBed 2 = .ok (.bipush 10, 2) := by decide +kernel
theorem dX2_whoseBed_4 : decode cX2_whoseBed 4 = .ok (.istore_n 2, 1) := by decide +kernel
theorem dX2_whoseBed_5 : decode cX2_whoseBed 5 = .ok (.iconst 0, 1) := by decide +kernel
theorem dX2_whoseBed_6 : decode cX2_whoseBed 6 = .ok (.istore_n 3, 1) := by decide +kernel
theorem dX2_whoseBed_7 : decode cX2_whoseBed 7 = .ok (.iload_n 3, 1) := by decide +kernel
theorem dX2_whoseBed_8 : decode cX2_whoseBed 8 = .ok (.aload_n 0, 1) := by decide +kernel
theorem dX2_whoseBed_9 : decode cX2_whoseBed 9 = .ok (.getfield 25, 3) := by decide +kernel
theorem dX2_whoseBed_12 : decode cX2_whoseBed 12 = .ok (.if_icmp .ge 36, 3) := by decide +kernel
theorem dX2_whoseBed_15 : decode cX2_whoseBed 15 = .ok (.aload_n 0, 1) := by decide +kernel
theorem dX2_whoseBed_16 : decode cX2_whoseBed 16 = .ok (.iload_n 3, 1) := by decide +kernel
theorem dX2_whoseBed_17 : decode cX2_whoseBed 17 = .ok (.invokevirtual 59, 3) := by decide +kernel
theorem dX2_whoseBed_20 : decode cX2_whoseBed 20 = .ok (.ifCond .eq 22, 3) := by decide +kernel
theorem dX2_whoseBed_23 : decode cX2_whoseBed 23 = .ok (.aload_n 0, 1) := by decide +kernel
theorem dX2_whoseBed_24 : decode cX2_whoseBed 24 = .ok (.getfield 15, 3) := by decide +kernel
theorem dX2_whoseBed_27 : decode cX2_whoseBed 27 = .ok (.iload_n 3, 1) := by decide +kernel
theorem dX2_whoseBed_28 : decode cX2_whoseBed 28 = .ok (.iaload, 1) := by decide +kernel
theorem dX2_whoseBed_29 : decode cX2_whoseBed 29 = .ok (.iload_n 2, 1) := by decide +kernel
theorem dX2_whoseBed_30 : decode cX2_whoseBed 30 = .ok (.if_icmp .ge 12, 3) := by decide +kernel
theorem dX2_whoseBed_33 : decode cX2_whoseBed 33 = .ok (.iload_n 3, 1) := by decide +kernel
theorem dX2_whoseBed_34 : decode cX2_whoseBed 34 = .ok (.istore_n 1, 1) := by decide +kernel
theorem dX2_whoseBed_35 : decode cX2_whoseBed 35 = .ok (.aload_n 0, 1) := by decide +kernel
theorem dX2_whoseBed_36 : decode cX2_whoseBed 36 = .ok (.getfield 15, 3) := by decide +kernel
theorem dX2_whoseBed_39 : decode cX2_whoseBed 39 = .ok (.iload_n 3, 1) := by decide +kernel
theorem dX2_whoseBed_40 : decode cX2_whoseBed 40 = .ok (.iaload, 1) := by decide +kernel
theorem dX2_whoseBed_41 : decode cX2_whoseBed 41 = .ok (.istore_n 2, 1) := by decide +kernel
theorem dX2_whoseBed_42 : decode cX2_whoseBed 42 = .ok (.iinc 3 1, 3) := by decide +kernel
theorem dX2_whoseBed_45 : decode cX2_whoseBed 45 = .ok (.goto (-38), 3) := by decide +kernel
theorem dX2_whoseBed_48 : decode cX2_whoseBed 48 = .ok (.iload_n 1, 1) := by decide +kernel
theorem dX2_whoseBed_49 : decode cX2_whoseBed 49 = .ok (.ireturn, 1) := by decide +kernel
theorem dX2_giveCoffee_0 : decode cX2_giveCoffee 0 = .ok (.aload_n 0, 1) := by decide +kernel
theorem dX2_giveCoffee_1 : decode cX2_giveCoffee 1 = .ok (.iload_n 1, 1) := by decide +kernel
theorem dX2_giveCoffee_2 : decode cX2_giveCoffee 2 = .ok (.invokevirtual 55, 3) := by decide +kernel
theorem dX2_giveCoffee_5 : decode cX2_giveCoffee 5 = .ok (.ifCond .eq 30, 3) := by decide +kernel
theorem dX2_giveCoffee_8 : decode cX2_giveCoffee 8 = .ok (.aload_n 0, 1) := by decide +kernel
theorem dX2_giveCoffee_9 : decode cX2_giveCoffee 9 = .ok (.getfield 18, 3) := by decide +kernel
theorem dX2_giveCoffee_12 : decode cX2_giveCoffee 12 = .ok (.iload_n 1, 1) := by decide +kernel
theorem dX2_giveCoffee_13 : decode cX2_giveCoffee 13 = .ok (.baload, 1) := by decide +kernel
theorem dX2_giveCoffee_14 : decode cX2_giveCoffee 14 = .ok (.ifCond .ne 21, 3) := by decide +kernel
theorem dX2_giveCoffee_17 : decode cX2_giveCoffee 17 = .ok (.aload_n 0, 1) := by decide +kernel
theorem dX2_giveCoffee_18 : decode cX2_giveCoffee 18 = .ok (.getfield 15, 3) := by decide +kernel
theorem dX2_giveCoffee_21 : decode cX2_giveCoffee 21 = .ok (.iload_n 1, 1) := by decide +kernel
theorem dX2_giveCoffee_22 : decode cX2_giveCoffee 22 = .ok (.iconst 0, 1) := by decide +kernel
theorem dX2_giveCoffee_23 : decode cX2_giveCoffee 23 = .ok (.aload_n 0, 1) := by decide +kernel
theorem dX2_giveCoffee_24 : decode cX2_giveCoffee 24 = .ok (.getfield 15, 3) := by decide +kernel
theorem dX2_giveCoffee_27 : decode cX2_giveCoffee 27 = .ok (.iload_n 1, 1) := by decide +kernel
theorem dX2_giveCoffee_28 : decode cX2_giveCoffee 28 = .ok (.iaload, 1) := by decide +kernel
theorem dX2_giveCoffee_29 : decode cX2_giveCoffee 29 = .ok (.iconst 3, 1) := by decide +kernel
theorem dX2_giveCoffee_30 : decode cX2_giveCoffee 30 = .ok (.isub, 1) := by decide +kernel
theorem dX2_giveCoffee_31 : decode cX2_giveCoffee 31 = .ok (.invokestatic 62, 3) := by decide +kernel
theorem dX2_giveCoffee_34 : decode cX2_giveCoffee 34 = .ok (.iastore, 1) := by decide +kernel
theorem dX2_giveCoffee_35 : decode cX2_giveCoffee 35 = .ok (.return_, 1) := by decide +kernel
theorem dX2_giveLecture_0 : decode cX2_giveLecture 0 = .ok (.aload_n 0, 1) := by decide +kernel
theorem dX2_giveLecture_1 : decode cX2_giveLecture 1 = .ok (.iload_n 1, 1) := by decide +kernel
theorem dX2_giveLecture_2 : decode cX2_giveLecture 2 = .ok (.invokevirtual 55, 3) := by decide +kernel
theorem dX2_giveLecture_5 : decode cX2_giveLecture 5 = .ok (.ifCond .eq 27, 3) := by decide +kernel
theorem dX2_giveLecture_8 : decode cX2_giveLecture 8 = .ok (.aload_n 0, 1) := by decide +kernel
theorem dX2_giveLecture_9 : decode cX2_giveLecture 9 = .ok (.getfield 18, 3) := by decide +kernel
theorem dX2_giveLecture_12 : decode cX2_giveLecture 12 = .ok (.iload_n 1, 1) := by decide +kernel
theorem dX2_giveLecture_13 : decode cX2_giveLecture 13 = .ok (.baload, 1) := by decide +kernel
theorem dX2_giveLecture_14 : decode cX2_giveLecture 14 = .ok (.ifCond .ne 18, 3) := by decide +kernel
theorem dX2_giveLecture_17 : decode cX2_giveLecture 17 = .ok (.aload_n 0, 1) := by decide +kernel
theorem dX2_giveLecture_18 : decode cX2_giveLecture 18 = .ok (.getfield 15, 3) := by decide +kernel
theorem dX2_giveLecture_21 : decode cX2_giveLecture 21 = .ok (.iload_n 1, 1) := by decide +kernel
theorem dX2_giveLecture_22 : decode cX2_giveLecture 22 = .ok (.dup2, 1) := by decide +kernel
theorem dX2_giveLecture_23 : decode cX2_giveLecture 23 = .ok (.iaload, 1) := by decide +kernel
theorem dX2_giveLecture_24 : decode cX2_giveLecture 24 = .ok (.iconst 2, 1) := by decide +kernel
theorem dX2_giveLecture_25 : decode cX2_giveLecture 25 = .ok (.iadd, 1) := by decide +kernel
theorem dX2_giveLecture_26 : decode cX2_giveLecture 26 = .ok (.iastore, 1) := by decide +kernel
theorem dX2_giveLecture_27 : decode cX2_giveLecture 27 = .ok (.aload_n 0, 1) := by decide +kernel
theorem dX2_giveLecture_28 : decode cX2_giveLecture 28 = .ok (.iload_n 1, 1) := by decide +kernel
theorem dX2_giveLecture_29 : decode cX2_giveLecture 29 = .ok (.invokevirtual 65, 3) := by decide +kernel
theorem dX2_giveLecture_32 : decode cX2_giveLecture 32 = .ok (.return_, 1) := by decide +kernel
theorem dX2_passHour_0 : decode cX2_passHour 0 = .ok (.aload_n 0, 1) := by decide +kernel
theorem dX2_passHour_1 : decode cX2_passHour 1 = .ok (.invokevirtual 69, 3) := by decide +kernel
theorem dX2_passHour_4 : decode cX2_passHour 4 = .ok (.istore_n 1, 1) := by decide +kernel
theorem dX2_passHour_5 : decode cX2_passHour 5 = .ok (.aload_n 0, 1) := by decide +kernel
theorem dX2_passHour_6 : decode cX2_passHour 6 = .ok (.dup, 1) := by decide +kernel
theorem dX2_passHour_7 : decode cX2_passHour 7 = .ok (.getfield 32, 3) := by decide +kernel
theorem dX2_passHour_10 : decode cX2_passHour 10 = .ok (.iconst 1, 1) := by decide +kernel
theorem dX2_passHour_11 : decode cX2_passHour 11 = .ok (.iadd, 1) := by decide +kernel
theorem dX2_passHour_12 : decode cX2_passHour 12 = .ok (.putfield 32, 3) := by decide +kernel
theorem dX2_passHour_15 : decode cX2_passHour 15 = .ok (.aload_n 0, 1) := by decide +kernel
theorem dX2_passHour_16 : decode cX2_passHour 16 = .ok (.iload_n 1, 1) := by decide +kernel
theorem dX2_passHour_17 : decode cX2_passHour 17 = .ok (.invokevirtual 55, 3) := by decide +kernel
theorem dX2_passHour_20 : decode cX2_passHour 20 = .ok (.ifCond .eq 26, 3) := by decide +kernel
theorem dX2_passHour_23 : decode cX2_passHour 23 = .ok (.aload_n 0, 1) := by decide +kernel
theorem dX2_passHour_24 : decode cX2_passHour 24 = .ok (.getfield 22, 3) := by decide +kernel
theorem dX2_passHour_27 : decode cX2_passHour 27 = .ok (.iload_n 1, 1) := by decide +kernel
theorem dX2_passHour_28 : decode cX2_passHour 28 = .ok (.dup2, 1) := by decide +kernel
theorem dX2_passHour_29 : decode cX2_passHour 29 = .ok (.iaload, 1) := by decide +kernel
theorem dX2_passHour_30 : decode cX2_passHour 30 = .ok (.iconst 1, 1) := by decide +kernel
theorem dX2_passHour_31 : decode cX2_passHour 31 = .ok (.iadd, 1) := by decide +kernel
theorem dX2_passHour_32 : decode cX2_passHour 32 = .ok (.iastore, 1) := by decide +kernel
theorem dX2_passHour_33 : decode cX2_passHour 33 = .ok (.aload_n 0, 1) := by decide +kernel
theorem dX2_passHour_34 : decode cX2_passHour 34 = .ok (.getfield 15, 3) := by decide +kernel
theorem dX2_passHour_37 : decode cX2_passHour 37 = .ok (.iload_n 1, 1) := by decide +kernel
theorem dX2_passHour_38 : decode cX2_passHour 38 = .ok (.dup2, 1) := by decide +kernel
theorem dX2_passHour_39 : decode cX2_passHour 39 = .ok (.iaload, 1) := by decide +kernel
theorem dX2_passHour_40 : decode cX2_passHour 40 = .ok (.aload_n 0, 1) := by decide +kernel
theorem dX2_passHour_41 : decode cX2_passHour 41 = .ok (.getfield 29, 3) := by decide +kernel
theorem dX2_passHour_44 : decode cX2_passHour 44 = .ok (.iadd, 1) := by decide +kernel
theorem dX2_passHour_45 : decode cX2_passHour 45 = .ok (.iastore, 1) := by decide +kernel
theorem dX2_passHour_46 : decode cX2_passHour 46 = .ok (.iconst 0, 1) := by decide +kernel
theorem dX2_passHour_47 : decode cX2_passHour 47 = .ok (.istore_n 2, 1) := by decide +kernel
theorem dX2_passHour_48 : decode cX2_passHour 48 = .ok (.iload_n 2, 1) := by decide +kernel
theorem dX2_passHour_49 : decode cX2_passHour 49 = .ok (.aload_n 0, 1) := by decide +kernel
theorem dX2_passHour_50 : decode cX2_passHour 50 = .ok (.getfield 25, 3) := by decide +kernel
theorem dX2_passHour_53 : decode cX2_passHour 53 = .ok (.if_icmp .ge 82, 3) := by decide +kernel
theorem dX2_passHour_56 : decode cX2_passHour 56 = .ok (.aload_n 0, 1) := by decide +kernel
theorem dX2_passHour_57 : decode cX2_passHour 57 = .ok (.getfield 18, 3) := by decide +kernel
theorem dX2_passHour_60 : decode cX2_passHour 60 = .ok (.iload_n 2, 1) := by decide +kernel
theorem dX2_passHour_61 : decode cX2_passHour 61 = .ok (.baload, 1) := by decide +kernel
theorem dX2_passHour_62 : decode cX2_passHour 62 = .ok (.ifCond .eq 24, 3) := by decide +kernel
theorem dX2_passHour_65 : decode cX2_passHour 65 = .ok (.aload_n 0, 1) := by decide +kernel
theorem dX2_passHour_66 : decode cX2_passHour 66 = .ok (.getfield 15, 3) := by decide +kernel
theorem dX2_passHour_69 : decode cX2_passHour 69 = .ok (.iload_n 2, 1) := by decide +kernel
theorem dX2_passHour_70 : decode cX2_passHour 70 = .ok (.iconst 0, 1) := by decide +kernel
theorem dX2_passHour_71 : decode cX2_passHour 71 = .ok (.aload_n 0, 1) := by decide +kernel
theorem dX2_passHour_72 : decode cX2_passHour 72 = .ok (.getfield 15, 3) := by decide +kernel
theorem dX2_passHour_75 : decode cX2_passHour 75 = .ok (.iload_n 2, 1) := by decide +kernel
theorem dX2_passHour_76 : decode cX2_passHour 76 = .ok (.iaload, 1) := by decide +kernel
theorem dX2_passHour_77 : decode cX2_passHour 77 = .ok (.iconst 3, 1) := by decide +kernel
theorem dX2_passHour_78 : decode cX2_passHour 78 = .ok (.isub, 1) := by decide +kernel
theorem dX2_passHour_79 : decode cX2_passHour 79 = .ok (.invokestatic 62, 3) := by decide +kernel
theorem dX2_passHour_82 : decode cX2_passHour 82 = .ok (.iastore, 1) := by decide +kernel
theorem dX2_passHour_83 : decode cX2_passHour 83 = .ok (.goto 41, 3) := by decide +kernel
theorem dX2_passHour_86 : decode cX2_passHour 86 = .ok (.aload_n 0, 1) := by decide +kernel
theorem dX2_passHour_87 : decode cX2_passHour 87 = .ok (.getfield 15, 3) := by decide +kernel
theorem dX2_passHour_90 : decode cX2_passHour 90 = .ok (.iload_n 2, 1) := by decide +kernel
theorem dX2_passHour_91 : decode cX2_passHour 91 = .ok (.dup2, 1) := by decide +kernel
theorem dX2_passHour_92 : decode cX2_passHour 92 = .ok (.iaload, 1) := by decide +kernel
theorem dX2_passHour_93 : decode cX2_passHour 93 = .ok (.aload_n 0, 1) := by decide +kernel
theorem dX2_passHour_94 : decode cX2_passHour 94 = .ok (.getfield 9, 3) := by decide +kernel
theorem dX2_passHour_97 : decode cX2_passHour 97 = .ok (.iload_n 2, 1) := by decide +kernel
theorem dX2_passHour_98 : decode cX2_passHour 98 = .ok (.iaload, 1) := by decide +kernel
theorem dX2_passHour_99 : decode cX2_passHour 99 = .ok (.aload_n 0, 1) := by decide +kernel
theorem dX2_passHour_100 : decode cX2_passHour 100 = .ok (.getfield 15, 3) := by decide +kernel
theorem dX2_passHour_103 : decode cX2_passHour 103 = .ok (.iload_n 2, 1) := by decide +kernel
theorem dX2_passHour_104 : decode cX2_passHour 104 = .ok (.iaload, 1) := by decide +kernel
theorem dX2_passHour_105 : decode cX2_passHour 105 = .ok (.aload_n 0, 1) := by decide +kernel
theorem dX2_passHour_106 : decode cX2_passHour 106 = .ok (.getfield 32, 3) := by decide +kernel
theorem dX2_passHour_109 : decode cX2_passHour 109 = .ok (.iload_n 2, 1) := by decide +kernel
theorem dX2_passHour_110 : decode cX2_passHour 110 = .ok (.iload_n 1, 1) := by decide +kernel
theorem dX2_passHour_111 : decode cX2_passHour 111 = .ok (.if_icmp .ne 7, 3) := by decide +kernel
theorem dX2_passHour_114 : decode cX2_passHour 114 = .ok (.iconst 1, 1) := by decide +kernel
theorem dX2_passHour_115 : decode cX2_passHour 115 = .ok (.goto 4, 3) := by decide +kernel
theorem dX2_passHour_118 : decode cX2_passHour 118 = .ok (.iconst 0, 1) := by decide +kernel
theorem dX2_passHour_119 : decode cX2_passHour 119 = .ok (.invokestatic 72, 3) := by decide +kernel
theorem dX2_passHour_122 : decode cX2_passHour 122 = .ok (.iadd, 1) := by decide +kernel
theorem dX2_passHour_123 : decode cX2_passHour 123 = .ok (.iastore, 1) := by decide +kernel
theorem dX2_passHour_124 : decode cX2_passHour 124 = .ok (.aload_n 0, 1) := by decide +kernel
theorem dX2_passHour_125 : decode cX2_passHour 125 = .ok (.iload_n 2, 1) := by decide +kernel
theorem dX2_passHour_126 : decode cX2_passHour 126 = .ok (.invokevirtual 65, 3) := by decide +kernel
theorem dX2_passHour_129 : decode cX2_passHour 129 = .ok (.iinc 2 1, 3) := by decide +kernel
theorem dX2_passHour_132 : decode cX2_passHour 132 = .ok (.goto (-84), 3) := by decide +kernel
theorem dX2_passHour_135 : decode cX2_passHour 135 = .ok (.return_, 1) := by decide +kernel
theorem dX2_wakeAs_0 : decode cX2_wakeAs 0 = .ok (.aload_n 0, 1) := by decide +kernel
theorem dX2_wakeAs_1 : decode cX2_wakeAs 1 = .ok (.iload_n 1, 1) := by decide +kernel
theorem dX2_wakeAs_2 : decode cX2_wakeAs 2 = .ok (.invokevirtual 55, 3) := by decide +kernel
theorem dX2_wakeAs_5 : decode cX2_wakeAs 5 = .ok (.ifCond .eq 17, 3) := by decide +kernel
theorem dX2_wakeAs_8 : decode cX2_wakeAs 8 = .ok (.aload_n 0, 1) := by decide +kernel
theorem dX2_wakeAs_9 : decode cX2_wakeAs 9 = .ok (.getfield 15, 3) := by decide +kernel
theorem dX2_wakeAs_12 : decode cX2_wakeAs 12 = .ok (.iload_n 1, 1) := by decide +kernel
theorem dX2_wakeAs_13 : decode cX2_wakeAs 13 = .ok (.iload_n 2, 1) := by decide +kernel
theorem dX2_wakeAs_14 : decode cX2_wakeAs 14 = .ok (.iastore, 1) := by decide +kernel
theorem dX2_wakeAs_15 : decode cX2_wakeAs 15 = .ok (.aload_n 0, 1) := by decide +kernel
theorem dX2_wakeAs_16 : decode cX2_wakeAs 16 = .ok (.getfield 18, 3) := by decide +kernel
theorem dX2_wakeAs_19 : decode cX2_wakeAs 19 = .ok (.iload_n 1, 1) := by decide +kernel
theorem dX2_wakeAs_20 : decode cX2_wakeAs 20 = .ok (.iconst 0, 1) := by decide +kernel
theorem dX2_wakeAs_21 : decode cX2_wakeAs 21 = .ok (.bastore, 1) := by decide +kernel
theorem dX2_wakeAs_22 : decode cX2_wakeAs 22 = .ok (.return_, 1) := by decide +kernel
theorem dX2_keepsBed_0 : decode cX2_keepsBed 0 = .ok (.iconst 1, 1) := by decide +kernel
theorem dX2_keepsBed_1 : decode cX2_keepsBed 1 = .ok (.istore_n 3, 1) := by decide +kernel
theorem dX2_keepsBed_2 : decode cX2_keepsBed 2 = .ok (.iload_n 3, 1) := by decide +kernel
theorem dX2_keepsBed_3 : decode cX2_keepsBed 3 = .ok (.iload_n 2, 1) := by decide +kernel
theorem dX2_keepsBed_4 : decode cX2_keepsBed 4 = .ok (.bipush 6, 2) := by decide +kernel
theorem dX2_keepsBed_6 : decode cX2_keepsBed 6 = .ok (.invokestatic 40, 3) := by decide +kernel
theorem dX2_keepsBed_9 : decode cX2_keepsBed 9 = .ok (.if_icmp .ge 21, 3) := by decide +kernel
theorem dX2_keepsBed_12 : decode cX2_keepsBed 12 = .ok (.aload_n 0, 1) := by decide +kernel
theorem dX2_keepsBed_13 : decode cX2_keepsBed 13 = .ok (.invokevirtual 69, 3) := by decide +kernel
theorem dX2_keepsBed_16 : decode cX2_keepsBed 16 = .ok (.iload_n 1, 1) := by decide +kernel
theorem dX2_keepsBed_17 : decode cX2_keepsBed 17 = .ok (.if_icmp .ne 13, 3) := by decide +kernel
theorem dX2_keepsBed_20 : decode cX2_keepsBed 20 = .ok (.aload_n 0, 1) := by decide +kernel
theorem dX2_keepsBed_21 : decode cX2_keepsBed 21 = .ok (.invokevirtual 76, 3) := by decide +kernel
theorem dX2_keepsBed_24 : decode cX2_keepsBed 24 = .ok (.iinc 3 1, 3) := by decide +kernel
theorem dX2_keepsBed_27 : decode cX2_keepsBed 27 = .ok (.goto (-25), 3) := by decide +kernel
theorem dX2_keepsBed_30 : decode cX2_keepsBed 30 = .ok (.aload_n 0, 1) := by decide +kernel
theorem dX2_keepsBed_31 : decode cX2_keepsBed 31 = .ok (.invokevirtual 69, 3) := by decide +kernel
theorem dX2_keepsBed_34 : decode cX2_keepsBed 34 = .ok (.iload_n 1, 1) := by decide +kernel
theorem dX2_keepsBed_35 : decode cX2_keepsBed 35 = .ok (.if_icmp .ne 7, 3) := by decide +kernel
theorem dX2_keepsBed_38 : decode cX2_keepsBed 38 = .ok (.iconst 1, 1) := by decide +kernel
theorem dX2_keepsBed_39 : decode cX2_keepsBed 39 = .ok (.goto 4, 3) := by decide +kernel
theorem dX2_keepsBed_42 : decode cX2_keepsBed 42 = .ok (.iconst 0, 1) := by decide +kernel
theorem dX2_keepsBed_43 : decode cX2_keepsBed 43 = .ok (.ireturn, 1) := by decide +kernel
theorem dX2_mostWakefulPair_0 : decode cX2_mostWakefulPair 0 = .ok (.iconst (-1), 1) := by decide +kernel
theorem dX2_mostWakefulPair_1 : decode cX2_mostWakefulPair 1 = .ok (.istore_n 1, 1) := by decide +kernel
theorem dX2_mostWakefulPair_2 : decode cX2_mostWakefulPair 2 = .ok (.iconst (-1), 1) := by decide +kernel
theorem dX2_mostWakefulPair_3 : decode cX2_mostWakefulPair 3 = .ok (.istore_n 2, 1) := by decide +kernel
theorem dX2_mostWakefulPair_4 : decode cX2_mostWakefulPair 4 = .ok (.iconst 0, 1) := by decide +kernel
theorem dX2_mostWakefulPair_5 : decode cX2_mostWakefulPair 5 = .ok (.istore_n 3, 1) := by decide +kernel
theorem dX2_mostWakefulPair_6 : decode cX2_mostWakefulPair 6 = .ok (.iload_n 3, 1) := by decide +kernel
theorem dX2_mostWakefulPair_7 : decode cX2_mostWakefulPair 7 = .ok (.aload_n 0, 1) := by decide +kernel
theorem dX2_mostWakefulPair_8 : decode cX2_mostWakefulPair 8 = .ok (.getfield 25, 3) := by decide +kernel
theorem dX2_mostWakefulPair_11 : decode cX2_mostWakefulPair 11 = .ok (.if_icmp .ge 76, 3) := by decide +kernel
theorem dX2_mostWakefulPair_14 : decode cX2_mostWakefulPair 14 = .ok (.iload_n 3, 1) := by decide +kernel
theorem dX2_mostWakefulPair_15 : decode cX2_mostWakefulPair 15 = .ok (.iconst 1, 1) := by decide +kernel
theorem dX2_mostWakefulPair_16 : decode cX2_mostWakefulPair 16 = .ok (.iadd, 1) := by decide +kernel
theorem dX2_mostWakefulPair_17 : decode cX2_mostWakefulPair 17 = .ok (.istore 4, 2) := by decide +kernel
theorem dX2_mostWakefulPair_19 : decode cX2_mostWakefulPair 19 = .ok (.iload 4, 2) := by decide +kernel
theorem dX2_mostWakefulPair_21 : decode cX2_mostWakefulPair 21 = .ok (.aload_n 0, 1) := by decide +kernel
theorem dX2_mostWakefulPair_22 : decode cX2_mostWakefulPair 22 = .ok (.getfield 25, 3) := by decide +kernel
theorem dX2_mostWakefulPair_25 : decode cX2_mostWakefulPair 25 = .ok (.if_icmp .ge 56, 3) := by decide +kernel
theorem dX2_mostWakefulPair_28 : decode cX2_mostWakefulPair 28 = .ok (.aload_n 0, 1) := by decide +kernel
theorem dX2_mostWakefulPair_29 : decode cX2_mostWakefulPair 29 = .ok (.iload_n 3, 1) := by decide +kernel
theorem dX2_mostWakefulPair_30 : decode cX2_mostWakefulPair 30 = .ok (.invokevirtual 59, 3) := by decide +kernel
theorem dX2_mostWakefulPair_33 : decode cX2_mostWakefulPair 33 = .ok (.ifCond .eq 22, 3) := by decide +kernel
theorem dX2_mostWakefulPair_36 : decode cX2_mostWakefulPair 36 = .ok (.aload_n 0, 1) := by decide +kernel
theorem dX2_mostWakefulPair_37 : decode cX2_mostWakefulPair 37 = .ok (.iload 4, 2) := by decide +kernel
theorem dX2_mostWakefulPair_39 : decode cX2_mostWakefulPair 39 = .ok (.invokevirtual 59, 3) := by decide +kernel
theorem dX2_mostWakefulPair_42 : decode cX2_mostWakefulPair 42 = .ok (.ifCond .eq 13, 3) := by decide +kernel
theorem dX2_mostWakefulPair_45 : decode cX2_mostWakefulPair 45 = .ok (.aload_n 0, 1) := by decide +kernel
theorem dX2_mostWakefulPair_46 : decode cX2_mostWakefulPair 46 = .ok (.iload_n 3, 1) := by decide +kernel
theorem dX2_mostWakefulPair_47 : decode cX2_mostWakefulPair 47 = .ok (.iload 4, 2) := by decide +kernel
theorem dX2_mostWakefulPair_49 : decode cX2_mostWakefulPair 49 = .ok (.invokevirtual 79, 3) := by decide +kernel
theorem dX2_mostWakefulPair_52 : decode cX2_mostWakefulPair 52 = .ok (.goto 4, 3) := by decide +kernel
theorem dX2_mostWakefulPair_55 : decode cX2_mostWakefulPair 55 = .ok (.iconst (-1), 1) := by decide +kernel
theorem dX2_mostWakefulPair_56 : decode cX2_mostWakefulPair 56 = .ok (.istore 5, 2) := by decide +kernel
theorem dX2_mostWakefulPair_58 : decode cX2_mostWakefulPair 58 = .ok (.iload 5, 2) := by decide +kernel
theorem dX2_mostWakefulPair_60 : decode cX2_mostWakefulPair 60 = .ok (.iload_n 2, 1) := by decide +kernel
theorem dX2_mostWakefulPair_61 : decode cX2_mostWakefulPair 61 = .ok (.if_icmp .le 14, 3) := by decide +kernel
theorem dX2_mostWakefulPair_64 : decode cX2_mostWakefulPair 64 = .ok (.bipush 10, 2) := by decide +kernel
theorem dX2_mostWakefulPair_66 : decode cX2_mostWakefulPair 66 = .ok (.iload_n 3, 1) := by decide +kernel
theorem dX2_mostWakefulPair_67 : decode cX2_mostWakefulPair 67 = .ok (.imul, 1) := by decide +kernel
theorem dX2_mostWakefulPair_68 : decode cX2_mostWakefulPair 68 = .ok (.iload 4, 2) := by decide +kernel
theorem dX2_mostWakefulPair_70 : decode cX2_mostWakefulPair 70 = .ok (.iadd, 1) := by decide +kernel
theorem dX2_mostWakefulPair_71 : decode cX2_mostWakefulPair 71 = .ok (.istore_n 1, 1) := by decide +kernel
theorem dX2_mostWakefulPair_72 : decode cX2_mostWakefulPair 72 = .ok (.iload 5, 2) := by decide +kernel
theorem dX2_mostWakefulPair_74 : decode cX2_mostWakefulPair 74 = .ok (.istore_n 2, 1) := by decide +kernel
theorem dX2_mostWakefulPair_75 : decode cX2_mostWakefulPair 75 = .ok (.iinc 4 1, 3) := by decide +kernel
theorem dX2_mostWakefulPair_78 : decode cX2_mostWakefulPair 78 = .ok (.goto (-59), 3) := by decide +kernel
theorem dX2_mostWakefulPair_81 : decode cX2_mostWakefulPair 81 = .ok (.iinc 3 1, 3) := by decide +kernel
theorem dX2_mostWakefulPair_84 : decode cX2_mostWakefulPair 84 = .ok (.goto (-78), 3) := by decide +kernel
theorem dX2_mostWakefulPair_87 : decode cX2_mostWakefulPair 87 = .ok (.iload_n 1, 1) := by decide +kernel
theorem dX2_mostWakefulPair_88 : decode cX2_mostWakefulPair 88 = .ok (.ireturn, 1) := by decide +kernel
theorem dX2_hoursTogether_0 : decode cX2_hoursTogether 0 = .ok (.aload_n 0, 1) := by decide +kernel
theorem dX2_hoursTogether_1 : decode cX2_hoursTogether 1 = .ok (.iload_n 1, 1) := by decide +kernel
theorem dX2_hoursTogether_2 : decode cX2_hoursTogether 2 = .ok (.invokevirtual 82, 3) := by decide +kernel
theorem dX2_hoursTogether_5 : decode cX2_hoursTogether 5 = .ok (.aload_n 0, 1) := by decide +kernel
theorem dX2_hoursTogether_6 : decode cX2_hoursTogether 6 = .ok (.iload_n 2, 1) := by decide +kernel
theorem dX2_hoursTogether_7 : decode cX2_hoursTogether 7 = .ok (.invokevirtual 82, 3) := by decide +kernel
theorem dX2_hoursTogether_10 : decode cX2_hoursTogether 10 = .ok (.invokestatic 40, 3) := by decide +kernel
theorem dX2_hoursTogether_13 : decode cX2_hoursTogether 13 = .ok (.ireturn, 1) := by decide +kernel
theorem dX2_hoursAwakeInBed_0 : decode cX2_hoursAwakeInBed 0 = .ok (.aload_n 0, 1) := by decide +kernel
theorem dX2_hoursAwakeInBed_1 : decode cX2_hoursAwakeInBed 1 = .ok (.iload_n 1, 1) := by decide +kernel
theorem dX2_hoursAwakeInBed_2 : decode cX2_hoursAwakeInBed 2 = .ok (.invokevirtual 85, 3) := by decide +kernel
theorem dX2_hoursAwakeInBed_5 : decode cX2_hoursAwakeInBed 5 = .ok (.istore_n 2, 1) := by decide +kernel
theorem dX2_hoursAwakeInBed_6 : decode cX2_hoursAwakeInBed 6 = .ok (.aload_n 0, 1) := by decide +kernel
theorem dX2_hoursAwakeInBed_7 : decode cX2_hoursAwakeInBed 7 = .ok (.iload_n 1, 1) := by decide +kernel
theorem dX2_hoursAwakeInBed_8 : decode cX2_hoursAwakeInBed 8 = .ok (.invokevirtual 86, 3) := by decide +kernel
theorem dX2_hoursAwakeInBed_11 : decode cX2_hoursAwakeInBed 11 = .ok (.istore_n 3, 1) := by decide +kernel
theorem dX2_hoursAwakeInBed_12 : decode cX2_hoursAwakeInBed 12 = .ok (.iconst 1, 1) := by decide +kernel
theorem dX2_hoursAwakeInBed_13 : decode cX2_hoursAwakeInBed 13 = .ok (.istore 4, 2) := by decide +kernel
theorem dX2_hoursAwakeInBed_15 : decode cX2_hoursAwakeInBed 15 = .ok (.iload 4, 2) := by decide +kernel
theorem dX2_hoursAwakeInBed_17 : decode cX2_hoursAwakeInBed 17 = .ok (.bipush 60, 2) := by decide +kernel
theorem dX2_hoursAwakeInBed_19 : decode cX2_hoursAwakeInBed 19 = .ok (.if_icmp .gt 34, 3) := by decide +kernel
theorem dX2_hoursAwakeInBed_22 : decode cX2_hoursAwakeInBed 22 = .ok (.iload_n 3, 1) := by decide +kernel
theorem dX2_hoursAwakeInBed_23 : decode cX2_hoursAwakeInBed 23 = .ok (.iload_n 2, 1) := by decide +kernel
theorem dX2_hoursAwakeInBed_24 : decode cX2_hoursAwakeInBed 24 = .ok (.iload_n 3, 1) := by decide +kernel
theorem dX2_hoursAwakeInBed_25 : decode cX2_hoursAwakeInBed 25 = .ok (.aload_n 0, 1) := by decide +kernel
theorem dX2_hoursAwakeInBed_26 : decode cX2_hoursAwakeInBed 26 = .ok (.getfield 32, 3) := by decide +kernel
theorem dX2_hoursAwakeInBed_29 : decode cX2_hoursAwakeInBed 29 = .ok (.iload 4, 2) := by decide +kernel
theorem dX2_hoursAwakeInBed_31 : decode cX2_hoursAwakeInBed 31 = .ok (.iadd, 1) := by decide +kernel
theorem dX2_hoursAwakeInBed_32 : decode cX2_hoursAwakeInBed 32 = .ok (.iconst 1, 1) := by decide +kernel
theorem dX2_hoursAwakeInBed_33 : decode cX2_hoursAwakeInBed 33 = .ok (.invokestatic 72, 3) := by decide +kernel
theorem dX2_hoursAwakeInBed_36 : decode cX2_hoursAwakeInBed 36 = .ok (.iadd, 1) := by decide +kernel
theorem dX2_hoursAwakeInBed_37 : decode cX2_hoursAwakeInBed 37 = .ok (.istore_n 3, 1) := by decide +kernel
theorem dX2_hoursAwakeInBed_38 : decode cX2_hoursAwakeInBed 38 = .ok (.iload_n 3, 1) := by decide +kernel
theorem dX2_hoursAwakeInBed_39 : decode cX2_hoursAwakeInBed 39 = .ok (.bipush 10, 2) := by decide +kernel
theorem dX2_hoursAwakeInBed_41 : decode cX2_hoursAwakeInBed 41 = .ok (.if_icmp .lt 6, 3) := by decide +kernel
theorem dX2_hoursAwakeInBed_44 : decode cX2_hoursAwakeInBed 44 = .ok (.iload 4, 2) := by decide +kernel
theorem dX2_hoursAwakeInBed_46 : decode cX2_hoursAwakeInBed 46 = .ok (.ireturn, 1) := by decide +kernel
theorem dX2_hoursAwakeInBed_47 : decode cX2_hoursAwakeInBed 47 = .ok (.iinc 4 1, 3) := by decide +kernel
theorem dX2_hoursAwakeInBed_50 : decode cX2_hoursAwakeInBed 50 = .ok (.goto (-35), 3) := by decide +kernel
theorem dX2_hoursAwakeInBed_53 : decode cX2_hoursAwakeInBed 53 = .ok (.bipush 60, 2) := by decide +kernel
theorem dX2_hoursAwakeInBed_55 : decode cX2_hoursAwakeInBed 55 = .ok (.ireturn, 1) := by decide +kernel
theorem dX2_mayLieIn_0 : decode cX2_mayLieIn 0 = .ok (.iload_n 1, 1) := by decide +kernel
theorem dX2_mayLieIn_1 : decode cX2_mayLieIn 1 = .ok (.ifCond .lt 34, 3) := by decide +kernel
theorem dX2_mayLieIn_4 : decode cX2_mayLieIn 4 = .ok (.iload_n 1, 1) := by decide +kernel
theorem dX2_mayLieIn_5 : decode cX2_mayLieIn 5 = .ok (.aload_n 0, 1) := by decide +kernel
theorem dX2_mayLieIn_6 : decode cX2_mayLieIn 6 = .ok (.getfield 25, 3) := by decide +kernel
theorem dX2_mayLieIn_9 : decode cX2_mayLieIn 9 = .ok (.if_icmp .ge 26, 3) := by decide +kernel
theorem dX2_mayLieIn_12 : decode cX2_mayLieIn 12 = .ok (.aload_n 0, 1) := by decide +kernel
theorem dX2_mayLieIn_13 : decode cX2_mayLieIn 13 = .ok (.getfield 18, 3) := by decide +kernel
theorem dX2_mayLieIn_16 : decode cX2_mayLieIn 16 = .ok (.iload_n 1, 1) := by decide +kernel
theorem dX2_mayLieIn_17 : decode cX2_mayLieIn 17 = .ok (.baload, 1) := by decide +kernel
theorem dX2_mayLieIn_18 : decode cX2_mayLieIn 18 = .ok (.ifCond .ne 17, 3) := by decide +kernel
theorem dX2_mayLieIn_21 : decode cX2_mayLieIn 21 = .ok (.aload_n 0, 1) := by decide +kernel
theorem dX2_mayLieIn_22 : decode cX2_mayLieIn 22 = .ok (.getfield 9, 3) := by decide +kernel
theorem dX2_mayLieIn_25 : decode cX2_mayLieIn 25 = .ok (.iload_n 1, 1) := by decide +kernel
theorem dX2_mayLieIn_26 : decode cX2_mayLieIn 26 = .ok (.iaload, 1) := by decide +kernel
theorem dX2_mayLieIn_27 : decode cX2_mayLieIn 27 = .ok (.iconst 1, 1) := by decide +kernel
theorem dX2_mayLieIn_28 : decode cX2_mayLieIn 28 = .ok (.if_icmp .eq 7, 3) := by decide +kernel
theorem dX2_mayLieIn_31 : decode cX2_mayLieIn 31 = .ok (.iconst 1, 1) := by decide +kernel
theorem dX2_mayLieIn_32 : decode cX2_mayLieIn 32 = .ok (.goto 4, 3) := by decide +kernel
theorem dX2_mayLieIn_35 : decode cX2_mayLieIn 35 = .ok (.iconst 0, 1) := by decide +kernel
theorem dX2_mayLieIn_36 : decode cX2_mayLieIn 36 = .ok (.ireturn, 1) := by decide +kernel
theorem dX2_settle_0 : decode cX2_settle 0 = .ok (.aload_n 0, 1) := by decide +kernel
theorem dX2_settle_1 : decode cX2_settle 1 = .ok (.iload_n 1, 1) := by decide +kernel
theorem dX2_settle_2 : decode cX2_settle 2 = .ok (.invokevirtual 55, 3) := by decide +kernel
theorem dX2_settle_5 : decode cX2_settle 5 = .ok (.ifCond .ne 4, 3) := by decide +kernel
theorem dX2_settle_8 : decode cX2_settle 8 = .ok (.return_, 1) := by decide +kernel
theorem dX2_settle_9 : decode cX2_settle 9 = .ok (.aload_n 0, 1) := by decide +kernel
theorem dX2_settle_10 : decode cX2_settle 10 = .ok (.getfield 15, 3) := by decide +kernel
theorem dX2_settle_13 : decode cX2_settle 13 = .ok (.iload_n 1, 1) := by decide +kernel
theorem dX2_settle_14 : decode cX2_settle 14 = .ok (.iaload, 1) := by decide +kernel
theorem dX2_settle_15 : decode cX2_settle 15 = .ok (.bipush 10, 2) := by decide +kernel
theorem dX2_settle_17 : decode cX2_settle 17 = .ok (.if_icmp .lt 21, 3) := by decide +kernel
theorem dX2_settle_20 : decode cX2_settle 20 = .ok (.aload_n 0, 1) := by decide +kernel
theorem dX2_settle_21 : decode cX2_settle 21 = .ok (.getfield 15, 3) := by decide +kernel
theorem dX2_settle_24 : decode cX2_settle 24 = .ok (.iload_n 1, 1) := by decide +kernel
theorem dX2_settle_25 : decode cX2_settle 25 = .ok (.bipush 10, 2) := by decide +kernel
theorem dX2_settle_27 : decode cX2_settle 27 = .ok (.iastore, 1) := by decide +kernel
theorem dX2_settle_28 : decode cX2_settle 28 = .ok (.aload_n 0, 1) := by decide +kernel
theorem dX2_settle_29 : decode cX2_settle 29 = .ok (.getfield 18, 3) := by decide +kernel
theorem dX2_settle_32 : decode cX2_settle 32 = .ok (.iload_n 1, 1) := by decide +kernel
theorem dX2_settle_33 : decode cX2_settle 33 = .ok (.iconst 1, 1) := by decide +kernel
theorem dX2_settle_34 : decode cX2_settle 34 = .ok (.bastore, 1) := by decide +kernel
theorem dX2_settle_35 : decode cX2_settle 35 = .ok (.goto 20, 3) := by decide +kernel
theorem dX2_settle_38 : decode cX2_settle 38 = .ok (.aload_n 0, 1) := by decide +kernel
theorem dX2_settle_39 : decode cX2_settle 39 = .ok (.getfield 15, 3) := by decide +kernel
theorem dX2_settle_42 : decode cX2_settle 42 = .ok (.iload_n 1, 1) := by decide +kernel
theorem dX2_settle_43 : decode cX2_settle 43 = .ok (.iaload, 1) := by decide +kernel
theorem dX2_settle_44 : decode cX2_settle 44 = .ok (.iconst 2, 1) := by decide +kernel
theorem dX2_settle_45 : decode cX2_settle 45 = .ok (.if_icmp .gt 10, 3) := by decide +kernel
theorem dX2_settle_48 : decode cX2_settle 48 = .ok (.aload_n 0, 1) := by decide +kernel
theorem dX2_settle_49 : decode cX2_settle 49 = .ok (.getfield 18, 3) := by decide +kernel
