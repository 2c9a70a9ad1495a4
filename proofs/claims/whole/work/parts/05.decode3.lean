theorem dX5_digest_73 : decode cX5_digest 73 = .ok (.iinc 3 1, 3) := by decide +kernel
theorem dX5_digest_76 : decode cX5_digest 76 = .ok (.goto (-70), 3) := by decide +kernel
theorem dX5_digest_79 : decode cX5_digest 79 = .ok (.aload_n 0, 1) := by decide +kernel
theorem dX5_digest_80 : decode cX5_digest 80 = .ok (.invokevirtual 127, 3) := by decide +kernel
theorem dX5_digest_83 : decode cX5_digest 83 = .ok (.ifCond .eq 35, 3) := by decide +kernel
theorem dX5_digest_86 : decode cX5_digest 86 = .ok (.lload_n 1, 1) := by decide +kernel
theorem dX5_digest_87 : decode cX5_digest 87 = .ok (.aload_n 0, 1) := by decide +kernel
theorem dX5_digest_88 : decode cX5_digest 88 = .ok (.invokevirtual 198, 3) := by decide +kernel
theorem dX5_digest_91 : decode cX5_digest 91 = .ok (.i2l, 1) := by decide +kernel
theorem dX5_digest_92 : decode cX5_digest 92 = .ok (.invokestatic 194, 3) := by decide +kernel
theorem dX5_digest_95 : decode cX5_digest 95 = .ok (.lstore_n 1, 1) := by decide +kernel
theorem dX5_digest_96 : decode cX5_digest 96 = .ok (.lload_n 1, 1) := by decide +kernel
theorem dX5_digest_97 : decode cX5_digest 97 = .ok (.aload_n 0, 1) := by decide +kernel
theorem dX5_digest_98 : decode cX5_digest 98 = .ok (.iconst 0, 1) := by decide +kernel
theorem dX5_digest_99 : decode cX5_digest 99 = .ok (.invokevirtual 201, 3) := by decide +kernel
theorem dX5_digest_102 : decode cX5_digest 102 = .ok (.i2l, 1) := by decide +kernel
theorem dX5_digest_103 : decode cX5_digest 103 = .ok (.invokestatic 194, 3) := by decide +kernel
theorem dX5_digest_106 : decode cX5_digest 106 = .ok (.lstore_n 1, 1) := by decide +kernel
theorem dX5_digest_107 : decode cX5_digest 107 = .ok (.lload_n 1, 1) := by decide +kernel
theorem dX5_digest_108 : decode cX5_digest 108 = .ok (.aload_n 0, 1) := by decide +kernel
theorem dX5_digest_109 : decode cX5_digest 109 = .ok (.iconst 1, 1) := by decide +kernel
theorem dX5_digest_110 : decode cX5_digest 110 = .ok (.invokevirtual 201, 3) := by decide +kernel
theorem dX5_digest_113 : decode cX5_digest 113 = .ok (.i2l, 1) := by decide +kernel
theorem dX5_digest_114 : decode cX5_digest 114 = .ok (.invokestatic 194, 3) := by decide +kernel
theorem dX5_digest_117 : decode cX5_digest 117 = .ok (.lstore_n 1, 1) := by decide +kernel
theorem dX5_digest_118 : decode cX5_digest 118 = .ok (.iconst 0, 1) := by decide +kernel
theorem dX5_digest_119 : decode cX5_digest 119 = .ok (.istore_n 3, 1) := by decide +kernel
theorem dX5_digest_120 : decode cX5_digest 120 = .ok (.iload_n 3, 1) := by decide +kernel
theorem dX5_digest_121 : decode cX5_digest 121 = .ok (.aload_n 0, 1) := by decide +kernel
theorem dX5_digest_122 : decode cX5_digest 122 = .ok (.getfield 10, 3) := by decide +kernel
theorem dX5_digest_125 : decode cX5_digest 125 = .ok (.invokevirtual 68, 3) := by decide +kernel
theorem dX5_digest_128 : decode cX5_digest 128 = .ok (.if_icmp .ge 23, 3) := by decide +kernel
theorem dX5_digest_131 : decode cX5_digest 131 = .ok (.lload_n 1, 1) := by decide +kernel
theorem dX5_digest_132 : decode cX5_digest 132 = .ok (.aload_n 0, 1) := by decide +kernel
theorem dX5_digest_133 : decode cX5_digest 133 = .ok (.getfield 10, 3) := by decide +kernel
theorem dX5_digest_136 : decode cX5_digest 136 = .ok (.iload_n 3, 1) := by decide +kernel
theorem dX5_digest_137 : decode cX5_digest 137 = .ok (.invokevirtual 204, 3) := by decide +kernel
theorem dX5_digest_140 : decode cX5_digest 140 = .ok (.i2l, 1) := by decide +kernel
theorem dX5_digest_141 : decode cX5_digest 141 = .ok (.invokestatic 194, 3) := by decide +kernel
theorem dX5_digest_144 : decode cX5_digest 144 = .ok (.lstore_n 1, 1) := by decide +kernel
theorem dX5_digest_145 : decode cX5_digest 145 = .ok (.iinc 3 1, 3) := by decide +kernel
theorem dX5_digest_148 : decode cX5_digest 148 = .ok (.goto (-28), 3) := by decide +kernel
theorem dX5_digest_151 : decode cX5_digest 151 = .ok (.iconst 0, 1) := by decide +kernel
theorem dX5_digest_152 : decode cX5_digest 152 = .ok (.istore_n 3, 1) := by decide +kernel
theorem dX5_digest_153 : decode cX5_digest 153 = .ok (.iload_n 3, 1) := by decide +kernel
theorem dX5_digest_154 : decode cX5_digest 154 = .ok (.bipush 8, 2) := by decide +kernel
theorem dX5_digest_156 : decode cX5_digest 156 = .ok (.if_icmp .gt 20, 3) := by decide +kernel
theorem dX5_digest_159 : decode cX5_digest 159 = .ok (.lload_n 1, 1) := by decide +kernel
theorem dX5_digest_160 : decode cX5_digest 160 = .ok (.aload_n 0, 1) := by decide +kernel
theorem dX5_digest_161 : decode cX5_digest 161 = .ok (.iload_n 3, 1) := by decide +kernel
theorem dX5_digest_162 : decode cX5_digest 162 = .ok (.invokevirtual 207, 3) := by decide +kernel
theorem dX5_digest_165 : decode cX5_digest 165 = .ok (.i2l, 1) := by decide +kernel
theorem dX5_digest_166 : decode cX5_digest 166 = .ok (.invokestatic 194, 3) := by decide +kernel
theorem dX5_digest_169 : decode cX5_digest 169 = .ok (.lstore_n 1, 1) := by decide +kernel
theorem dX5_digest_170 : decode cX5_digest 170 = .ok (.iinc 3 1, 3) := by decide +kernel
theorem dX5_digest_173 : decode cX5_digest 173 = .ok (.goto (-20), 3) := by decide +kernel
theorem dX5_digest_176 : decode cX5_digest 176 = .ok (.lload_n 1, 1) := by decide +kernel
theorem dX5_digest_177 : decode cX5_digest 177 = .ok (.lreturn, 1) := by decide +kernel
theorem dX5_hasHouse_0 : decode cX5_hasHouse 0 = .ok (.aload_n 0, 1) := by decide +kernel
theorem dX5_hasHouse_1 : decode cX5_hasHouse 1 = .ok (.getfield 19, 3) := by decide +kernel
theorem dX5_hasHouse_4 : decode cX5_hasHouse 4 = .ok (.invokevirtual 91, 3) := by decide +kernel
theorem dX5_hasHouse_7 : decode cX5_hasHouse 7 = .ok (.ifCond .le 7, 3) := by decide +kernel
theorem dX5_hasHouse_10 : decode cX5_hasHouse 10 = .ok (.iconst 1, 1) := by decide +kernel
theorem dX5_hasHouse_11 : decode cX5_hasHouse 11 = .ok (.goto 4, 3) := by decide +kernel
theorem dX5_hasHouse_14 : decode cX5_hasHouse 14 = .ok (.iconst 0, 1) := by decide +kernel
theorem dX5_hasHouse_15 : decode cX5_hasHouse 15 = .ok (.ireturn, 1) := by decide +kernel
theorem dX5_fewestCups_0 : decode cX5_fewestCups 0 = .ok (.iconst 0, 1) := by decide +kernel
theorem dX5_fewestCups_1 : decode cX5_fewestCups 1 = .ok (.istore_n 3, 1) := by decide +kernel
theorem dX5_fewestCups_2 : decode cX5_fewestCups 2 = .ok (.iload_n 3, 1) := by decide +kernel
theorem dX5_fewestCups_3 : decode cX5_fewestCups 3 = .ok (.iconst 4, 1) := by decide +kernel
theorem dX5_fewestCups_4 : decode cX5_fewestCups 4 = .ok (.if_icmp .gt 57, 3) := by decide +kernel
theorem dX5_fewestCups_7 : decode cX5_fewestCups 7 = .ok (.aload_n 0, 1) := by decide +kernel
theorem dX5_fewestCups_8 : decode cX5_fewestCups 8 = .ok (.getfield 40, 3) := by decide +kernel
theorem dX5_fewestCups_11 : decode cX5_fewestCups 11 = .ok (.aload_n 0, 1) := by decide +kernel
theorem dX5_fewestCups_12 : decode cX5_fewestCups 12 = .ok (.getfield 19, 3) := by decide +kernel
theorem dX5_fewestCups_15 : decode cX5_fewestCups 15 = .ok (.invokevirtual 167, 3) := by decide +kernel
theorem dX5_fewestCups_18 : decode cX5_fewestCups 18 = .ok (.iconst 0, 1) := by decide +kernel
theorem dX5_fewestCups_19 : decode cX5_fewestCups 19 = .ok (.istore 4, 2) := by decide +kernel
theorem dX5_fewestCups_21 : decode cX5_fewestCups 21 = .ok (.iload 4, 2) := by decide +kernel
theorem dX5_fewestCups_23 : decode cX5_fewestCups 23 = .ok (.iload_n 3, 1) := by decide +kernel
theorem dX5_fewestCups_24 : decode cX5_fewestCups 24 = .ok (.if_icmp .ge 17, 3) := by decide +kernel
theorem dX5_fewestCups_27 : decode cX5_fewestCups 27 = .ok (.aload_n 0, 1) := by decide +kernel
theorem dX5_fewestCups_28 : decode cX5_fewestCups 28 = .ok (.getfield 40, 3) := by decide +kernel
theorem dX5_fewestCups_31 : decode cX5_fewestCups 31 = .ok (.iload_n 1, 1) := by decide +kernel
theorem dX5_fewestCups_32 : decode cX5_fewestCups 32 = .ok (.invokevirtual 130, 3) := by decide +kernel
theorem dX5_fewestCups_35 : decode cX5_fewestCups 35 = .ok (.iinc 4 1, 3) := by decide +kernel
theorem dX5_fewestCups_38 : decode cX5_fewestCups 38 = .ok (.goto (-17), 3) := by decide +kernel
theorem dX5_fewestCups_41 : decode cX5_fewestCups 41 = .ok (.aload_n 0, 1) := by decide +kernel
theorem dX5_fewestCups_42 : decode cX5_fewestCups 42 = .ok (.getfield 40, 3) := by decide +kernel
theorem dX5_fewestCups_45 : decode cX5_fewestCups 45 = .ok (.iload_n 1, 1) := by decide +kernel
theorem dX5_fewestCups_46 : decode cX5_fewestCups 46 = .ok (.iload_n 2, 1) := by decide +kernel
theorem dX5_fewestCups_47 : decode cX5_fewestCups 47 = .ok (.invokevirtual 210, 3) := by decide +kernel
theorem dX5_fewestCups_50 : decode cX5_fewestCups 50 = .ok (.ifCond .eq 5, 3) := by decide +kernel
theorem dX5_fewestCups_53 : decode cX5_fewestCups 53 = .ok (.iload_n 3, 1) := by decide +kernel
theorem dX5_fewestCups_54 : decode cX5_fewestCups 54 = .ok (.ireturn, 1) := by decide +kernel
theorem dX5_fewestCups_55 : decode cX5_fewestCups 55 = .ok (.iinc 3 1, 3) := by decide +kernel
theorem dX5_fewestCups_58 : decode cX5_fewestCups 58 = .ok (.goto (-56), 3) := by decide +kernel
theorem dX5_fewestCups_61 : decode cX5_fewestCups 61 = .ok (.iconst (-1), 1) := by decide +kernel
theorem dX5_fewestCups_62 : decode cX5_fewestCups 62 = .ok (.ireturn, 1) := by decide +kernel
theorem dX5_isWithin_0 : decode cX5_isWithin 0 = .ok (.iload_n 0, 1) := by decide +kernel
theorem dX5_isWithin_1 : decode cX5_isWithin 1 = .ok (.iload_n 1, 1) := by decide +kernel
theorem dX5_isWithin_2 : decode cX5_isWithin 2 = .ok (.if_icmp .lt 12, 3) := by decide +kernel
theorem dX5_isWithin_5 : decode cX5_isWithin 5 = .ok (.iload_n 0, 1) := by decide +kernel
theorem dX5_isWithin_6 : decode cX5_isWithin 6 = .ok (.iload_n 2, 1) := by decide +kernel
theorem dX5_isWithin_7 : decode cX5_isWithin 7 = .ok (.if_icmp .gt 7, 3) := by decide +kernel
theorem dX5_isWithin_10 : decode cX5_isWithin 10 = .ok (.iconst 1, 1) := by decide +kernel
theorem dX5_isWithin_11 : decode cX5_isWithin 11 = .ok (.goto 4, 3) := by decide +kernel
theorem dX5_isWithin_14 : decode cX5_isWithin 14 = .ok (.iconst 0, 1) := by decide +kernel
theorem dX5_isWithin_15 : decode cX5_isWithin 15 = .ok (.ireturn, 1) := by decide +kernel
theorem dX5_mixed_0 : decode cX5_mixed 0 = .ok (.ldc2_w 213, 3) := by decide +kernel
theorem dX5_mixed_3 : decode cX5_mixed 3 = .ok (.lload_n 0, 1) := by decide +kernel
theorem dX5_mixed_4 : decode cX5_mixed 4 = .ok (.lmul, 1) := by decide +kernel
theorem dX5_mixed_5 : decode cX5_mixed 5 = .ok (.lload_n 2, 1) := by decide +kernel
theorem dX5_mixed_6 : decode cX5_mixed 6 = .ok (.ladd, 1) := by decide +kernel
theorem dX5_mixed_7 : decode cX5_mixed 7 = .ok (.lreturn, 1) := by decide +kernel
theorem dX5_nextSeed_0 : decode cX5_nextSeed 0 = .ok (.ldc 215, 2) := by decide +kernel
theorem dX5_nextSeed_2 : decode cX5_nextSeed 2 = .ok (.iload_n 0, 1) := by decide +kernel
theorem dX5_nextSeed_3 : decode cX5_nextSeed 3 = .ok (.imul, 1) := by decide +kernel
theorem dX5_nextSeed_4 : decode cX5_nextSeed 4 = .ok (.sipush 12345, 3) := by decide +kernel
theorem dX5_nextSeed_7 : decode cX5_nextSeed 7 = .ok (.iadd, 1) := by decide +kernel
theorem dX5_nextSeed_8 : decode cX5_nextSeed 8 = .ok (.ldc 216, 2) := by decide +kernel
theorem dX5_nextSeed_10 : decode cX5_nextSeed 10 = .ok (.iand, 1) := by decide +kernel
theorem dX5_nextSeed_11 : decode cX5_nextSeed 11 = .ok (.ireturn, 1) := by decide +kernel
theorem dX5_drawOf_0 : decode cX5_drawOf 0 = .ok (.iload_n 1, 1) := by decide +kernel
theorem dX5_drawOf_1 : decode cX5_drawOf 1 = .ok (.ifCond .le 12, 3) := by decide +kernel
theorem dX5_drawOf_4 : decode cX5_drawOf 4 = .ok (.iload_n 0, 1) := by decide +kernel
theorem dX5_drawOf_5 : decode cX5_drawOf 5 = .ok (.ldc 217, 2) := by decide +kernel
theorem dX5_drawOf_7 : decode cX5_drawOf 7 = .ok (.idiv, 1) := by decide +kernel
theorem dX5_drawOf_8 : decode cX5_drawOf 8 = .ok (.iload_n 1, 1) := by decide +kernel
theorem dX5_drawOf_9 : decode cX5_drawOf 9 = .ok (.irem, 1) := by decide +kernel
theorem dX5_drawOf_10 : decode cX5_drawOf 10 = .ok (.goto 4, 3) := by decide +kernel
theorem dX5_drawOf_13 : decode cX5_drawOf 13 = .ok (.iconst 0, 1) := by decide +kernel
theorem dX5_drawOf_14 : decode cX5_drawOf 14 = .ok (.ireturn, 1) := by decide +kernel
theorem dX5_kindByLetter_0 : decode cX5_kindByLetter 0 = .ok (.iload_n 0, 1) := by decide +kernel
theorem dX5_kindByLetter_1 : decode cX5_kindByLetter 1 = .ok (.tableswitch 73 108 119 #[63, 69, 73, 73, 71, 73, 73, 73, 73, 73, 67, 65], 63) := by decide +kernel
theorem dX5_kindByLetter_64 : decode cX5_kindByLetter 64 = .ok (.iconst 0, 1) := by decide +kernel
theorem dX5_kindByLetter_65 : decode cX5_kindByLetter 65 = .ok (.ireturn, 1) := by decide +kernel
theorem dX5_kindByLetter_66 : decode cX5_kindByLetter 66 = .ok (.iconst 1, 1) := by decide +kernel
theorem dX5_kindByLetter_67 : decode cX5_kindByLetter 67 = .ok (.ireturn, 1) := by decide +kernel
theorem dX5_kindByLetter_68 : decode cX5_kindByLetter 68 = .ok (.iconst 2, 1) := by decide +kernel
theorem dX5_kindByLetter_69 : decode cX5_kindByLetter 69 = .ok (.ireturn, 1) := by decide +kernel
theorem dX5_kindByLetter_70 : decode cX5_kindByLetter 70 = .ok (.iconst 3, 1) := by decide +kernel
theorem dX5_kindByLetter_71 : decode cX5_kindByLetter 71 = .ok (.ireturn, 1) := by decide +kernel
theorem dX5_kindByLetter_72 : decode cX5_kindByLetter 72 = .ok (.iconst 4, 1) := by decide +kernel
theorem dX5_kindByLetter_73 : decode cX5_kindByLetter 73 = .ok (.ireturn, 1) := by decide +kernel
theorem dX5_kindByLetter_74 : decode cX5_kindByLetter 74 = .ok (.iconst (-1), 1) := by decide +kernel
theorem dX5_kindByLetter_75 : decode cX5_kindByLetter 75 = .ok (.ireturn, 1) := by decide +kernel
theorem dX5_isAlso_0 : decode cX5_isAlso 0 = .ok (.iload_n 1, 1) := by decide +kernel
theorem dX5_isAlso_1 : decode cX5_isAlso 1 = .ok (.ifCond .eq 18, 3) := by decide +kernel
theorem dX5_isAlso_4 : decode cX5_isAlso 4 = .ok (.iload_n 1, 1) := by decide +kernel
theorem dX5_isAlso_5 : decode cX5_isAlso 5 = .ok (.iload_n 0, 1) := by decide +kernel
theorem dX5_isAlso_6 : decode cX5_isAlso 6 = .ok (.if_icmp .eq 13, 3) := by decide +kernel
theorem dX5_isAlso_9 : decode cX5_isAlso 9 = .ok (.iload_n 1, 1) := by decide +kernel
theorem dX5_isAlso_10 : decode cX5_isAlso 10 = .ok (.iconst 2, 1) := by decide +kernel
theorem dX5_isAlso_11 : decode cX5_isAlso 11 = .ok (.if_icmp .ne 12, 3) := by decide +kernel
theorem dX5_isAlso_14 : decode cX5_isAlso 14 = .ok (.iload_n 0, 1) := by decide +kernel
theorem dX5_isAlso_15 : decode cX5_isAlso 15 = .ok (.iconst 4, 1) := by decide +kernel
theorem dX5_isAlso_16 : decode cX5_isAlso 16 = .ok (.if_icmp .ne 7, 3) := by decide +kernel
theorem dX5_isAlso_19 : decode cX5_isAlso 19 = .ok (.iconst 1, 1) := by decide +kernel
theorem dX5_isAlso_20 : decode cX5_isAlso 20 = .ok (.goto 4, 3) := by decide +kernel
theorem dX5_isAlso_23 : decode cX5_isAlso 23 = .ok (.iconst 0, 1) := by decide +kernel
theorem dX5_isAlso_24 : decode cX5_isAlso 24 = .ok (.ireturn, 1) := by decide +kernel
theorem dX5_tiredByHour_0 : decode cX5_tiredByHour 0 = .ok (.iload_n 2, 1) := by decide +kernel
theorem dX5_tiredByHour_1 : decode cX5_tiredByHour 1 = .ok (.iconst 2, 1) := by decide +kernel
theorem dX5_tiredByHour_2 : decode cX5_tiredByHour 2 = .ok (.irem, 1) := by decide +kernel
theorem dX5_tiredByHour_3 : decode cX5_tiredByHour 3 = .ok (.ifCond .ne 7, 3) := by decide +kernel
theorem dX5_tiredByHour_6 : decode cX5_tiredByHour 6 = .ok (.iconst 1, 1) := by decide +kernel
theorem dX5_tiredByHour_7 : decode cX5_tiredByHour 7 = .ok (.goto 4, 3) := by decide +kernel
theorem dX5_tiredByHour_10 : decode cX5_tiredByHour 10 = .ok (.iconst 0, 1) := by decide +kernel
theorem dX5_tiredByHour_11 : decode cX5_tiredByHour 11 = .ok (.istore 4, 2) := by decide +kernel
theorem dX5_tiredByHour_13 : decode cX5_tiredByHour 13 = .ok (.iload_n 0, 1) := by decide +kernel
theorem dX5_tiredByHour_14 : decode cX5_tiredByHour 14 = .ok (.tableswitch 54 2 4 #[26, 29, 41], 26) := by decide +kernel
theorem dX5_tiredByHour_40 : decode cX5_tiredByHour 40 = .ok (.iload 4, 2) := by decide +kernel
theorem dX5_tiredByHour_42 : decode cX5_tiredByHour 42 = .ok (.ireturn, 1) := by decide +kernel
theorem dX5_tiredByHour_43 : decode cX5_tiredByHour 43 = .ok (.iload_n 1, 1) := by decide +kernel
theorem dX5_tiredByHour_44 : decode cX5_tiredByHour 44 = .ok (.bipush 6, 2) := by decide +kernel
theorem dX5_tiredByHour_46 : decode cX5_tiredByHour 46 = .ok (.if_icmp .ge 7, 3) := by decide +kernel
theorem dX5_tiredByHour_49 : decode cX5_tiredByHour 49 = .ok (.iconst 1, 1) := by decide +kernel
theorem dX5_tiredByHour_50 : decode cX5_tiredByHour 50 = .ok (.goto 4, 3) := by decide +kernel
theorem dX5_tiredByHour_53 : decode cX5_tiredByHour 53 = .ok (.iconst 0, 1) := by decide +kernel
theorem dX5_tiredByHour_54 : decode cX5_tiredByHour 54 = .ok (.ireturn, 1) := by decide +kernel
theorem dX5_tiredByHour_55 : decode cX5_tiredByHour 55 = .ok (.iload 4, 2) := by decide +kernel
theorem dX5_tiredByHour_57 : decode cX5_tiredByHour 57 = .ok (.iload_n 3, 1) := by decide +kernel
theorem dX5_tiredByHour_58 : decode cX5_tiredByHour 58 = .ok (.ifCond .eq 7, 3) := by decide +kernel
theorem dX5_tiredByHour_61 : decode cX5_tiredByHour 61 = .ok (.iconst 1, 1) := by decide +kernel
theorem dX5_tiredByHour_62 : decode cX5_tiredByHour 62 = .ok (.goto 4, 3) := by decide +kernel
theorem dX5_tiredByHour_65 : decode cX5_tiredByHour 65 = .ok (.iconst 0, 1) := by decide +kernel
theorem dX5_tiredByHour_66 : decode cX5_tiredByHour 66 = .ok (.iadd, 1) := by decide +kernel
theorem dX5_tiredByHour_67 : decode cX5_tiredByHour 67 = .ok (.ireturn, 1) := by decide +kernel
theorem dX5_tiredByHour_68 : decode cX5_tiredByHour 68 = .ok (.iconst 1, 1) := by decide +kernel
theorem dX5_tiredByHour_69 : decode cX5_tiredByHour 69 = .ok (.ireturn, 1) := by decide +kernel
theorem dX6_init_0 : decode cX6_init 0 = .ok (.aload_n 0, 1) := by decide +kernel
theorem dX6_init_1 : decode cX6_init 1 = .ok (.invokespecial 1, 3) := by decide +kernel
theorem dX6_init_4 : decode cX6_init 4 = .ok (.aload_n 0, 1) := by decide +kernel
theorem dX6_init_5 : decode cX6_init 5 = .ok (.iconst 5, 1) := by decide +kernel
theorem dX6_init_6 : decode cX6_init 6 = .ok (.newarray .int, 2) := by decide +kernel
theorem dX6_init_8 : decode cX6_init 8 = .ok (.putfield 7, 3) := by decide +kernel
theorem dX6_init_11 : decode cX6_init 11 = .ok (.aload_n 0, 1) := by decide +kernel
theorem dX6_init_12 : decode cX6_init 12 = .ok (.iconst 5, 1) := by decide +kernel
theorem dX6_init_13 : decode cX6_init 13 = .ok (.newarray .int, 2) := by decide +kernel
theorem dX6_init_15 : decode cX6_init 15 = .ok (.putfield 13, 3) := by decide +kernel
theorem dX6_init_18 : decode cX6_init 18 = .ok (.aload_n 0, 1) := by decide +kernel
theorem dX6_init_19 : decode cX6_init 19 = .ok (.iconst 5, 1) := by decide +kernel
theorem dX6_init_20 : decode cX6_init 20 = .ok (.newarray .boolean, 2) := by decide +kernel
theorem dX6_init_22 : decode cX6_init 22 = .ok (.putfield 16, 3) := by decide +kernel
theorem dX6_init_25 : decode cX6_init 25 = .ok (.aload_n 0, 1) := by decide +kernel
theorem dX6_init_26 : decode cX6_init 26 = .ok (.iconst 5, 1) := by decide +kernel
theorem dX6_init_27 : decode cX6_init 27 = .ok (.newarray .int, 2) := by decide +kernel
theorem dX6_init_29 : decode cX6_init 29 = .ok (.putfield 20, 3) := by decide +kernel
theorem dX6_init_32 : decode cX6_init 32 = .ok (.aload_n 0, 1) := by decide +kernel
theorem dX6_init_33 : decode cX6_init 33 = .ok (.bipush 6, 2) := by decide +kernel
theorem dX6_init_35 : decode cX6_init 35 = .ok (.newarray .int, 2) := by decide +kernel
theorem dX6_init_37 : decode cX6_init 37 = .ok (.putfield 23, 3) := by decide +kernel
theorem dX6_init_40 : decode cX6_init 40 = .ok (.aload_n 0, 1) := by decide +kernel
theorem dX6_init_41 : decode cX6_init 41 = .ok (.bipush 6, 2) := by decide +kernel
theorem dX6_init_43 : decode cX6_init 43 = .ok (.newarray .int, 2) := by decide +kernel
theorem dX6_init_45 : decode cX6_init 45 = .ok (.putfield 26, 3) := by decide +kernel
theorem dX6_init_48 : decode cX6_init 48 = .ok (.aload_n 0, 1) := by decide +kernel
theorem dX6_init_49 : decode cX6_init 49 = .ok (.bipush 18, 2) := by decide +kernel
theorem dX6_init_51 : decode cX6_init 51 = .ok (.newarray .byte, 2) := by decide +kernel
theorem dX6_init_53 : decode cX6_init 53 = .ok (.putfield 29, 3) := by decide +kernel
theorem dX6_init_56 : decode cX6_init 56 = .ok (.aload_n 0, 1) := by decide +kernel
theorem dX6_init_57 : decode cX6_init 57 = .ok (.bipush 22, 2) := by decide +kernel
theorem dX6_init_59 : decode cX6_init 59 = .ok (.newarray .int, 2) := by decide +kernel
theorem dX6_init_61 : decode cX6_init 61 = .ok (.putfield 33, 3) := by decide +kernel
theorem dX6_init_64 : decode cX6_init 64 = .ok (.aload_n 0, 1) := by decide +kernel
theorem dX6_init_65 : decode cX6_init 65 = .ok (.iconst 5, 1) := by decide +kernel
theorem dX6_init_66 : decode cX6_init 66 = .ok (.newarray .int, 2) := by decide +kernel
theorem dX6_init_68 : decode cX6_init 68 = .ok (.putfield 36, 3) := by decide +kernel
theorem dX6_init_71 : decode cX6_init 71 = .ok (.aload_n 0, 1) := by decide +kernel
theorem dX6_init_72 : decode cX6_init 72 = .ok (.sipush 130, 3) := by decide +kernel
theorem dX6_init_75 : decode cX6_init 75 = .ok (.newarray .int, 2) := by decide +kernel
theorem dX6_init_77 : decode cX6_init 77 = .ok (.putfield 39, 3) := by decide +kernel
theorem dX6_init_80 : decode cX6_init 80 = .ok (.aload_n 0, 1) := by decide +kernel
theorem dX6_init_81 : decode cX6_init 81 = .ok (.iconst 5, 1) := by decide +kernel
theorem dX6_init_82 : decode cX6_init 82 = .ok (.newarray .int, 2) := by decide +kernel
theorem dX6_init_84 : decode cX6_init 84 = .ok (.putfield 42, 3) := by decide +kernel
theorem dX6_init_87 : decode cX6_init 87 = .ok (.aload_n 0, 1) := by decide +kernel
theorem dX6_init_88 : decode cX6_init 88 = .ok (.bipush 6, 2) := by decide +kernel
theorem dX6_init_90 : decode cX6_init 90 = .ok (.newarray .int, 2) := by decide +kernel
theorem dX6_init_92 : decode cX6_init 92 = .ok (.putfield 45, 3) := by decide +kernel
theorem dX6_init_95 : decode cX6_init 95 = .ok (.aload_n 0, 1) := by decide +kernel
theorem dX6_init_96 : decode cX6_init 96 = .ok (.bipush 6, 2) := by decide +kernel
theorem dX6_init_98 : decode cX6_init 98 = .ok (.newarray .int, 2) := by decide +kernel
theorem dX6_init_100 : decode cX6_init 100 = .ok (.putfield 48, 3) := by decide +kernel
theorem dX6_init_103 : decode cX6_init 103 = .ok (.return_, 1) := by decide +kernel
theorem dX6_within_0 : decode cX6_within 0 = .ok (.iload_n 0, 1) := by decide +kernel
theorem dX6_within_1 : decode cX6_within 1 = .ok (.iload_n 1, 1) := by decide +kernel
theorem dX6_within_2 : decode cX6_within 2 = .ok (.if_icmp .lt 12, 3) := by decide +kernel
theorem dX6_within_5 : decode cX6_within 5 = .ok (.iload_n 0, 1) := by decide +kernel
theorem dX6_within_6 : decode cX6_within 6 = .ok (.iload_n 2, 1) := by decide +kernel
theorem dX6_within_7 : decode cX6_within 7 = .ok (.if_icmp .gt 7, 3) := by decide +kernel
theorem dX6_within_10 : decode cX6_within 10 = .ok (.iconst 1, 1) := by decide +kernel
theorem dX6_within_11 : decode cX6_within 11 = .ok (.goto 4, 3) := by decide +kernel
theorem dX6_within_14 : decode cX6_within 14 = .ok (.iconst 0, 1) := by decide +kernel
theorem dX6_within_15 : decode cX6_within 15 = .ok (.ireturn, 1) := by decide +kernel
theorem dX6_isIn_0 : decode cX6_isIn 0 = .ok (.iload_n 0, 1) := by decide +kernel
theorem dX6_isIn_1 : decode cX6_isIn 1 = .ok (.iload_n 1, 1) := by decide +kernel
theorem dX6_isIn_2 : decode cX6_isIn 2 = .ok (.ishr, 1) := by decide +kernel
theorem dX6_isIn_3 : decode cX6_isIn 3 = .ok (.iconst 1, 1) := by decide +kernel
theorem dX6_isIn_4 : decode cX6_isIn 4 = .ok (.iand, 1) := by decide +kernel
theorem dX6_isIn_5 : decode cX6_isIn 5 = .ok (.iconst 1, 1) := by decide +kernel
theorem dX6_isIn_6 : decode cX6_isIn 6 = .ok (.if_icmp .ne 7, 3) := by decide +kernel
theorem dX6_isIn_9 : decode cX6_isIn 9 = .ok (.iconst 1, 1) := by decide +kernel
theorem dX6_isIn_10 : decode cX6_isIn 10 = .ok (.goto 4, 3) := by decide +kernel
theorem dX6_isIn_13 : decode cX6_isIn 13 = .ok (.iconst 0, 1) := by decide +kernel
theorem dX6_isIn_14 : decode cX6_isIn 14 = .ok (.ireturn, 1) := by decide +kernel
theorem dX6_letter_0 : decode cX6_letter 0 = .ok (.iload_n 1, 1) := by decide +kernel
theorem dX6_letter_1 : decode cX6_letter 1 = .ok (.bipush 32, 2) := by decide +kernel
theorem dX6_letter_3 : decode cX6_letter 3 = .ok (.bipush 126, 2) := by decide +kernel
theorem dX6_letter_5 : decode cX6_letter 5 = .ok (.invokestatic 51, 3) := by decide +kernel
theorem dX6_letter_8 : decode cX6_letter 8 = .ok (.ifCond .ne 6, 3) := by decide +kernel
theorem dX6_letter_11 : decode cX6_letter 11 = .ok (.bipush (-102), 2) := by decide +kernel
theorem dX6_letter_13 : decode cX6_letter 13 = .ok (.ireturn, 1) := by decide +kernel
theorem dX6_letter_14 : decode cX6_letter 14 = .ok (.aload_n 0, 1) := by decide +kernel
theorem dX6_letter_15 : decode cX6_letter 15 = .ok (.getfield 55, 3) := by decide +kernel
theorem dX6_letter_18 : decode cX6_letter 18 = .ok (.bipush 18, 2) := by decide +kernel
theorem dX6_letter_20 : decode cX6_letter 20 = .ok (.if_icmp .ne 6, 3) := by decide +kernel
theorem dX6_letter_23 : decode cX6_letter 23 = .ok (.bipush (-104), 2) := by decide +kernel
theorem dX6_letter_25 : decode cX6_letter 25 = .ok (.ireturn, 1) := by decide +kernel
theorem dX6_letter_26 : decode cX6_letter 26 = .ok (.aload_n 0, 1) := by decide +kernel
theorem dX6_letter_27 : decode cX6_letter 27 = .ok (.getfield 29, 3) := by decide +kernel
theorem dX6_letter_30 : decode cX6_letter 30 = .ok (.aload_n 0, 1) := by decide +kernel
theorem dX6_letter_31 : decode cX6_letter 31 = .ok (.getfield 55, 3) := by decide +kernel
theorem dX6_letter_34 : decode cX6_letter 34 = .ok (.iload_n 1, 1) := by decide +kernel
theorem dX6_letter_35 : decode cX6_letter 35 = .ok (.i2b, 1) := by decide +kernel
theorem dX6_letter_36 : decode cX6_letter 36 = .ok (.bastore, 1) := by decide +kernel
theorem dX6_letter_37 : decode cX6_letter 37 = .ok (.aload_n 0, 1) := by decide +kernel
theorem dX6_letter_38 : decode cX6_letter 38 = .ok (.dup, 1) := by decide +kernel
theorem dX6_letter_39 : decode cX6_letter 39 = .ok (.getfield 55, 3) := by decide +kernel
theorem dX6_letter_42 : decode cX6_letter 42 = .ok (.iconst 1, 1) := by decide +kernel
theorem dX6_letter_43 : decode cX6_letter 43 = .ok (.iadd, 1) := by decide +kernel
theorem dX6_letter_44 : decode cX6_letter 44 = .ok (.putfield 55, 3) := by decide +kernel
theorem dX6_letter_47 : decode cX6_letter 47 = .ok (.aload_n 0, 1) := by decide +kernel
theorem dX6_letter_48 : decode cX6_letter 48 = .ok (.getfield 55, 3) := by decide +kernel
theorem dX6_letter_51 : decode cX6_letter 51 = .ok (.ireturn, 1) := by decide +kernel
theorem dX6_blank_0 : decode cX6_blank 0 = .ok (.aload_n 0, 1) := by decide +kernel
theorem dX6_blank_1 : decode cX6_blank 1 = .ok (.getfield 55, 3) := by decide +kernel
theorem dX6_blank_4 : decode cX6_blank 4 = .ok (.istore_n 1, 1) := by decide +kernel
theorem dX6_blank_5 : decode cX6_blank 5 = .ok (.aload_n 0, 1) := by decide +kernel
theorem dX6_blank_6 : decode cX6_blank 6 = .ok (.iconst 0, 1) := by decide +kernel
theorem dX6_blank_7 : decode cX6_blank 7 = .ok (.putfield 55, 3) := by decide +kernel
theorem dX6_blank_10 : decode cX6_blank 10 = .ok (.iload_n 1, 1) := by decide +kernel
theorem dX6_blank_11 : decode cX6_blank 11 = .ok (.ireturn, 1) := by decide +kernel
theorem dX6_kindBy_0 : decode cX6_kindBy 0 = .ok (.iload_n 0, 1) := by decide +kernel
theorem dX6_kindBy_1 : decode cX6_kindBy 1 = .ok (.tableswitch 73 108 119 #[63, 69, 73, 73, 71, 73, 73, 73, 73, 73, 67, 65], 63) := by decide +kernel
theorem dX6_kindBy_64 : decode cX6_kindBy 64 = .ok (.iconst 0, 1) := by decide +kernel
theorem dX6_kindBy_65 : decode cX6_kindBy 65 = .ok (.ireturn, 1) := by decide +kernel
theorem dX6_kindBy_66 : decode cX6_kindBy 66 = .ok (.iconst 1, 1) := by decide +kernel
theorem dX6_kindBy_67 : decode cX6_kindBy 67 = .ok (.ireturn, 1) := by decide +kernel
theorem dX6_kindBy_68 : decode cX6_kindBy 68 = .ok (.iconst 2, 1) := by decide +kernel
theorem dX6_kindBy_69 : decode cX6_kindBy 69 = .ok (.ireturn, 1) := by decide +kernel
theorem dX6_kindBy_70 : decode cX6_kindBy 70 = .ok (.iconst 3, 1) := by decide +kernel
theorem dX6_kindBy_71 : decode cX6_kindBy 71 = .ok (.ireturn, 1) := by decide +kernel
theorem dX6_kindBy_72 : decode cX6_kindBy 72 = .ok (.iconst 4, 1) := by decide +kernel
theorem dX6_kindBy_73 : decode cX6_kindBy 73 = .ok (.ireturn, 1) := by decide +kernel
theorem dX6_kindBy_74 : decode cX6_kindBy 74 = .ok (.iconst (-1), 1) := by decide +kernel
theorem dX6_kindBy_75 : decode cX6_kindBy 75 = .ok (.ireturn, 1) := by decide +kernel
theorem dX6_isFigure_0 : decode cX6_isFigure 0 = .ok (.iload_n 1, 1) := by decide +kernel
theorem dX6_isFigure_1 : decode cX6_isFigure 1 = .ok (.aload_n 0, 1) := by decide +kernel
theorem dX6_isFigure_2 : decode cX6_isFigure 2 = .ok (.getfield 55, 3) := by decide +kernel
theorem dX6_isFigure_5 : decode cX6_isFigure 5 = .ok (.if_icmp .ge 24, 3) := by decide +kernel
theorem dX6_isFigure_8 : decode cX6_isFigure 8 = .ok (.aload_n 0, 1) := by decide +kernel
theorem dX6_isFigure_9 : decode cX6_isFigure 9 = .ok (.getfield 29, 3) := by decide +kernel
theorem dX6_isFigure_12 : decode cX6_isFigure 12 = .ok (.iload_n 1, 1) := by decide +kernel
theorem dX6_isFigure_13 : decode cX6_isFigure 13 = .ok (.baload, 1) := by decide +kernel
theorem dX6_isFigure_14 : decode cX6_isFigure 14 = .ok (.bipush 48, 2) := by decide +kernel
theorem dX6_isFigure_16 : decode cX6_isFigure 16 = .ok (.isub, 1) := by decide +kernel
theorem dX6_isFigure_17 : decode cX6_isFigure 17 = .ok (.iload_n 2, 1) := by decide +kernel
theorem dX6_isFigure_18 : decode cX6_isFigure 18 = .ok (.iload_n 3, 1) := by decide +kernel
theorem dX6_isFigure_19 : decode cX6_isFigure 19 = .ok (.invokestatic 51, 3) := by decide +kernel
theorem dX6_isFigure_22 : decode cX6_isFigure 22 = .ok (.ifCond .eq 7, 3) := by decide +kernel
theorem dX6_isFigure_25 : decode cX6_isFigure 25 = .ok (.iconst 1, 1) := by decide +kernel
theorem dX6_isFigure_26 : decode cX6_isFigure 26 = .ok (.goto 4, 3) := by decide +kernel
theorem dX6_isFigure_29 : decode cX6_isFigure 29 = .ok (.iconst 0, 1) := by decide +kernel
theorem dX6_isFigure_30 : decode cX6_isFigure 30 = .ok (.ireturn, 1) := by decide +kernel
theorem dX6_read_0 : decode cX6_read 0 = .ok (.aload_n 0, 1) := by decide +kernel
theorem dX6_read_1 : decode cX6_read 1 = .ok (.iconst 0, 1) := by decide +kernel
theorem dX6_read_2 : decode cX6_read 2 = .ok (.putfield 59, 3) := by decide +kernel
theorem dX6_read_5 : decode cX6_read 5 = .ok (.aload_n 0, 1) := by decide +kernel
theorem dX6_read_6 : decode cX6_read 6 = .ok (.iconst 0, 1) := by decide +kernel
theorem dX6_read_7 : decode cX6_read 7 = .ok (.putfield 63, 3) := by decide +kernel
theorem dX6_read_10 : decode cX6_read 10 = .ok (.iconst 0, 1) := by decide +kernel
theorem dX6_read_11 : decode cX6_read 11 = .ok (.istore_n 1, 1) := by decide +kernel
theorem dX6_read_12 : decode cX6_read 12 = .ok (.aload_n 0, 1) := by decide +kernel
theorem dX6_read_13 : decode cX6_read 13 = .ok (.getfield 63, 3) := by decide +kernel
theorem dX6_read_16 : decode cX6_read 16 = .ok (.iconst 5, 1) := by decide +kernel
theorem dX6_read_17 : decode cX6_read 17 = .ok (.if_icmp .ge 171, 3) := by decide +kernel
theorem dX6_read_20 : decode cX6_read 20 = .ok (.iload_n 1, 1) := by decide +kernel
theorem dX6_read_21 : decode cX6_read 21 = .ok (.aload_n 0, 1) := by decide +kernel
theorem dX6_read_22 : decode cX6_read 22 = .ok (.getfield 55, 3) := by decide +kernel
theorem dX6_read_25 : decode cX6_read 25 = .ok (.if_icmp .eq 16, 3) := by decide +kernel
theorem dX6_read_28 : decode cX6_read 28 = .ok (.aload_n 0, 1) := by decide +kernel
theorem dX6_read_29 : decode cX6_read 29 = .ok (.getfield 29, 3) := by decide +kernel
theorem dX6_read_32 : decode cX6_read 32 = .ok (.iload_n 1, 1) := by decide +kernel
theorem dX6_read_33 : decode cX6_read 33 = .ok (.baload, 1) := by decide +kernel
theorem dX6_read_34 : decode cX6_read 34 = .ok (.invokestatic 66, 3) := by decide +kernel
theorem dX6_read_37 : decode cX6_read 37 = .ok (.iconst (-1), 1) := by decide +kernel
theorem dX6_read_38 : decode cX6_read 38 = .ok (.if_icmp .ne 5, 3) := by decide +kernel
theorem dX6_read_41 : decode cX6_read 41 = .ok (.iload_n 1, 1) := by decide +kernel
theorem dX6_read_42 : decode cX6_read 42 = .ok (.ireturn, 1) := by decide +kernel
theorem dX6_read_43 : decode cX6_read 43 = .ok (.aload_n 0, 1) := by decide +kernel
theorem dX6_read_44 : decode cX6_read 44 = .ok (.iload_n 1, 1) := by decide +kernel
theorem dX6_read_45 : decode cX6_read 45 = .ok (.iconst 1, 1) := by decide +kernel
theorem dX6_read_46 : decode cX6_read 46 = .ok (.iadd, 1) := by decide +kernel
theorem dX6_read_47 : decode cX6_read 47 = .ok (.iconst 0, 1) := by decide +kernel
theorem dX6_read_48 : decode cX6_read 48 = .ok (.bipush 9, 2) := by decide +kernel
theorem dX6_read_50 : decode cX6_read 50 = .ok (.invokevirtual 70, 3) := by decide +kernel
theorem dX6_read_53 : decode cX6_read 53 = .ok (.ifCond .ne 7, 3) := by decide +kernel
theorem dX6_read_56 : decode cX6_read 56 = .ok (.iload_n 1, 1) := by decide +kernel
theorem dX6_read_57 : decode cX6_read 57 = .ok (.iconst 1, 1) := by decide +kernel
theorem dX6_read_58 : decode cX6_read 58 = .ok (.iadd, 1) := by decide +kernel
theorem dX6_read_59 : decode cX6_read 59 = .ok (.ireturn, 1) := by decide +kernel
theorem dX6_read_60 : decode cX6_read 60 = .ok (.aload_n 0, 1) := by decide +kernel
theorem dX6_read_61 : decode cX6_read 61 = .ok (.dup, 1) := by decide +kernel
theorem dX6_read_62 : decode cX6_read 62 = .ok (.getfield 63, 3) := by decide +kernel
theorem dX6_read_65 : decode cX6_read 65 = .ok (.iconst 1, 1) := by decide +kernel
theorem dX6_read_66 : decode cX6_read 66 = .ok (.iadd, 1) := by decide +kernel
theorem dX6_read_67 : decode cX6_read 67 = .ok (.putfield 63, 3) := by decide +kernel
theorem dX6_read_70 : decode cX6_read 70 = .ok (.iinc 1 2, 3) := by decide +kernel
theorem dX6_read_73 : decode cX6_read 73 = .ok (.iload_n 1, 1) := by decide +kernel
theorem dX6_read_74 : decode cX6_read 74 = .ok (.aload_n 0, 1) := by decide +kernel
theorem dX6_read_75 : decode cX6_read 75 = .ok (.getfield 55, 3) := by decide +kernel
theorem dX6_read_78 : decode cX6_read 78 = .ok (.if_icmp .ge 75, 3) := by decide +kernel
theorem dX6_read_81 : decode cX6_read 81 = .ok (.aload_n 0, 1) := by decide +kernel
theorem dX6_read_82 : decode cX6_read 82 = .ok (.getfield 29, 3) := by decide +kernel
theorem dX6_read_85 : decode cX6_read 85 = .ok (.iload_n 1, 1) := by decide +kernel
theorem dX6_read_86 : decode cX6_read 86 = .ok (.baload, 1) := by decide +kernel
theorem dX6_read_87 : decode cX6_read 87 = .ok (.bipush 59, 2) := by decide +kernel
theorem dX6_read_89 : decode cX6_read 89 = .ok (.if_icmp .ne 64, 3) := by decide +kernel
theorem dX6_read_92 : decode cX6_read 92 = .ok (.aload_n 0, 1) := by decide +kernel
theorem dX6_read_93 : decode cX6_read 93 = .ok (.getfield 63, 3) := by decide +kernel
theorem dX6_read_96 : decode cX6_read 96 = .ok (.iconst 1, 1) := by decide +kernel
theorem dX6_read_97 : decode cX6_read 97 = .ok (.if_icmp .le 56, 3) := by decide +kernel
theorem dX6_read_100 : decode cX6_read 100 = .ok (.aload_n 0, 1) := by decide +kernel
theorem dX6_read_101 : decode cX6_read 101 = .ok (.aload_n 0, 1) := by decide +kernel
theorem dX6_read_102 : decode cX6_read 102 = .ok (.iload_n 1, 1) := by decide +kernel
theorem dX6_read_103 : decode cX6_read 103 = .ok (.iconst 1, 1) := by decide +kernel
theorem dX6_read_104 : decode cX6_read 104 = .ok (.iadd, 1) := by decide +kernel
theorem dX6_read_105 : decode cX6_read 105 = .ok (.iconst 1, 1) := by decide +kernel
theorem dX6_read_106 : decode cX6_read 106 = .ok (.iconst 4, 1) := by decide +kernel
theorem dX6_read_107 : decode cX6_read 107 = .ok (.invokevirtual 70, 3) := by decide +kernel
theorem dX6_read_110 : decode cX6_read 110 = .ok (.ifCond .eq 17, 3) := by decide +kernel
theorem dX6_read_113 : decode cX6_read 113 = .ok (.iload_n 1, 1) := by decide +kernel
theorem dX6_read_114 : decode cX6_read 114 = .ok (.iconst 2, 1) := by decide +kernel
theorem dX6_read_115 : decode cX6_read 115 = .ok (.iadd, 1) := by decide +kernel
theorem dX6_read_116 : decode cX6_read 116 = .ok (.aload_n 0, 1) := by decide +kernel
theorem dX6_read_117 : decode cX6_read 117 = .ok (.getfield 55, 3) := by decide +kernel
theorem dX6_read_120 : decode cX6_read 120 = .ok (.if_icmp .ne 7, 3) := by decide +kernel
theorem dX6_read_123 : decode cX6_read 123 = .ok (.iconst 1, 1) := by decide +kernel
theorem dX6_read_124 : decode cX6_read 124 = .ok (.goto 4, 3) := by decide +kernel
theorem dX6_read_127 : decode cX6_read 127 = .ok (.iconst 0, 1) := by decide +kernel
theorem dX6_read_128 : decode cX6_read 128 = .ok (.putfield 59, 3) := by decide +kernel
theorem dX6_read_131 : decode cX6_read 131 = .ok (.aload_n 0, 1) := by decide +kernel
theorem dX6_read_132 : decode cX6_read 132 = .ok (.iload_n 1, 1) := by decide +kernel
theorem dX6_read_133 : decode cX6_read 133 = .ok (.iconst 1, 1) := by decide +kernel
theorem dX6_read_134 : decode cX6_read 134 = .ok (.iadd, 1) := by decide +kernel
theorem dX6_read_135 : decode cX6_read 135 = .ok (.iconst 1, 1) := by decide +kernel
theorem dX6_read_136 : decode cX6_read 136 = .ok (.iconst 4, 1) := by decide +kernel
theorem dX6_read_137 : decode cX6_read 137 = .ok (.invokevirtual 70, 3) := by decide +kernel
theorem dX6_read_140 : decode cX6_read 140 = .ok (.ifCond .eq 9, 3) := by decide +kernel
theorem dX6_read_143 : decode cX6_read 143 = .ok (.iload_n 1, 1) := by decide +kernel
theorem dX6_read_144 : decode cX6_read 144 = .ok (.iconst 2, 1) := by decide +kernel
theorem dX6_read_145 : decode cX6_read 145 = .ok (.iadd, 1) := by decide +kernel
theorem dX6_read_146 : decode cX6_read 146 = .ok (.goto 6, 3) := by decide +kernel
theorem dX6_read_149 : decode cX6_read 149 = .ok (.iload_n 1, 1) := by decide +kernel
theorem dX6_read_150 : decode cX6_read 150 = .ok (.iconst 1, 1) := by decide +kernel
theorem dX6_read_151 : decode cX6_read 151 = .ok (.iadd, 1) := by decide +kernel
theorem dX6_read_152 : decode cX6_read 152 = .ok (.ireturn, 1) := by decide +kernel
theorem dX6_read_153 : decode cX6_read 153 = .ok (.iload_n 1, 1) := by decide +kernel
theorem dX6_read_154 : decode cX6_read 154 = .ok (.aload_n 0, 1) := by decide +kernel
theorem dX6_read_155 : decode cX6_read 155 = .ok (.getfield 55, 3) := by decide +kernel
theorem dX6_read_158 : decode cX6_read 158 = .ok (.if_icmp .eq 22, 3) := by decide +kernel
theorem dX6_read_161 : decode cX6_read 161 = .ok (.aload_n 0, 1) := by decide +kernel
theorem dX6_read_162 : decode cX6_read 162 = .ok (.getfield 63, 3) := by decide +kernel
theorem dX6_read_165 : decode cX6_read 165 = .ok (.iconst 5, 1) := by decide +kernel
theorem dX6_read_166 : decode cX6_read 166 = .ok (.if_icmp .eq 14, 3) := by decide +kernel
theorem dX6_read_169 : decode cX6_read 169 = .ok (.aload_n 0, 1) := by decide +kernel
theorem dX6_read_170 : decode cX6_read 170 = .ok (.getfield 29, 3) := by decide +kernel
theorem dX6_read_173 : decode cX6_read 173 = .ok (.iload_n 1, 1) := by decide +kernel
theorem dX6_read_174 : decode cX6_read 174 = .ok (.baload, 1) := by decide +kernel
theorem dX6_read_175 : decode cX6_read 175 = .ok (.bipush 44, 2) := by decide +kernel
theorem dX6_read_177 : decode cX6_read 177 = .ok (.if_icmp .eq 5, 3) := by decide +kernel
theorem dX6_read_180 : decode cX6_read 180 = .ok (.iload_n 1, 1) := by decide +kernel
theorem dX6_read_181 : decode cX6_read 181 = .ok (.ireturn, 1) := by decide +kernel
theorem dX6_read_182 : decode cX6_read 182 = .ok (.iinc 1 1, 3) := by decide +kernel
theorem dX6_read_185 : decode cX6_read 185 = .ok (.goto (-173), 3) := by decide +kernel
theorem dX6_read_188 : decode cX6_read 188 = .ok (.iload_n 1, 1) := by decide +kernel
theorem dX6_read_189 : decode cX6_read 189 = .ok (.ireturn, 1) := by decide +kernel
theorem dX6_fault_0 : decode cX6_fault 0 = .ok (.aload_n 0, 1) := by decide +kernel
theorem dX6_fault_1 : decode cX6_fault 1 = .ok (.invokevirtual 73, 3) := by decide +kernel
theorem dX6_fault_4 : decode cX6_fault 4 = .ok (.ireturn, 1) := by decide +kernel
theorem dX6_house_0 : decode cX6_house 0 = .ok (.aload_n 0, 1) := by decide +kernel
theorem dX6_house_1 : decode cX6_house 1 = .ok (.invokevirtual 73, 3) := by decide +kernel
theorem dX6_house_4 : decode cX6_house 4 = .ok (.istore_n 1, 1) := by decide +kernel
theorem dX6_house_5 : decode cX6_house 5 = .ok (.aload_n 0, 1) := by decide +kernel
theorem dX6_house_6 : decode cX6_house 6 = .ok (.getfield 59, 3) := by decide +kernel
theorem dX6_house_9 : decode cX6_house 9 = .ok (.ifCond .ne 6, 3) := by decide +kernel
theorem dX6_house_12 : decode cX6_house 12 = .ok (.bipush (-103), 2) := by decide +kernel
theorem dX6_house_14 : decode cX6_house 14 = .ok (.ireturn, 1) := by decide +kernel
theorem dX6_house_15 : decode cX6_house 15 = .ok (.aload_n 0, 1) := by decide +kernel
theorem dX6_house_16 : decode cX6_house 16 = .ok (.aload_n 0, 1) := by decide +kernel
theorem dX6_house_17 : decode cX6_house 17 = .ok (.getfield 63, 3) := by decide +kernel
theorem dX6_house_20 : decode cX6_house 20 = .ok (.putfield 77, 3) := by decide +kernel
theorem dX6_house_23 : decode cX6_house 23 = .ok (.aload_n 0, 1) := by decide +kernel
theorem dX6_house_24 : decode cX6_house 24 = .ok (.aload_n 0, 1) := by decide +kernel
theorem dX6_house_25 : decode cX6_house 25 = .ok (.getfield 29, 3) := by decide +kernel
theorem dX6_house_28 : decode cX6_house 28 = .ok (.iload_n 1, 1) := by decide +kernel
theorem dX6_house_29 : decode cX6_house 29 = .ok (.iconst 1, 1) := by decide +kernel
theorem dX6_house_30 : decode cX6_house 30 = .ok (.isub, 1) := by decide +kernel
theorem dX6_house_31 : decode cX6_house 31 = .ok (.baload, 1) := by decide +kernel
theorem dX6_house_32 : decode cX6_house 32 = .ok (.bipush 48, 2) := by decide +kernel
theorem dX6_house_34 : decode cX6_house 34 = .ok (.isub, 1) := by decide +kernel
theorem dX6_house_35 : decode cX6_house 35 = .ok (.putfield 80, 3) := by decide +kernel
theorem dX6_house_38 : decode cX6_house 38 = .ok (.iconst 0, 1) := by decide +kernel
theorem dX6_house_39 : decode cX6_house 39 = .ok (.istore_n 2, 1) := by decide +kernel
theorem dX6_house_40 : decode cX6_house 40 = .ok (.iload_n 2, 1) := by decide +kernel
theorem dX6_house_41 : decode cX6_house 41 = .ok (.aload_n 0, 1) := by decide +kernel
theorem dX6_house_42 : decode cX6_house 42 = .ok (.getfield 77, 3) := by decide +kernel
theorem dX6_house_45 : decode cX6_house 45 = .ok (.if_icmp .ge 59, 3) := by decide +kernel
theorem dX6_house_48 : decode cX6_house 48 = .ok (.aload_n 0, 1) := by decide +kernel
theorem dX6_house_49 : decode cX6_house 49 = .ok (.getfield 7, 3) := by decide +kernel
theorem dX6_house_52 : decode cX6_house 52 = .ok (.iload_n 2, 1) := by decide +kernel
theorem dX6_house_53 : decode cX6_house 53 = .ok (.aload_n 0, 1) := by decide +kernel
theorem dX6_house_54 : decode cX6_house 54 = .ok (.getfield 29, 3) := by decide +kernel
theorem dX6_house_57 : decode cX6_house 57 = .ok (.iconst 3, 1) := by decide +kernel
theorem dX6_house_58 : decode cX6_house 58 = .ok (.iload_n 2, 1) := by decide +kernel
theorem dX6_house_59 : decode cX6_house 59 = .ok (.imul, 1) := by decide +kernel
theorem dX6_house_60 : decode cX6_house 60 = .ok (.baload, 1) := by decide +kernel
theorem dX6_house_61 : decode cX6_house 61 = .ok (.invokestatic 66, 3) := by decide +kernel
theorem dX6_house_64 : decode cX6_house 64 = .ok (.iastore, 1) := by decide +kernel
theorem dX6_house_65 : decode cX6_house 65 = .ok (.aload_n 0, 1) := by decide +kernel
theorem dX6_house_66 : decode cX6_house 66 = .ok (.getfield 13, 3) := by decide +kernel
theorem dX6_house_69 : decode cX6_house 69 = .ok (.iload_n 2, 1) := by decide +kernel
theorem dX6_house_70 : decode cX6_house 70 = .ok (.aload_n 0, 1) := by decide +kernel
theorem dX6_house_71 : decode cX6_house 71 = .ok (.getfield 29, 3) := by decide +kernel
theorem dX6_house_74 : decode cX6_house 74 = .ok (.iconst 3, 1) := by decide +kernel
theorem dX6_house_75 : decode cX6_house 75 = .ok (.iload_n 2, 1) := by decide +kernel
theorem dX6_house_76 : decode cX6_house 76 = .ok (.imul, 1) := by decide +kernel
theorem dX6_house_77 : decode cX6_house 77 = .ok (.iconst 1, 1) := by decide +kernel
theorem dX6_house_78 : decode cX6_house 78 = .ok (.iadd, 1) := by decide +kernel
theorem dX6_house_79 : decode cX6_house 79 = .ok (.baload, 1) := by decide +kernel
theorem dX6_house_80 : decode cX6_house 80 = .ok (.bipush 48, 2) := by decide +kernel
theorem dX6_house_82 : decode cX6_house 82 = .ok (.isub, 1) := by decide +kernel
theorem dX6_house_83 : decode cX6_house 83 = .ok (.iastore, 1) := by decide +kernel
theorem dX6_house_84 : decode cX6_house 84 = .ok (.aload_n 0, 1) := by decide +kernel
theorem dX6_house_85 : decode cX6_house 85 = .ok (.getfield 16, 3) := by decide +kernel
theorem dX6_house_88 : decode cX6_house 88 = .ok (.iload_n 2, 1) := by decide +kernel
theorem dX6_house_89 : decode cX6_house 89 = .ok (.iconst 0, 1) := by decide +kernel
theorem dX6_house_90 : decode cX6_house 90 = .ok (.bastore, 1) := by decide +kernel
theorem dX6_house_91 : decode cX6_house 91 = .ok (.aload_n 0, 1) := by decide +kernel
theorem dX6_house_92 : decode cX6_house 92 = .ok (.getfield 20, 3) := by decide +kernel
theorem dX6_house_95 : decode cX6_house 95 = .ok (.iload_n 2, 1) := by decide +kernel
theorem dX6_house_96 : decode cX6_house 96 = .ok (.iconst 0, 1) := by decide +kernel
theorem dX6_house_97 : decode cX6_house 97 = .ok (.iastore, 1) := by decide +kernel
theorem dX6_house_98 : decode cX6_house 98 = .ok (.iinc 2 1, 3) := by decide +kernel
theorem dX6_house_101 : decode cX6_house 101 = .ok (.goto (-61), 3) := by decide +kernel
theorem dX6_house_104 : decode cX6_house 104 = .ok (.aload_n 0, 1) := by decide +kernel
theorem dX6_house_105 : decode cX6_house 105 = .ok (.dup, 1) := by decide +kernel
theorem dX6_house_106 : decode cX6_house 106 = .ok (.getfield 83, 3) := by decide +kernel
theorem dX6_house_109 : decode cX6_house 109 = .ok (.iconst 1, 1) := by decide +kernel
theorem dX6_house_110 : decode cX6_house 110 = .ok (.iadd, 1) := by decide +kernel
theorem dX6_house_111 : decode cX6_house 111 = .ok (.putfield 83, 3) := by decide +kernel
theorem dX6_house_114 : decode cX6_house 114 = .ok (.aload_n 0, 1) := by decide +kernel
theorem dX6_house_115 : decode cX6_house 115 = .ok (.iconst 0, 1) := by decide +kernel
theorem dX6_house_116 : decode cX6_house 116 = .ok (.putfield 86, 3) := by decide +kernel
theorem dX6_house_119 : decode cX6_house 119 = .ok (.aload_n 0, 1) := by decide +kernel
theorem dX6_house_120 : decode cX6_house 120 = .ok (.iconst 0, 1) := by decide +kernel
theorem dX6_house_121 : decode cX6_house 121 = .ok (.putfield 89, 3) := by decide +kernel
theorem dX6_house_124 : decode cX6_house 124 = .ok (.aload_n 0, 1) := by decide +kernel
theorem dX6_house_125 : decode cX6_house 125 = .ok (.iconst 0, 1) := by decide +kernel
theorem dX6_house_126 : decode cX6_house 126 = .ok (.putfield 55, 3) := by decide +kernel
theorem dX6_house_129 : decode cX6_house 129 = .ok (.aload_n 0, 1) := by decide +kernel
theorem dX6_house_130 : decode cX6_house 130 = .ok (.getfield 77, 3) := by decide +kernel
theorem dX6_house_133 : decode cX6_house 133 = .ok (.ireturn, 1) := by decide +kernel
theorem dX6_isLodger_0 : decode cX6_isLodger 0 = .ok (.iload_n 1, 1) := by decide +kernel
theorem dX6_isLodger_1 : decode cX6_isLodger 1 = .ok (.iconst 0, 1) := by decide +kernel
theorem dX6_isLodger_2 : decode cX6_isLodger 2 = .ok (.aload_n 0, 1) := by decide +kernel
theorem dX6_isLodger_3 : decode cX6_isLodger 3 = .ok (.getfield 77, 3) := by decide +kernel
theorem dX6_isLodger_6 : decode cX6_isLodger 6 = .ok (.iconst 1, 1) := by decide +kernel
theorem dX6_isLodger_7 : decode cX6_isLodger 7 = .ok (.isub, 1) := by decide +kernel
theorem dX6_isLodger_8 : decode cX6_isLodger 8 = .ok (.invokestatic 51, 3) := by decide +kernel
theorem dX6_isLodger_11 : decode cX6_isLodger 11 = .ok (.ireturn, 1) := by decide +kernel
theorem dX6_whose_0 : decode cX6_whose 0 = .ok (.iconst (-1), 1) := by decide +kernel
theorem dX6_whose_1 : decode cX6_whose 1 = .ok (.istore_n 1, 1) := by decide +kernel
theorem dX6_whose_2 : decode cX6_whose 2 = .ok (.iconst 0, 1) := by decide +kernel
theorem dX6_whose_3 : decode cX6_whose 3 = .ok (.istore_n 2, 1) := by decide +kernel
theorem dX6_whose_4 : decode cX6_whose 4 = .ok (.iload_n 2, 1) := by decide +kernel
theorem dX6_whose_5 : decode cX6_whose 5 = .ok (.aload_n 0, 1) := by decide +kernel
theorem dX6_whose_6 : decode cX6_whose 6 = .ok (.getfield 77, 3) := by decide +kernel
theorem dX6_whose_9 : decode cX6_whose 9 = .ok (.if_icmp .ge 64, 3) := by decide +kernel
theorem dX6_whose_12 : decode cX6_whose 12 = .ok (.aload_n 0, 1) := by decide +kernel
theorem dX6_whose_13 : decode cX6_whose 13 = .ok (.getfield 16, 3) := by decide +kernel
theorem dX6_whose_16 : decode cX6_whose 16 = .ok (.iload_n 2, 1) := by decide +kernel
theorem dX6_whose_17 : decode cX6_whose 17 = .ok (.baload, 1) := by decide +kernel
theorem dX6_whose_18 : decode cX6_whose 18 = .ok (.ifCond .ne 17, 3) := by decide +kernel
theorem dX6_whose_21 : decode cX6_whose 21 = .ok (.aload_n 0, 1) := by decide +kernel
theorem dX6_whose_22 : decode cX6_whose 22 = .ok (.getfield 7, 3) := by decide +kernel
theorem dX6_whose_25 : decode cX6_whose 25 = .ok (.iload_n 2, 1) := by decide +kernel
theorem dX6_whose_26 : decode cX6_whose 26 = .ok (.iaload, 1) := by decide +kernel
theorem dX6_whose_27 : decode cX6_whose 27 = .ok (.iconst 1, 1) := by decide +kernel
theorem dX6_whose_28 : decode cX6_whose 28 = .ok (.if_icmp .eq 7, 3) := by decide +kernel
theorem dX6_whose_31 : decode cX6_whose 31 = .ok (.iconst 1, 1) := by decide +kernel
theorem dX6_whose_32 : decode cX6_whose 32 = .ok (.goto 4, 3) := by decide +kernel
theorem dX6_whose_35 : decode cX6_whose 35 = .ok (.iconst 0, 1) := by decide +kernel
theorem dX6_whose_36 : decode cX6_whose 36 = .ok (.istore_n 3, 1) := by decide +kernel
theorem dX6_whose_37 : decode cX6_whose 37 = .ok (.iload_n 3, 1) := by decide +kernel
theorem dX6_whose_38 : decode cX6_whose 38 = .ok (.ifCond .eq 27, 3) := by decide +kernel
theorem dX6_whose_41 : decode cX6_whose 41 = .ok (.iload_n 1, 1) := by decide +kernel
theorem dX6_whose_42 : decode cX6_whose 42 = .ok (.iconst (-1), 1) := by decide +kernel
theorem dX6_whose_43 : decode cX6_whose 43 = .ok (.if_icmp .eq 18, 3) := by decide +kernel
theorem dX6_whose_46 : decode cX6_whose 46 = .ok (.aload_n 0, 1) := by decide +kernel
theorem dX6_whose_47 : decode cX6_whose 47 = .ok (.getfield 13, 3) := by decide +kernel
theorem dX6_whose_50 : decode cX6_whose 50 = .ok (.iload_n 2, 1) := by decide +kernel
theorem dX6_whose_51 : decode cX6_whose 51 = .ok (.iaload, 1) := by decide +kernel
theorem dX6_whose_52 : decode cX6_whose 52 = .ok (.aload_n 0, 1) := by decide +kernel
theorem dX6_whose_53 : decode cX6_whose 53 = .ok (.getfield 13, 3) := by decide +kernel
theorem dX6_whose_56 : decode cX6_whose 56 = .ok (.iload_n 1, 1) := by decide +kernel
theorem dX6_whose_57 : decode cX6_whose 57 = .ok (.iaload, 1) := by decide +kernel
theorem dX6_whose_58 : decode cX6_whose 58 = .ok (.if_icmp .ge 7, 3) := by decide +kernel
theorem dX6_whose_61 : decode cX6_whose 61 = .ok (.iload_n 2, 1) := by decide +kernel
theorem dX6_whose_62 : decode cX6_whose 62 = .ok (.goto 4, 3) := by decide +kernel
theorem dX6_whose_65 : decode cX6_whose 65 = .ok (.iload_n 1, 1) := by decide +kernel
theorem dX6_whose_66 : decode cX6_whose 66 = .ok (.istore_n 1, 1) := by decide +kernel
theorem dX6_whose_67 : decode cX6_whose 67 = .ok (.iinc 2 1, 3) := by decide +kernel
theorem dX6_whose_70 : decode cX6_whose 70 = .ok (.goto (-66), 3) := by decide +kernel
theorem dX6_whose_73 : decode cX6_whose 73 = .ok (.iload_n 1, 1) := by decide +kernel
theorem dX6_whose_74 : decode cX6_whose 74 = .ok (.ireturn, 1) := by decide +kernel
theorem dX6_more_0 : decode cX6_more 0 = .ok (.iload_n 0, 1) := by decide +kernel
theorem dX6_more_1 : decode cX6_more 1 = .ok (.tableswitch 73 2 4 #[27, 39, 51], 27) := by decide +kernel
theorem dX6_more_28 : decode cX6_more 28 = .ok (.iload_n 2, 1) := by decide +kernel
theorem dX6_more_29 : decode cX6_more 29 = .ok (.iconst 2, 1) := by decide +kernel
theorem dX6_more_30 : decode cX6_more 30 = .ok (.irem, 1) := by decide +kernel
theorem dX6_more_31 : decode cX6_more 31 = .ok (.ifCond .ne 7, 3) := by decide +kernel
theorem dX6_more_34 : decode cX6_more 34 = .ok (.iconst 1, 1) := by decide +kernel
theorem dX6_more_35 : decode cX6_more 35 = .ok (.goto 4, 3) := by decide +kernel
theorem dX6_more_38 : decode cX6_more 38 = .ok (.iconst 0, 1) := by decide +kernel
theorem dX6_more_39 : decode cX6_more 39 = .ok (.ireturn, 1) := by decide +kernel
theorem dX6_more_40 : decode cX6_more 40 = .ok (.iload_n 1, 1) := by decide +kernel
theorem dX6_more_41 : decode cX6_more 41 = .ok (.bipush 6, 2) := by decide +kernel
theorem dX6_more_43 : decode cX6_more 43 = .ok (.if_icmp .ge 7, 3) := by decide +kernel
theorem dX6_more_46 : decode cX6_more 46 = .ok (.iconst 1, 1) := by decide +kernel
theorem dX6_more_47 : decode cX6_more 47 = .ok (.goto 4, 3) := by decide +kernel
theorem dX6_more_50 : decode cX6_more 50 = .ok (.iconst 0, 1) := by decide +kernel
theorem dX6_more_51 : decode cX6_more 51 = .ok (.ireturn, 1) := by decide +kernel
theorem dX6_more_52 : decode cX6_more 52 = .ok (.iload_n 2, 1) := by decide +kernel
theorem dX6_more_53 : decode cX6_more 53 = .ok (.iconst 2, 1) := by decide +kernel
theorem dX6_more_54 : decode cX6_more 54 = .ok (.irem, 1) := by decide +kernel
theorem dX6_more_55 : decode cX6_more 55 = .ok (.ifCond .ne 7, 3) := by decide +kernel
theorem dX6_more_58 : decode cX6_more 58 = .ok (.iconst 1, 1) := by decide +kernel
theorem dX6_more_59 : decode cX6_more 59 = .ok (.goto 4, 3) := by decide +kernel
theorem dX6_more_62 : decode cX6_more 62 = .ok (.iconst 0, 1) := by decide +kernel
theorem dX6_more_63 : decode cX6_more 63 = .ok (.iload_n 3, 1) := by decide +kernel
theorem dX6_more_64 : decode cX6_more 64 = .ok (.ifCond .eq 7, 3) := by decide +kernel
theorem dX6_more_67 : decode cX6_more 67 = .ok (.iconst 1, 1) := by decide +kernel
theorem dX6_more_68 : decode cX6_more 68 = .ok (.goto 4, 3) := by decide +kernel
theorem dX6_more_71 : decode cX6_more 71 = .ok (.iconst 0, 1) := by decide +kernel
theorem dX6_more_72 : decode cX6_more 72 = .ok (.iadd, 1) := by decide +kernel
theorem dX6_more_73 : decode cX6_more 73 = .ok (.ireturn, 1) := by decide +kernel
theorem dX6_more_74 : decode cX6_more 74 = .ok (.iconst 1, 1) := by decide +kernel
theorem dX6_more_75 : decode cX6_more 75 = .ok (.ireturn, 1) := by decide +kernel
theorem dX6_goHour_0 : decode cX6_goHour 0 = .ok (.aload_n 0, 1) := by decide +kernel
theorem dX6_goHour_1 : decode cX6_goHour 1 = .ok (.invokevirtual 92, 3) := by decide +kernel
theorem dX6_goHour_4 : decode cX6_goHour 4 = .ok (.istore_n 1, 1) := by decide +kernel
theorem dX6_goHour_5 : decode cX6_goHour 5 = .ok (.aload_n 0, 1) := by decide +kernel
theorem dX6_goHour_6 : decode cX6_goHour 6 = .ok (.dup, 1) := by decide +kernel
theorem dX6_goHour_7 : decode cX6_goHour 7 = .ok (.getfield 86, 3) := by decide +kernel
theorem dX6_goHour_10 : decode cX6_goHour 10 = .ok (.iconst 1, 1) := by decide +kernel
theorem dX6_goHour_11 : decode cX6_goHour 11 = .ok (.iadd, 1) := by decide +kernel
theorem dX6_goHour_12 : decode cX6_goHour 12 = .ok (.putfield 86, 3) := by decide +kernel
theorem dX6_goHour_15 : decode cX6_goHour 15 = .ok (.iload_n 1, 1) := by decide +kernel
theorem dX6_goHour_16 : decode cX6_goHour 16 = .ok (.iconst (-1), 1) := by decide +kernel
theorem dX6_goHour_17 : decode cX6_goHour 17 = .ok (.if_icmp .eq 26, 3) := by decide +kernel
theorem dX6_goHour_20 : decode cX6_goHour 20 = .ok (.aload_n 0, 1) := by decide +kernel
theorem dX6_goHour_21 : decode cX6_goHour 21 = .ok (.getfield 20, 3) := by decide +kernel
theorem dX6_goHour_24 : decode cX6_goHour 24 = .ok (.iload_n 1, 1) := by decide +kernel
theorem dX6_goHour_25 : decode cX6_goHour 25 = .ok (.dup2, 1) := by decide +kernel
theorem dX6_goHour_26 : decode cX6_goHour 26 = .ok (.iaload, 1) := by decide +kernel
theorem dX6_goHour_27 : decode cX6_goHour 27 = .ok (.iconst 1, 1) := by decide +kernel
theorem dX6_goHour_28 : decode cX6_goHour 28 = .ok (.iadd, 1) := by decide +kernel
theorem dX6_goHour_29 : decode cX6_goHour 29 = .ok (.iastore, 1) := by decide +kernel
theorem dX6_goHour_30 : decode cX6_goHour 30 = .ok (.aload_n 0, 1) := by decide +kernel
theorem dX6_goHour_31 : decode cX6_goHour 31 = .ok (.getfield 13, 3) := by decide +kernel
theorem dX6_goHour_34 : decode cX6_goHour 34 = .ok (.iload_n 1, 1) := by decide +kernel
theorem dX6_goHour_35 : decode cX6_goHour 35 = .ok (.dup2, 1) := by decide +kernel
theorem dX6_goHour_36 : decode cX6_goHour 36 = .ok (.iaload, 1) := by decide +kernel
theorem dX6_goHour_37 : decode cX6_goHour 37 = .ok (.aload_n 0, 1) := by decide +kernel
theorem dX6_goHour_38 : decode cX6_goHour 38 = .ok (.getfield 80, 3) := by decide +kernel
theorem dX6_goHour_41 : decode cX6_goHour 41 = .ok (.iadd, 1) := by decide +kernel
theorem dX6_goHour_42 : decode cX6_goHour 42 = .ok (.iastore, 1) := by decide +kernel
theorem dX6_goHour_43 : decode cX6_goHour 43 = .ok (.iconst 0, 1) := by decide +kernel
theorem dX6_goHour_44 : decode cX6_goHour 44 = .ok (.istore_n 2, 1) := by decide +kernel
theorem dX6_goHour_45 : decode cX6_goHour 45 = .ok (.iload_n 2, 1) := by decide +kernel
theorem dX6_goHour_46 : decode cX6_goHour 46 = .ok (.aload_n 0, 1) := by decide +kernel
theorem dX6_goHour_47 : decode cX6_goHour 47 = .ok (.getfield 77, 3) := by decide +kernel
theorem dX6_goHour_50 : decode cX6_goHour 50 = .ok (.if_icmp .ge 117, 3) := by decide +kernel
theorem dX6_goHour_53 : decode cX6_goHour 53 = .ok (.aload_n 0, 1) := by decide +kernel
theorem dX6_goHour_54 : decode cX6_goHour 54 = .ok (.getfield 13, 3) := by decide +kernel
theorem dX6_goHour_57 : decode cX6_goHour 57 = .ok (.iload_n 2, 1) := by decide +kernel
theorem dX6_goHour_58 : decode cX6_goHour 58 = .ok (.iaload, 1) := by decide +kernel
theorem dX6_goHour_59 : decode cX6_goHour 59 = .ok (.istore_n 3, 1) := by decide +kernel
theorem dX6_goHour_60 : decode cX6_goHour 60 = .ok (.aload_n 0, 1) := by decide +kernel
theorem dX6_goHour_61 : decode cX6_goHour 61 = .ok (.getfield 16, 3) := by decide +kernel
theorem dX6_goHour_64 : decode cX6_goHour 64 = .ok (.iload_n 2, 1) := by decide +kernel
theorem dX6_goHour_65 : decode cX6_goHour 65 = .ok (.baload, 1) := by decide +kernel
theorem dX6_goHour_66 : decode cX6_goHour 66 = .ok (.ifCond .eq 9, 3) := by decide +kernel
theorem dX6_goHour_69 : decode cX6_goHour 69 = .ok (.iload_n 3, 1) := by decide +kernel
theorem dX6_goHour_70 : decode cX6_goHour 70 = .ok (.iconst 3, 1) := by decide +kernel
theorem dX6_goHour_71 : decode cX6_goHour 71 = .ok (.isub, 1) := by decide +kernel
theorem dX6_goHour_72 : decode cX6_goHour 72 = .ok (.goto 29, 3) := by decide +kernel
theorem dX6_goHour_75 : decode cX6_goHour 75 = .ok (.iload_n 3, 1) := by decide +kernel
theorem dX6_goHour_76 : decode cX6_goHour 76 = .ok (.aload_n 0, 1) := by decide +kernel
theorem dX6_goHour_77 : decode cX6_goHour 77 = .ok (.getfield 7, 3) := by decide +kernel
theorem dX6_goHour_80 : decode cX6_goHour 80 = .ok (.iload_n 2, 1) := by decide +kernel
theorem dX6_goHour_81 : decode cX6_goHour 81 = .ok (.iaload, 1) := by decide +kernel
theorem dX6_goHour_82 : decode cX6_goHour 82 = .ok (.iload_n 3, 1) := by decide +kernel
theorem dX6_goHour_83 : decode cX6_goHour 83 = .ok (.aload_n 0, 1) := by decide +kernel
theorem dX6_goHour_84 : decode cX6_goHour 84 = .ok (.getfield 86, 3) := by decide +kernel
theorem dX6_goHour_87 : decode cX6_goHour 87 = .ok (.iload_n 2, 1) := by decide +kernel
theorem dX6_goHour_88 : decode cX6_goHour 88 = .ok (.iload_n 1, 1) := by decide +kernel
theorem dX6_goHour_89 : decode cX6_goHour 89 = .ok (.if_icmp .ne 7, 3) := by decide +kernel
theorem dX6_goHour_92 : decode cX6_goHour 92 = .ok (.iconst 1, 1) := by decide +kernel
theorem dX6_goHour_93 : decode cX6_goHour 93 = .ok (.goto 4, 3) := by decide +kernel
theorem dX6_goHour_96 : decode cX6_goHour 96 = .ok (.iconst 0, 1) := by decide +kernel
theorem dX6_goHour_97 : decode cX6_goHour 97 = .ok (.invokestatic 95, 3) := by decide +kernel
theorem dX6_goHour_100 : decode cX6_goHour 100 = .ok (.iadd, 1) := by decide +kernel
theorem dX6_goHour_101 : decode cX6_goHour 101 = .ok (.istore_n 3, 1) := by decide +kernel
theorem dX6_goHour_102 : decode cX6_goHour 102 = .ok (.iload_n 3, 1) := by decide +kernel
theorem dX6_goHour_103 : decode cX6_goHour 103 = .ok (.ifCond .ge 7, 3) := by decide +kernel
theorem dX6_goHour_106 : decode cX6_goHour 106 = .ok (.iconst 0, 1) := by decide +kernel
theorem dX6_goHour_107 : decode cX6_goHour 107 = .ok (.goto 15, 3) := by decide +kernel
theorem dX6_goHour_110 : decode cX6_goHour 110 = .ok (.iload_n 3, 1) := by decide +kernel
theorem dX6_goHour_111 : decode cX6_goHour 111 = .ok (.bipush 10, 2) := by decide +kernel
theorem dX6_goHour_113 : decode cX6_goHour 113 = .ok (.if_icmp .le 8, 3) := by decide +kernel
theorem dX6_goHour_116 : decode cX6_goHour 116 = .ok (.bipush 10, 2) := by decide +kernel
theorem dX6_goHour_118 : decode cX6_goHour 118 = .ok (.goto 4, 3) := by decide +kernel
theorem dX6_goHour_121 : decode cX6_goHour 121 = .ok (.iload_n 3, 1) := by decide +kernel
theorem dX6_goHour_122 : decode cX6_goHour 122 = .ok (.istore_n 3, 1) := by decide +kernel
theorem dX6_goHour_123 : decode cX6_goHour 123 = .ok (.aload_n 0, 1) := by decide +kernel
theorem dX6_goHour_124 : decode cX6_goHour 124 = .ok (.getfield 13, 3) := by decide +kernel
theorem dX6_goHour_127 : decode cX6_goHour 127 = .ok (.iload_n 2, 1) := by decide +kernel
theorem dX6_goHour_128 : decode cX6_goHour 128 = .ok (.iload_n 3, 1) := by decide +kernel
theorem dX6_goHour_129 : decode cX6_goHour 129 = .ok (.iastore, 1) := by decide +kernel
theorem dX6_goHour_130 : decode cX6_goHour 130 = .ok (.aload_n 0, 1) := by decide +kernel
theorem dX6_goHour_131 : decode cX6_goHour 131 = .ok (.getfield 16, 3) := by decide +kernel
theorem dX6_goHour_134 : decode cX6_goHour 134 = .ok (.iload_n 2, 1) := by decide +kernel
theorem dX6_goHour_135 : decode cX6_goHour 135 = .ok (.iload_n 3, 1) := by decide +kernel
theorem dX6_goHour_136 : decode cX6_goHour 136 = .ok (.bipush 10, 2) := by decide +kernel
theorem dX6_goHour_138 : decode cX6_goHour 138 = .ok (.if_icmp .eq 17, 3) := by decide +kernel
theorem dX6_goHour_141 : decode cX6_goHour 141 = .ok (.aload_n 0, 1) := by decide +kernel
theorem dX6_goHour_142 : decode cX6_goHour 142 = .ok (.getfield 16, 3) := by decide +kernel
theorem dX6_goHour_145 : decode cX6_goHour 145 = .ok (.iload_n 2, 1) := by decide +kernel
theorem dX6_goHour_146 : decode cX6_goHour 146 = .ok (.baload, 1) := by decide +kernel
theorem dX6_goHour_147 : decode cX6_goHour 147 = .ok (.ifCond .eq 12, 3) := by decide +kernel
theorem dX6_goHour_150 : decode cX6_goHour 150 = .ok (.iload_n 3, 1) := by decide +kernel
theorem dX6_goHour_151 : decode cX6_goHour 151 = .ok (.iconst 2, 1) := by decide +kernel
theorem dX6_goHour_152 : decode cX6_goHour 152 = .ok (.if_icmp .le 7, 3) := by decide +kernel
theorem dX6_goHour_155 : decode cX6_goHour 155 = .ok (.iconst 1, 1) := by decide +kernel
theorem dX6_goHour_156 : decode cX6_goHour 156 = .ok (.goto 4, 3) := by decide +kernel
theorem dX6_goHour_159 : decode cX6_goHour 159 = .ok (.iconst 0, 1) := by decide +kernel
theorem dX6_goHour_160 : decode cX6_goHour 160 = .ok (.bastore, 1) := by decide +kernel
theorem dX6_goHour_161 : decode cX6_goHour 161 = .ok (.iinc 2 1, 3) := by decide +kernel
theorem dX6_goHour_164 : decode cX6_goHour 164 = .ok (.goto (-119), 3) := by decide +kernel
theorem dX6_goHour_167 : decode cX6_goHour 167 = .ok (.return_, 1) := by decide +kernel
theorem dX6_sleeping_0 : decode cX6_sleeping 0 = .ok (.iconst 0, 1) := by decide +kernel
theorem dX6_sleeping_1 : decode cX6_sleeping 1 = .ok (.istore_n 1, 1) := by decide +kernel
theorem dX6_sleeping_2 : decode cX6_sleeping 2 = .ok (.iconst 0, 1) := by decide +kernel
theorem dX6_sleeping_3 : decode cX6_sleeping 3 = .ok (.istore_n 2, 1) := by decide +kernel
theorem dX6_sleeping_4 : decode cX6_sleeping 4 = .ok (.iload_n 2, 1) := by decide +kernel
theorem dX6_sleeping_5 : decode cX6_sleeping 5 = .ok (.aload_n 0, 1) := by decide +kernel
theorem dX6_sleeping_6 : decode cX6_sleeping 6 = .ok (.getfield 77, 3) := by decide +kernel
theorem dX6_sleeping_9 : decode cX6_sleeping 9 = .ok (.if_icmp .ge 26, 3) := by decide +kernel
theorem dX6_sleeping_12 : decode cX6_sleeping 12 = .ok (.iload_n 1, 1) := by decide +kernel
theorem dX6_sleeping_13 : decode cX6_sleeping 13 = .ok (.aload_n 0, 1) := by decide +kernel
theorem dX6_sleeping_14 : decode cX6_sleeping 14 = .ok (.getfield 16, 3) := by decide +kernel
theorem dX6_sleeping_17 : decode cX6_sleeping 17 = .ok (.iload_n 2, 1) := by decide +kernel
theorem dX6_sleeping_18 : decode cX6_sleeping 18 = .ok (.baload, 1) := by decide +kernel
theorem dX6_sleeping_19 : decode cX6_sleeping 19 = .ok (.ifCond .eq 7, 3) := by decide +kernel
theorem dX6_sleeping_22 : decode cX6_sleeping 22 = .ok (.iconst 1, 1) := by decide +kernel
theorem dX6_sleeping_23 : decode cX6_sleeping 23 = .ok (.goto 4, 3) := by decide +kernel
theorem dX6_sleeping_26 : decode cX6_sleeping 26 = .ok (.iconst 0, 1) := by decide +kernel
theorem dX6_sleeping_27 : decode cX6_sleeping 27 = .ok (.iadd, 1) := by decide +kernel
theorem dX6_sleeping_28 : decode cX6_sleeping 28 = .ok (.istore_n 1, 1) := by decide +kernel
theorem dX6_sleeping_29 : decode cX6_sleeping 29 = .ok (.iinc 2 1, 3) := by decide +kernel
theorem dX6_sleeping_32 : decode cX6_sleeping 32 = .ok (.goto (-28), 3) := by decide +kernel
theorem dX6_sleeping_35 : decode cX6_sleeping 35 = .ok (.iload_n 1, 1) := by decide +kernel
theorem dX6_sleeping_36 : decode cX6_sleeping 36 = .ok (.ireturn, 1) := by decide +kernel
theorem dX6_drink_0 : decode cX6_drink 0 = .ok (.aload_n 0, 1) := by decide +kernel
theorem dX6_drink_1 : decode cX6_drink 1 = .ok (.getfield 16, 3) := by decide +kernel
theorem dX6_drink_4 : decode cX6_drink 4 = .ok (.iload_n 1, 1) := by decide +kernel
theorem dX6_drink_5 : decode cX6_drink 5 = .ok (.baload, 1) := by decide +kernel
theorem dX6_drink_6 : decode cX6_drink 6 = .ok (.ifCond .ne 31, 3) := by decide +kernel
theorem dX6_drink_9 : decode cX6_drink 9 = .ok (.aload_n 0, 1) := by decide +kernel
theorem dX6_drink_10 : decode cX6_drink 10 = .ok (.getfield 13, 3) := by decide +kernel
theorem dX6_drink_13 : decode cX6_drink 13 = .ok (.iload_n 1, 1) := by decide +kernel
theorem dX6_drink_14 : decode cX6_drink 14 = .ok (.aload_n 0, 1) := by decide +kernel
theorem dX6_drink_15 : decode cX6_drink 15 = .ok (.getfield 13, 3) := by decide +kernel
theorem dX6_drink_18 : decode cX6_drink 18 = .ok (.iload_n 1, 1) := by decide +kernel
theorem dX6_drink_19 : decode cX6_drink 19 = .ok (.iaload, 1) := by decide +kernel
theorem dX6_drink_20 : decode cX6_drink 20 = .ok (.iconst 3, 1) := by decide +kernel
theorem dX6_drink_21 : decode cX6_drink 21 = .ok (.if_icmp .ge 7, 3) := by decide +kernel
theorem dX6_drink_24 : decode cX6_drink 24 = .ok (.iconst 0, 1) := by decide +kernel
theorem dX6_drink_25 : decode cX6_drink 25 = .ok (.goto 11, 3) := by decide +kernel
theorem dX6_drink_28 : decode cX6_drink 28 = .ok (.aload_n 0, 1) := by decide +kernel
theorem dX6_drink_29 : decode cX6_drink 29 = .ok (.getfield 13, 3) := by decide +kernel
theorem dX6_drink_32 : decode cX6_drink 32 = .ok (.iload_n 1, 1) := by decide +kernel
theorem dX6_drink_33 : decode cX6_drink 33 = .ok (.iaload, 1) := by decide +kernel
theorem dX6_drink_34 : decode cX6_drink 34 = .ok (.iconst 3, 1) := by decide +kernel
theorem dX6_drink_35 : decode cX6_drink 35 = .ok (.isub, 1) := by decide +kernel
theorem dX6_drink_36 : decode cX6_drink 36 = .ok (.iastore, 1) := by decide +kernel
theorem dX6_drink_37 : decode cX6_drink 37 = .ok (.return_, 1) := by decide +kernel
theorem dX6_hearLecture_0 : decode cX6_hearLecture 0 = .ok (.aload_n 0, 1) := by decide +kernel
theorem dX6_hearLecture_1 : decode cX6_hearLecture 1 = .ok (.getfield 16, 3) := by decide +kernel
theorem dX6_hearLecture_4 : decode cX6_hearLecture 4 = .ok (.iload_n 1, 1) := by decide +kernel
theorem dX6_hearLecture_5 : decode cX6_hearLecture 5 = .ok (.baload, 1) := by decide +kernel
theorem dX6_hearLecture_6 : decode cX6_hearLecture 6 = .ok (.ifCond .ne 57, 3) := by decide +kernel
theorem dX6_hearLecture_9 : decode cX6_hearLecture 9 = .ok (.aload_n 0, 1) := by decide +kernel
theorem dX6_hearLecture_10 : decode cX6_hearLecture 10 = .ok (.getfield 13, 3) := by decide +kernel
theorem dX6_hearLecture_13 : decode cX6_hearLecture 13 = .ok (.iload_n 1, 1) := by decide +kernel
theorem dX6_hearLecture_14 : decode cX6_hearLecture 14 = .ok (.aload_n 0, 1) := by decide +kernel
theorem dX6_hearLecture_15 : decode cX6_hearLecture 15 = .ok (.getfield 13, 3) := by decide +kernel
theorem dX6_hearLecture_18 : decode cX6_hearLecture 18 = .ok (.iload_n 1, 1) := by decide +kernel
theorem dX6_hearLecture_19 : decode cX6_hearLecture 19 = .ok (.iaload, 1) := by decide +kernel
theorem dX6_hearLecture_20 : decode cX6_hearLecture 20 = .ok (.iconst 2, 1) := by decide +kernel
theorem dX6_hearLecture_21 : decode cX6_hearLecture 21 = .ok (.iadd, 1) := by decide +kernel
theorem dX6_hearLecture_22 : decode cX6_hearLecture 22 = .ok (.bipush 10, 2) := by decide +kernel
theorem dX6_hearLecture_24 : decode cX6_hearLecture 24 = .ok (.if_icmp .le 8, 3) := by decide +kernel
theorem dX6_hearLecture_27 : decode cX6_hearLecture 27 = .ok (.bipush 10, 2) := by decide +kernel
theorem dX6_hearLecture_29 : decode cX6_hearLecture 29 = .ok (.goto 11, 3) := by decide +kernel
theorem dX6_hearLecture_32 : decode cX6_hearLecture 32 = .ok (.aload_n 0, 1) := by decide +kernel
theorem dX6_hearLecture_33 : decode cX6_hearLecture 33 = .ok (.getfield 13, 3) := by decide +kernel
theorem dX6_hearLecture_36 : decode cX6_hearLecture 36 = .ok (.iload_n 1, 1) := by decide +kernel
theorem dX6_hearLecture_37 : decode cX6_hearLecture 37 = .ok (.iaload, 1) := by decide +kernel
theorem dX6_hearLecture_38 : decode cX6_hearLecture 38 = .ok (.iconst 2, 1) := by decide +kernel
theorem dX6_hearLecture_39 : decode cX6_hearLecture 39 = .ok (.iadd, 1) := by decide +kernel
theorem dX6_hearLecture_40 : decode cX6_hearLecture 40 = .ok (.iastore, 1) := by decide +kernel
theorem dX6_hearLecture_41 : decode cX6_hearLecture 41 = .ok (.aload_n 0, 1) := by decide +kernel
theorem dX6_hearLecture_42 : decode cX6_hearLecture 42 = .ok (.getfield 16, 3) := by decide +kernel
theorem dX6_hearLecture_45 : decode cX6_hearLecture 45 = .ok (.iload_n 1, 1) := by decide +kernel
theorem dX6_hearLecture_46 : decode cX6_hearLecture 46 = .ok (.aload_n 0, 1) := by decide +kernel
theorem dX6_hearLecture_47 : decode cX6_hearLecture 47 = .ok (.getfield 13, 3) := by decide +kernel
theorem dX6_hearLecture_50 : decode cX6_hearLecture 50 = .ok (.iload_n 1, 1) := by decide +kernel
theorem dX6_hearLecture_51 : decode cX6_hearLecture 51 = .ok (.iaload, 1) := by decide +kernel
theorem dX6_hearLecture_52 : decode cX6_hearLecture 52 = .ok (.bipush 10, 2) := by decide +kernel
theorem dX6_hearLecture_54 : decode cX6_hearLecture 54 = .ok (.if_icmp .ne 7, 3) := by decide +kernel
theorem dX6_hearLecture_57 : decode cX6_hearLecture 57 = .ok (.iconst 1, 1) := by decide +kernel
theorem dX6_hearLecture_58 : decode cX6_hearLecture 58 = .ok (.goto 4, 3) := by decide +kernel
theorem dX6_hearLecture_61 : decode cX6_hearLecture 61 = .ok (.iconst 0, 1) := by decide +kernel
theorem dX6_hearLecture_62 : decode cX6_hearLecture 62 = .ok (.bastore, 1) := by decide +kernel
theorem dX6_hearLecture_63 : decode cX6_hearLecture 63 = .ok (.return_, 1) := by decide +kernel
theorem dX6_save_0 : decode cX6_save 0 = .ok (.iconst 0, 1) := by decide +kernel
theorem dX6_save_1 : decode cX6_save 1 = .ok (.istore_n 2, 1) := by decide +kernel
theorem dX6_save_2 : decode cX6_save 2 = .ok (.iload_n 2, 1) := by decide +kernel
theorem dX6_save_3 : decode cX6_save 3 = .ok (.iconst 5, 1) := by decide +kernel
theorem dX6_save_4 : decode cX6_save 4 = .ok (.if_icmp .ge 53, 3) := by decide +kernel
theorem dX6_save_7 : decode cX6_save 7 = .ok (.aload_n 0, 1) := by decide +kernel
theorem dX6_save_8 : decode cX6_save 8 = .ok (.getfield 33, 3) := by decide +kernel
theorem dX6_save_11 : decode cX6_save 11 = .ok (.bipush 11, 2) := by decide +kernel
theorem dX6_save_13 : decode cX6_save 13 = .ok (.iload_n 1, 1) := by decide +kernel
theorem dX6_save_14 : decode cX6_save 14 = .ok (.imul, 1) := by decide +kernel
theorem dX6_save_15 : decode cX6_save 15 = .ok (.iload_n 2, 1) := by decide +kernel
theorem dX6_save_16 : decode cX6_save 16 = .ok (.iadd, 1) := by decide +kernel
theorem dX6_save_17 : decode cX6_save 17 = .ok (.aload_n 0, 1) := by decide +kernel
theorem dX6_save_18 : decode cX6_save 18 = .ok (.getfield 13, 3) := by decide +kernel
theorem dX6_save_21 : decode cX6_save 21 = .ok (.iload_n 2, 1) := by decide +kernel
theorem dX6_save_22 : decode cX6_save 22 = .ok (.iaload, 1) := by decide +kernel
theorem dX6_save_23 : decode cX6_save 23 = .ok (.iastore, 1) := by decide +kernel
theorem dX6_save_24 : decode cX6_save 24 = .ok (.aload_n 0, 1) := by decide +kernel
theorem dX6_save_25 : decode cX6_save 25 = .ok (.getfield 33, 3) := by decide +kernel
theorem dX6_save_28 : decode cX6_save 28 = .ok (.bipush 11, 2) := by decide +kernel
theorem dX6_save_30 : decode cX6_save 30 = .ok (.iload_n 1, 1) := by decide +kernel
theorem dX6_save_31 : decode cX6_save 31 = .ok (.imul, 1) := by decide +kernel
theorem dX6_save_32 : decode cX6_save 32 = .ok (.iconst 5, 1) := by decide +kernel
theorem dX6_save_33 : decode cX6_save 33 = .ok (.iadd, 1) := by decide +kernel
theorem dX6_save_34 : decode cX6_save 34 = .ok (.iload_n 2, 1) := by decide +kernel
theorem dX6_save_35 : decode cX6_save 35 = .ok (.iadd, 1) := by decide +kernel
theorem dX6_save_36 : decode cX6_save 36 = .ok (.aload_n 0, 1) := by decide +kernel
theorem dX6_save_37 : decode cX6_save 37 = .ok (.getfield 16, 3) := by decide +kernel
theorem dX6_save_40 : decode cX6_save 40 = .ok (.iload_n 2, 1) := by decide +kernel
theorem dX6_save_41 : decode cX6_save 41 = .ok (.baload, 1) := by decide +kernel
theorem dX6_save_42 : decode cX6_save 42 = .ok (.ifCond .eq 7, 3) := by decide +kernel
theorem dX6_save_45 : decode cX6_save 45 = .ok (.iconst 1, 1) := by decide +kernel
theorem dX6_save_46 : decode cX6_save 46 = .ok (.goto 4, 3) := by decide +kernel
theorem dX6_save_49 : decode cX6_save 49 = .ok (.iconst 0, 1) := by decide +kernel
theorem dX6_save_50 : decode cX6_save 50 = .ok (.iastore, 1) := by decide +kernel
theorem dX6_save_51 : decode cX6_save 51 = .ok (.iinc 2 1, 3) := by decide +kernel
theorem dX6_save_54 : decode cX6_save 54 = .ok (.goto (-52), 3) := by decide +kernel
theorem dX6_save_57 : decode cX6_save 57 = .ok (.aload_n 0, 1) := by decide +kernel
theorem dX6_save_58 : decode cX6_save 58 = .ok (.getfield 33, 3) := by decide +kernel
theorem dX6_save_61 : decode cX6_save 61 = .ok (.bipush 11, 2) := by decide +kernel
theorem dX6_save_63 : decode cX6_save 63 = .ok (.iload_n 1, 1) := by decide +kernel
theorem dX6_save_64 : decode cX6_save 64 = .ok (.imul, 1) := by decide +kernel
theorem dX6_save_65 : decode cX6_save 65 = .ok (.bipush 10, 2) := by decide +kernel
theorem dX6_save_67 : decode cX6_save 67 = .ok (.iadd, 1) := by decide +kernel
theorem dX6_save_68 : decode cX6_save 68 = .ok (.aload_n 0, 1) := by decide +kernel
theorem dX6_save_69 : decode cX6_save 69 = .ok (.getfield 86, 3) := by decide +kernel
theorem dX6_save_72 : decode cX6_save 72 = .ok (.iastore, 1) := by decide +kernel
theorem dX6_save_73 : decode cX6_save 73 = .ok (.return_, 1) := by decide +kernel
theorem dX6_load_0 : decode cX6_load 0 = .ok (.iconst 0, 1) := by decide +kernel
theorem dX6_load_1 : decode cX6_load 1 = .ok (.istore_n 2, 1) := by decide +kernel
theorem dX6_load_2 : decode cX6_load 2 = .ok (.iload_n 2, 1) := by decide +kernel
theorem dX6_load_3 : decode cX6_load 3 = .ok (.iconst 5, 1) := by decide +kernel
theorem dX6_load_4 : decode cX6_load 4 = .ok (.if_icmp .ge 54, 3) := by decide +kernel
theorem dX6_load_7 : decode cX6_load 7 = .ok (.aload_n 0, 1) := by decide +kernel
theorem dX6_load_8 : decode cX6_load 8 = .ok (.getfield 13, 3) := by decide +kernel
theorem dX6_load_11 : decode cX6_load 11 = .ok (.iload_n 2, 1) := by decide +kernel
theorem dX6_load_12 : decode cX6_load 12 = .ok (.aload_n 0, 1) := by decide +kernel
theorem dX6_load_13 : decode cX6_load 13 = .ok (.getfield 33, 3) := by decide +kernel
theorem dX6_load_16 : decode cX6_load 16 = .ok (.bipush 11, 2) := by decide +kernel
theorem dX6_load_18 : decode cX6_load 18 = .ok (.iload_n 1, 1) := by decide +kernel
theorem dX6_load_19 : decode cX6_load 19 = .ok (.imul, 1) := by decide +kernel
theorem dX6_load_20 : decode cX6_load 20 = .ok (.iload_n 2, 1) := by decide +kernel
theorem dX6_load_21 : decode cX6_load 21 = .ok (.iadd, 1) := by decide +kernel
theorem dX6_load_22 : decode cX6_load 22 = .ok (.iaload, 1) := by decide +kernel
theorem dX6_load_23 : decode cX6_load 23 = .ok (.iastore, 1) := by decide +kernel
theorem dX6_load_24 : decode cX6_load 24 = .ok (.aload_n 0, 1) := by decide +kernel
theorem dX6_load_25 : decode cX6_load 25 = .ok (.getfield 16, 3) := by decide +kernel
theorem dX6_load_28 : decode cX6_load 28 = .ok (.iload_n 2, 1) := by decide +kernel
theorem dX6_load_29 : decode cX6_load 29 = .ok (.aload_n 0, 1) := by decide +kernel
theorem dX6_load_30 : decode cX6_load 30 = .ok (.getfield 33, 3) := by decide +kernel
theorem dX6_load_33 : decode cX6_load 33 = .ok (.bipush 11, 2) := by decide +kernel
theorem dX6_load_35 : decode cX6_load 35 = .ok (.iload_n 1, 1) := by decide +kernel
theorem dX6_load_36 : decode cX6_load 36 = .ok (.imul, 1) := by decide +kernel
theorem dX6_load_37 : decode cX6_load 37 = .ok (.iconst 5, 1) := by decide +kernel
theorem dX6_load_38 : decode cX6_load 38 = .ok (.iadd, 1) := by decide +kernel
theorem dX6_load_39 : decode cX6_load 39 = .ok (.iload_n 2, 1) := by decide +kernel
theorem dX6_load_40 : decode cX6_load 40 = .ok (.iadd, 1) := by decide +kernel
theorem dX6_load_41 : decode cX6_load 41 = .ok (.iaload, 1) := by decide +kernel
theorem dX6_load_42 : decode cX6_load 42 = .ok (.iconst 1, 1) := by decide +kernel
theorem dX6_load_43 : decode cX6_load 43 = .ok (.if_icmp .ne 7, 3) := by decide +kernel
theorem dX6_load_46 : decode cX6_load 46 = .ok (.iconst 1, 1) := by decide +kernel
theorem dX6_load_47 : decode cX6_load 47 = .ok (.goto 4, 3) := by decide +kernel
theorem dX6_load_50 : decode cX6_load 50 = .ok (.iconst 0, 1) := by decide +kernel
theorem dX6_load_51 : decode cX6_load 51 = .ok (.bastore, 1) := by decide +kernel
theorem dX6_load_52 : decode cX6_load 52 = .ok (.iinc 2 1, 3) := by decide +kernel
theorem dX6_load_55 : decode cX6_load 55 = .ok (.goto (-53), 3) := by decide +kernel
theorem dX6_load_58 : decode cX6_load 58 = .ok (.aload_n 0, 1) := by decide +kernel
theorem dX6_load_59 : decode cX6_load 59 = .ok (.aload_n 0, 1) := by decide +kernel
theorem dX6_load_60 : decode cX6_load 60 = .ok (.getfield 33, 3) := by decide +kernel
theorem dX6_load_63 : decode cX6_load 63 = .ok (.bipush 11, 2) := by decide +kernel
