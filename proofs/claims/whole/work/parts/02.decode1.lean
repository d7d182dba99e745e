theorem dX6_init_78 : decode cX6_init 78 = .ok (.aload_n 1, 1) := by decide +kernel
theorem dX6_init_79 : decode cX6_init 79 = .ok (.invokespecial 35, 3) := by decide +kernel
theorem dX6_init_82 : decode cX6_init 82 = .ok (.aastore, 1) := by decide +kernel
theorem dX6_init_83 : decode cX6_init 83 = .ok (.aload_n 0, 1) := by decide +kernel
theorem dX6_init_84 : decode cX6_init 84 = .ok (.getfield 20, 3) := by decide +kernel
theorem dX6_init_87 : decode cX6_init 87 = .ok (.iconst 4, 1) := by decide +kernel
theorem dX6_init_88 : decode cX6_init 88 = .ok (.new 38, 3) := by decide +kernel
theorem dX6_init_91 : decode cX6_init 91 = .ok (.dup, 1) := by decide +kernel
theorem dX6_init_92 : decode cX6_init 92 = .ok (.invokespecial 40, 3) := by decide +kernel
theorem dX6_init_95 : decode cX6_init 95 = .ok (.aastore, 1) := by decide +kernel
theorem dX6_init_96 : decode cX6_init 96 = .ok (.return_, 1) := by decide +kernel
theorem dX6_isOne_0 : decode cX6_isOne 0 = .ok (.iload_n 2, 1) := by decide +kernel
theorem dX6_isOne_1 : decode cX6_isOne 1 = .ok (.iload_n 1, 1) := by decide +kernel
theorem dX6_isOne_2 : decode cX6_isOne 2 = .ok (.invokestatic 41, 3) := by decide +kernel
theorem dX6_isOne_5 : decode cX6_isOne 5 = .ok (.ifCond .ne 5, 3) := by decide +kernel
theorem dX6_isOne_8 : decode cX6_isOne 8 = .ok (.iconst 0, 1) := by decide +kernel
theorem dX6_isOne_9 : decode cX6_isOne 9 = .ok (.ireturn, 1) := by decide +kernel
theorem dX6_isOne_10 : decode cX6_isOne 10 = .ok (.iconst 0, 1) := by decide +kernel
theorem dX6_isOne_11 : decode cX6_isOne 11 = .ok (.istore_n 3, 1) := by decide +kernel
theorem dX6_isOne_12 : decode cX6_isOne 12 = .ok (.iconst 0, 1) := by decide +kernel
theorem dX6_isOne_13 : decode cX6_isOne 13 = .ok (.istore 4, 2) := by decide +kernel
theorem dX6_isOne_15 : decode cX6_isOne 15 = .ok (.iload 4, 2) := by decide +kernel
theorem dX6_isOne_17 : decode cX6_isOne 17 = .ok (.iload_n 1, 1) := by decide +kernel
theorem dX6_isOne_18 : decode cX6_isOne 18 = .ok (.if_icmp .ge 21, 3) := by decide +kernel
theorem dX6_isOne_21 : decode cX6_isOne 21 = .ok (.iload_n 3, 1) := by decide +kernel
theorem dX6_isOne_22 : decode cX6_isOne 22 = .ok (.iconst 1, 1) := by decide +kernel
theorem dX6_isOne_23 : decode cX6_isOne 23 = .ok (.iload_n 2, 1) := by decide +kernel
theorem dX6_isOne_24 : decode cX6_isOne 24 = .ok (.iload_n 1, 1) := by decide +kernel
theorem dX6_isOne_25 : decode cX6_isOne 25 = .ok (.iload 4, 2) := by decide +kernel
theorem dX6_isOne_27 : decode cX6_isOne 27 = .ok (.invokestatic 45, 3) := by decide +kernel
theorem dX6_isOne_30 : decode cX6_isOne 30 = .ok (.ishl, 1) := by decide +kernel
theorem dX6_isOne_31 : decode cX6_isOne 31 = .ok (.ior, 1) := by decide +kernel
theorem dX6_isOne_32 : decode cX6_isOne 32 = .ok (.istore_n 3, 1) := by decide +kernel
theorem dX6_isOne_33 : decode cX6_isOne 33 = .ok (.iinc 4 1, 3) := by decide +kernel
theorem dX6_isOne_36 : decode cX6_isOne 36 = .ok (.goto (-21), 3) := by decide +kernel
theorem dX6_isOne_39 : decode cX6_isOne 39 = .ok (.iload_n 3, 1) := by decide +kernel
theorem dX6_isOne_40 : decode cX6_isOne 40 = .ok (.iconst 1, 1) := by decide +kernel
theorem dX6_isOne_41 : decode cX6_isOne 41 = .ok (.iload_n 1, 1) := by decide +kernel
theorem dX6_isOne_42 : decode cX6_isOne 42 = .ok (.ishl, 1) := by decide +kernel
theorem dX6_isOne_43 : decode cX6_isOne 43 = .ok (.iconst 1, 1) := by decide +kernel
theorem dX6_isOne_44 : decode cX6_isOne 44 = .ok (.isub, 1) := by decide +kernel
theorem dX6_isOne_45 : decode cX6_isOne 45 = .ok (.if_icmp .ne 7, 3) := by decide +kernel
theorem dX6_isOne_48 : decode cX6_isOne 48 = .ok (.iconst 1, 1) := by decide +kernel
theorem dX6_isOne_49 : decode cX6_isOne 49 = .ok (.goto 4, 3) := by decide +kernel
theorem dX6_isOne_52 : decode cX6_isOne 52 = .ok (.iconst 0, 1) := by decide +kernel
theorem dX6_isOne_53 : decode cX6_isOne 53 = .ok (.ireturn, 1) := by decide +kernel
theorem dX6_howMany_0 : decode cX6_howMany 0 = .ok (.aload_n 0, 1) := by decide +kernel
theorem dX6_howMany_1 : decode cX6_howMany 1 = .ok (.getfield 20, 3) := by decide +kernel
theorem dX6_howMany_4 : decode cX6_howMany 4 = .ok (.iload_n 2, 1) := by decide +kernel
theorem dX6_howMany_5 : decode cX6_howMany 5 = .ok (.aaload, 1) := by decide +kernel
theorem dX6_howMany_6 : decode cX6_howMany 6 = .ok (.aload_n 0, 1) := by decide +kernel
theorem dX6_howMany_7 : decode cX6_howMany 7 = .ok (.getfield 20, 3) := by decide +kernel
theorem dX6_howMany_10 : decode cX6_howMany 10 = .ok (.iload_n 2, 1) := by decide +kernel
theorem dX6_howMany_11 : decode cX6_howMany 11 = .ok (.aaload, 1) := by decide +kernel
theorem dX6_howMany_12 : decode cX6_howMany 12 = .ok (.iload_n 1, 1) := by decide +kernel
theorem dX6_howMany_13 : decode cX6_howMany 13 = .ok (.invokevirtual 49, 3) := by decide +kernel
theorem dX6_howMany_16 : decode cX6_howMany 16 = .ok (.iload_n 1, 1) := by decide +kernel
theorem dX6_howMany_17 : decode cX6_howMany 17 = .ok (.iload_n 3, 1) := by decide +kernel
theorem dX6_howMany_18 : decode cX6_howMany 18 = .ok (.invokevirtual 53, 3) := by decide +kernel
theorem dX6_howMany_21 : decode cX6_howMany 21 = .ok (.ireturn, 1) := by decide +kernel
theorem dX6_ith_0 : decode cX6_ith 0 = .ok (.aload_n 0, 1) := by decide +kernel
theorem dX6_ith_1 : decode cX6_ith 1 = .ok (.getfield 20, 3) := by decide +kernel
theorem dX6_ith_4 : decode cX6_ith 4 = .ok (.iload_n 2, 1) := by decide +kernel
theorem dX6_ith_5 : decode cX6_ith 5 = .ok (.aaload, 1) := by decide +kernel
theorem dX6_ith_6 : decode cX6_ith 6 = .ok (.astore 5, 2) := by decide +kernel
theorem dX6_ith_8 : decode cX6_ith 8 = .ok (.aload 5, 2) := by decide +kernel
theorem dX6_ith_10 : decode cX6_ith 10 = .ok (.iload_n 1, 1) := by decide +kernel
theorem dX6_ith_11 : decode cX6_ith 11 = .ok (.invokevirtual 49, 3) := by decide +kernel
theorem dX6_ith_14 : decode cX6_ith 14 = .ok (.istore 6, 2) := by decide +kernel
theorem dX6_ith_16 : decode cX6_ith 16 = .ok (.iload_n 3, 1) := by decide +kernel
theorem dX6_ith_17 : decode cX6_ith 17 = .ok (.istore 7, 2) := by decide +kernel
theorem dX6_ith_19 : decode cX6_ith 19 = .ok (.iload 4, 2) := by decide +kernel
theorem dX6_ith_21 : decode cX6_ith 21 = .ok (.istore 8, 2) := by decide +kernel
theorem dX6_ith_23 : decode cX6_ith 23 = .ok (.iconst 1, 1) := by decide +kernel
theorem dX6_ith_24 : decode cX6_ith 24 = .ok (.iload_n 1, 1) := by decide +kernel
theorem dX6_ith_25 : decode cX6_ith 25 = .ok (.ishl, 1) := by decide +kernel
theorem dX6_ith_26 : decode cX6_ith 26 = .ok (.iconst 1, 1) := by decide +kernel
theorem dX6_ith_27 : decode cX6_ith 27 = .ok (.isub, 1) := by decide +kernel
theorem dX6_ith_28 : decode cX6_ith 28 = .ok (.istore 9, 2) := by decide +kernel
theorem dX6_ith_30 : decode cX6_ith 30 = .ok (.iconst 0, 1) := by decide +kernel
theorem dX6_ith_31 : decode cX6_ith 31 = .ok (.istore 10, 2) := by decide +kernel
theorem dX6_ith_33 : decode cX6_ith 33 = .ok (.iload 10, 2) := by decide +kernel
theorem dX6_ith_35 : decode cX6_ith 35 = .ok (.iload_n 1, 1) := by decide +kernel
theorem dX6_ith_36 : decode cX6_ith 36 = .ok (.if_icmp .ge 146, 3) := by decide +kernel
theorem dX6_ith_39 : decode cX6_ith 39 = .ok (.iload 10, 2) := by decide +kernel
theorem dX6_ith_41 : decode cX6_ith 41 = .ok (.bipush 8, 2) := by decide +kernel
theorem dX6_ith_43 : decode cX6_ith 43 = .ok (.if_icmp .ge 139, 3) := by decide +kernel
theorem dX6_ith_46 : decode cX6_ith 46 = .ok (.iload_n 1, 1) := by decide +kernel
theorem dX6_ith_47 : decode cX6_ith 47 = .ok (.iload 10, 2) := by decide +kernel
theorem dX6_ith_49 : decode cX6_ith 49 = .ok (.isub, 1) := by decide +kernel
theorem dX6_ith_50 : decode cX6_ith 50 = .ok (.istore 11, 2) := by decide +kernel
theorem dX6_ith_52 : decode cX6_ith 52 = .ok (.iconst 0, 1) := by decide +kernel
theorem dX6_ith_53 : decode cX6_ith 53 = .ok (.istore 12, 2) := by decide +kernel
theorem dX6_ith_55 : decode cX6_ith 55 = .ok (.iload 12, 2) := by decide +kernel
theorem dX6_ith_57 : decode cX6_ith 57 = .ok (.iload 11, 2) := by decide +kernel
theorem dX6_ith_59 : decode cX6_ith 59 = .ok (.if_icmp .ge 101, 3) := by decide +kernel
theorem dX6_ith_62 : decode cX6_ith 62 = .ok (.aload_n 0, 1) := by decide +kernel
theorem dX6_ith_63 : decode cX6_ith 63 = .ok (.getfield 9, 3) := by decide +kernel
theorem dX6_ith_66 : decode cX6_ith 66 = .ok (.iload 10, 2) := by decide +kernel
theorem dX6_ith_68 : decode cX6_ith 68 = .ok (.iload 9, 2) := by decide +kernel
theorem dX6_ith_70 : decode cX6_ith 70 = .ok (.iload 12, 2) := by decide +kernel
theorem dX6_ith_72 : decode cX6_ith 72 = .ok (.invokestatic 56, 3) := by decide +kernel
theorem dX6_ith_75 : decode cX6_ith 75 = .ok (.iastore, 1) := by decide +kernel
theorem dX6_ith_76 : decode cX6_ith 76 = .ok (.aload 5, 2) := by decide +kernel
theorem dX6_ith_78 : decode cX6_ith 78 = .ok (.iload 6, 2) := by decide +kernel
theorem dX6_ith_80 : decode cX6_ith 80 = .ok (.iload 11, 2) := by decide +kernel
theorem dX6_ith_82 : decode cX6_ith 82 = .ok (.iload 12, 2) := by decide +kernel
theorem dX6_ith_84 : decode cX6_ith 84 = .ok (.aload_n 0, 1) := by decide +kernel
theorem dX6_ith_85 : decode cX6_ith 85 = .ok (.getfield 9, 3) := by decide +kernel
theorem dX6_ith_88 : decode cX6_ith 88 = .ok (.iload 10, 2) := by decide +kernel
theorem dX6_ith_90 : decode cX6_ith 90 = .ok (.invokevirtual 60, 3) := by decide +kernel
theorem dX6_ith_93 : decode cX6_ith 93 = .ok (.istore 13, 2) := by decide +kernel
theorem dX6_ith_95 : decode cX6_ith 95 = .ok (.aload 5, 2) := by decide +kernel
theorem dX6_ith_97 : decode cX6_ith 97 = .ok (.iload 6, 2) := by decide +kernel
theorem dX6_ith_99 : decode cX6_ith 99 = .ok (.iload 11, 2) := by decide +kernel
theorem dX6_ith_101 : decode cX6_ith 101 = .ok (.iload 12, 2) := by decide +kernel
theorem dX6_ith_103 : decode cX6_ith 103 = .ok (.invokevirtual 64, 3) := by decide +kernel
theorem dX6_ith_106 : decode cX6_ith 106 = .ok (.istore 14, 2) := by decide +kernel
theorem dX6_ith_108 : decode cX6_ith 108 = .ok (.aload 5, 2) := by decide +kernel
theorem dX6_ith_110 : decode cX6_ith 110 = .ok (.iload 14, 2) := by decide +kernel
theorem dX6_ith_112 : decode cX6_ith 112 = .ok (.iload 11, 2) := by decide +kernel
theorem dX6_ith_114 : decode cX6_ith 114 = .ok (.iconst 1, 1) := by decide +kernel
theorem dX6_ith_115 : decode cX6_ith 115 = .ok (.isub, 1) := by decide +kernel
theorem dX6_ith_116 : decode cX6_ith 116 = .ok (.iload 7, 2) := by decide +kernel
theorem dX6_ith_118 : decode cX6_ith 118 = .ok (.iload 13, 2) := by decide +kernel
theorem dX6_ith_120 : decode cX6_ith 120 = .ok (.isub, 1) := by decide +kernel
theorem dX6_ith_121 : decode cX6_ith 121 = .ok (.invokevirtual 53, 3) := by decide +kernel
theorem dX6_ith_124 : decode cX6_ith 124 = .ok (.istore 15, 2) := by decide +kernel
theorem dX6_ith_126 : decode cX6_ith 126 = .ok (.iload 8, 2) := by decide +kernel
theorem dX6_ith_128 : decode cX6_ith 128 = .ok (.iload 15, 2) := by decide +kernel
theorem dX6_ith_130 : decode cX6_ith 130 = .ok (.if_icmp .ge 17, 3) := by decide +kernel
theorem dX6_ith_133 : decode cX6_ith 133 = .ok (.iload 14, 2) := by decide +kernel
theorem dX6_ith_135 : decode cX6_ith 135 = .ok (.istore 6, 2) := by decide +kernel
theorem dX6_ith_137 : decode cX6_ith 137 = .ok (.iload 7, 2) := by decide +kernel
theorem dX6_ith_139 : decode cX6_ith 139 = .ok (.iload 13, 2) := by decide +kernel
theorem dX6_ith_141 : decode cX6_ith 141 = .ok (.isub, 1) := by decide +kernel
theorem dX6_ith_142 : decode cX6_ith 142 = .ok (.istore 7, 2) := by decide +kernel
theorem dX6_ith_144 : decode cX6_ith 144 = .ok (.goto 16, 3) := by decide +kernel
theorem dX6_ith_147 : decode cX6_ith 147 = .ok (.iload 8, 2) := by decide +kernel
theorem dX6_ith_149 : decode cX6_ith 149 = .ok (.iload 15, 2) := by decide +kernel
theorem dX6_ith_151 : decode cX6_ith 151 = .ok (.isub, 1) := by decide +kernel
theorem dX6_ith_152 : decode cX6_ith 152 = .ok (.istore 8, 2) := by decide +kernel
theorem dX6_ith_154 : decode cX6_ith 154 = .ok (.iinc 12 1, 3) := by decide +kernel
theorem dX6_ith_157 : decode cX6_ith 157 = .ok (.goto (-102), 3) := by decide +kernel
theorem dX6_ith_160 : decode cX6_ith 160 = .ok (.iload 9, 2) := by decide +kernel
theorem dX6_ith_162 : decode cX6_ith 162 = .ok (.iconst 1, 1) := by decide +kernel
theorem dX6_ith_163 : decode cX6_ith 163 = .ok (.aload_n 0, 1) := by decide +kernel
theorem dX6_ith_164 : decode cX6_ith 164 = .ok (.getfield 9, 3) := by decide +kernel
theorem dX6_ith_167 : decode cX6_ith 167 = .ok (.iload 10, 2) := by decide +kernel
theorem dX6_ith_169 : decode cX6_ith 169 = .ok (.iaload, 1) := by decide +kernel
theorem dX6_ith_170 : decode cX6_ith 170 = .ok (.ishl, 1) := by decide +kernel
theorem dX6_ith_171 : decode cX6_ith 171 = .ok (.iconst (-1), 1) := by decide +kernel
theorem dX6_ith_172 : decode cX6_ith 172 = .ok (.ixor, 1) := by decide +kernel
theorem dX6_ith_173 : decode cX6_ith 173 = .ok (.iand, 1) := by decide +kernel
theorem dX6_ith_174 : decode cX6_ith 174 = .ok (.istore 9, 2) := by decide +kernel
theorem dX6_ith_176 : decode cX6_ith 176 = .ok (.iinc 10 1, 3) := by decide +kernel
theorem dX6_ith_179 : decode cX6_ith 179 = .ok (.goto (-146), 3) := by decide +kernel
theorem dX6_ith_182 : decode cX6_ith 182 = .ok (.aload_n 0, 1) := by decide +kernel
theorem dX6_ith_183 : decode cX6_ith 183 = .ok (.iload_n 1, 1) := by decide +kernel
theorem dX6_ith_184 : decode cX6_ith 184 = .ok (.invokevirtual 67, 3) := by decide +kernel
theorem dX6_ith_187 : decode cX6_ith 187 = .ok (.ireturn, 1) := by decide +kernel
theorem dX6_unusedDigit_0 : decode cX6_unusedDigit 0 = .ok (.iload_n 0, 1) := by decide +kernel
theorem dX6_unusedDigit_1 : decode cX6_unusedDigit 1 = .ok (.istore_n 2, 1) := by decide +kernel
theorem dX6_unusedDigit_2 : decode cX6_unusedDigit 2 = .ok (.iconst 0, 1) := by decide +kernel
theorem dX6_unusedDigit_3 : decode cX6_unusedDigit 3 = .ok (.istore_n 3, 1) := by decide +kernel
theorem dX6_unusedDigit_4 : decode cX6_unusedDigit 4 = .ok (.iload_n 3, 1) := by decide +kernel
theorem dX6_unusedDigit_5 : decode cX6_unusedDigit 5 = .ok (.iload_n 1, 1) := by decide +kernel
theorem dX6_unusedDigit_6 : decode cX6_unusedDigit 6 = .ok (.if_icmp .ge 15, 3) := by decide +kernel
theorem dX6_unusedDigit_9 : decode cX6_unusedDigit 9 = .ok (.iload_n 2, 1) := by decide +kernel
theorem dX6_unusedDigit_10 : decode cX6_unusedDigit 10 = .ok (.iload_n 2, 1) := by decide +kernel
theorem dX6_unusedDigit_11 : decode cX6_unusedDigit 11 = .ok (.iconst 1, 1) := by decide +kernel
theorem dX6_unusedDigit_12 : decode cX6_unusedDigit 12 = .ok (.isub, 1) := by decide +kernel
theorem dX6_unusedDigit_13 : decode cX6_unusedDigit 13 = .ok (.iand, 1) := by decide +kernel
theorem dX6_unusedDigit_14 : decode cX6_unusedDigit 14 = .ok (.istore_n 2, 1) := by decide +kernel
theorem dX6_unusedDigit_15 : decode cX6_unusedDigit 15 = .ok (.iinc 3 1, 3) := by decide +kernel
theorem dX6_unusedDigit_18 : decode cX6_unusedDigit 18 = .ok (.goto (-14), 3) := by decide +kernel
theorem dX6_unusedDigit_21 : decode cX6_unusedDigit 21 = .ok (.iload_n 2, 1) := by decide +kernel
theorem dX6_unusedDigit_22 : decode cX6_unusedDigit 22 = .ok (.iload_n 2, 1) := by decide +kernel
theorem dX6_unusedDigit_23 : decode cX6_unusedDigit 23 = .ok (.ineg, 1) := by decide +kernel
theorem dX6_unusedDigit_24 : decode cX6_unusedDigit 24 = .ok (.iand, 1) := by decide +kernel
theorem dX6_unusedDigit_25 : decode cX6_unusedDigit 25 = .ok (.iconst 1, 1) := by decide +kernel
theorem dX6_unusedDigit_26 : decode cX6_unusedDigit 26 = .ok (.isub, 1) := by decide +kernel
theorem dX6_unusedDigit_27 : decode cX6_unusedDigit 27 = .ok (.invokestatic 70, 3) := by decide +kernel
theorem dX6_unusedDigit_30 : decode cX6_unusedDigit 30 = .ok (.ireturn, 1) := by decide +kernel
theorem dX6_markOf_0 : decode cX6_markOf 0 = .ok (.iload_n 1, 1) := by decide +kernel
theorem dX6_markOf_1 : decode cX6_markOf 1 = .ok (.iload_n 2, 1) := by decide +kernel
theorem dX6_markOf_2 : decode cX6_markOf 2 = .ok (.aload_n 0, 1) := by decide +kernel
theorem dX6_markOf_3 : decode cX6_markOf 3 = .ok (.getfield 9, 3) := by decide +kernel
theorem dX6_markOf_6 : decode cX6_markOf 6 = .ok (.invokestatic 75, 3) := by decide +kernel
theorem dX6_markOf_9 : decode cX6_markOf 9 = .ok (.aload_n 0, 1) := by decide +kernel
theorem dX6_markOf_10 : decode cX6_markOf 10 = .ok (.getfield 20, 3) := by decide +kernel
theorem dX6_markOf_13 : decode cX6_markOf 13 = .ok (.iload_n 3, 1) := by decide +kernel
theorem dX6_markOf_14 : decode cX6_markOf 14 = .ok (.aaload, 1) := by decide +kernel
theorem dX6_markOf_15 : decode cX6_markOf 15 = .ok (.astore 4, 2) := by decide +kernel
theorem dX6_markOf_17 : decode cX6_markOf 17 = .ok (.aload 4, 2) := by decide +kernel
theorem dX6_markOf_19 : decode cX6_markOf 19 = .ok (.iload_n 1, 1) := by decide +kernel
theorem dX6_markOf_20 : decode cX6_markOf 20 = .ok (.invokevirtual 49, 3) := by decide +kernel
theorem dX6_markOf_23 : decode cX6_markOf 23 = .ok (.istore 5, 2) := by decide +kernel
theorem dX6_markOf_25 : decode cX6_markOf 25 = .ok (.iconst 0, 1) := by decide +kernel
theorem dX6_markOf_26 : decode cX6_markOf 26 = .ok (.istore 6, 2) := by decide +kernel
theorem dX6_markOf_28 : decode cX6_markOf 28 = .ok (.iconst 0, 1) := by decide +kernel
theorem dX6_markOf_29 : decode cX6_markOf 29 = .ok (.istore 7, 2) := by decide +kernel
theorem dX6_markOf_31 : decode cX6_markOf 31 = .ok (.iload 7, 2) := by decide +kernel
theorem dX6_markOf_33 : decode cX6_markOf 33 = .ok (.iload_n 1, 1) := by decide +kernel
theorem dX6_markOf_34 : decode cX6_markOf 34 = .ok (.if_icmp .ge 57, 3) := by decide +kernel
theorem dX6_markOf_37 : decode cX6_markOf 37 = .ok (.aload_n 0, 1) := by decide +kernel
theorem dX6_markOf_38 : decode cX6_markOf 38 = .ok (.iload_n 1, 1) := by decide +kernel
theorem dX6_markOf_39 : decode cX6_markOf 39 = .ok (.iload 7, 2) := by decide +kernel
theorem dX6_markOf_41 : decode cX6_markOf 41 = .ok (.invokevirtual 79, 3) := by decide +kernel
theorem dX6_markOf_44 : decode cX6_markOf 44 = .ok (.istore 8, 2) := by decide +kernel
theorem dX6_markOf_46 : decode cX6_markOf 46 = .ok (.iload 6, 2) := by decide +kernel
theorem dX6_markOf_48 : decode cX6_markOf 48 = .ok (.aload 4, 2) := by decide +kernel
theorem dX6_markOf_50 : decode cX6_markOf 50 = .ok (.iload 5, 2) := by decide +kernel
theorem dX6_markOf_52 : decode cX6_markOf 52 = .ok (.iload_n 1, 1) := by decide +kernel
theorem dX6_markOf_53 : decode cX6_markOf 53 = .ok (.iload 7, 2) := by decide +kernel
theorem dX6_markOf_55 : decode cX6_markOf 55 = .ok (.isub, 1) := by decide +kernel
theorem dX6_markOf_56 : decode cX6_markOf 56 = .ok (.iload 8, 2) := by decide +kernel
theorem dX6_markOf_58 : decode cX6_markOf 58 = .ok (.aload_n 0, 1) := by decide +kernel
theorem dX6_markOf_59 : decode cX6_markOf 59 = .ok (.getfield 9, 3) := by decide +kernel
theorem dX6_markOf_62 : decode cX6_markOf 62 = .ok (.iload 7, 2) := by decide +kernel
theorem dX6_markOf_64 : decode cX6_markOf 64 = .ok (.invokevirtual 60, 3) := by decide +kernel
theorem dX6_markOf_67 : decode cX6_markOf 67 = .ok (.iadd, 1) := by decide +kernel
theorem dX6_markOf_68 : decode cX6_markOf 68 = .ok (.istore 6, 2) := by decide +kernel
theorem dX6_markOf_70 : decode cX6_markOf 70 = .ok (.aload 4, 2) := by decide +kernel
theorem dX6_markOf_72 : decode cX6_markOf 72 = .ok (.iload 5, 2) := by decide +kernel
theorem dX6_markOf_74 : decode cX6_markOf 74 = .ok (.iload_n 1, 1) := by decide +kernel
theorem dX6_markOf_75 : decode cX6_markOf 75 = .ok (.iload 7, 2) := by decide +kernel
theorem dX6_markOf_77 : decode cX6_markOf 77 = .ok (.isub, 1) := by decide +kernel
theorem dX6_markOf_78 : decode cX6_markOf 78 = .ok (.iload 8, 2) := by decide +kernel
theorem dX6_markOf_80 : decode cX6_markOf 80 = .ok (.invokevirtual 64, 3) := by decide +kernel
theorem dX6_markOf_83 : decode cX6_markOf 83 = .ok (.istore 5, 2) := by decide +kernel
theorem dX6_markOf_85 : decode cX6_markOf 85 = .ok (.iinc 7 1, 3) := by decide +kernel
theorem dX6_markOf_88 : decode cX6_markOf 88 = .ok (.goto (-57), 3) := by decide +kernel
theorem dX6_markOf_91 : decode cX6_markOf 91 = .ok (.iload 6, 2) := by decide +kernel
theorem dX6_markOf_93 : decode cX6_markOf 93 = .ok (.ireturn, 1) := by decide +kernel
theorem dX6_rankOf_0 : decode cX6_rankOf 0 = .ok (.iload_n 1, 1) := by decide +kernel
theorem dX6_rankOf_1 : decode cX6_rankOf 1 = .ok (.iload_n 2, 1) := by decide +kernel
theorem dX6_rankOf_2 : decode cX6_rankOf 2 = .ok (.aload_n 0, 1) := by decide +kernel
theorem dX6_rankOf_3 : decode cX6_rankOf 3 = .ok (.getfield 9, 3) := by decide +kernel
theorem dX6_rankOf_6 : decode cX6_rankOf 6 = .ok (.invokestatic 75, 3) := by decide +kernel
theorem dX6_rankOf_9 : decode cX6_rankOf 9 = .ok (.iconst 0, 1) := by decide +kernel
theorem dX6_rankOf_10 : decode cX6_rankOf 10 = .ok (.istore_n 3, 1) := by decide +kernel
theorem dX6_rankOf_11 : decode cX6_rankOf 11 = .ok (.iconst 0, 1) := by decide +kernel
theorem dX6_rankOf_12 : decode cX6_rankOf 12 = .ok (.istore 4, 2) := by decide +kernel
theorem dX6_rankOf_14 : decode cX6_rankOf 14 = .ok (.iload 4, 2) := by decide +kernel
theorem dX6_rankOf_16 : decode cX6_rankOf 16 = .ok (.iload_n 1, 1) := by decide +kernel
theorem dX6_rankOf_17 : decode cX6_rankOf 17 = .ok (.if_icmp .ge 37, 3) := by decide +kernel
theorem dX6_rankOf_20 : decode cX6_rankOf 20 = .ok (.iload 4, 2) := by decide +kernel
theorem dX6_rankOf_22 : decode cX6_rankOf 22 = .ok (.bipush 8, 2) := by decide +kernel
theorem dX6_rankOf_24 : decode cX6_rankOf 24 = .ok (.if_icmp .ge 30, 3) := by decide +kernel
theorem dX6_rankOf_27 : decode cX6_rankOf 27 = .ok (.iload_n 3, 1) := by decide +kernel
theorem dX6_rankOf_28 : decode cX6_rankOf 28 = .ok (.aload_n 0, 1) := by decide +kernel
theorem dX6_rankOf_29 : decode cX6_rankOf 29 = .ok (.iload_n 1, 1) := by decide +kernel
theorem dX6_rankOf_30 : decode cX6_rankOf 30 = .ok (.iload 4, 2) := by decide +kernel
theorem dX6_rankOf_32 : decode cX6_rankOf 32 = .ok (.invokevirtual 79, 3) := by decide +kernel
theorem dX6_rankOf_35 : decode cX6_rankOf 35 = .ok (.getstatic 82, 3) := by decide +kernel
theorem dX6_rankOf_38 : decode cX6_rankOf 38 = .ok (.iload_n 1, 1) := by decide +kernel
theorem dX6_rankOf_39 : decode cX6_rankOf 39 = .ok (.iconst 1, 1) := by decide +kernel
theorem dX6_rankOf_40 : decode cX6_rankOf 40 = .ok (.isub, 1) := by decide +kernel
theorem dX6_rankOf_41 : decode cX6_rankOf 41 = .ok (.iload 4, 2) := by decide +kernel
theorem dX6_rankOf_43 : decode cX6_rankOf 43 = .ok (.isub, 1) := by decide +kernel
theorem dX6_rankOf_44 : decode cX6_rankOf 44 = .ok (.iaload, 1) := by decide +kernel
theorem dX6_rankOf_45 : decode cX6_rankOf 45 = .ok (.imul, 1) := by decide +kernel
theorem dX6_rankOf_46 : decode cX6_rankOf 46 = .ok (.iadd, 1) := by decide +kernel
theorem dX6_rankOf_47 : decode cX6_rankOf 47 = .ok (.istore_n 3, 1) := by decide +kernel
theorem dX6_rankOf_48 : decode cX6_rankOf 48 = .ok (.iinc 4 1, 3) := by decide +kernel
theorem dX6_rankOf_51 : decode cX6_rankOf 51 = .ok (.goto (-37), 3) := by decide +kernel
theorem dX6_rankOf_54 : decode cX6_rankOf 54 = .ok (.iload_n 3, 1) := by decide +kernel
theorem dX6_rankOf_55 : decode cX6_rankOf 55 = .ok (.ireturn, 1) := by decide +kernel
theorem dX6_turnedOver_0 : decode cX6_turnedOver 0 = .ok (.iload_n 1, 1) := by decide +kernel
theorem dX6_turnedOver_1 : decode cX6_turnedOver 1 = .ok (.iload_n 2, 1) := by decide +kernel
theorem dX6_turnedOver_2 : decode cX6_turnedOver 2 = .ok (.aload_n 0, 1) := by decide +kernel
theorem dX6_turnedOver_3 : decode cX6_turnedOver 3 = .ok (.getfield 15, 3) := by decide +kernel
theorem dX6_turnedOver_6 : decode cX6_turnedOver 6 = .ok (.invokestatic 75, 3) := by decide +kernel
theorem dX6_turnedOver_9 : decode cX6_turnedOver 9 = .ok (.iconst 0, 1) := by decide +kernel
theorem dX6_turnedOver_10 : decode cX6_turnedOver 10 = .ok (.istore_n 3, 1) := by decide +kernel
theorem dX6_turnedOver_11 : decode cX6_turnedOver 11 = .ok (.iload_n 3, 1) := by decide +kernel
theorem dX6_turnedOver_12 : decode cX6_turnedOver 12 = .ok (.iload_n 1, 1) := by decide +kernel
theorem dX6_turnedOver_13 : decode cX6_turnedOver 13 = .ok (.if_icmp .ge 27, 3) := by decide +kernel
theorem dX6_turnedOver_16 : decode cX6_turnedOver 16 = .ok (.iload_n 3, 1) := by decide +kernel
theorem dX6_turnedOver_17 : decode cX6_turnedOver 17 = .ok (.bipush 8, 2) := by decide +kernel
theorem dX6_turnedOver_19 : decode cX6_turnedOver 19 = .ok (.if_icmp .ge 21, 3) := by decide +kernel
theorem dX6_turnedOver_22 : decode cX6_turnedOver 22 = .ok (.aload_n 0, 1) := by decide +kernel
theorem dX6_turnedOver_23 : decode cX6_turnedOver 23 = .ok (.getfield 9, 3) := by decide +kernel
theorem dX6_turnedOver_26 : decode cX6_turnedOver 26 = .ok (.aload_n 0, 1) := by decide +kernel
theorem dX6_turnedOver_27 : decode cX6_turnedOver 27 = .ok (.getfield 15, 3) := by decide +kernel
theorem dX6_turnedOver_30 : decode cX6_turnedOver 30 = .ok (.iload_n 3, 1) := by decide +kernel
theorem dX6_turnedOver_31 : decode cX6_turnedOver 31 = .ok (.iaload, 1) := by decide +kernel
theorem dX6_turnedOver_32 : decode cX6_turnedOver 32 = .ok (.iload_n 3, 1) := by decide +kernel
theorem dX6_turnedOver_33 : decode cX6_turnedOver 33 = .ok (.iastore, 1) := by decide +kernel
theorem dX6_turnedOver_34 : decode cX6_turnedOver 34 = .ok (.iinc 3 1, 3) := by decide +kernel
theorem dX6_turnedOver_37 : decode cX6_turnedOver 37 = .ok (.goto (-26), 3) := by decide +kernel
theorem dX6_turnedOver_40 : decode cX6_turnedOver 40 = .ok (.aload_n 0, 1) := by decide +kernel
theorem dX6_turnedOver_41 : decode cX6_turnedOver 41 = .ok (.iload_n 1, 1) := by decide +kernel
theorem dX6_turnedOver_42 : decode cX6_turnedOver 42 = .ok (.invokevirtual 67, 3) := by decide +kernel
theorem dX6_turnedOver_45 : decode cX6_turnedOver 45 = .ok (.ireturn, 1) := by decide +kernel
theorem dX6_oneBehind_0 : decode cX6_oneBehind 0 = .ok (.iload_n 1, 1) := by decide +kernel
theorem dX6_oneBehind_1 : decode cX6_oneBehind 1 = .ok (.iload_n 2, 1) := by decide +kernel
theorem dX6_oneBehind_2 : decode cX6_oneBehind 2 = .ok (.aload_n 0, 1) := by decide +kernel
theorem dX6_oneBehind_3 : decode cX6_oneBehind 3 = .ok (.getfield 15, 3) := by decide +kernel
theorem dX6_oneBehind_6 : decode cX6_oneBehind 6 = .ok (.invokestatic 75, 3) := by decide +kernel
theorem dX6_oneBehind_9 : decode cX6_oneBehind 9 = .ok (.iconst 0, 1) := by decide +kernel
theorem dX6_oneBehind_10 : decode cX6_oneBehind 10 = .ok (.istore 4, 2) := by decide +kernel
theorem dX6_oneBehind_12 : decode cX6_oneBehind 12 = .ok (.iload 4, 2) := by decide +kernel
theorem dX6_oneBehind_14 : decode cX6_oneBehind 14 = .ok (.iload_n 1, 1) := by decide +kernel
theorem dX6_oneBehind_15 : decode cX6_oneBehind 15 = .ok (.if_icmp .ge 35, 3) := by decide +kernel
theorem dX6_oneBehind_18 : decode cX6_oneBehind 18 = .ok (.iload 4, 2) := by decide +kernel
theorem dX6_oneBehind_20 : decode cX6_oneBehind 20 = .ok (.bipush 8, 2) := by decide +kernel
theorem dX6_oneBehind_22 : decode cX6_oneBehind 22 = .ok (.if_icmp .ge 28, 3) := by decide +kernel
theorem dX6_oneBehind_25 : decode cX6_oneBehind 25 = .ok (.aload_n 0, 1) := by decide +kernel
theorem dX6_oneBehind_26 : decode cX6_oneBehind 26 = .ok (.getfield 9, 3) := by decide +kernel
theorem dX6_oneBehind_29 : decode cX6_oneBehind 29 = .ok (.iload 4, 2) := by decide +kernel
theorem dX6_oneBehind_31 : decode cX6_oneBehind 31 = .ok (.aload_n 0, 1) := by decide +kernel
theorem dX6_oneBehind_32 : decode cX6_oneBehind 32 = .ok (.getfield 15, 3) := by decide +kernel
theorem dX6_oneBehind_35 : decode cX6_oneBehind 35 = .ok (.iload_n 3, 1) := by decide +kernel
theorem dX6_oneBehind_36 : decode cX6_oneBehind 36 = .ok (.iload_n 1, 1) := by decide +kernel
theorem dX6_oneBehind_37 : decode cX6_oneBehind 37 = .ok (.iload 4, 2) := by decide +kernel
theorem dX6_oneBehind_39 : decode cX6_oneBehind 39 = .ok (.invokestatic 45, 3) := by decide +kernel
theorem dX6_oneBehind_42 : decode cX6_oneBehind 42 = .ok (.iaload, 1) := by decide +kernel
theorem dX6_oneBehind_43 : decode cX6_oneBehind 43 = .ok (.iastore, 1) := by decide +kernel
theorem dX6_oneBehind_44 : decode cX6_oneBehind 44 = .ok (.iinc 4 1, 3) := by decide +kernel
theorem dX6_oneBehind_47 : decode cX6_oneBehind 47 = .ok (.goto (-35), 3) := by decide +kernel
theorem dX6_oneBehind_50 : decode cX6_oneBehind 50 = .ok (.aload_n 0, 1) := by decide +kernel
theorem dX6_oneBehind_51 : decode cX6_oneBehind 51 = .ok (.iload_n 1, 1) := by decide +kernel
theorem dX6_oneBehind_52 : decode cX6_oneBehind 52 = .ok (.invokevirtual 67, 3) := by decide +kernel
theorem dX6_oneBehind_55 : decode cX6_oneBehind 55 = .ok (.ireturn, 1) := by decide +kernel
theorem dX6_lesserLater_0 : decode cX6_lesserLater 0 = .ok (.iconst 0, 1) := by decide +kernel
theorem dX6_lesserLater_1 : decode cX6_lesserLater 1 = .ok (.istore_n 3, 1) := by decide +kernel
theorem dX6_lesserLater_2 : decode cX6_lesserLater 2 = .ok (.iload_n 2, 1) := by decide +kernel
theorem dX6_lesserLater_3 : decode cX6_lesserLater 3 = .ok (.iconst 1, 1) := by decide +kernel
theorem dX6_lesserLater_4 : decode cX6_lesserLater 4 = .ok (.iadd, 1) := by decide +kernel
theorem dX6_lesserLater_5 : decode cX6_lesserLater 5 = .ok (.istore 4, 2) := by decide +kernel
theorem dX6_lesserLater_7 : decode cX6_lesserLater 7 = .ok (.iload 4, 2) := by decide +kernel
theorem dX6_lesserLater_9 : decode cX6_lesserLater 9 = .ok (.iload_n 1, 1) := by decide +kernel
theorem dX6_lesserLater_10 : decode cX6_lesserLater 10 = .ok (.if_icmp .ge 35, 3) := by decide +kernel
theorem dX6_lesserLater_13 : decode cX6_lesserLater 13 = .ok (.iload 4, 2) := by decide +kernel
theorem dX6_lesserLater_15 : decode cX6_lesserLater 15 = .ok (.bipush 8, 2) := by decide +kernel
theorem dX6_lesserLater_17 : decode cX6_lesserLater 17 = .ok (.if_icmp .ge 28, 3) := by decide +kernel
theorem dX6_lesserLater_20 : decode cX6_lesserLater 20 = .ok (.aload_n 0, 1) := by decide +kernel
theorem dX6_lesserLater_21 : decode cX6_lesserLater 21 = .ok (.getfield 9, 3) := by decide +kernel
theorem dX6_lesserLater_24 : decode cX6_lesserLater 24 = .ok (.iload 4, 2) := by decide +kernel
theorem dX6_lesserLater_26 : decode cX6_lesserLater 26 = .ok (.iaload, 1) := by decide +kernel
theorem dX6_lesserLater_27 : decode cX6_lesserLater 27 = .ok (.aload_n 0, 1) := by decide +kernel
theorem dX6_lesserLater_28 : decode cX6_lesserLater 28 = .ok (.getfield 9, 3) := by decide +kernel
theorem dX6_lesserLater_31 : decode cX6_lesserLater 31 = .ok (.iload_n 2, 1) := by decide +kernel
theorem dX6_lesserLater_32 : decode cX6_lesserLater 32 = .ok (.iaload, 1) := by decide +kernel
theorem dX6_lesserLater_33 : decode cX6_lesserLater 33 = .ok (.if_icmp .ge 6, 3) := by decide +kernel
theorem dX6_lesserLater_36 : decode cX6_lesserLater 36 = .ok (.iinc 3 1, 3) := by decide +kernel
theorem dX6_lesserLater_39 : decode cX6_lesserLater 39 = .ok (.iinc 4 1, 3) := by decide +kernel
theorem dX6_lesserLater_42 : decode cX6_lesserLater 42 = .ok (.goto (-35), 3) := by decide +kernel
theorem dX6_lesserLater_45 : decode cX6_lesserLater 45 = .ok (.iload_n 3, 1) := by decide +kernel
theorem dX6_lesserLater_46 : decode cX6_lesserLater 46 = .ok (.ireturn, 1) := by decide +kernel
theorem dX6_unpack_0 : decode cX6_unpack 0 = .ok (.iconst 0, 1) := by decide +kernel
theorem dX6_unpack_1 : decode cX6_unpack 1 = .ok (.istore_n 3, 1) := by decide +kernel
theorem dX6_unpack_2 : decode cX6_unpack 2 = .ok (.iload_n 3, 1) := by decide +kernel
theorem dX6_unpack_3 : decode cX6_unpack 3 = .ok (.iload_n 0, 1) := by decide +kernel
theorem dX6_unpack_4 : decode cX6_unpack 4 = .ok (.if_icmp .ge 24, 3) := by decide +kernel
theorem dX6_unpack_7 : decode cX6_unpack 7 = .ok (.iload_n 3, 1) := by decide +kernel
theorem dX6_unpack_8 : decode cX6_unpack 8 = .ok (.aload_n 2, 1) := by decide +kernel
theorem dX6_unpack_9 : decode cX6_unpack 9 = .ok (.arraylength, 1) := by decide +kernel
theorem dX6_unpack_10 : decode cX6_unpack 10 = .ok (.if_icmp .ge 18, 3) := by decide +kernel
theorem dX6_unpack_13 : decode cX6_unpack 13 = .ok (.aload_n 2, 1) := by decide +kernel
theorem dX6_unpack_14 : decode cX6_unpack 14 = .ok (.iload_n 3, 1) := by decide +kernel
theorem dX6_unpack_15 : decode cX6_unpack 15 = .ok (.iload_n 1, 1) := by decide +kernel
theorem dX6_unpack_16 : decode cX6_unpack 16 = .ok (.iload_n 0, 1) := by decide +kernel
theorem dX6_unpack_17 : decode cX6_unpack 17 = .ok (.iload_n 3, 1) := by decide +kernel
theorem dX6_unpack_18 : decode cX6_unpack 18 = .ok (.invokestatic 45, 3) := by decide +kernel
theorem dX6_unpack_21 : decode cX6_unpack 21 = .ok (.iastore, 1) := by decide +kernel
theorem dX6_unpack_22 : decode cX6_unpack 22 = .ok (.iinc 3 1, 3) := by decide +kernel
theorem dX6_unpack_25 : decode cX6_unpack 25 = .ok (.goto (-23), 3) := by decide +kernel
theorem dX6_unpack_28 : decode cX6_unpack 28 = .ok (.return_, 1) := by decide +kernel
theorem dX6_packed_0 : decode cX6_packed 0 = .ok (.iconst 0, 1) := by decide +kernel
theorem dX6_packed_1 : decode cX6_packed 1 = .ok (.istore_n 2, 1) := by decide +kernel
theorem dX6_packed_2 : decode cX6_packed 2 = .ok (.iconst 0, 1) := by decide +kernel
theorem dX6_packed_3 : decode cX6_packed 3 = .ok (.istore_n 3, 1) := by decide +kernel
theorem dX6_packed_4 : decode cX6_packed 4 = .ok (.iload_n 3, 1) := by decide +kernel
theorem dX6_packed_5 : decode cX6_packed 5 = .ok (.iload_n 1, 1) := by decide +kernel
theorem dX6_packed_6 : decode cX6_packed 6 = .ok (.if_icmp .ge 26, 3) := by decide +kernel
theorem dX6_packed_9 : decode cX6_packed 9 = .ok (.iload_n 3, 1) := by decide +kernel
theorem dX6_packed_10 : decode cX6_packed 10 = .ok (.bipush 8, 2) := by decide +kernel
theorem dX6_packed_12 : decode cX6_packed 12 = .ok (.if_icmp .ge 20, 3) := by decide +kernel
theorem dX6_packed_15 : decode cX6_packed 15 = .ok (.iload_n 2, 1) := by decide +kernel
theorem dX6_packed_16 : decode cX6_packed 16 = .ok (.iconst 4, 1) := by decide +kernel
theorem dX6_packed_17 : decode cX6_packed 17 = .ok (.ishl, 1) := by decide +kernel
theorem dX6_packed_18 : decode cX6_packed 18 = .ok (.aload_n 0, 1) := by decide +kernel
theorem dX6_packed_19 : decode cX6_packed 19 = .ok (.getfield 9, 3) := by decide +kernel
theorem dX6_packed_22 : decode cX6_packed 22 = .ok (.iload_n 3, 1) := by decide +kernel
theorem dX6_packed_23 : decode cX6_packed 23 = .ok (.iaload, 1) := by decide +kernel
theorem dX6_packed_24 : decode cX6_packed 24 = .ok (.ior, 1) := by decide +kernel
theorem dX6_packed_25 : decode cX6_packed 25 = .ok (.istore_n 2, 1) := by decide +kernel
theorem dX6_packed_26 : decode cX6_packed 26 = .ok (.iinc 3 1, 3) := by decide +kernel
theorem dX6_packed_29 : decode cX6_packed 29 = .ok (.goto (-25), 3) := by decide +kernel
theorem dX6_packed_32 : decode cX6_packed 32 = .ok (.iload_n 2, 1) := by decide +kernel
theorem dX6_packed_33 : decode cX6_packed 33 = .ok (.ireturn, 1) := by decide +kernel
theorem dX7_init_0 : decode cX7_init 0 = .ok (.aload_n 0, 1) := by decide +kernel
theorem dX7_init_1 : decode cX7_init 1 = .ok (.invokespecial 3, 3) := by decide +kernel
theorem dX7_init_4 : decode cX7_init 4 = .ok (.aload_n 0, 1) := by decide +kernel
theorem dX7_init_5 : decode cX7_init 5 = .ok (.bipush 81, 2) := by decide +kernel
theorem dX7_init_7 : decode cX7_init 7 = .ok (.newarray .int, 2) := by decide +kernel
theorem dX7_init_9 : decode cX7_init 9 = .ok (.putfield 9, 3) := by decide +kernel
theorem dX7_init_12 : decode cX7_init 12 = .ok (.return_, 1) := by decide +kernel
theorem dX7_want_0 : decode cX7_want 0 = .ok (.iconst 0, 1) := by decide +kernel
theorem dX7_want_1 : decode cX7_want 1 = .ok (.istore_n 2, 1) := by decide +kernel
theorem dX7_want_2 : decode cX7_want 2 = .ok (.iload_n 2, 1) := by decide +kernel
theorem dX7_want_3 : decode cX7_want 3 = .ok (.bipush 9, 2) := by decide +kernel
theorem dX7_want_5 : decode cX7_want 5 = .ok (.if_icmp .ge 25, 3) := by decide +kernel
theorem dX7_want_8 : decode cX7_want 8 = .ok (.aload_n 0, 1) := by decide +kernel
theorem dX7_want_9 : decode cX7_want 9 = .ok (.getfield 9, 3) := by decide +kernel
theorem dX7_want_12 : decode cX7_want 12 = .ok (.iload_n 2, 1) := by decide +kernel
theorem dX7_want_13 : decode cX7_want 13 = .ok (.iload_n 2, 1) := by decide +kernel
theorem dX7_want_14 : decode cX7_want 14 = .ok (.iload_n 1, 1) := by decide +kernel
theorem dX7_want_15 : decode cX7_want 15 = .ok (.if_icmp .ne 7, 3) := by decide +kernel
theorem dX7_want_18 : decode cX7_want 18 = .ok (.iconst 1, 1) := by decide +kernel
theorem dX7_want_19 : decode cX7_want 19 = .ok (.goto 4, 3) := by decide +kernel
theorem dX7_want_22 : decode cX7_want 22 = .ok (.iconst 0, 1) := by decide +kernel
theorem dX7_want_23 : decode cX7_want 23 = .ok (.iastore, 1) := by decide +kernel
theorem dX7_want_24 : decode cX7_want 24 = .ok (.iinc 2 1, 3) := by decide +kernel
theorem dX7_want_27 : decode cX7_want 27 = .ok (.goto (-25), 3) := by decide +kernel
theorem dX7_want_30 : decode cX7_want 30 = .ok (.iconst 1, 1) := by decide +kernel
theorem dX7_want_31 : decode cX7_want 31 = .ok (.istore_n 2, 1) := by decide +kernel
theorem dX7_want_32 : decode cX7_want 32 = .ok (.iload_n 2, 1) := by decide +kernel
theorem dX7_want_33 : decode cX7_want 33 = .ok (.bipush 9, 2) := by decide +kernel
theorem dX7_want_35 : decode cX7_want 35 = .ok (.if_icmp .ge 55, 3) := by decide +kernel
theorem dX7_want_38 : decode cX7_want 38 = .ok (.iconst 0, 1) := by decide +kernel
theorem dX7_want_39 : decode cX7_want 39 = .ok (.istore_n 3, 1) := by decide +kernel
theorem dX7_want_40 : decode cX7_want 40 = .ok (.iload_n 3, 1) := by decide +kernel
theorem dX7_want_41 : decode cX7_want 41 = .ok (.bipush 9, 2) := by decide +kernel
theorem dX7_want_43 : decode cX7_want 43 = .ok (.if_icmp .ge 41, 3) := by decide +kernel
theorem dX7_want_46 : decode cX7_want 46 = .ok (.aload_n 0, 1) := by decide +kernel
theorem dX7_want_47 : decode cX7_want 47 = .ok (.getfield 9, 3) := by decide +kernel
theorem dX7_want_50 : decode cX7_want 50 = .ok (.iload_n 2, 1) := by decide +kernel
theorem dX7_want_51 : decode cX7_want 51 = .ok (.bipush 9, 2) := by decide +kernel
theorem dX7_want_53 : decode cX7_want 53 = .ok (.imul, 1) := by decide +kernel
theorem dX7_want_54 : decode cX7_want 54 = .ok (.iload_n 3, 1) := by decide +kernel
theorem dX7_want_55 : decode cX7_want 55 = .ok (.iadd, 1) := by decide +kernel
theorem dX7_want_56 : decode cX7_want 56 = .ok (.iload_n 3, 1) := by decide +kernel
theorem dX7_want_57 : decode cX7_want 57 = .ok (.aload_n 0, 1) := by decide +kernel
theorem dX7_want_58 : decode cX7_want 58 = .ok (.iload_n 2, 1) := by decide +kernel
theorem dX7_want_59 : decode cX7_want 59 = .ok (.iconst 1, 1) := by decide +kernel
theorem dX7_want_60 : decode cX7_want 60 = .ok (.isub, 1) := by decide +kernel
theorem dX7_want_61 : decode cX7_want 61 = .ok (.iload_n 3, 1) := by decide +kernel
theorem dX7_want_62 : decode cX7_want 62 = .ok (.invokevirtual 15, 3) := by decide +kernel
theorem dX7_want_65 : decode cX7_want 65 = .ok (.imul, 1) := by decide +kernel
theorem dX7_want_66 : decode cX7_want 66 = .ok (.aload_n 0, 1) := by decide +kernel
theorem dX7_want_67 : decode cX7_want 67 = .ok (.iload_n 2, 1) := by decide +kernel
theorem dX7_want_68 : decode cX7_want 68 = .ok (.iconst 1, 1) := by decide +kernel
theorem dX7_want_69 : decode cX7_want 69 = .ok (.isub, 1) := by decide +kernel
theorem dX7_want_70 : decode cX7_want 70 = .ok (.iload_n 3, 1) := by decide +kernel
theorem dX7_want_71 : decode cX7_want 71 = .ok (.iconst 1, 1) := by decide +kernel
theorem dX7_want_72 : decode cX7_want 72 = .ok (.iadd, 1) := by decide +kernel
theorem dX7_want_73 : decode cX7_want 73 = .ok (.invokevirtual 15, 3) := by decide +kernel
theorem dX7_want_76 : decode cX7_want 76 = .ok (.iadd, 1) := by decide +kernel
theorem dX7_want_77 : decode cX7_want 77 = .ok (.iastore, 1) := by decide +kernel
theorem dX7_want_78 : decode cX7_want 78 = .ok (.iinc 3 1, 3) := by decide +kernel
theorem dX7_want_81 : decode cX7_want 81 = .ok (.goto (-41), 3) := by decide +kernel
theorem dX7_want_84 : decode cX7_want 84 = .ok (.iinc 2 1, 3) := by decide +kernel
theorem dX7_want_87 : decode cX7_want 87 = .ok (.goto (-55), 3) := by decide +kernel
theorem dX7_want_90 : decode cX7_want 90 = .ok (.return_, 1) := by decide +kernel
theorem dX7_waysFrom_0 : decode cX7_waysFrom 0 = .ok (.iload_n 1, 1) := by decide +kernel
theorem dX7_waysFrom_1 : decode cX7_waysFrom 1 = .ok (.iconst 0, 1) := by decide +kernel
theorem dX7_waysFrom_2 : decode cX7_waysFrom 2 = .ok (.bipush 8, 2) := by decide +kernel
theorem dX7_waysFrom_4 : decode cX7_waysFrom 4 = .ok (.invokestatic 19, 3) := by decide +kernel
theorem dX7_waysFrom_7 : decode cX7_waysFrom 7 = .ok (.ifCond .eq 27, 3) := by decide +kernel
theorem dX7_waysFrom_10 : decode cX7_waysFrom 10 = .ok (.iload_n 2, 1) := by decide +kernel
theorem dX7_waysFrom_11 : decode cX7_waysFrom 11 = .ok (.iconst 0, 1) := by decide +kernel
theorem dX7_waysFrom_12 : decode cX7_waysFrom 12 = .ok (.bipush 8, 2) := by decide +kernel
theorem dX7_waysFrom_14 : decode cX7_waysFrom 14 = .ok (.invokestatic 19, 3) := by decide +kernel
theorem dX7_waysFrom_17 : decode cX7_waysFrom 17 = .ok (.ifCond .eq 17, 3) := by decide +kernel
theorem dX7_waysFrom_20 : decode cX7_waysFrom 20 = .ok (.aload_n 0, 1) := by decide +kernel
theorem dX7_waysFrom_21 : decode cX7_waysFrom 21 = .ok (.getfield 9, 3) := by decide +kernel
theorem dX7_waysFrom_24 : decode cX7_waysFrom 24 = .ok (.iload_n 1, 1) := by decide +kernel
theorem dX7_waysFrom_25 : decode cX7_waysFrom 25 = .ok (.bipush 9, 2) := by decide +kernel
theorem dX7_waysFrom_27 : decode cX7_waysFrom 27 = .ok (.imul, 1) := by decide +kernel
theorem dX7_waysFrom_28 : decode cX7_waysFrom 28 = .ok (.iload_n 2, 1) := by decide +kernel
theorem dX7_waysFrom_29 : decode cX7_waysFrom 29 = .ok (.iadd, 1) := by decide +kernel
theorem dX7_waysFrom_30 : decode cX7_waysFrom 30 = .ok (.iaload, 1) := by decide +kernel
theorem dX7_waysFrom_31 : decode cX7_waysFrom 31 = .ok (.goto 4, 3) := by decide +kernel
theorem dX7_waysFrom_34 : decode cX7_waysFrom 34 = .ok (.iconst 0, 1) := by decide +kernel
theorem dX7_waysFrom_35 : decode cX7_waysFrom 35 = .ok (.ireturn, 1) := by decide +kernel
theorem dX7_howMany_0 : decode cX7_howMany 0 = .ok (.aload_n 0, 1) := by decide +kernel
theorem dX7_howMany_1 : decode cX7_howMany 1 = .ok (.iload_n 1, 1) := by decide +kernel
theorem dX7_howMany_2 : decode cX7_howMany 2 = .ok (.iconst 0, 1) := by decide +kernel
theorem dX7_howMany_3 : decode cX7_howMany 3 = .ok (.invokevirtual 15, 3) := by decide +kernel
theorem dX7_howMany_6 : decode cX7_howMany 6 = .ok (.ireturn, 1) := by decide +kernel
theorem dX7_ith_0 : decode cX7_ith 0 = .ok (.iconst 0, 1) := by decide +kernel
theorem dX7_ith_1 : decode cX7_ith 1 = .ok (.istore_n 3, 1) := by decide +kernel
theorem dX7_ith_2 : decode cX7_ith 2 = .ok (.iconst 0, 1) := by decide +kernel
theorem dX7_ith_3 : decode cX7_ith 3 = .ok (.istore 4, 2) := by decide +kernel
theorem dX7_ith_5 : decode cX7_ith 5 = .ok (.iload_n 2, 1) := by decide +kernel
theorem dX7_ith_6 : decode cX7_ith 6 = .ok (.istore 5, 2) := by decide +kernel
theorem dX7_ith_8 : decode cX7_ith 8 = .ok (.iload_n 1, 1) := by decide +kernel
theorem dX7_ith_9 : decode cX7_ith 9 = .ok (.iconst 1, 1) := by decide +kernel
theorem dX7_ith_10 : decode cX7_ith 10 = .ok (.isub, 1) := by decide +kernel
theorem dX7_ith_11 : decode cX7_ith 11 = .ok (.istore 6, 2) := by decide +kernel
theorem dX7_ith_13 : decode cX7_ith 13 = .ok (.iload 6, 2) := by decide +kernel
theorem dX7_ith_15 : decode cX7_ith 15 = .ok (.ifCond .lt 69, 3) := by decide +kernel
theorem dX7_ith_18 : decode cX7_ith 18 = .ok (.aload_n 0, 1) := by decide +kernel
theorem dX7_ith_19 : decode cX7_ith 19 = .ok (.iload 6, 2) := by decide +kernel
theorem dX7_ith_21 : decode cX7_ith 21 = .ok (.iload 4, 2) := by decide +kernel
theorem dX7_ith_23 : decode cX7_ith 23 = .ok (.invokevirtual 15, 3) := by decide +kernel
theorem dX7_ith_26 : decode cX7_ith 26 = .ok (.istore 7, 2) := by decide +kernel
theorem dX7_ith_28 : decode cX7_ith 28 = .ok (.iload 7, 2) := by decide +kernel
theorem dX7_ith_30 : decode cX7_ith 30 = .ok (.ifCond .le 16, 3) := by decide +kernel
theorem dX7_ith_33 : decode cX7_ith 33 = .ok (.iload 5, 2) := by decide +kernel
theorem dX7_ith_35 : decode cX7_ith 35 = .ok (.iload 7, 2) := by decide +kernel
theorem dX7_ith_37 : decode cX7_ith 37 = .ok (.idiv, 1) := by decide +kernel
theorem dX7_ith_38 : decode cX7_ith 38 = .ok (.iload 4, 2) := by decide +kernel
theorem dX7_ith_40 : decode cX7_ith 40 = .ok (.invokestatic 23, 3) := by decide +kernel
theorem dX7_ith_43 : decode cX7_ith 43 = .ok (.goto 5, 3) := by decide +kernel
theorem dX7_ith_46 : decode cX7_ith 46 = .ok (.iload 4, 2) := by decide +kernel
theorem dX7_ith_48 : decode cX7_ith 48 = .ok (.istore 8, 2) := by decide +kernel
theorem dX7_ith_50 : decode cX7_ith 50 = .ok (.iload 5, 2) := by decide +kernel
theorem dX7_ith_52 : decode cX7_ith 52 = .ok (.iload 8, 2) := by decide +kernel
theorem dX7_ith_54 : decode cX7_ith 54 = .ok (.iload 7, 2) := by decide +kernel
theorem dX7_ith_56 : decode cX7_ith 56 = .ok (.imul, 1) := by decide +kernel
theorem dX7_ith_57 : decode cX7_ith 57 = .ok (.isub, 1) := by decide +kernel
theorem dX7_ith_58 : decode cX7_ith 58 = .ok (.istore 5, 2) := by decide +kernel
theorem dX7_ith_60 : decode cX7_ith 60 = .ok (.iload_n 3, 1) := by decide +kernel
theorem dX7_ith_61 : decode cX7_ith 61 = .ok (.iconst 4, 1) := by decide +kernel
theorem dX7_ith_62 : decode cX7_ith 62 = .ok (.ishl, 1) := by decide +kernel
theorem dX7_ith_63 : decode cX7_ith 63 = .ok (.iload 8, 2) := by decide +kernel
theorem dX7_ith_65 : decode cX7_ith 65 = .ok (.ior, 1) := by decide +kernel
theorem dX7_ith_66 : decode cX7_ith 66 = .ok (.istore_n 3, 1) := by decide +kernel
theorem dX7_ith_67 : decode cX7_ith 67 = .ok (.iload 4, 2) := by decide +kernel
theorem dX7_ith_69 : decode cX7_ith 69 = .ok (.iload 8, 2) := by decide +kernel
theorem dX7_ith_71 : decode cX7_ith 71 = .ok (.iconst 1, 1) := by decide +kernel
theorem dX7_ith_72 : decode cX7_ith 72 = .ok (.iadd, 1) := by decide +kernel
theorem dX7_ith_73 : decode cX7_ith 73 = .ok (.invokestatic 28, 3) := by decide +kernel
theorem dX7_ith_76 : decode cX7_ith 76 = .ok (.istore 4, 2) := by decide +kernel
theorem dX7_ith_78 : decode cX7_ith 78 = .ok (.iinc 6 (-1), 3) := by decide +kernel
theorem dX7_ith_81 : decode cX7_ith 81 = .ok (.goto (-68), 3) := by decide +kernel
theorem dX7_ith_84 : decode cX7_ith 84 = .ok (.iload_n 3, 1) := by decide +kernel
theorem dX7_ith_85 : decode cX7_ith 85 = .ok (.ireturn, 1) := by decide +kernel
theorem dX7_partsOf_0 : decode cX7_partsOf 0 = .ok (.iload_n 2, 1) := by decide +kernel
theorem dX7_partsOf_1 : decode cX7_partsOf 1 = .ok (.iload_n 1, 1) := by decide +kernel
theorem dX7_partsOf_2 : decode cX7_partsOf 2 = .ok (.invokestatic 31, 3) := by decide +kernel
theorem dX7_partsOf_5 : decode cX7_partsOf 5 = .ok (.ifCond .ne 5, 3) := by decide +kernel
theorem dX7_partsOf_8 : decode cX7_partsOf 8 = .ok (.iconst 0, 1) := by decide +kernel
theorem dX7_partsOf_9 : decode cX7_partsOf 9 = .ok (.ireturn, 1) := by decide +kernel
theorem dX7_partsOf_10 : decode cX7_partsOf 10 = .ok (.iconst 0, 1) := by decide +kernel
theorem dX7_partsOf_11 : decode cX7_partsOf 11 = .ok (.istore_n 3, 1) := by decide +kernel
theorem dX7_partsOf_12 : decode cX7_partsOf 12 = .ok (.iconst 0, 1) := by decide +kernel
theorem dX7_partsOf_13 : decode cX7_partsOf 13 = .ok (.istore 4, 2) := by decide +kernel
theorem dX7_partsOf_15 : decode cX7_partsOf 15 = .ok (.iload 4, 2) := by decide +kernel
theorem dX7_partsOf_17 : decode cX7_partsOf 17 = .ok (.iload_n 1, 1) := by decide +kernel
theorem dX7_partsOf_18 : decode cX7_partsOf 18 = .ok (.if_icmp .ge 35, 3) := by decide +kernel
theorem dX7_partsOf_21 : decode cX7_partsOf 21 = .ok (.iload_n 2, 1) := by decide +kernel
theorem dX7_partsOf_22 : decode cX7_partsOf 22 = .ok (.iload_n 1, 1) := by decide +kernel
theorem dX7_partsOf_23 : decode cX7_partsOf 23 = .ok (.iload 4, 2) := by decide +kernel
theorem dX7_partsOf_25 : decode cX7_partsOf 25 = .ok (.invokestatic 35, 3) := by decide +kernel
theorem dX7_partsOf_28 : decode cX7_partsOf 28 = .ok (.istore 5, 2) := by decide +kernel
theorem dX7_partsOf_30 : decode cX7_partsOf 30 = .ok (.iload 5, 2) := by decide +kernel
theorem dX7_partsOf_32 : decode cX7_partsOf 32 = .ok (.iload_n 3, 1) := by decide +kernel
theorem dX7_partsOf_33 : decode cX7_partsOf 33 = .ok (.if_icmp .le 5, 3) := by decide +kernel
theorem dX7_partsOf_36 : decode cX7_partsOf 36 = .ok (.iconst 0, 1) := by decide +kernel
theorem dX7_partsOf_37 : decode cX7_partsOf 37 = .ok (.ireturn, 1) := by decide +kernel
theorem dX7_partsOf_38 : decode cX7_partsOf 38 = .ok (.iload_n 3, 1) := by decide +kernel
theorem dX7_partsOf_39 : decode cX7_partsOf 39 = .ok (.iload 5, 2) := by decide +kernel
theorem dX7_partsOf_41 : decode cX7_partsOf 41 = .ok (.iconst 1, 1) := by decide +kernel
theorem dX7_partsOf_42 : decode cX7_partsOf 42 = .ok (.iadd, 1) := by decide +kernel
theorem dX7_partsOf_43 : decode cX7_partsOf 43 = .ok (.invokestatic 28, 3) := by decide +kernel
theorem dX7_partsOf_46 : decode cX7_partsOf 46 = .ok (.istore_n 3, 1) := by decide +kernel
theorem dX7_partsOf_47 : decode cX7_partsOf 47 = .ok (.iinc 4 1, 3) := by decide +kernel
theorem dX7_partsOf_50 : decode cX7_partsOf 50 = .ok (.goto (-35), 3) := by decide +kernel
theorem dX7_partsOf_53 : decode cX7_partsOf 53 = .ok (.iload_n 3, 1) := by decide +kernel
theorem dX7_partsOf_54 : decode cX7_partsOf 54 = .ok (.ireturn, 1) := by decide +kernel
theorem dX7_rankOf_0 : decode cX7_rankOf 0 = .ok (.iconst 0, 1) := by decide +kernel
theorem dX7_rankOf_1 : decode cX7_rankOf 1 = .ok (.istore_n 3, 1) := by decide +kernel
theorem dX7_rankOf_2 : decode cX7_rankOf 2 = .ok (.iconst 0, 1) := by decide +kernel
theorem dX7_rankOf_3 : decode cX7_rankOf 3 = .ok (.istore 4, 2) := by decide +kernel
theorem dX7_rankOf_5 : decode cX7_rankOf 5 = .ok (.iconst 0, 1) := by decide +kernel
theorem dX7_rankOf_6 : decode cX7_rankOf 6 = .ok (.istore 5, 2) := by decide +kernel
theorem dX7_rankOf_8 : decode cX7_rankOf 8 = .ok (.iload 5, 2) := by decide +kernel
theorem dX7_rankOf_10 : decode cX7_rankOf 10 = .ok (.iload_n 1, 1) := by decide +kernel
theorem dX7_rankOf_11 : decode cX7_rankOf 11 = .ok (.if_icmp .ge 47, 3) := by decide +kernel
theorem dX7_rankOf_14 : decode cX7_rankOf 14 = .ok (.iload_n 2, 1) := by decide +kernel
theorem dX7_rankOf_15 : decode cX7_rankOf 15 = .ok (.iload_n 1, 1) := by decide +kernel
theorem dX7_rankOf_16 : decode cX7_rankOf 16 = .ok (.iload 5, 2) := by decide +kernel
theorem dX7_rankOf_18 : decode cX7_rankOf 18 = .ok (.invokestatic 35, 3) := by decide +kernel
theorem dX7_rankOf_21 : decode cX7_rankOf 21 = .ok (.istore 6, 2) := by decide +kernel
theorem dX7_rankOf_23 : decode cX7_rankOf 23 = .ok (.iload_n 3, 1) := by decide +kernel
theorem dX7_rankOf_24 : decode cX7_rankOf 24 = .ok (.iload 6, 2) := by decide +kernel
theorem dX7_rankOf_26 : decode cX7_rankOf 26 = .ok (.aload_n 0, 1) := by decide +kernel
theorem dX7_rankOf_27 : decode cX7_rankOf 27 = .ok (.iload_n 1, 1) := by decide +kernel
theorem dX7_rankOf_28 : decode cX7_rankOf 28 = .ok (.iconst 1, 1) := by decide +kernel
theorem dX7_rankOf_29 : decode cX7_rankOf 29 = .ok (.isub, 1) := by decide +kernel
theorem dX7_rankOf_30 : decode cX7_rankOf 30 = .ok (.iload 5, 2) := by decide +kernel
theorem dX7_rankOf_32 : decode cX7_rankOf 32 = .ok (.isub, 1) := by decide +kernel
theorem dX7_rankOf_33 : decode cX7_rankOf 33 = .ok (.iload 4, 2) := by decide +kernel
theorem dX7_rankOf_35 : decode cX7_rankOf 35 = .ok (.invokevirtual 15, 3) := by decide +kernel
theorem dX7_rankOf_38 : decode cX7_rankOf 38 = .ok (.imul, 1) := by decide +kernel
theorem dX7_rankOf_39 : decode cX7_rankOf 39 = .ok (.iadd, 1) := by decide +kernel
theorem dX7_rankOf_40 : decode cX7_rankOf 40 = .ok (.istore_n 3, 1) := by decide +kernel
theorem dX7_rankOf_41 : decode cX7_rankOf 41 = .ok (.iload 4, 2) := by decide +kernel
theorem dX7_rankOf_43 : decode cX7_rankOf 43 = .ok (.iload 6, 2) := by decide +kernel
theorem dX7_rankOf_45 : decode cX7_rankOf 45 = .ok (.iconst 1, 1) := by decide +kernel
theorem dX7_rankOf_46 : decode cX7_rankOf 46 = .ok (.iadd, 1) := by decide +kernel
theorem dX7_rankOf_47 : decode cX7_rankOf 47 = .ok (.invokestatic 28, 3) := by decide +kernel
theorem dX7_rankOf_50 : decode cX7_rankOf 50 = .ok (.istore 4, 2) := by decide +kernel
theorem dX7_rankOf_52 : decode cX7_rankOf 52 = .ok (.iinc 5 1, 3) := by decide +kernel
theorem dX7_rankOf_55 : decode cX7_rankOf 55 = .ok (.goto (-47), 3) := by decide +kernel
theorem dX7_rankOf_58 : decode cX7_rankOf 58 = .ok (.iload_n 3, 1) := by decide +kernel
theorem dX7_rankOf_59 : decode cX7_rankOf 59 = .ok (.ireturn, 1) := by decide +kernel
theorem dX8_init_0 : decode cX8_init 0 = .ok (.aload_n 0, 1) := by decide +kernel
theorem dX8_init_1 : decode cX8_init 1 = .ok (.invokespecial 3, 3) := by decide +kernel
theorem dX8_init_4 : decode cX8_init 4 = .ok (.aload_n 0, 1) := by decide +kernel
theorem dX8_init_5 : decode cX8_init 5 = .ok (.bipush 9, 2) := by decide +kernel
theorem dX8_init_7 : decode cX8_init 7 = .ok (.newarray .long, 2) := by decide +kernel
theorem dX8_init_9 : decode cX8_init 9 = .ok (.putfield 9, 3) := by decide +kernel
theorem dX8_init_12 : decode cX8_init 12 = .ok (.aload_n 0, 1) := by decide +kernel
theorem dX8_init_13 : decode cX8_init 13 = .ok (.bipush 9, 2) := by decide +kernel
theorem dX8_init_15 : decode cX8_init 15 = .ok (.newarray .long, 2) := by decide +kernel
theorem dX8_init_17 : decode cX8_init 17 = .ok (.putfield 15, 3) := by decide +kernel
theorem dX8_init_20 : decode cX8_init 20 = .ok (.aload_n 0, 1) := by decide +kernel
theorem dX8_init_21 : decode cX8_init 21 = .ok (.iconst 0, 1) := by decide +kernel
theorem dX8_init_22 : decode cX8_init 22 = .ok (.putfield 18, 3) := by decide +kernel
theorem dX8_init_25 : decode cX8_init 25 = .ok (.return_, 1) := by decide +kernel
theorem dX8_baseNow_0 : decode cX8_baseNow 0 = .ok (.aload_n 0, 1) := by decide +kernel
theorem dX8_baseNow_1 : decode cX8_baseNow 1 = .ok (.getfield 18, 3) := by decide +kernel
theorem dX8_baseNow_4 : decode cX8_baseNow 4 = .ok (.ireturn, 1) := by decide +kernel
theorem dX8_clearIn_0 : decode cX8_clearIn 0 = .ok (.aload_n 0, 1) := by decide +kernel
theorem dX8_clearIn_1 : decode cX8_clearIn 1 = .ok (.getfield 9, 3) := by decide +kernel
theorem dX8_clearIn_4 : decode cX8_clearIn 4 = .ok (.lconst 0, 1) := by decide +kernel
theorem dX8_clearIn_5 : decode cX8_clearIn 5 = .ok (.invokestatic 22, 3) := by decide +kernel
theorem dX8_clearIn_8 : decode cX8_clearIn 8 = .ok (.aload_n 0, 1) := by decide +kernel
theorem dX8_clearIn_9 : decode cX8_clearIn 9 = .ok (.iload_n 1, 1) := by decide +kernel
theorem dX8_clearIn_10 : decode cX8_clearIn 10 = .ok (.putfield 18, 3) := by decide +kernel
theorem dX8_clearIn_13 : decode cX8_clearIn 13 = .ok (.return_, 1) := by decide +kernel
theorem dX8_at_0 : decode cX8_at 0 = .ok (.iload_n 1, 1) := by decide +kernel
theorem dX8_at_1 : decode cX8_at 1 = .ok (.iconst 0, 1) := by decide +kernel
theorem dX8_at_2 : decode cX8_at 2 = .ok (.bipush 8, 2) := by decide +kernel
theorem dX8_at_4 : decode cX8_at 4 = .ok (.invokestatic 28, 3) := by decide +kernel
theorem dX8_at_7 : decode cX8_at 7 = .ok (.ifCond .eq 12, 3) := by decide +kernel
theorem dX8_at_10 : decode cX8_at 10 = .ok (.aload_n 0, 1) := by decide +kernel
theorem dX8_at_11 : decode cX8_at 11 = .ok (.getfield 9, 3) := by decide +kernel
theorem dX8_at_14 : decode cX8_at 14 = .ok (.iload_n 1, 1) := by decide +kernel
theorem dX8_at_15 : decode cX8_at 15 = .ok (.laload, 1) := by decide +kernel
theorem dX8_at_16 : decode cX8_at 16 = .ok (.goto 4, 3) := by decide +kernel
theorem dX8_at_19 : decode cX8_at 19 = .ok (.lconst 0, 1) := by decide +kernel
theorem dX8_at_20 : decode cX8_at 20 = .ok (.lreturn, 1) := by decide +kernel
theorem dX8_put_0 : decode cX8_put 0 = .ok (.iload_n 1, 1) := by decide +kernel
theorem dX8_put_1 : decode cX8_put 1 = .ok (.iconst 0, 1) := by decide +kernel
theorem dX8_put_2 : decode cX8_put 2 = .ok (.bipush 8, 2) := by decide +kernel
theorem dX8_put_4 : decode cX8_put 4 = .ok (.invokestatic 28, 3) := by decide +kernel
theorem dX8_put_7 : decode cX8_put 7 = .ok (.ifCond .eq 10, 3) := by decide +kernel
theorem dX8_put_10 : decode cX8_put 10 = .ok (.aload_n 0, 1) := by decide +kernel
theorem dX8_put_11 : decode cX8_put 11 = .ok (.getfield 9, 3) := by decide +kernel
theorem dX8_put_14 : decode cX8_put 14 = .ok (.iload_n 1, 1) := by decide +kernel
theorem dX8_put_15 : decode cX8_put 15 = .ok (.lload_n 2, 1) := by decide +kernel
theorem dX8_put_16 : decode cX8_put 16 = .ok (.lastore, 1) := by decide +kernel
theorem dX8_put_17 : decode cX8_put 17 = .ok (.return_, 1) := by decide +kernel
theorem dX8_degree_0 : decode cX8_degree 0 = .ok (.bipush 8, 2) := by decide +kernel
theorem dX8_degree_2 : decode cX8_degree 2 = .ok (.istore_n 1, 1) := by decide +kernel
theorem dX8_degree_3 : decode cX8_degree 3 = .ok (.iload_n 1, 1) := by decide +kernel
theorem dX8_degree_4 : decode cX8_degree 4 = .ok (.ifCond .lt 22, 3) := by decide +kernel
theorem dX8_degree_7 : decode cX8_degree 7 = .ok (.aload_n 0, 1) := by decide +kernel
theorem dX8_degree_8 : decode cX8_degree 8 = .ok (.getfield 9, 3) := by decide +kernel
theorem dX8_degree_11 : decode cX8_degree 11 = .ok (.iload_n 1, 1) := by decide +kernel
theorem dX8_degree_12 : decode cX8_degree 12 = .ok (.laload, 1) := by decide +kernel
theorem dX8_degree_13 : decode cX8_degree 13 = .ok (.lconst 0, 1) := by decide +kernel
theorem dX8_degree_14 : decode cX8_degree 14 = .ok (.lcmp, 1) := by decide +kernel
theorem dX8_degree_15 : decode cX8_degree 15 = .ok (.ifCond .eq 5, 3) := by decide +kernel
theorem dX8_degree_18 : decode cX8_degree 18 = .ok (.iload_n 1, 1) := by decide +kernel
theorem dX8_degree_19 : decode cX8_degree 19 = .ok (.ireturn, 1) := by decide +kernel
theorem dX8_degree_20 : decode cX8_degree 20 = .ok (.iinc 1 (-1), 3) := by decide +kernel
theorem dX8_degree_23 : decode cX8_degree 23 = .ok (.goto (-20), 3) := by decide +kernel
theorem dX8_degree_26 : decode cX8_degree 26 = .ok (.bipush (-4), 2) := by decide +kernel
theorem dX8_degree_28 : decode cX8_degree 28 = .ok (.ireturn, 1) := by decide +kernel
theorem dX8_inUse_0 : decode cX8_inUse 0 = .ok (.iconst 0, 1) := by decide +kernel
theorem dX8_inUse_1 : decode cX8_inUse 1 = .ok (.istore_n 1, 1) := by decide +kernel
theorem dX8_inUse_2 : decode cX8_inUse 2 = .ok (.iconst 0, 1) := by decide +kernel
theorem dX8_inUse_3 : decode cX8_inUse 3 = .ok (.istore_n 2, 1) := by decide +kernel
theorem dX8_inUse_4 : decode cX8_inUse 4 = .ok (.iload_n 2, 1) := by decide +kernel
theorem dX8_inUse_5 : decode cX8_inUse 5 = .ok (.bipush 8, 2) := by decide +kernel
theorem dX8_inUse_7 : decode cX8_inUse 7 = .ok (.if_icmp .gt 23, 3) := by decide +kernel
theorem dX8_inUse_10 : decode cX8_inUse 10 = .ok (.aload_n 0, 1) := by decide +kernel
theorem dX8_inUse_11 : decode cX8_inUse 11 = .ok (.getfield 9, 3) := by decide +kernel
theorem dX8_inUse_14 : decode cX8_inUse 14 = .ok (.iload_n 2, 1) := by decide +kernel
theorem dX8_inUse_15 : decode cX8_inUse 15 = .ok (.laload, 1) := by decide +kernel
theorem dX8_inUse_16 : decode cX8_inUse 16 = .ok (.lconst 0, 1) := by decide +kernel
theorem dX8_inUse_17 : decode cX8_inUse 17 = .ok (.lcmp, 1) := by decide +kernel
theorem dX8_inUse_18 : decode cX8_inUse 18 = .ok (.ifCond .eq 6, 3) := by decide +kernel
theorem dX8_inUse_21 : decode cX8_inUse 21 = .ok (.iinc 1 1, 3) := by decide +kernel
theorem dX8_inUse_24 : decode cX8_inUse 24 = .ok (.iinc 2 1, 3) := by decide +kernel
theorem dX8_inUse_27 : decode cX8_inUse 27 = .ok (.goto (-23), 3) := by decide +kernel
theorem dX8_inUse_30 : decode cX8_inUse 30 = .ok (.iload_n 1, 1) := by decide +kernel
theorem dX8_inUse_31 : decode cX8_inUse 31 = .ok (.ireturn, 1) := by decide +kernel
theorem dX8_zero_0 : decode cX8_zero 0 = .ok (.iload_n 0, 1) := by decide +kernel
theorem dX8_zero_1 : decode cX8_zero 1 = .ok (.ifCond .ne 5, 3) := by decide +kernel
theorem dX8_zero_4 : decode cX8_zero 4 = .ok (.iconst 0, 1) := by decide +kernel
theorem dX8_zero_5 : decode cX8_zero 5 = .ok (.ireturn, 1) := by decide +kernel
theorem dX8_zero_6 : decode cX8_zero 6 = .ok (.iload_n 0, 1) := by decide +kernel
theorem dX8_zero_7 : decode cX8_zero 7 = .ok (.iconst 2, 1) := by decide +kernel
theorem dX8_zero_8 : decode cX8_zero 8 = .ok (.if_icmp .ne 8, 3) := by decide +kernel
theorem dX8_zero_11 : decode cX8_zero 11 = .ok (.iload_n 1, 1) := by decide +kernel
theorem dX8_zero_12 : decode cX8_zero 12 = .ok (.ineg, 1) := by decide +kernel
theorem dX8_zero_13 : decode cX8_zero 13 = .ok (.goto 4, 3) := by decide +kernel
theorem dX8_zero_16 : decode cX8_zero 16 = .ok (.iload_n 1, 1) := by decide +kernel
theorem dX8_zero_17 : decode cX8_zero 17 = .ok (.ireturn, 1) := by decide +kernel
theorem dX8_valueAt_0 : decode cX8_valueAt 0 = .ok (.lconst 0, 1) := by decide +kernel
theorem dX8_valueAt_1 : decode cX8_valueAt 1 = .ok (.lstore_n 2, 1) := by decide +kernel
theorem dX8_valueAt_2 : decode cX8_valueAt 2 = .ok (.lconst 1, 1) := by decide +kernel
theorem dX8_valueAt_3 : decode cX8_valueAt 3 = .ok (.lstore 4, 2) := by decide +kernel
theorem dX8_valueAt_5 : decode cX8_valueAt 5 = .ok (.iconst 0, 1) := by decide +kernel
theorem dX8_valueAt_6 : decode cX8_valueAt 6 = .ok (.istore 6, 2) := by decide +kernel
theorem dX8_valueAt_8 : decode cX8_valueAt 8 = .ok (.iload 6, 2) := by decide +kernel
theorem dX8_valueAt_10 : decode cX8_valueAt 10 = .ok (.bipush 8, 2) := by decide +kernel
theorem dX8_valueAt_12 : decode cX8_valueAt 12 = .ok (.if_icmp .gt 57, 3) := by decide +kernel
theorem dX8_valueAt_15 : decode cX8_valueAt 15 = .ok (.lload_n 2, 1) := by decide +kernel
theorem dX8_valueAt_16 : decode cX8_valueAt 16 = .ok (.aload_n 0, 1) := by decide +kernel
theorem dX8_valueAt_17 : decode cX8_valueAt 17 = .ok (.getfield 9, 3) := by decide +kernel
theorem dX8_valueAt_20 : decode cX8_valueAt 20 = .ok (.iload 6, 2) := by decide +kernel
theorem dX8_valueAt_22 : decode cX8_valueAt 22 = .ok (.laload, 1) := by decide +kernel
theorem dX8_valueAt_23 : decode cX8_valueAt 23 = .ok (.lload 4, 2) := by decide +kernel
theorem dX8_valueAt_25 : decode cX8_valueAt 25 = .ok (.lmul, 1) := by decide +kernel
theorem dX8_valueAt_26 : decode cX8_valueAt 26 = .ok (.ladd, 1) := by decide +kernel
theorem dX8_valueAt_27 : decode cX8_valueAt 27 = .ok (.lstore_n 2, 1) := by decide +kernel
theorem dX8_valueAt_28 : decode cX8_valueAt 28 = .ok (.lload 4, 2) := by decide +kernel
theorem dX8_valueAt_30 : decode cX8_valueAt 30 = .ok (.iload_n 1, 1) := by decide +kernel
theorem dX8_valueAt_31 : decode cX8_valueAt 31 = .ok (.aload_n 0, 1) := by decide +kernel
theorem dX8_valueAt_32 : decode cX8_valueAt 32 = .ok (.getfield 18, 3) := by decide +kernel
theorem dX8_valueAt_35 : decode cX8_valueAt 35 = .ok (.iload 6, 2) := by decide +kernel
theorem dX8_valueAt_37 : decode cX8_valueAt 37 = .ok (.invokestatic 32, 3) := by decide +kernel
theorem dX8_valueAt_40 : decode cX8_valueAt 40 = .ok (.isub, 1) := by decide +kernel
theorem dX8_valueAt_41 : decode cX8_valueAt 41 = .ok (.i2l, 1) := by decide +kernel
theorem dX8_valueAt_42 : decode cX8_valueAt 42 = .ok (.lmul, 1) := by decide +kernel
theorem dX8_valueAt_43 : decode cX8_valueAt 43 = .ok (.lstore 4, 2) := by decide +kernel
theorem dX8_valueAt_45 : decode cX8_valueAt 45 = .ok (.aload_n 0, 1) := by decide +kernel
theorem dX8_valueAt_46 : decode cX8_valueAt 46 = .ok (.getfield 18, 3) := by decide +kernel
theorem dX8_valueAt_49 : decode cX8_valueAt 49 = .ok (.iconst 3, 1) := by decide +kernel
theorem dX8_valueAt_50 : decode cX8_valueAt 50 = .ok (.if_icmp .ne 13, 3) := by decide +kernel
theorem dX8_valueAt_53 : decode cX8_valueAt 53 = .ok (.lload 4, 2) := by decide +kernel
theorem dX8_valueAt_55 : decode cX8_valueAt 55 = .ok (.iload 6, 2) := by decide +kernel
theorem dX8_valueAt_57 : decode cX8_valueAt 57 = .ok (.iconst 1, 1) := by decide +kernel
theorem dX8_valueAt_58 : decode cX8_valueAt 58 = .ok (.iadd, 1) := by decide +kernel
theorem dX8_valueAt_59 : decode cX8_valueAt 59 = .ok (.i2l, 1) := by decide +kernel
theorem dX8_valueAt_60 : decode cX8_valueAt 60 = .ok (.ldiv, 1) := by decide +kernel
theorem dX8_valueAt_61 : decode cX8_valueAt 61 = .ok (.lstore 4, 2) := by decide +kernel
theorem dX8_valueAt_63 : decode cX8_valueAt 63 = .ok (.iinc 6 1, 3) := by decide +kernel
theorem dX8_valueAt_66 : decode cX8_valueAt 66 = .ok (.goto (-58), 3) := by decide +kernel
theorem dX8_valueAt_69 : decode cX8_valueAt 69 = .ok (.lload_n 2, 1) := by decide +kernel
theorem dX8_valueAt_70 : decode cX8_valueAt 70 = .ok (.lreturn, 1) := by decide +kernel
theorem dX8_difference_0 : decode cX8_difference 0 = .ok (.iconst 0, 1) := by decide +kernel
theorem dX8_difference_1 : decode cX8_difference 1 = .ok (.istore_n 3, 1) := by decide +kernel
theorem dX8_difference_2 : decode cX8_difference 2 = .ok (.iload_n 3, 1) := by decide +kernel
theorem dX8_difference_3 : decode cX8_difference 3 = .ok (.iload_n 2, 1) := by decide +kernel
theorem dX8_difference_4 : decode cX8_difference 4 = .ok (.if_icmp .gt 28, 3) := by decide +kernel
theorem dX8_difference_7 : decode cX8_difference 7 = .ok (.iload_n 3, 1) := by decide +kernel
theorem dX8_difference_8 : decode cX8_difference 8 = .ok (.bipush 8, 2) := by decide +kernel
theorem dX8_difference_10 : decode cX8_difference 10 = .ok (.if_icmp .gt 22, 3) := by decide +kernel
theorem dX8_difference_13 : decode cX8_difference 13 = .ok (.aload_n 0, 1) := by decide +kernel
theorem dX8_difference_14 : decode cX8_difference 14 = .ok (.getfield 15, 3) := by decide +kernel
theorem dX8_difference_17 : decode cX8_difference 17 = .ok (.iload_n 3, 1) := by decide +kernel
theorem dX8_difference_18 : decode cX8_difference 18 = .ok (.aload_n 0, 1) := by decide +kernel
theorem dX8_difference_19 : decode cX8_difference 19 = .ok (.iload_n 1, 1) := by decide +kernel
theorem dX8_difference_20 : decode cX8_difference 20 = .ok (.iload_n 3, 1) := by decide +kernel
theorem dX8_difference_21 : decode cX8_difference 21 = .ok (.iadd, 1) := by decide +kernel
theorem dX8_difference_22 : decode cX8_difference 22 = .ok (.invokevirtual 36, 3) := by decide +kernel
theorem dX8_difference_25 : decode cX8_difference 25 = .ok (.lastore, 1) := by decide +kernel
theorem dX8_difference_26 : decode cX8_difference 26 = .ok (.iinc 3 1, 3) := by decide +kernel
theorem dX8_difference_29 : decode cX8_difference 29 = .ok (.goto (-27), 3) := by decide +kernel
theorem dX8_difference_32 : decode cX8_difference 32 = .ok (.iload_n 2, 1) := by decide +kernel
theorem dX8_difference_33 : decode cX8_difference 33 = .ok (.istore_n 3, 1) := by decide +kernel
theorem dX8_difference_34 : decode cX8_difference 34 = .ok (.iload_n 3, 1) := by decide +kernel
theorem dX8_difference_35 : decode cX8_difference 35 = .ok (.ifCond .le 55, 3) := by decide +kernel
theorem dX8_difference_38 : decode cX8_difference 38 = .ok (.iconst 0, 1) := by decide +kernel
theorem dX8_difference_39 : decode cX8_difference 39 = .ok (.istore 4, 2) := by decide +kernel
theorem dX8_difference_41 : decode cX8_difference 41 = .ok (.iload 4, 2) := by decide +kernel
theorem dX8_difference_43 : decode cX8_difference 43 = .ok (.iload_n 3, 1) := by decide +kernel
theorem dX8_difference_44 : decode cX8_difference 44 = .ok (.if_icmp .ge 40, 3) := by decide +kernel
theorem dX8_difference_47 : decode cX8_difference 47 = .ok (.iload 4, 2) := by decide +kernel
theorem dX8_difference_49 : decode cX8_difference 49 = .ok (.bipush 8, 2) := by decide +kernel
theorem dX8_difference_51 : decode cX8_difference 51 = .ok (.if_icmp .ge 33, 3) := by decide +kernel
theorem dX8_difference_54 : decode cX8_difference 54 = .ok (.aload_n 0, 1) := by decide +kernel
theorem dX8_difference_55 : decode cX8_difference 55 = .ok (.getfield 15, 3) := by decide +kernel
theorem dX8_difference_58 : decode cX8_difference 58 = .ok (.iload 4, 2) := by decide +kernel
theorem dX8_difference_60 : decode cX8_difference 60 = .ok (.aload_n 0, 1) := by decide +kernel
theorem dX8_difference_61 : decode cX8_difference 61 = .ok (.getfield 15, 3) := by decide +kernel
theorem dX8_difference_64 : decode cX8_difference 64 = .ok (.iload 4, 2) := by decide +kernel
theorem dX8_difference_66 : decode cX8_difference 66 = .ok (.iconst 1, 1) := by decide +kernel
theorem dX8_difference_67 : decode cX8_difference 67 = .ok (.iadd, 1) := by decide +kernel
theorem dX8_difference_68 : decode cX8_difference 68 = .ok (.laload, 1) := by decide +kernel
theorem dX8_difference_69 : decode cX8_difference 69 = .ok (.aload_n 0, 1) := by decide +kernel
theorem dX8_difference_70 : decode cX8_difference 70 = .ok (.getfield 15, 3) := by decide +kernel
theorem dX8_difference_73 : decode cX8_difference 73 = .ok (.iload 4, 2) := by decide +kernel
theorem dX8_difference_75 : decode cX8_difference 75 = .ok (.laload, 1) := by decide +kernel
theorem dX8_difference_76 : decode cX8_difference 76 = .ok (.lsub, 1) := by decide +kernel
theorem dX8_difference_77 : decode cX8_difference 77 = .ok (.lastore, 1) := by decide +kernel
theorem dX8_difference_78 : decode cX8_difference 78 = .ok (.iinc 4 1, 3) := by decide +kernel
theorem dX8_difference_81 : decode cX8_difference 81 = .ok (.goto (-40), 3) := by decide +kernel
theorem dX8_difference_84 : decode cX8_difference 84 = .ok (.iinc 3 (-1), 3) := by decide +kernel
theorem dX8_difference_87 : decode cX8_difference 87 = .ok (.goto (-53), 3) := by decide +kernel
theorem dX8_difference_90 : decode cX8_difference 90 = .ok (.aload_n 0, 1) := by decide +kernel
theorem dX8_difference_91 : decode cX8_difference 91 = .ok (.getfield 15, 3) := by decide +kernel
theorem dX8_difference_94 : decode cX8_difference 94 = .ok (.iconst 0, 1) := by decide +kernel
theorem dX8_difference_95 : decode cX8_difference 95 = .ok (.laload, 1) := by decide +kernel
theorem dX8_difference_96 : decode cX8_difference 96 = .ok (.lreturn, 1) := by decide +kernel
theorem dX8_turnInto_0 : decode cX8_turnInto 0 = .ok (.aload_n 0, 1) := by decide +kernel
theorem dX8_turnInto_1 : decode cX8_turnInto 1 = .ok (.iload_n 1, 1) := by decide +kernel
theorem dX8_turnInto_2 : decode cX8_turnInto 2 = .ok (.invokevirtual 40, 3) := by decide +kernel
theorem dX8_turnInto_5 : decode cX8_turnInto 5 = .ok (.ifCond .ne 5, 3) := by decide +kernel
theorem dX8_turnInto_8 : decode cX8_turnInto 8 = .ok (.iconst 0, 1) := by decide +kernel
theorem dX8_turnInto_9 : decode cX8_turnInto 9 = .ok (.ireturn, 1) := by decide +kernel
theorem dX8_turnInto_10 : decode cX8_turnInto 10 = .ok (.aload_n 0, 1) := by decide +kernel
theorem dX8_turnInto_11 : decode cX8_turnInto 11 = .ok (.getfield 15, 3) := by decide +kernel
theorem dX8_turnInto_14 : decode cX8_turnInto 14 = .ok (.iconst 0, 1) := by decide +kernel
theorem dX8_turnInto_15 : decode cX8_turnInto 15 = .ok (.aload_n 0, 1) := by decide +kernel
theorem dX8_turnInto_16 : decode cX8_turnInto 16 = .ok (.getfield 9, 3) := by decide +kernel
theorem dX8_turnInto_19 : decode cX8_turnInto 19 = .ok (.iconst 0, 1) := by decide +kernel
theorem dX8_turnInto_20 : decode cX8_turnInto 20 = .ok (.bipush 9, 2) := by decide +kernel
theorem dX8_turnInto_22 : decode cX8_turnInto 22 = .ok (.invokestatic 44, 3) := by decide +kernel
theorem dX8_turnInto_25 : decode cX8_turnInto 25 = .ok (.aload_n 0, 1) := by decide +kernel
theorem dX8_turnInto_26 : decode cX8_turnInto 26 = .ok (.iload_n 1, 1) := by decide +kernel
theorem dX8_turnInto_27 : decode cX8_turnInto 27 = .ok (.putfield 18, 3) := by decide +kernel
theorem dX8_turnInto_30 : decode cX8_turnInto 30 = .ok (.iconst 1, 1) := by decide +kernel
theorem dX8_turnInto_31 : decode cX8_turnInto 31 = .ok (.ireturn, 1) := by decide +kernel
theorem dX8_becomeSum_0 : decode cX8_becomeSum 0 = .ok (.aload_n 0, 1) := by decide +kernel
theorem dX8_becomeSum_1 : decode cX8_becomeSum 1 = .ok (.invokevirtual 50, 3) := by decide +kernel
theorem dX8_becomeSum_4 : decode cX8_becomeSum 4 = .ok (.bipush 8, 2) := by decide +kernel
theorem dX8_becomeSum_6 : decode cX8_becomeSum 6 = .ok (.if_icmp .eq 11, 3) := by decide +kernel
theorem dX8_becomeSum_9 : decode cX8_becomeSum 9 = .ok (.aload_n 0, 1) := by decide +kernel
theorem dX8_becomeSum_10 : decode cX8_becomeSum 10 = .ok (.iconst 3, 1) := by decide +kernel
theorem dX8_becomeSum_11 : decode cX8_becomeSum 11 = .ok (.invokevirtual 40, 3) := by decide +kernel
theorem dX8_becomeSum_14 : decode cX8_becomeSum 14 = .ok (.ifCond .ne 5, 3) := by decide +kernel
theorem dX8_becomeSum_17 : decode cX8_becomeSum 17 = .ok (.iconst 0, 1) := by decide +kernel
theorem dX8_becomeSum_18 : decode cX8_becomeSum 18 = .ok (.ireturn, 1) := by decide +kernel
theorem dX8_becomeSum_19 : decode cX8_becomeSum 19 = .ok (.aload_n 0, 1) := by decide +kernel
theorem dX8_becomeSum_20 : decode cX8_becomeSum 20 = .ok (.getfield 15, 3) := by decide +kernel
theorem dX8_becomeSum_23 : decode cX8_becomeSum 23 = .ok (.iconst 0, 1) := by decide +kernel
theorem dX8_becomeSum_24 : decode cX8_becomeSum 24 = .ok (.aload_n 0, 1) := by decide +kernel
theorem dX8_becomeSum_25 : decode cX8_becomeSum 25 = .ok (.getfield 9, 3) := by decide +kernel
theorem dX8_becomeSum_28 : decode cX8_becomeSum 28 = .ok (.iconst 1, 1) := by decide +kernel
theorem dX8_becomeSum_29 : decode cX8_becomeSum 29 = .ok (.bipush 8, 2) := by decide +kernel
theorem dX8_becomeSum_31 : decode cX8_becomeSum 31 = .ok (.invokestatic 44, 3) := by decide +kernel
theorem dX8_becomeSum_34 : decode cX8_becomeSum 34 = .ok (.aload_n 0, 1) := by decide +kernel
theorem dX8_becomeSum_35 : decode cX8_becomeSum 35 = .ok (.getfield 9, 3) := by decide +kernel
theorem dX8_becomeSum_38 : decode cX8_becomeSum 38 = .ok (.iconst 0, 1) := by decide +kernel
theorem dX8_becomeSum_39 : decode cX8_becomeSum 39 = .ok (.lconst 0, 1) := by decide +kernel
theorem dX8_becomeSum_40 : decode cX8_becomeSum 40 = .ok (.lastore, 1) := by decide +kernel
theorem dX8_becomeSum_41 : decode cX8_becomeSum 41 = .ok (.aload_n 0, 1) := by decide +kernel
theorem dX8_becomeSum_42 : decode cX8_becomeSum 42 = .ok (.iconst 3, 1) := by decide +kernel
theorem dX8_becomeSum_43 : decode cX8_becomeSum 43 = .ok (.putfield 18, 3) := by decide +kernel
theorem dX8_becomeSum_46 : decode cX8_becomeSum 46 = .ok (.iconst 1, 1) := by decide +kernel
theorem dX8_becomeSum_47 : decode cX8_becomeSum 47 = .ok (.ireturn, 1) := by decide +kernel
theorem dX8_findTurned_0 : decode cX8_findTurned 0 = .ok (.iload_n 1, 1) := by decide +kernel
theorem dX8_findTurned_1 : decode cX8_findTurned 1 = .ok (.aload_n 0, 1) := by decide +kernel
theorem dX8_findTurned_2 : decode cX8_findTurned 2 = .ok (.getfield 18, 3) := by decide +kernel
theorem dX8_findTurned_5 : decode cX8_findTurned 5 = .ok (.if_icmp .ne 20, 3) := by decide +kernel
theorem dX8_findTurned_8 : decode cX8_findTurned 8 = .ok (.aload_n 0, 1) := by decide +kernel
theorem dX8_findTurned_9 : decode cX8_findTurned 9 = .ok (.getfield 9, 3) := by decide +kernel
theorem dX8_findTurned_12 : decode cX8_findTurned 12 = .ok (.iconst 0, 1) := by decide +kernel
theorem dX8_findTurned_13 : decode cX8_findTurned 13 = .ok (.aload_n 0, 1) := by decide +kernel
theorem dX8_findTurned_14 : decode cX8_findTurned 14 = .ok (.getfield 15, 3) := by decide +kernel
theorem dX8_findTurned_17 : decode cX8_findTurned 17 = .ok (.iconst 0, 1) := by decide +kernel
theorem dX8_findTurned_18 : decode cX8_findTurned 18 = .ok (.bipush 9, 2) := by decide +kernel
theorem dX8_findTurned_20 : decode cX8_findTurned 20 = .ok (.invokestatic 44, 3) := by decide +kernel
theorem dX8_findTurned_23 : decode cX8_findTurned 23 = .ok (.iconst 1, 1) := by decide +kernel
theorem dX8_findTurned_24 : decode cX8_findTurned 24 = .ok (.ireturn, 1) := by decide +kernel
theorem dX8_findTurned_25 : decode cX8_findTurned 25 = .ok (.aload_n 0, 1) := by decide +kernel
theorem dX8_findTurned_26 : decode cX8_findTurned 26 = .ok (.getfield 18, 3) := by decide +kernel
theorem dX8_findTurned_29 : decode cX8_findTurned 29 = .ok (.iconst 3, 1) := by decide +kernel
theorem dX8_findTurned_30 : decode cX8_findTurned 30 = .ok (.if_icmp .ne 12, 3) := by decide +kernel
theorem dX8_findTurned_33 : decode cX8_findTurned 33 = .ok (.aload_n 0, 1) := by decide +kernel
theorem dX8_findTurned_34 : decode cX8_findTurned 34 = .ok (.invokevirtual 54, 3) := by decide +kernel
theorem dX8_findTurned_37 : decode cX8_findTurned 37 = .ok (.ifCond .ne 5, 3) := by decide +kernel
theorem dX8_findTurned_40 : decode cX8_findTurned 40 = .ok (.iconst 0, 1) := by decide +kernel
theorem dX8_findTurned_41 : decode cX8_findTurned 41 = .ok (.ireturn, 1) := by decide +kernel
theorem dX8_findTurned_42 : decode cX8_findTurned 42 = .ok (.aload_n 0, 1) := by decide +kernel
theorem dX8_findTurned_43 : decode cX8_findTurned 43 = .ok (.getfield 15, 3) := by decide +kernel
theorem dX8_findTurned_46 : decode cX8_findTurned 46 = .ok (.lconst 0, 1) := by decide +kernel
theorem dX8_findTurned_47 : decode cX8_findTurned 47 = .ok (.invokestatic 22, 3) := by decide +kernel
theorem dX8_findTurned_50 : decode cX8_findTurned 50 = .ok (.bipush 8, 2) := by decide +kernel
theorem dX8_findTurned_52 : decode cX8_findTurned 52 = .ok (.istore_n 2, 1) := by decide +kernel
theorem dX8_findTurned_53 : decode cX8_findTurned 53 = .ok (.iload_n 2, 1) := by decide +kernel
theorem dX8_findTurned_54 : decode cX8_findTurned 54 = .ok (.ifCond .lt 61, 3) := by decide +kernel
theorem dX8_findTurned_57 : decode cX8_findTurned 57 = .ok (.aload_n 0, 1) := by decide +kernel
theorem dX8_findTurned_58 : decode cX8_findTurned 58 = .ok (.iload_n 1, 1) := by decide +kernel
theorem dX8_findTurned_59 : decode cX8_findTurned 59 = .ok (.aload_n 0, 1) := by decide +kernel
theorem dX8_findTurned_60 : decode cX8_findTurned 60 = .ok (.getfield 18, 3) := by decide +kernel
theorem dX8_findTurned_63 : decode cX8_findTurned 63 = .ok (.iload_n 2, 1) := by decide +kernel
theorem dX8_findTurned_64 : decode cX8_findTurned 64 = .ok (.invokestatic 32, 3) := by decide +kernel
theorem dX8_findTurned_67 : decode cX8_findTurned 67 = .ok (.invokevirtual 58, 3) := by decide +kernel
theorem dX8_findTurned_70 : decode cX8_findTurned 70 = .ok (.aload_n 0, 1) := by decide +kernel
theorem dX8_findTurned_71 : decode cX8_findTurned 71 = .ok (.getfield 15, 3) := by decide +kernel
theorem dX8_findTurned_74 : decode cX8_findTurned 74 = .ok (.iconst 0, 1) := by decide +kernel
theorem dX8_findTurned_75 : decode cX8_findTurned 75 = .ok (.dup2, 1) := by decide +kernel
theorem dX8_findTurned_76 : decode cX8_findTurned 76 = .ok (.laload, 1) := by decide +kernel
theorem dX8_findTurned_77 : decode cX8_findTurned 77 = .ok (.aload_n 0, 1) := by decide +kernel
theorem dX8_findTurned_78 : decode cX8_findTurned 78 = .ok (.getfield 18, 3) := by decide +kernel
theorem dX8_findTurned_81 : decode cX8_findTurned 81 = .ok (.iconst 3, 1) := by decide +kernel
theorem dX8_findTurned_82 : decode cX8_findTurned 82 = .ok (.if_icmp .ne 19, 3) := by decide +kernel
theorem dX8_findTurned_85 : decode cX8_findTurned 85 = .ok (.aload_n 0, 1) := by decide +kernel
theorem dX8_findTurned_86 : decode cX8_findTurned 86 = .ok (.getfield 9, 3) := by decide +kernel
theorem dX8_findTurned_89 : decode cX8_findTurned 89 = .ok (.iload_n 2, 1) := by decide +kernel
theorem dX8_findTurned_90 : decode cX8_findTurned 90 = .ok (.laload, 1) := by decide +kernel
theorem dX8_findTurned_91 : decode cX8_findTurned 91 = .ok (.getstatic 62, 3) := by decide +kernel
theorem dX8_findTurned_94 : decode cX8_findTurned 94 = .ok (.iload_n 2, 1) := by decide +kernel
theorem dX8_findTurned_95 : decode cX8_findTurned 95 = .ok (.iaload, 1) := by decide +kernel
theorem dX8_findTurned_96 : decode cX8_findTurned 96 = .ok (.i2l, 1) := by decide +kernel
theorem dX8_findTurned_97 : decode cX8_findTurned 97 = .ok (.ldiv, 1) := by decide +kernel
theorem dX8_findTurned_98 : decode cX8_findTurned 98 = .ok (.goto 9, 3) := by decide +kernel
theorem dX8_findTurned_101 : decode cX8_findTurned 101 = .ok (.aload_n 0, 1) := by decide +kernel
theorem dX8_findTurned_102 : decode cX8_findTurned 102 = .ok (.getfield 9, 3) := by decide +kernel
theorem dX8_findTurned_105 : decode cX8_findTurned 105 = .ok (.iload_n 2, 1) := by decide +kernel
theorem dX8_findTurned_106 : decode cX8_findTurned 106 = .ok (.laload, 1) := by decide +kernel
theorem dX8_findTurned_107 : decode cX8_findTurned 107 = .ok (.ladd, 1) := by decide +kernel
theorem dX8_findTurned_108 : decode cX8_findTurned 108 = .ok (.lastore, 1) := by decide +kernel
theorem dX8_findTurned_109 : decode cX8_findTurned 109 = .ok (.iinc 2 (-1), 3) := by decide +kernel
theorem dX8_findTurned_112 : decode cX8_findTurned 112 = .ok (.goto (-59), 3) := by decide +kernel
theorem dX8_findTurned_115 : decode cX8_findTurned 115 = .ok (.aload_n 0, 1) := by decide +kernel
theorem dX8_findTurned_116 : decode cX8_findTurned 116 = .ok (.iload_n 1, 1) := by decide +kernel
theorem dX8_findTurned_117 : decode cX8_findTurned 117 = .ok (.invokevirtual 66, 3) := by decide +kernel
theorem dX8_findTurned_120 : decode cX8_findTurned 120 = .ok (.ireturn, 1) := by decide +kernel
theorem dX8_choicesAreWholeFalling_0 : decode cX8_choicesAreWholeFalling 0 = .ok (.iconst 0, 1) := by decide +kernel
theorem dX8_choicesAreWholeFalling_1 : decode cX8_choicesAreWholeFalling 1 = .ok (.istore_n 1, 1) := by decide +kernel
theorem dX8_choicesAreWholeFalling_2 : decode cX8_choicesAreWholeFalling 2 = .ok (.iload_n 1, 1) := by decide +kernel
theorem dX8_choicesAreWholeFalling_3 : decode cX8_choicesAreWholeFalling 3 = .ok (.bipush 8, 2) := by decide +kernel
theorem dX8_choicesAreWholeFalling_5 : decode cX8_choicesAreWholeFalling 5 = .ok (.if_icmp .gt 29, 3) := by decide +kernel
theorem dX8_choicesAreWholeFalling_8 : decode cX8_choicesAreWholeFalling 8 = .ok (.aload_n 0, 1) := by decide +kernel
theorem dX8_choicesAreWholeFalling_9 : decode cX8_choicesAreWholeFalling 9 = .ok (.getfield 9, 3) := by decide +kernel
theorem dX8_choicesAreWholeFalling_12 : decode cX8_choicesAreWholeFalling 12 = .ok (.iload_n 1, 1) := by decide +kernel
theorem dX8_choicesAreWholeFalling_13 : decode cX8_choicesAreWholeFalling 13 = .ok (.laload, 1) := by decide +kernel
theorem dX8_choicesAreWholeFalling_14 : decode cX8_choicesAreWholeFalling 14 = .ok (.getstatic 62, 3) := by decide +kernel
theorem dX8_choicesAreWholeFalling_17 : decode cX8_choicesAreWholeFalling 17 = .ok (.iload_n 1, 1) := by decide +kernel
theorem dX8_choicesAreWholeFalling_18 : decode cX8_choicesAreWholeFalling 18 = .ok (.iaload, 1) := by decide +kernel
theorem dX8_choicesAreWholeFalling_19 : decode cX8_choicesAreWholeFalling 19 = .ok (.i2l, 1) := by decide +kernel
theorem dX8_choicesAreWholeFalling_20 : decode cX8_choicesAreWholeFalling 20 = .ok (.lrem, 1) := by decide +kernel
theorem dX8_choicesAreWholeFalling_21 : decode cX8_choicesAreWholeFalling 21 = .ok (.lconst 0, 1) := by decide +kernel
theorem dX8_choicesAreWholeFalling_22 : decode cX8_choicesAreWholeFalling 22 = .ok (.lcmp, 1) := by decide +kernel
theorem dX8_choicesAreWholeFalling_23 : decode cX8_choicesAreWholeFalling 23 = .ok (.ifCond .eq 5, 3) := by decide +kernel
theorem dX8_choicesAreWholeFalling_26 : decode cX8_choicesAreWholeFalling 26 = .ok (.iconst 0, 1) := by decide +kernel
theorem dX8_choicesAreWholeFalling_27 : decode cX8_choicesAreWholeFalling 27 = .ok (.ireturn, 1) := by decide +kernel
theorem dX8_choicesAreWholeFalling_28 : decode cX8_choicesAreWholeFalling 28 = .ok (.iinc 1 1, 3) := by decide +kernel
theorem dX8_choicesAreWholeFalling_31 : decode cX8_choicesAreWholeFalling 31 = .ok (.goto (-29), 3) := by decide +kernel
theorem dX8_choicesAreWholeFalling_34 : decode cX8_choicesAreWholeFalling 34 = .ok (.iconst 1, 1) := by decide +kernel
theorem dX8_choicesAreWholeFalling_35 : decode cX8_choicesAreWholeFalling 35 = .ok (.ireturn, 1) := by decide +kernel
theorem dX8_multiplyRoom_0 : decode cX8_multiplyRoom 0 = .ok (.bipush 8, 2) := by decide +kernel
theorem dX8_multiplyRoom_2 : decode cX8_multiplyRoom 2 = .ok (.istore_n 3, 1) := by decide +kernel
theorem dX8_multiplyRoom_3 : decode cX8_multiplyRoom 3 = .ok (.iload_n 3, 1) := by decide +kernel
theorem dX8_multiplyRoom_4 : decode cX8_multiplyRoom 4 = .ok (.ifCond .lt 51, 3) := by decide +kernel
theorem dX8_multiplyRoom_7 : decode cX8_multiplyRoom 7 = .ok (.iload_n 3, 1) := by decide +kernel
theorem dX8_multiplyRoom_8 : decode cX8_multiplyRoom 8 = .ok (.ifCond .le 14, 3) := by decide +kernel
theorem dX8_multiplyRoom_11 : decode cX8_multiplyRoom 11 = .ok (.aload_n 0, 1) := by decide +kernel
theorem dX8_multiplyRoom_12 : decode cX8_multiplyRoom 12 = .ok (.getfield 15, 3) := by decide +kernel
theorem dX8_multiplyRoom_15 : decode cX8_multiplyRoom 15 = .ok (.iload_n 3, 1) := by decide +kernel
theorem dX8_multiplyRoom_16 : decode cX8_multiplyRoom 16 = .ok (.iconst 1, 1) := by decide +kernel
theorem dX8_multiplyRoom_17 : decode cX8_multiplyRoom 17 = .ok (.isub, 1) := by decide +kernel
theorem dX8_multiplyRoom_18 : decode cX8_multiplyRoom 18 = .ok (.laload, 1) := by decide +kernel
theorem dX8_multiplyRoom_19 : decode cX8_multiplyRoom 19 = .ok (.goto 4, 3) := by decide +kernel
theorem dX8_multiplyRoom_22 : decode cX8_multiplyRoom 22 = .ok (.lconst 0, 1) := by decide +kernel
theorem dX8_multiplyRoom_23 : decode cX8_multiplyRoom 23 = .ok (.lstore 4, 2) := by decide +kernel
theorem dX8_multiplyRoom_25 : decode cX8_multiplyRoom 25 = .ok (.aload_n 0, 1) := by decide +kernel
theorem dX8_multiplyRoom_26 : decode cX8_multiplyRoom 26 = .ok (.getfield 15, 3) := by decide +kernel
theorem dX8_multiplyRoom_29 : decode cX8_multiplyRoom 29 = .ok (.iload_n 3, 1) := by decide +kernel
theorem dX8_multiplyRoom_30 : decode cX8_multiplyRoom 30 = .ok (.lload 4, 2) := by decide +kernel
theorem dX8_multiplyRoom_32 : decode cX8_multiplyRoom 32 = .ok (.iload_n 1, 1) := by decide +kernel
theorem dX8_multiplyRoom_33 : decode cX8_multiplyRoom 33 = .ok (.iload_n 3, 1) := by decide +kernel
theorem dX8_multiplyRoom_34 : decode cX8_multiplyRoom 34 = .ok (.invokestatic 32, 3) := by decide +kernel
theorem dX8_multiplyRoom_37 : decode cX8_multiplyRoom 37 = .ok (.iload_n 2, 1) := by decide +kernel
theorem dX8_multiplyRoom_38 : decode cX8_multiplyRoom 38 = .ok (.isub, 1) := by decide +kernel
theorem dX8_multiplyRoom_39 : decode cX8_multiplyRoom 39 = .ok (.i2l, 1) := by decide +kernel
theorem dX8_multiplyRoom_40 : decode cX8_multiplyRoom 40 = .ok (.aload_n 0, 1) := by decide +kernel
theorem dX8_multiplyRoom_41 : decode cX8_multiplyRoom 41 = .ok (.getfield 15, 3) := by decide +kernel
theorem dX8_multiplyRoom_44 : decode cX8_multiplyRoom 44 = .ok (.iload_n 3, 1) := by decide +kernel
theorem dX8_multiplyRoom_45 : decode cX8_multiplyRoom 45 = .ok (.laload, 1) := by decide +kernel
theorem dX8_multiplyRoom_46 : decode cX8_multiplyRoom 46 = .ok (.lmul, 1) := by decide +kernel
theorem dX8_multiplyRoom_47 : decode cX8_multiplyRoom 47 = .ok (.ladd, 1) := by decide +kernel
theorem dX8_multiplyRoom_48 : decode cX8_multiplyRoom 48 = .ok (.lastore, 1) := by decide +kernel
theorem dX8_multiplyRoom_49 : decode cX8_multiplyRoom 49 = .ok (.iinc 3 (-1), 3) := by decide +kernel
theorem dX8_multiplyRoom_52 : decode cX8_multiplyRoom 52 = .ok (.goto (-49), 3) := by decide +kernel
theorem dX8_multiplyRoom_55 : decode cX8_multiplyRoom 55 = .ok (.return_, 1) := by decide +kernel
theorem dX8_roomMayStand_0 : decode cX8_roomMayStand 0 = .ok (.iconst 0, 1) := by decide +kernel
theorem dX8_roomMayStand_1 : decode cX8_roomMayStand 1 = .ok (.istore_n 2, 1) := by decide +kernel
theorem dX8_roomMayStand_2 : decode cX8_roomMayStand 2 = .ok (.iload_n 2, 1) := by decide +kernel
theorem dX8_roomMayStand_3 : decode cX8_roomMayStand 3 = .ok (.bipush 8, 2) := by decide +kernel
theorem dX8_roomMayStand_5 : decode cX8_roomMayStand 5 = .ok (.if_icmp .gt 46, 3) := by decide +kernel
theorem dX8_roomMayStand_8 : decode cX8_roomMayStand 8 = .ok (.iload_n 1, 1) := by decide +kernel
theorem dX8_roomMayStand_9 : decode cX8_roomMayStand 9 = .ok (.iconst 3, 1) := by decide +kernel
theorem dX8_roomMayStand_10 : decode cX8_roomMayStand 10 = .ok (.if_icmp .ne 18, 3) := by decide +kernel
theorem dX8_roomMayStand_13 : decode cX8_roomMayStand 13 = .ok (.aload_n 0, 1) := by decide +kernel
theorem dX8_roomMayStand_14 : decode cX8_roomMayStand 14 = .ok (.getfield 15, 3) := by decide +kernel
theorem dX8_roomMayStand_17 : decode cX8_roomMayStand 17 = .ok (.iload_n 2, 1) := by decide +kernel
theorem dX8_roomMayStand_18 : decode cX8_roomMayStand 18 = .ok (.dup2, 1) := by decide +kernel
theorem dX8_roomMayStand_19 : decode cX8_roomMayStand 19 = .ok (.laload, 1) := by decide +kernel
theorem dX8_roomMayStand_20 : decode cX8_roomMayStand 20 = .ok (.getstatic 62, 3) := by decide +kernel
theorem dX8_roomMayStand_23 : decode cX8_roomMayStand 23 = .ok (.iload_n 2, 1) := by decide +kernel
theorem dX8_roomMayStand_24 : decode cX8_roomMayStand 24 = .ok (.iaload, 1) := by decide +kernel
theorem dX8_roomMayStand_25 : decode cX8_roomMayStand 25 = .ok (.i2l, 1) := by decide +kernel
theorem dX8_roomMayStand_26 : decode cX8_roomMayStand 26 = .ok (.lmul, 1) := by decide +kernel
theorem dX8_roomMayStand_27 : decode cX8_roomMayStand 27 = .ok (.lastore, 1) := by decide +kernel
theorem dX8_roomMayStand_28 : decode cX8_roomMayStand 28 = .ok (.aload_n 0, 1) := by decide +kernel
theorem dX8_roomMayStand_29 : decode cX8_roomMayStand 29 = .ok (.getfield 15, 3) := by decide +kernel
theorem dX8_roomMayStand_32 : decode cX8_roomMayStand 32 = .ok (.iload_n 2, 1) := by decide +kernel
theorem dX8_roomMayStand_33 : decode cX8_roomMayStand 33 = .ok (.laload, 1) := by decide +kernel
theorem dX8_roomMayStand_34 : decode cX8_roomMayStand 34 = .ok (.ldc2_w 69, 3) := by decide +kernel
theorem dX8_roomMayStand_37 : decode cX8_roomMayStand 37 = .ok (.invokestatic 71, 3) := by decide +kernel
theorem dX8_roomMayStand_40 : decode cX8_roomMayStand 40 = .ok (.ifCond .eq 5, 3) := by decide +kernel
theorem dX8_roomMayStand_43 : decode cX8_roomMayStand 43 = .ok (.iconst 0, 1) := by decide +kernel
theorem dX8_roomMayStand_44 : decode cX8_roomMayStand 44 = .ok (.ireturn, 1) := by decide +kernel
theorem dX8_roomMayStand_45 : decode cX8_roomMayStand 45 = .ok (.iinc 2 1, 3) := by decide +kernel
theorem dX8_roomMayStand_48 : decode cX8_roomMayStand 48 = .ok (.goto (-46), 3) := by decide +kernel
theorem dX8_roomMayStand_51 : decode cX8_roomMayStand 51 = .ok (.iconst 1, 1) := by decide +kernel
theorem dX8_roomMayStand_52 : decode cX8_roomMayStand 52 = .ok (.ireturn, 1) := by decide +kernel
theorem dX9_init_0 : decode cX9_init 0 = .ok (.aload_n 0, 1) := by decide +kernel
theorem dX9_init_1 : decode cX9_init 1 = .ok (.invokespecial 3, 3) := by decide +kernel
theorem dX9_init_4 : decode cX9_init 4 = .ok (.aload_n 0, 1) := by decide +kernel
theorem dX9_init_5 : decode cX9_init 5 = .ok (.bipush 81, 2) := by decide +kernel
theorem dX9_init_7 : decode cX9_init 7 = .ok (.newarray .int, 2) := by decide +kernel
theorem dX9_init_9 : decode cX9_init 9 = .ok (.putfield 9, 3) := by decide +kernel
theorem dX9_init_12 : decode cX9_init 12 = .ok (.aload_n 0, 1) := by decide +kernel
theorem dX9_init_13 : decode cX9_init 13 = .ok (.getfield 9, 3) := by decide +kernel
theorem dX9_init_16 : decode cX9_init 16 = .ok (.iconst 0, 1) := by decide +kernel
theorem dX9_init_17 : decode cX9_init 17 = .ok (.iconst 1, 1) := by decide +kernel
theorem dX9_init_18 : decode cX9_init 18 = .ok (.iastore, 1) := by decide +kernel
theorem dX9_init_19 : decode cX9_init 19 = .ok (.iconst 1, 1) := by decide +kernel
theorem dX9_init_20 : decode cX9_init 20 = .ok (.istore_n 1, 1) := by decide +kernel
theorem dX9_init_21 : decode cX9_init 21 = .ok (.iload_n 1, 1) := by decide +kernel
theorem dX9_init_22 : decode cX9_init 22 = .ok (.bipush 9, 2) := by decide +kernel
theorem dX9_init_24 : decode cX9_init 24 = .ok (.if_icmp .ge 59, 3) := by decide +kernel
theorem dX9_init_27 : decode cX9_init 27 = .ok (.iconst 0, 1) := by decide +kernel
theorem dX9_init_28 : decode cX9_init 28 = .ok (.istore_n 2, 1) := by decide +kernel
theorem dX9_init_29 : decode cX9_init 29 = .ok (.iload_n 2, 1) := by decide +kernel
theorem dX9_init_30 : decode cX9_init 30 = .ok (.bipush 9, 2) := by decide +kernel
theorem dX9_init_32 : decode cX9_init 32 = .ok (.if_icmp .ge 45, 3) := by decide +kernel
theorem dX9_init_35 : decode cX9_init 35 = .ok (.aload_n 0, 1) := by decide +kernel
theorem dX9_init_36 : decode cX9_init 36 = .ok (.getfield 9, 3) := by decide +kernel
theorem dX9_init_39 : decode cX9_init 39 = .ok (.iload_n 1, 1) := by decide +kernel
theorem dX9_init_40 : decode cX9_init 40 = .ok (.bipush 9, 2) := by decide +kernel
theorem dX9_init_42 : decode cX9_init 42 = .ok (.imul, 1) := by decide +kernel
theorem dX9_init_43 : decode cX9_init 43 = .ok (.iload_n 2, 1) := by decide +kernel
theorem dX9_init_44 : decode cX9_init 44 = .ok (.iadd, 1) := by decide +kernel
theorem dX9_init_45 : decode cX9_init 45 = .ok (.aload_n 0, 1) := by decide +kernel
theorem dX9_init_46 : decode cX9_init 46 = .ok (.iconst 0, 1) := by decide +kernel
theorem dX9_init_47 : decode cX9_init 47 = .ok (.iload_n 1, 1) := by decide +kernel
theorem dX9_init_48 : decode cX9_init 48 = .ok (.iconst 1, 1) := by decide +kernel
theorem dX9_init_49 : decode cX9_init 49 = .ok (.isub, 1) := by decide +kernel
theorem dX9_init_50 : decode cX9_init 50 = .ok (.iload_n 2, 1) := by decide +kernel
theorem dX9_init_51 : decode cX9_init 51 = .ok (.iconst 1, 1) := by decide +kernel
theorem dX9_init_52 : decode cX9_init 52 = .ok (.isub, 1) := by decide +kernel
theorem dX9_init_53 : decode cX9_init 53 = .ok (.invokevirtual 15, 3) := by decide +kernel
theorem dX9_init_56 : decode cX9_init 56 = .ok (.iload_n 1, 1) := by decide +kernel
theorem dX9_init_57 : decode cX9_init 57 = .ok (.iconst 1, 1) := by decide +kernel
theorem dX9_init_58 : decode cX9_init 58 = .ok (.isub, 1) := by decide +kernel
theorem dX9_init_59 : decode cX9_init 59 = .ok (.aload_n 0, 1) := by decide +kernel
theorem dX9_init_60 : decode cX9_init 60 = .ok (.iconst 0, 1) := by decide +kernel
theorem dX9_init_61 : decode cX9_init 61 = .ok (.iload_n 1, 1) := by decide +kernel
theorem dX9_init_62 : decode cX9_init 62 = .ok (.iconst 1, 1) := by decide +kernel
theorem dX9_init_63 : decode cX9_init 63 = .ok (.isub, 1) := by decide +kernel
theorem dX9_init_64 : decode cX9_init 64 = .ok (.iload_n 2, 1) := by decide +kernel
theorem dX9_init_65 : decode cX9_init 65 = .ok (.invokevirtual 15, 3) := by decide +kernel
theorem dX9_init_68 : decode cX9_init 68 = .ok (.imul, 1) := by decide +kernel
theorem dX9_init_69 : decode cX9_init 69 = .ok (.iadd, 1) := by decide +kernel
theorem dX9_init_70 : decode cX9_init 70 = .ok (.iastore, 1) := by decide +kernel
theorem dX9_init_71 : decode cX9_init 71 = .ok (.iinc 2 1, 3) := by decide +kernel
theorem dX9_init_74 : decode cX9_init 74 = .ok (.goto (-45), 3) := by decide +kernel
theorem dX9_init_77 : decode cX9_init 77 = .ok (.iinc 1 1, 3) := by decide +kernel
theorem dX9_init_80 : decode cX9_init 80 = .ok (.goto (-59), 3) := by decide +kernel
theorem dX9_init_83 : decode cX9_init 83 = .ok (.return_, 1) := by decide +kernel
theorem dX9_start_0 : decode cX9_start 0 = .ok (.iconst 0, 1) := by decide +kernel
theorem dX9_start_1 : decode cX9_start 1 = .ok (.ireturn, 1) := by decide +kernel
theorem dX9_growth_0 : decode cX9_growth 0 = .ok (.iload 5, 2) := by decide +kernel
theorem dX9_growth_2 : decode cX9_growth 2 = .ok (.istore 6, 2) := by decide +kernel
theorem dX9_growth_4 : decode cX9_growth 4 = .ok (.iconst 0, 1) := by decide +kernel
theorem dX9_growth_5 : decode cX9_growth 5 = .ok (.istore 7, 2) := by decide +kernel
theorem dX9_growth_7 : decode cX9_growth 7 = .ok (.iload 7, 2) := by decide +kernel
theorem dX9_growth_9 : decode cX9_growth 9 = .ok (.iload 5, 2) := by decide +kernel
theorem dX9_growth_11 : decode cX9_growth 11 = .ok (.if_icmp .gt 39, 3) := by decide +kernel
theorem dX9_growth_14 : decode cX9_growth 14 = .ok (.iload 6, 2) := by decide +kernel
theorem dX9_growth_16 : decode cX9_growth 16 = .ok (.ifCond .lt 34, 3) := by decide +kernel
theorem dX9_growth_19 : decode cX9_growth 19 = .ok (.iload 6, 2) := by decide +kernel
theorem dX9_growth_21 : decode cX9_growth 21 = .ok (.aload 4, 2) := by decide +kernel
theorem dX9_growth_23 : decode cX9_growth 23 = .ok (.arraylength, 1) := by decide +kernel
theorem dX9_growth_24 : decode cX9_growth 24 = .ok (.if_icmp .ge 26, 3) := by decide +kernel
theorem dX9_growth_27 : decode cX9_growth 27 = .ok (.aload 4, 2) := by decide +kernel
theorem dX9_growth_29 : decode cX9_growth 29 = .ok (.iload 6, 2) := by decide +kernel
theorem dX9_growth_31 : decode cX9_growth 31 = .ok (.iaload, 1) := by decide +kernel
theorem dX9_growth_32 : decode cX9_growth 32 = .ok (.istore 6, 2) := by decide +kernel
theorem dX9_growth_34 : decode cX9_growth 34 = .ok (.iload 6, 2) := by decide +kernel
theorem dX9_growth_36 : decode cX9_growth 36 = .ok (.iload 5, 2) := by decide +kernel
theorem dX9_growth_38 : decode cX9_growth 38 = .ok (.if_icmp .lt 6, 3) := by decide +kernel
theorem dX9_growth_41 : decode cX9_growth 41 = .ok (.goto 9, 3) := by decide +kernel
theorem dX9_growth_44 : decode cX9_growth 44 = .ok (.iinc 7 1, 3) := by decide +kernel
theorem dX9_growth_47 : decode cX9_growth 47 = .ok (.goto (-40), 3) := by decide +kernel
theorem dX9_growth_50 : decode cX9_growth 50 = .ok (.iload 6, 2) := by decide +kernel
theorem dX9_growth_52 : decode cX9_growth 52 = .ok (.iload 5, 2) := by decide +kernel
theorem dX9_growth_54 : decode cX9_growth 54 = .ok (.if_icmp .ne 7, 3) := by decide +kernel
theorem dX9_growth_57 : decode cX9_growth 57 = .ok (.iconst 1, 1) := by decide +kernel
theorem dX9_growth_58 : decode cX9_growth 58 = .ok (.goto 4, 3) := by decide +kernel
theorem dX9_growth_61 : decode cX9_growth 61 = .ok (.iconst 0, 1) := by decide +kernel
theorem dX9_growth_62 : decode cX9_growth 62 = .ok (.ireturn, 1) := by decide +kernel
theorem dX9_next_0 : decode cX9_next 0 = .ok (.iconst 0, 1) := by decide +kernel
theorem dX9_next_1 : decode cX9_next 1 = .ok (.ireturn, 1) := by decide +kernel
theorem dX9_ways_0 : decode cX9_ways 0 = .ok (.iload_n 2, 1) := by decide +kernel
theorem dX9_ways_1 : decode cX9_ways 1 = .ok (.iconst 0, 1) := by decide +kernel
theorem dX9_ways_2 : decode cX9_ways 2 = .ok (.bipush 8, 2) := by decide +kernel
theorem dX9_ways_4 : decode cX9_ways 4 = .ok (.invokestatic 19, 3) := by decide +kernel
theorem dX9_ways_7 : decode cX9_ways 7 = .ok (.ifCond .eq 27, 3) := by decide +kernel
theorem dX9_ways_10 : decode cX9_ways 10 = .ok (.iload_n 3, 1) := by decide +kernel
theorem dX9_ways_11 : decode cX9_ways 11 = .ok (.iconst 0, 1) := by decide +kernel
theorem dX9_ways_12 : decode cX9_ways 12 = .ok (.bipush 8, 2) := by decide +kernel
theorem dX9_ways_14 : decode cX9_ways 14 = .ok (.invokestatic 19, 3) := by decide +kernel
theorem dX9_ways_17 : decode cX9_ways 17 = .ok (.ifCond .eq 17, 3) := by decide +kernel
theorem dX9_ways_20 : decode cX9_ways 20 = .ok (.aload_n 0, 1) := by decide +kernel
theorem dX9_ways_21 : decode cX9_ways 21 = .ok (.getfield 9, 3) := by decide +kernel
theorem dX9_ways_24 : decode cX9_ways 24 = .ok (.iload_n 2, 1) := by decide +kernel
theorem dX9_ways_25 : decode cX9_ways 25 = .ok (.bipush 9, 2) := by decide +kernel
theorem dX9_ways_27 : decode cX9_ways 27 = .ok (.imul, 1) := by decide +kernel
theorem dX9_ways_28 : decode cX9_ways 28 = .ok (.iload_n 3, 1) := by decide +kernel
theorem dX9_ways_29 : decode cX9_ways 29 = .ok (.iadd, 1) := by decide +kernel
theorem dX9_ways_30 : decode cX9_ways 30 = .ok (.iaload, 1) := by decide +kernel
theorem dX9_ways_31 : decode cX9_ways 31 = .ok (.goto 4, 3) := by decide +kernel
theorem dX9_ways_34 : decode cX9_ways 34 = .ok (.iconst 0, 1) := by decide +kernel
theorem dX9_ways_35 : decode cX9_ways 35 = .ok (.ireturn, 1) := by decide +kernel
theorem dX10_init_0 : decode cX10_init 0 = .ok (.aload_n 0, 1) := by decide +kernel
theorem dX10_init_1 : decode cX10_init 1 = .ok (.invokespecial 3, 3) := by decide +kernel
theorem dX10_init_4 : decode cX10_init 4 = .ok (.aload_n 0, 1) := by decide +kernel
theorem dX10_init_5 : decode cX10_init 5 = .ok (.bipush 120, 2) := by decide +kernel
theorem dX10_init_7 : decode cX10_init 7 = .ok (.newarray .byte, 2) := by decide +kernel
theorem dX10_init_9 : decode cX10_init 9 = .ok (.putfield 11, 3) := by decide +kernel
theorem dX10_init_12 : decode cX10_init 12 = .ok (.aload_n 0, 1) := by decide +kernel
theorem dX10_init_13 : decode cX10_init 13 = .ok (.iconst 0, 1) := by decide +kernel
theorem dX10_init_14 : decode cX10_init 14 = .ok (.putfield 15, 3) := by decide +kernel
theorem dX10_init_17 : decode cX10_init 17 = .ok (.return_, 1) := by decide +kernel
theorem dX10_length_0 : decode cX10_length 0 = .ok (.aload_n 0, 1) := by decide +kernel
theorem dX10_length_1 : decode cX10_length 1 = .ok (.getfield 15, 3) := by decide +kernel
theorem dX10_length_4 : decode cX10_length 4 = .ok (.ireturn, 1) := by decide +kernel
theorem dX10_clear_0 : decode cX10_clear 0 = .ok (.aload_n 0, 1) := by decide +kernel
theorem dX10_clear_1 : decode cX10_clear 1 = .ok (.iconst 0, 1) := by decide +kernel
theorem dX10_clear_2 : decode cX10_clear 2 = .ok (.putfield 15, 3) := by decide +kernel
theorem dX10_clear_5 : decode cX10_clear 5 = .ok (.return_, 1) := by decide +kernel
theorem dX10_append_0 : decode cX10_append 0 = .ok (.iload_n 1, 1) := by decide +kernel
theorem dX10_append_1 : decode cX10_append 1 = .ok (.bipush 120, 2) := by decide +kernel
theorem dX10_append_3 : decode cX10_append 3 = .ok (.aload_n 0, 1) := by decide +kernel
theorem dX10_append_4 : decode cX10_append 4 = .ok (.getfield 15, 3) := by decide +kernel
theorem dX10_append_7 : decode cX10_append 7 = .ok (.isub, 1) := by decide +kernel
theorem dX10_append_8 : decode cX10_append 8 = .ok (.if_icmp .le 5, 3) := by decide +kernel
theorem dX10_append_11 : decode cX10_append 11 = .ok (.iconst 0, 1) := by decide +kernel
theorem dX10_append_12 : decode cX10_append 12 = .ok (.ireturn, 1) := by decide +kernel
theorem dX10_append_13 : decode cX10_append 13 = .ok (.iload_n 1, 1) := by decide +kernel
theorem dX10_append_14 : decode cX10_append 14 = .ok (.iconst 1, 1) := by decide +kernel
theorem dX10_append_15 : decode cX10_append 15 = .ok (.isub, 1) := by decide +kernel
theorem dX10_append_16 : decode cX10_append 16 = .ok (.istore 4, 2) := by decide +kernel
theorem dX10_append_18 : decode cX10_append 18 = .ok (.iload 4, 2) := by decide +kernel
theorem dX10_append_20 : decode cX10_append 20 = .ok (.ifCond .lt 37, 3) := by decide +kernel
theorem dX10_append_23 : decode cX10_append 23 = .ok (.aload_n 0, 1) := by decide +kernel
theorem dX10_append_24 : decode cX10_append 24 = .ok (.getfield 11, 3) := by decide +kernel
theorem dX10_append_27 : decode cX10_append 27 = .ok (.aload_n 0, 1) := by decide +kernel
theorem dX10_append_28 : decode cX10_append 28 = .ok (.getfield 15, 3) := by decide +kernel
theorem dX10_append_31 : decode cX10_append 31 = .ok (.lload_n 2, 1) := by decide +kernel
theorem dX10_append_32 : decode cX10_append 32 = .ok (.bipush 8, 2) := by decide +kernel
theorem dX10_append_34 : decode cX10_append 34 = .ok (.iload 4, 2) := by decide +kernel
theorem dX10_append_36 : decode cX10_append 36 = .ok (.imul, 1) := by decide +kernel
theorem dX10_append_37 : decode cX10_append 37 = .ok (.lushr, 1) := by decide +kernel
theorem dX10_append_38 : decode cX10_append 38 = .ok (.l2i, 1) := by decide +kernel
theorem dX10_append_39 : decode cX10_append 39 = .ok (.i2b, 1) := by decide +kernel
theorem dX10_append_40 : decode cX10_append 40 = .ok (.bastore, 1) := by decide +kernel
theorem dX10_append_41 : decode cX10_append 41 = .ok (.aload_n 0, 1) := by decide +kernel
theorem dX10_append_42 : decode cX10_append 42 = .ok (.dup, 1) := by decide +kernel
theorem dX10_append_43 : decode cX10_append 43 = .ok (.getfield 15, 3) := by decide +kernel
theorem dX10_append_46 : decode cX10_append 46 = .ok (.iconst 1, 1) := by decide +kernel
theorem dX10_append_47 : decode cX10_append 47 = .ok (.iadd, 1) := by decide +kernel
theorem dX10_append_48 : decode cX10_append 48 = .ok (.putfield 15, 3) := by decide +kernel
theorem dX10_append_51 : decode cX10_append 51 = .ok (.iinc 4 (-1), 3) := by decide +kernel
theorem dX10_append_54 : decode cX10_append 54 = .ok (.goto (-36), 3) := by decide +kernel
theorem dX10_append_57 : decode cX10_append 57 = .ok (.iconst 1, 1) := by decide +kernel
theorem dX10_append_58 : decode cX10_append 58 = .ok (.ireturn, 1) := by decide +kernel
theorem dX10_byteAt_0 : decode cX10_byteAt 0 = .ok (.iload_n 1, 1) := by decide +kernel
theorem dX10_byteAt_1 : decode cX10_byteAt 1 = .ok (.ifCond .lt 24, 3) := by decide +kernel
theorem dX10_byteAt_4 : decode cX10_byteAt 4 = .ok (.iload_n 1, 1) := by decide +kernel
theorem dX10_byteAt_5 : decode cX10_byteAt 5 = .ok (.aload_n 0, 1) := by decide +kernel
theorem dX10_byteAt_6 : decode cX10_byteAt 6 = .ok (.getfield 15, 3) := by decide +kernel
theorem dX10_byteAt_9 : decode cX10_byteAt 9 = .ok (.if_icmp .ge 16, 3) := by decide +kernel
theorem dX10_byteAt_12 : decode cX10_byteAt 12 = .ok (.aload_n 0, 1) := by decide +kernel
theorem dX10_byteAt_13 : decode cX10_byteAt 13 = .ok (.getfield 11, 3) := by decide +kernel
theorem dX10_byteAt_16 : decode cX10_byteAt 16 = .ok (.iload_n 1, 1) := by decide +kernel
theorem dX10_byteAt_17 : decode cX10_byteAt 17 = .ok (.baload, 1) := by decide +kernel
theorem dX10_byteAt_18 : decode cX10_byteAt 18 = .ok (.sipush 255, 3) := by decide +kernel
theorem dX10_byteAt_21 : decode cX10_byteAt 21 = .ok (.iand, 1) := by decide +kernel
theorem dX10_byteAt_22 : decode cX10_byteAt 22 = .ok (.goto 4, 3) := by decide +kernel
theorem dX10_byteAt_25 : decode cX10_byteAt 25 = .ok (.iconst (-1), 1) := by decide +kernel
theorem dX10_byteAt_26 : decode cX10_byteAt 26 = .ok (.ireturn, 1) := by decide +kernel
theorem dX10_firstFault_0 : decode cX10_firstFault 0 = .ok (.iconst 0, 1) := by decide +kernel
theorem dX10_firstFault_1 : decode cX10_firstFault 1 = .ok (.istore_n 1, 1) := by decide +kernel
theorem dX10_firstFault_2 : decode cX10_firstFault 2 = .ok (.iconst 0, 1) := by decide +kernel
theorem dX10_firstFault_3 : decode cX10_firstFault 3 = .ok (.istore_n 2, 1) := by decide +kernel
theorem dX10_firstFault_4 : decode cX10_firstFault 4 = .ok (.iload_n 2, 1) := by decide +kernel
theorem dX10_firstFault_5 : decode cX10_firstFault 5 = .ok (.bipush 120, 2) := by decide +kernel
theorem dX10_firstFault_7 : decode cX10_firstFault 7 = .ok (.if_icmp .ge 32, 3) := by decide +kernel
theorem dX10_firstFault_10 : decode cX10_firstFault 10 = .ok (.iload_n 1, 1) := by decide +kernel
theorem dX10_firstFault_11 : decode cX10_firstFault 11 = .ok (.aload_n 0, 1) := by decide +kernel
theorem dX10_firstFault_12 : decode cX10_firstFault 12 = .ok (.getfield 15, 3) := by decide +kernel
theorem dX10_firstFault_15 : decode cX10_firstFault 15 = .ok (.if_icmp .ge 24, 3) := by decide +kernel
theorem dX10_firstFault_18 : decode cX10_firstFault 18 = .ok (.aload_n 0, 1) := by decide +kernel
theorem dX10_firstFault_19 : decode cX10_firstFault 19 = .ok (.iload_n 1, 1) := by decide +kernel
theorem dX10_firstFault_20 : decode cX10_firstFault 20 = .ok (.invokevirtual 19, 3) := by decide +kernel
theorem dX10_firstFault_23 : decode cX10_firstFault 23 = .ok (.istore_n 3, 1) := by decide +kernel
theorem dX10_firstFault_24 : decode cX10_firstFault 24 = .ok (.iload_n 3, 1) := by decide +kernel
theorem dX10_firstFault_25 : decode cX10_firstFault 25 = .ok (.iconst (-1), 1) := by decide +kernel
theorem dX10_firstFault_26 : decode cX10_firstFault 26 = .ok (.if_icmp .ne 5, 3) := by decide +kernel
theorem dX10_firstFault_29 : decode cX10_firstFault 29 = .ok (.iload_n 1, 1) := by decide +kernel
theorem dX10_firstFault_30 : decode cX10_firstFault 30 = .ok (.ireturn, 1) := by decide +kernel
theorem dX10_firstFault_31 : decode cX10_firstFault 31 = .ok (.iload_n 3, 1) := by decide +kernel
theorem dX10_firstFault_32 : decode cX10_firstFault 32 = .ok (.istore_n 1, 1) := by decide +kernel
theorem dX10_firstFault_33 : decode cX10_firstFault 33 = .ok (.iinc 2 1, 3) := by decide +kernel
theorem dX10_firstFault_36 : decode cX10_firstFault 36 = .ok (.goto (-32), 3) := by decide +kernel
theorem dX10_firstFault_39 : decode cX10_firstFault 39 = .ok (.bipush (-4), 2) := by decide +kernel
theorem dX10_firstFault_41 : decode cX10_firstFault 41 = .ok (.ireturn, 1) := by decide +kernel
theorem dX10_itemEnd_0 : decode cX10_itemEnd 0 = .ok (.aload_n 0, 1) := by decide +kernel
theorem dX10_itemEnd_1 : decode cX10_itemEnd 1 = .ok (.iload_n 1, 1) := by decide +kernel
theorem dX10_itemEnd_2 : decode cX10_itemEnd 2 = .ok (.invokevirtual 23, 3) := by decide +kernel
theorem dX10_itemEnd_5 : decode cX10_itemEnd 5 = .ok (.invokestatic 26, 3) := by decide +kernel
theorem dX10_itemEnd_8 : decode cX10_itemEnd 8 = .ok (.istore_n 2, 1) := by decide +kernel
theorem dX10_itemEnd_9 : decode cX10_itemEnd 9 = .ok (.iload_n 2, 1) := by decide +kernel
theorem dX10_itemEnd_10 : decode cX10_itemEnd 10 = .ok (.ifCond .ne 5, 3) := by decide +kernel
theorem dX10_itemEnd_13 : decode cX10_itemEnd 13 = .ok (.iconst (-1), 1) := by decide +kernel
theorem dX10_itemEnd_14 : decode cX10_itemEnd 14 = .ok (.ireturn, 1) := by decide +kernel
theorem dX10_itemEnd_15 : decode cX10_itemEnd 15 = .ok (.iload_n 1, 1) := by decide +kernel
theorem dX10_itemEnd_16 : decode cX10_itemEnd 16 = .ok (.iconst 1, 1) := by decide +kernel
theorem dX10_itemEnd_17 : decode cX10_itemEnd 17 = .ok (.iadd, 1) := by decide +kernel
theorem dX10_itemEnd_18 : decode cX10_itemEnd 18 = .ok (.istore_n 3, 1) := by decide +kernel
theorem dX10_itemEnd_19 : decode cX10_itemEnd 19 = .ok (.iconst 1, 1) := by decide +kernel
theorem dX10_itemEnd_20 : decode cX10_itemEnd 20 = .ok (.istore 4, 2) := by decide +kernel
theorem dX10_itemEnd_22 : decode cX10_itemEnd 22 = .ok (.iload 4, 2) := by decide +kernel
theorem dX10_itemEnd_24 : decode cX10_itemEnd 24 = .ok (.iload_n 2, 1) := by decide +kernel
theorem dX10_itemEnd_25 : decode cX10_itemEnd 25 = .ok (.if_icmp .gt 45, 3) := by decide +kernel
theorem dX10_itemEnd_28 : decode cX10_itemEnd 28 = .ok (.aload_n 0, 1) := by decide +kernel
theorem dX10_itemEnd_29 : decode cX10_itemEnd 29 = .ok (.iload_n 3, 1) := by decide +kernel
theorem dX10_itemEnd_30 : decode cX10_itemEnd 30 = .ok (.invokevirtual 29, 3) := by decide +kernel
theorem dX10_itemEnd_33 : decode cX10_itemEnd 33 = .ok (.istore 5, 2) := by decide +kernel
theorem dX10_itemEnd_35 : decode cX10_itemEnd 35 = .ok (.aload_n 0, 1) := by decide +kernel
theorem dX10_itemEnd_36 : decode cX10_itemEnd 36 = .ok (.iload 5, 2) := by decide +kernel
theorem dX10_itemEnd_38 : decode cX10_itemEnd 38 = .ok (.invokevirtual 23, 3) := by decide +kernel
theorem dX10_itemEnd_41 : decode cX10_itemEnd 41 = .ok (.iload 4, 2) := by decide +kernel
theorem dX10_itemEnd_43 : decode cX10_itemEnd 43 = .ok (.iload_n 2, 1) := by decide +kernel
theorem dX10_itemEnd_44 : decode cX10_itemEnd 44 = .ok (.if_icmp .ge 8, 3) := by decide +kernel
theorem dX10_itemEnd_47 : decode cX10_itemEnd 47 = .ok (.bipush 44, 2) := by decide +kernel
theorem dX10_itemEnd_49 : decode cX10_itemEnd 49 = .ok (.goto 5, 3) := by decide +kernel
theorem dX10_itemEnd_52 : decode cX10_itemEnd 52 = .ok (.bipush 59, 2) := by decide +kernel
theorem dX10_itemEnd_54 : decode cX10_itemEnd 54 = .ok (.if_icmp .eq 5, 3) := by decide +kernel
theorem dX10_itemEnd_57 : decode cX10_itemEnd 57 = .ok (.iconst (-1), 1) := by decide +kernel
theorem dX10_itemEnd_58 : decode cX10_itemEnd 58 = .ok (.ireturn, 1) := by decide +kernel
theorem dX10_itemEnd_59 : decode cX10_itemEnd 59 = .ok (.iload 5, 2) := by decide +kernel
theorem dX10_itemEnd_61 : decode cX10_itemEnd 61 = .ok (.iconst 1, 1) := by decide +kernel
theorem dX10_itemEnd_62 : decode cX10_itemEnd 62 = .ok (.iadd, 1) := by decide +kernel
theorem dX10_itemEnd_63 : decode cX10_itemEnd 63 = .ok (.istore_n 3, 1) := by decide +kernel
theorem dX10_itemEnd_64 : decode cX10_itemEnd 64 = .ok (.iinc 4 1, 3) := by decide +kernel
theorem dX10_itemEnd_67 : decode cX10_itemEnd 67 = .ok (.goto (-45), 3) := by decide +kernel
theorem dX10_itemEnd_70 : decode cX10_itemEnd 70 = .ok (.iload_n 3, 1) := by decide +kernel
theorem dX10_itemEnd_71 : decode cX10_itemEnd 71 = .ok (.ireturn, 1) := by decide +kernel
theorem dX10_numbersBehind_0 : decode cX10_numbersBehind 0 = .ok (.iload_n 0, 1) := by decide +kernel
theorem dX10_numbersBehind_1 : decode cX10_numbersBehind 1 = .ok (.bipush 97, 2) := by decide +kernel
theorem dX10_numbersBehind_3 : decode cX10_numbersBehind 3 = .ok (.if_icmp .eq 9, 3) := by decide +kernel
theorem dX10_numbersBehind_6 : decode cX10_numbersBehind 6 = .ok (.iload_n 0, 1) := by decide +kernel
theorem dX10_numbersBehind_7 : decode cX10_numbersBehind 7 = .ok (.bipush 98, 2) := by decide +kernel
theorem dX10_numbersBehind_9 : decode cX10_numbersBehind 9 = .ok (.if_icmp .ne 5, 3) := by decide +kernel
theorem dX10_numbersBehind_12 : decode cX10_numbersBehind 12 = .ok (.iconst 3, 1) := by decide +kernel
theorem dX10_numbersBehind_13 : decode cX10_numbersBehind 13 = .ok (.ireturn, 1) := by decide +kernel
theorem dX10_numbersBehind_14 : decode cX10_numbersBehind 14 = .ok (.iload_n 0, 1) := by decide +kernel
theorem dX10_numbersBehind_15 : decode cX10_numbersBehind 15 = .ok (.bipush 115, 2) := by decide +kernel
theorem dX10_numbersBehind_17 : decode cX10_numbersBehind 17 = .ok (.if_icmp .ne 7, 3) := by decide +kernel
theorem dX10_numbersBehind_20 : decode cX10_numbersBehind 20 = .ok (.iconst 1, 1) := by decide +kernel
theorem dX10_numbersBehind_21 : decode cX10_numbersBehind 21 = .ok (.goto 4, 3) := by decide +kernel
theorem dX10_numbersBehind_24 : decode cX10_numbersBehind 24 = .ok (.iconst 0, 1) := by decide +kernel
theorem dX10_numbersBehind_25 : decode cX10_numbersBehind 25 = .ok (.ireturn, 1) := by decide +kernel
theorem dX10_numberEnd_0 : decode cX10_numberEnd 0 = .ok (.aload_n 0, 1) := by decide +kernel
theorem dX10_numberEnd_1 : decode cX10_numberEnd 1 = .ok (.iload_n 1, 1) := by decide +kernel
theorem dX10_numberEnd_2 : decode cX10_numberEnd 2 = .ok (.invokevirtual 23, 3) := by decide +kernel
theorem dX10_numberEnd_5 : decode cX10_numberEnd 5 = .ok (.bipush 45, 2) := by decide +kernel
theorem dX10_numberEnd_7 : decode cX10_numberEnd 7 = .ok (.if_icmp .ne 7, 3) := by decide +kernel
theorem dX10_numberEnd_10 : decode cX10_numberEnd 10 = .ok (.iconst 1, 1) := by decide +kernel
theorem dX10_numberEnd_11 : decode cX10_numberEnd 11 = .ok (.goto 4, 3) := by decide +kernel
theorem dX10_numberEnd_14 : decode cX10_numberEnd 14 = .ok (.iconst 0, 1) := by decide +kernel
theorem dX10_numberEnd_15 : decode cX10_numberEnd 15 = .ok (.istore_n 2, 1) := by decide +kernel
theorem dX10_numberEnd_16 : decode cX10_numberEnd 16 = .ok (.iload_n 2, 1) := by decide +kernel
theorem dX10_numberEnd_17 : decode cX10_numberEnd 17 = .ok (.ifCond .eq 9, 3) := by decide +kernel
theorem dX10_numberEnd_20 : decode cX10_numberEnd 20 = .ok (.iload_n 1, 1) := by decide +kernel
theorem dX10_numberEnd_21 : decode cX10_numberEnd 21 = .ok (.iconst 1, 1) := by decide +kernel
theorem dX10_numberEnd_22 : decode cX10_numberEnd 22 = .ok (.iadd, 1) := by decide +kernel
theorem dX10_numberEnd_23 : decode cX10_numberEnd 23 = .ok (.goto 4, 3) := by decide +kernel
theorem dX10_numberEnd_26 : decode cX10_numberEnd 26 = .ok (.iload_n 1, 1) := by decide +kernel
theorem dX10_numberEnd_27 : decode cX10_numberEnd 27 = .ok (.istore_n 3, 1) := by decide +kernel
theorem dX10_numberEnd_28 : decode cX10_numberEnd 28 = .ok (.aload_n 0, 1) := by decide +kernel
theorem dX10_numberEnd_29 : decode cX10_numberEnd 29 = .ok (.iload_n 3, 1) := by decide +kernel
theorem dX10_numberEnd_30 : decode cX10_numberEnd 30 = .ok (.invokevirtual 23, 3) := by decide +kernel
theorem dX10_numberEnd_33 : decode cX10_numberEnd 33 = .ok (.istore 4, 2) := by decide +kernel
theorem dX10_numberEnd_35 : decode cX10_numberEnd 35 = .ok (.iload 4, 2) := by decide +kernel
theorem dX10_numberEnd_37 : decode cX10_numberEnd 37 = .ok (.iload_n 2, 1) := by decide +kernel
theorem dX10_numberEnd_38 : decode cX10_numberEnd 38 = .ok (.ifCond .eq 8, 3) := by decide +kernel
theorem dX10_numberEnd_41 : decode cX10_numberEnd 41 = .ok (.bipush 49, 2) := by decide +kernel
theorem dX10_numberEnd_43 : decode cX10_numberEnd 43 = .ok (.goto 5, 3) := by decide +kernel
theorem dX10_numberEnd_46 : decode cX10_numberEnd 46 = .ok (.bipush 48, 2) := by decide +kernel
theorem dX10_numberEnd_48 : decode cX10_numberEnd 48 = .ok (.if_icmp .lt 16, 3) := by decide +kernel
theorem dX10_numberEnd_51 : decode cX10_numberEnd 51 = .ok (.iload 4, 2) := by decide +kernel
theorem dX10_numberEnd_53 : decode cX10_numberEnd 53 = .ok (.bipush 57, 2) := by decide +kernel
theorem dX10_numberEnd_55 : decode cX10_numberEnd 55 = .ok (.if_icmp .gt 9, 3) := by decide +kernel
theorem dX10_numberEnd_58 : decode cX10_numberEnd 58 = .ok (.iload_n 3, 1) := by decide +kernel
theorem dX10_numberEnd_59 : decode cX10_numberEnd 59 = .ok (.iconst 1, 1) := by decide +kernel
theorem dX10_numberEnd_60 : decode cX10_numberEnd 60 = .ok (.iadd, 1) := by decide +kernel
theorem dX10_numberEnd_61 : decode cX10_numberEnd 61 = .ok (.goto 4, 3) := by decide +kernel
theorem dX10_numberEnd_64 : decode cX10_numberEnd 64 = .ok (.iconst (-1), 1) := by decide +kernel
