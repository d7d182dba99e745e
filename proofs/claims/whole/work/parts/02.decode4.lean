theorem dX12_isOrder_22 : decode cX12_isOrder 22 = .ok (.getfield 36, 3) := by decide +kernel
theorem dX12_isOrder_25 : decode cX12_isOrder 25 = .ok (.iload_n 3, 1) := by decide +kernel
theorem dX12_isOrder_26 : decode cX12_isOrder 26 = .ok (.iaload, 1) := by decide +kernel
theorem dX12_isOrder_27 : decode cX12_isOrder 27 = .ok (.ishl, 1) := by decide +kernel
theorem dX12_isOrder_28 : decode cX12_isOrder 28 = .ok (.goto 4, 3) := by decide +kernel
theorem dX12_isOrder_31 : decode cX12_isOrder 31 = .ok (.iconst 0, 1) := by decide +kernel
theorem dX12_isOrder_32 : decode cX12_isOrder 32 = .ok (.ior, 1) := by decide +kernel
theorem dX12_isOrder_33 : decode cX12_isOrder 33 = .ok (.istore_n 2, 1) := by decide +kernel
theorem dX12_isOrder_34 : decode cX12_isOrder 34 = .ok (.iinc 3 1, 3) := by decide +kernel
theorem dX12_isOrder_37 : decode cX12_isOrder 37 = .ok (.goto (-33), 3) := by decide +kernel
theorem dX12_isOrder_40 : decode cX12_isOrder 40 = .ok (.iload_n 2, 1) := by decide +kernel
theorem dX12_isOrder_41 : decode cX12_isOrder 41 = .ok (.iconst 1, 1) := by decide +kernel
theorem dX12_isOrder_42 : decode cX12_isOrder 42 = .ok (.iload_n 1, 1) := by decide +kernel
theorem dX12_isOrder_43 : decode cX12_isOrder 43 = .ok (.ishl, 1) := by decide +kernel
theorem dX12_isOrder_44 : decode cX12_isOrder 44 = .ok (.iconst 1, 1) := by decide +kernel
theorem dX12_isOrder_45 : decode cX12_isOrder 45 = .ok (.isub, 1) := by decide +kernel
theorem dX12_isOrder_46 : decode cX12_isOrder 46 = .ok (.if_icmp .ne 7, 3) := by decide +kernel
theorem dX12_isOrder_49 : decode cX12_isOrder 49 = .ok (.iconst 1, 1) := by decide +kernel
theorem dX12_isOrder_50 : decode cX12_isOrder 50 = .ok (.goto 4, 3) := by decide +kernel
theorem dX12_isOrder_53 : decode cX12_isOrder 53 = .ok (.iconst 0, 1) := by decide +kernel
theorem dX12_isOrder_54 : decode cX12_isOrder 54 = .ok (.ireturn, 1) := by decide +kernel
theorem dX12_takeOrder_0 : decode cX12_takeOrder 0 = .ok (.iload_n 1, 1) := by decide +kernel
theorem dX12_takeOrder_1 : decode cX12_takeOrder 1 = .ok (.invokestatic 158, 3) := by decide +kernel
theorem dX12_takeOrder_4 : decode cX12_takeOrder 4 = .ok (.ifCond .eq 24, 3) := by decide +kernel
theorem dX12_takeOrder_7 : decode cX12_takeOrder 7 = .ok (.aload_n 0, 1) := by decide +kernel
theorem dX12_takeOrder_8 : decode cX12_takeOrder 8 = .ok (.iload_n 1, 1) := by decide +kernel
theorem dX12_takeOrder_9 : decode cX12_takeOrder 9 = .ok (.iload_n 2, 1) := by decide +kernel
theorem dX12_takeOrder_10 : decode cX12_takeOrder 10 = .ok (.invokevirtual 167, 3) := by decide +kernel
theorem dX12_takeOrder_13 : decode cX12_takeOrder 13 = .ok (.ifCond .eq 15, 3) := by decide +kernel
theorem dX12_takeOrder_16 : decode cX12_takeOrder 16 = .ok (.aload_n 0, 1) := by decide +kernel
theorem dX12_takeOrder_17 : decode cX12_takeOrder 17 = .ok (.iload_n 1, 1) := by decide +kernel
theorem dX12_takeOrder_18 : decode cX12_takeOrder 18 = .ok (.invokevirtual 170, 3) := by decide +kernel
theorem dX12_takeOrder_21 : decode cX12_takeOrder 21 = .ok (.ifCond .eq 7, 3) := by decide +kernel
theorem dX12_takeOrder_24 : decode cX12_takeOrder 24 = .ok (.iconst 1, 1) := by decide +kernel
theorem dX12_takeOrder_25 : decode cX12_takeOrder 25 = .ok (.goto 4, 3) := by decide +kernel
theorem dX12_takeOrder_28 : decode cX12_takeOrder 28 = .ok (.iconst 0, 1) := by decide +kernel
theorem dX12_takeOrder_29 : decode cX12_takeOrder 29 = .ok (.ireturn, 1) := by decide +kernel
theorem dX12_beginOrder_0 : decode cX12_beginOrder 0 = .ok (.iconst 0, 1) := by decide +kernel
theorem dX12_beginOrder_1 : decode cX12_beginOrder 1 = .ok (.istore_n 2, 1) := by decide +kernel
theorem dX12_beginOrder_2 : decode cX12_beginOrder 2 = .ok (.iload_n 2, 1) := by decide +kernel
theorem dX12_beginOrder_3 : decode cX12_beginOrder 3 = .ok (.iload_n 1, 1) := by decide +kernel
theorem dX12_beginOrder_4 : decode cX12_beginOrder 4 = .ok (.if_icmp .ge 16, 3) := by decide +kernel
theorem dX12_beginOrder_7 : decode cX12_beginOrder 7 = .ok (.aload_n 0, 1) := by decide +kernel
theorem dX12_beginOrder_8 : decode cX12_beginOrder 8 = .ok (.getfield 36, 3) := by decide +kernel
theorem dX12_beginOrder_11 : decode cX12_beginOrder 11 = .ok (.iload_n 2, 1) := by decide +kernel
theorem dX12_beginOrder_12 : decode cX12_beginOrder 12 = .ok (.iload_n 2, 1) := by decide +kernel
theorem dX12_beginOrder_13 : decode cX12_beginOrder 13 = .ok (.iastore, 1) := by decide +kernel
theorem dX12_beginOrder_14 : decode cX12_beginOrder 14 = .ok (.iinc 2 1, 3) := by decide +kernel
theorem dX12_beginOrder_17 : decode cX12_beginOrder 17 = .ok (.goto (-15), 3) := by decide +kernel
theorem dX12_beginOrder_20 : decode cX12_beginOrder 20 = .ok (.return_, 1) := by decide +kernel
theorem dX12_turnOrder_0 : decode cX12_turnOrder 0 = .ok (.iload_n 1, 1) := by decide +kernel
theorem dX12_turnOrder_1 : decode cX12_turnOrder 1 = .ok (.iconst 2, 1) := by decide +kernel
theorem dX12_turnOrder_2 : decode cX12_turnOrder 2 = .ok (.isub, 1) := by decide +kernel
theorem dX12_turnOrder_3 : decode cX12_turnOrder 3 = .ok (.istore_n 2, 1) := by decide +kernel
theorem dX12_turnOrder_4 : decode cX12_turnOrder 4 = .ok (.iload_n 2, 1) := by decide +kernel
theorem dX12_turnOrder_5 : decode cX12_turnOrder 5 = .ok (.ifCond .lt 26, 3) := by decide +kernel
theorem dX12_turnOrder_8 : decode cX12_turnOrder 8 = .ok (.aload_n 0, 1) := by decide +kernel
theorem dX12_turnOrder_9 : decode cX12_turnOrder 9 = .ok (.getfield 36, 3) := by decide +kernel
theorem dX12_turnOrder_12 : decode cX12_turnOrder 12 = .ok (.iload_n 2, 1) := by decide +kernel
theorem dX12_turnOrder_13 : decode cX12_turnOrder 13 = .ok (.iaload, 1) := by decide +kernel
theorem dX12_turnOrder_14 : decode cX12_turnOrder 14 = .ok (.aload_n 0, 1) := by decide +kernel
theorem dX12_turnOrder_15 : decode cX12_turnOrder 15 = .ok (.getfield 36, 3) := by decide +kernel
theorem dX12_turnOrder_18 : decode cX12_turnOrder 18 = .ok (.iload_n 2, 1) := by decide +kernel
theorem dX12_turnOrder_19 : decode cX12_turnOrder 19 = .ok (.iconst 1, 1) := by decide +kernel
theorem dX12_turnOrder_20 : decode cX12_turnOrder 20 = .ok (.iadd, 1) := by decide +kernel
theorem dX12_turnOrder_21 : decode cX12_turnOrder 21 = .ok (.iaload, 1) := by decide +kernel
theorem dX12_turnOrder_22 : decode cX12_turnOrder 22 = .ok (.if_icmp .le 9, 3) := by decide +kernel
theorem dX12_turnOrder_25 : decode cX12_turnOrder 25 = .ok (.iinc 2 (-1), 3) := by decide +kernel
theorem dX12_turnOrder_28 : decode cX12_turnOrder 28 = .ok (.goto (-24), 3) := by decide +kernel
theorem dX12_turnOrder_31 : decode cX12_turnOrder 31 = .ok (.iload_n 2, 1) := by decide +kernel
theorem dX12_turnOrder_32 : decode cX12_turnOrder 32 = .ok (.ifCond .ge 5, 3) := by decide +kernel
theorem dX12_turnOrder_35 : decode cX12_turnOrder 35 = .ok (.iconst 0, 1) := by decide +kernel
theorem dX12_turnOrder_36 : decode cX12_turnOrder 36 = .ok (.ireturn, 1) := by decide +kernel
theorem dX12_turnOrder_37 : decode cX12_turnOrder 37 = .ok (.iload_n 1, 1) := by decide +kernel
theorem dX12_turnOrder_38 : decode cX12_turnOrder 38 = .ok (.iconst 1, 1) := by decide +kernel
theorem dX12_turnOrder_39 : decode cX12_turnOrder 39 = .ok (.isub, 1) := by decide +kernel
theorem dX12_turnOrder_40 : decode cX12_turnOrder 40 = .ok (.istore_n 3, 1) := by decide +kernel
theorem dX12_turnOrder_41 : decode cX12_turnOrder 41 = .ok (.aload_n 0, 1) := by decide +kernel
theorem dX12_turnOrder_42 : decode cX12_turnOrder 42 = .ok (.getfield 36, 3) := by decide +kernel
theorem dX12_turnOrder_45 : decode cX12_turnOrder 45 = .ok (.iload_n 3, 1) := by decide +kernel
theorem dX12_turnOrder_46 : decode cX12_turnOrder 46 = .ok (.iaload, 1) := by decide +kernel
theorem dX12_turnOrder_47 : decode cX12_turnOrder 47 = .ok (.aload_n 0, 1) := by decide +kernel
theorem dX12_turnOrder_48 : decode cX12_turnOrder 48 = .ok (.getfield 36, 3) := by decide +kernel
theorem dX12_turnOrder_51 : decode cX12_turnOrder 51 = .ok (.iload_n 2, 1) := by decide +kernel
theorem dX12_turnOrder_52 : decode cX12_turnOrder 52 = .ok (.iaload, 1) := by decide +kernel
theorem dX12_turnOrder_53 : decode cX12_turnOrder 53 = .ok (.if_icmp .ge 9, 3) := by decide +kernel
theorem dX12_turnOrder_56 : decode cX12_turnOrder 56 = .ok (.iinc 3 (-1), 3) := by decide +kernel
theorem dX12_turnOrder_59 : decode cX12_turnOrder 59 = .ok (.goto (-18), 3) := by decide +kernel
theorem dX12_turnOrder_62 : decode cX12_turnOrder 62 = .ok (.aload_n 0, 1) := by decide +kernel
theorem dX12_turnOrder_63 : decode cX12_turnOrder 63 = .ok (.getfield 36, 3) := by decide +kernel
theorem dX12_turnOrder_66 : decode cX12_turnOrder 66 = .ok (.iload_n 2, 1) := by decide +kernel
theorem dX12_turnOrder_67 : decode cX12_turnOrder 67 = .ok (.iaload, 1) := by decide +kernel
theorem dX12_turnOrder_68 : decode cX12_turnOrder 68 = .ok (.istore 4, 2) := by decide +kernel
theorem dX12_turnOrder_70 : decode cX12_turnOrder 70 = .ok (.aload_n 0, 1) := by decide +kernel
theorem dX12_turnOrder_71 : decode cX12_turnOrder 71 = .ok (.getfield 36, 3) := by decide +kernel
theorem dX12_turnOrder_74 : decode cX12_turnOrder 74 = .ok (.iload_n 2, 1) := by decide +kernel
theorem dX12_turnOrder_75 : decode cX12_turnOrder 75 = .ok (.aload_n 0, 1) := by decide +kernel
theorem dX12_turnOrder_76 : decode cX12_turnOrder 76 = .ok (.getfield 36, 3) := by decide +kernel
theorem dX12_turnOrder_79 : decode cX12_turnOrder 79 = .ok (.iload_n 3, 1) := by decide +kernel
theorem dX12_turnOrder_80 : decode cX12_turnOrder 80 = .ok (.iaload, 1) := by decide +kernel
theorem dX12_turnOrder_81 : decode cX12_turnOrder 81 = .ok (.iastore, 1) := by decide +kernel
theorem dX12_turnOrder_82 : decode cX12_turnOrder 82 = .ok (.aload_n 0, 1) := by decide +kernel
theorem dX12_turnOrder_83 : decode cX12_turnOrder 83 = .ok (.getfield 36, 3) := by decide +kernel
theorem dX12_turnOrder_86 : decode cX12_turnOrder 86 = .ok (.iload_n 3, 1) := by decide +kernel
theorem dX12_turnOrder_87 : decode cX12_turnOrder 87 = .ok (.iload 4, 2) := by decide +kernel
theorem dX12_turnOrder_89 : decode cX12_turnOrder 89 = .ok (.iastore, 1) := by decide +kernel
theorem dX12_turnOrder_90 : decode cX12_turnOrder 90 = .ok (.iload_n 2, 1) := by decide +kernel
theorem dX12_turnOrder_91 : decode cX12_turnOrder 91 = .ok (.iconst 1, 1) := by decide +kernel
theorem dX12_turnOrder_92 : decode cX12_turnOrder 92 = .ok (.iadd, 1) := by decide +kernel
theorem dX12_turnOrder_93 : decode cX12_turnOrder 93 = .ok (.istore 5, 2) := by decide +kernel
theorem dX12_turnOrder_95 : decode cX12_turnOrder 95 = .ok (.iload_n 1, 1) := by decide +kernel
theorem dX12_turnOrder_96 : decode cX12_turnOrder 96 = .ok (.iconst 1, 1) := by decide +kernel
theorem dX12_turnOrder_97 : decode cX12_turnOrder 97 = .ok (.isub, 1) := by decide +kernel
theorem dX12_turnOrder_98 : decode cX12_turnOrder 98 = .ok (.istore 6, 2) := by decide +kernel
theorem dX12_turnOrder_100 : decode cX12_turnOrder 100 = .ok (.iload 5, 2) := by decide +kernel
theorem dX12_turnOrder_102 : decode cX12_turnOrder 102 = .ok (.iload 6, 2) := by decide +kernel
theorem dX12_turnOrder_104 : decode cX12_turnOrder 104 = .ok (.if_icmp .ge 44, 3) := by decide +kernel
theorem dX12_turnOrder_107 : decode cX12_turnOrder 107 = .ok (.aload_n 0, 1) := by decide +kernel
theorem dX12_turnOrder_108 : decode cX12_turnOrder 108 = .ok (.getfield 36, 3) := by decide +kernel
theorem dX12_turnOrder_111 : decode cX12_turnOrder 111 = .ok (.iload 5, 2) := by decide +kernel
theorem dX12_turnOrder_113 : decode cX12_turnOrder 113 = .ok (.iaload, 1) := by decide +kernel
theorem dX12_turnOrder_114 : decode cX12_turnOrder 114 = .ok (.istore 4, 2) := by decide +kernel
theorem dX12_turnOrder_116 : decode cX12_turnOrder 116 = .ok (.aload_n 0, 1) := by decide +kernel
theorem dX12_turnOrder_117 : decode cX12_turnOrder 117 = .ok (.getfield 36, 3) := by decide +kernel
theorem dX12_turnOrder_120 : decode cX12_turnOrder 120 = .ok (.iload 5, 2) := by decide +kernel
theorem dX12_turnOrder_122 : decode cX12_turnOrder 122 = .ok (.aload_n 0, 1) := by decide +kernel
theorem dX12_turnOrder_123 : decode cX12_turnOrder 123 = .ok (.getfield 36, 3) := by decide +kernel
theorem dX12_turnOrder_126 : decode cX12_turnOrder 126 = .ok (.iload 6, 2) := by decide +kernel
theorem dX12_turnOrder_128 : decode cX12_turnOrder 128 = .ok (.iaload, 1) := by decide +kernel
theorem dX12_turnOrder_129 : decode cX12_turnOrder 129 = .ok (.iastore, 1) := by decide +kernel
theorem dX12_turnOrder_130 : decode cX12_turnOrder 130 = .ok (.aload_n 0, 1) := by decide +kernel
theorem dX12_turnOrder_131 : decode cX12_turnOrder 131 = .ok (.getfield 36, 3) := by decide +kernel
theorem dX12_turnOrder_134 : decode cX12_turnOrder 134 = .ok (.iload 6, 2) := by decide +kernel
theorem dX12_turnOrder_136 : decode cX12_turnOrder 136 = .ok (.iload 4, 2) := by decide +kernel
theorem dX12_turnOrder_138 : decode cX12_turnOrder 138 = .ok (.iastore, 1) := by decide +kernel
theorem dX12_turnOrder_139 : decode cX12_turnOrder 139 = .ok (.iinc 5 1, 3) := by decide +kernel
theorem dX12_turnOrder_142 : decode cX12_turnOrder 142 = .ok (.iinc 6 (-1), 3) := by decide +kernel
theorem dX12_turnOrder_145 : decode cX12_turnOrder 145 = .ok (.goto (-45), 3) := by decide +kernel
theorem dX12_turnOrder_148 : decode cX12_turnOrder 148 = .ok (.iconst 1, 1) := by decide +kernel
theorem dX12_turnOrder_149 : decode cX12_turnOrder 149 = .ok (.ireturn, 1) := by decide +kernel
theorem dX12_rings_0 : decode cX12_rings 0 = .ok (.iconst 0, 1) := by decide +kernel
theorem dX12_rings_1 : decode cX12_rings 1 = .ok (.istore_n 2, 1) := by decide +kernel
theorem dX12_rings_2 : decode cX12_rings 2 = .ok (.iconst 0, 1) := by decide +kernel
theorem dX12_rings_3 : decode cX12_rings 3 = .ok (.istore_n 3, 1) := by decide +kernel
theorem dX12_rings_4 : decode cX12_rings 4 = .ok (.iconst 0, 1) := by decide +kernel
theorem dX12_rings_5 : decode cX12_rings 5 = .ok (.istore 4, 2) := by decide +kernel
theorem dX12_rings_7 : decode cX12_rings 7 = .ok (.iload 4, 2) := by decide +kernel
theorem dX12_rings_9 : decode cX12_rings 9 = .ok (.iload_n 1, 1) := by decide +kernel
theorem dX12_rings_10 : decode cX12_rings 10 = .ok (.if_icmp .ge 58, 3) := by decide +kernel
theorem dX12_rings_13 : decode cX12_rings 13 = .ok (.iload_n 3, 1) := by decide +kernel
theorem dX12_rings_14 : decode cX12_rings 14 = .ok (.iload_n 2, 1) := by decide +kernel
theorem dX12_rings_15 : decode cX12_rings 15 = .ok (.iload 4, 2) := by decide +kernel
theorem dX12_rings_17 : decode cX12_rings 17 = .ok (.ishr, 1) := by decide +kernel
theorem dX12_rings_18 : decode cX12_rings 18 = .ok (.iconst 1, 1) := by decide +kernel
theorem dX12_rings_19 : decode cX12_rings 19 = .ok (.iand, 1) := by decide +kernel
theorem dX12_rings_20 : decode cX12_rings 20 = .ok (.ifCond .ne 7, 3) := by decide +kernel
theorem dX12_rings_23 : decode cX12_rings 23 = .ok (.iconst 1, 1) := by decide +kernel
theorem dX12_rings_24 : decode cX12_rings 24 = .ok (.goto 4, 3) := by decide +kernel
theorem dX12_rings_27 : decode cX12_rings 27 = .ok (.iconst 0, 1) := by decide +kernel
theorem dX12_rings_28 : decode cX12_rings 28 = .ok (.iadd, 1) := by decide +kernel
theorem dX12_rings_29 : decode cX12_rings 29 = .ok (.istore_n 3, 1) := by decide +kernel
theorem dX12_rings_30 : decode cX12_rings 30 = .ok (.iload 4, 2) := by decide +kernel
theorem dX12_rings_32 : decode cX12_rings 32 = .ok (.istore 5, 2) := by decide +kernel
theorem dX12_rings_34 : decode cX12_rings 34 = .ok (.iload_n 2, 1) := by decide +kernel
theorem dX12_rings_35 : decode cX12_rings 35 = .ok (.iload 5, 2) := by decide +kernel
theorem dX12_rings_37 : decode cX12_rings 37 = .ok (.ishr, 1) := by decide +kernel
theorem dX12_rings_38 : decode cX12_rings 38 = .ok (.iconst 1, 1) := by decide +kernel
theorem dX12_rings_39 : decode cX12_rings 39 = .ok (.iand, 1) := by decide +kernel
theorem dX12_rings_40 : decode cX12_rings 40 = .ok (.ifCond .ne 22, 3) := by decide +kernel
theorem dX12_rings_43 : decode cX12_rings 43 = .ok (.iload_n 2, 1) := by decide +kernel
theorem dX12_rings_44 : decode cX12_rings 44 = .ok (.iconst 1, 1) := by decide +kernel
theorem dX12_rings_45 : decode cX12_rings 45 = .ok (.iload 5, 2) := by decide +kernel
theorem dX12_rings_47 : decode cX12_rings 47 = .ok (.ishl, 1) := by decide +kernel
theorem dX12_rings_48 : decode cX12_rings 48 = .ok (.ior, 1) := by decide +kernel
theorem dX12_rings_49 : decode cX12_rings 49 = .ok (.istore_n 2, 1) := by decide +kernel
theorem dX12_rings_50 : decode cX12_rings 50 = .ok (.aload_n 0, 1) := by decide +kernel
theorem dX12_rings_51 : decode cX12_rings 51 = .ok (.getfield 36, 3) := by decide +kernel
theorem dX12_rings_54 : decode cX12_rings 54 = .ok (.iload 5, 2) := by decide +kernel
theorem dX12_rings_56 : decode cX12_rings 56 = .ok (.iaload, 1) := by decide +kernel
theorem dX12_rings_57 : decode cX12_rings 57 = .ok (.istore 5, 2) := by decide +kernel
theorem dX12_rings_59 : decode cX12_rings 59 = .ok (.goto (-25), 3) := by decide +kernel
theorem dX12_rings_62 : decode cX12_rings 62 = .ok (.iinc 4 1, 3) := by decide +kernel
theorem dX12_rings_65 : decode cX12_rings 65 = .ok (.goto (-58), 3) := by decide +kernel
theorem dX12_rings_68 : decode cX12_rings 68 = .ok (.iload_n 3, 1) := by decide +kernel
theorem dX12_rings_69 : decode cX12_rings 69 = .ok (.ireturn, 1) := by decide +kernel
theorem dX12_markOf_0 : decode cX12_markOf 0 = .ok (.iload_n 2, 1) := by decide +kernel
theorem dX12_markOf_1 : decode cX12_markOf 1 = .ok (.ifCond .ne 9, 3) := by decide +kernel
theorem dX12_markOf_4 : decode cX12_markOf 4 = .ok (.aload_n 0, 1) := by decide +kernel
theorem dX12_markOf_5 : decode cX12_markOf 5 = .ok (.iload_n 1, 1) := by decide +kernel
theorem dX12_markOf_6 : decode cX12_markOf 6 = .ok (.invokevirtual 173, 3) := by decide +kernel
theorem dX12_markOf_9 : decode cX12_markOf 9 = .ok (.ireturn, 1) := by decide +kernel
theorem dX12_markOf_10 : decode cX12_markOf 10 = .ok (.iconst 0, 1) := by decide +kernel
theorem dX12_markOf_11 : decode cX12_markOf 11 = .ok (.istore_n 3, 1) := by decide +kernel
theorem dX12_markOf_12 : decode cX12_markOf 12 = .ok (.iconst 0, 1) := by decide +kernel
theorem dX12_markOf_13 : decode cX12_markOf 13 = .ok (.istore 4, 2) := by decide +kernel
theorem dX12_markOf_15 : decode cX12_markOf 15 = .ok (.iconst 0, 1) := by decide +kernel
theorem dX12_markOf_16 : decode cX12_markOf 16 = .ok (.istore 5, 2) := by decide +kernel
theorem dX12_markOf_18 : decode cX12_markOf 18 = .ok (.iload 5, 2) := by decide +kernel
theorem dX12_markOf_20 : decode cX12_markOf 20 = .ok (.iload_n 1, 1) := by decide +kernel
theorem dX12_markOf_21 : decode cX12_markOf 21 = .ok (.if_icmp .ge 230, 3) := by decide +kernel
theorem dX12_markOf_24 : decode cX12_markOf 24 = .ok (.iconst 0, 1) := by decide +kernel
theorem dX12_markOf_25 : decode cX12_markOf 25 = .ok (.istore 6, 2) := by decide +kernel
theorem dX12_markOf_27 : decode cX12_markOf 27 = .ok (.iconst 0, 1) := by decide +kernel
theorem dX12_markOf_28 : decode cX12_markOf 28 = .ok (.istore 7, 2) := by decide +kernel
theorem dX12_markOf_30 : decode cX12_markOf 30 = .ok (.iconst 1, 1) := by decide +kernel
theorem dX12_markOf_31 : decode cX12_markOf 31 = .ok (.istore 8, 2) := by decide +kernel
theorem dX12_markOf_33 : decode cX12_markOf 33 = .ok (.iconst 0, 1) := by decide +kernel
theorem dX12_markOf_34 : decode cX12_markOf 34 = .ok (.istore 9, 2) := by decide +kernel
theorem dX12_markOf_36 : decode cX12_markOf 36 = .ok (.iload 9, 2) := by decide +kernel
theorem dX12_markOf_38 : decode cX12_markOf 38 = .ok (.iload 5, 2) := by decide +kernel
theorem dX12_markOf_40 : decode cX12_markOf 40 = .ok (.if_icmp .ge 108, 3) := by decide +kernel
theorem dX12_markOf_43 : decode cX12_markOf 43 = .ok (.iload 6, 2) := by decide +kernel
theorem dX12_markOf_45 : decode cX12_markOf 45 = .ok (.aload_n 0, 1) := by decide +kernel
theorem dX12_markOf_46 : decode cX12_markOf 46 = .ok (.getfield 36, 3) := by decide +kernel
theorem dX12_markOf_49 : decode cX12_markOf 49 = .ok (.iload 9, 2) := by decide +kernel
theorem dX12_markOf_51 : decode cX12_markOf 51 = .ok (.iaload, 1) := by decide +kernel
theorem dX12_markOf_52 : decode cX12_markOf 52 = .ok (.aload_n 0, 1) := by decide +kernel
theorem dX12_markOf_53 : decode cX12_markOf 53 = .ok (.getfield 36, 3) := by decide +kernel
theorem dX12_markOf_56 : decode cX12_markOf 56 = .ok (.iload 5, 2) := by decide +kernel
theorem dX12_markOf_58 : decode cX12_markOf 58 = .ok (.iaload, 1) := by decide +kernel
theorem dX12_markOf_59 : decode cX12_markOf 59 = .ok (.if_icmp .le 7, 3) := by decide +kernel
theorem dX12_markOf_62 : decode cX12_markOf 62 = .ok (.iconst 1, 1) := by decide +kernel
theorem dX12_markOf_63 : decode cX12_markOf 63 = .ok (.goto 4, 3) := by decide +kernel
theorem dX12_markOf_66 : decode cX12_markOf 66 = .ok (.iconst 0, 1) := by decide +kernel
theorem dX12_markOf_67 : decode cX12_markOf 67 = .ok (.iadd, 1) := by decide +kernel
theorem dX12_markOf_68 : decode cX12_markOf 68 = .ok (.istore 6, 2) := by decide +kernel
theorem dX12_markOf_70 : decode cX12_markOf 70 = .ok (.iload 8, 2) := by decide +kernel
theorem dX12_markOf_72 : decode cX12_markOf 72 = .ok (.ifCond .eq 24, 3) := by decide +kernel
theorem dX12_markOf_75 : decode cX12_markOf 75 = .ok (.aload_n 0, 1) := by decide +kernel
theorem dX12_markOf_76 : decode cX12_markOf 76 = .ok (.getfield 36, 3) := by decide +kernel
theorem dX12_markOf_79 : decode cX12_markOf 79 = .ok (.iload 9, 2) := by decide +kernel
theorem dX12_markOf_81 : decode cX12_markOf 81 = .ok (.iaload, 1) := by decide +kernel
theorem dX12_markOf_82 : decode cX12_markOf 82 = .ok (.aload_n 0, 1) := by decide +kernel
theorem dX12_markOf_83 : decode cX12_markOf 83 = .ok (.getfield 36, 3) := by decide +kernel
theorem dX12_markOf_86 : decode cX12_markOf 86 = .ok (.iload 5, 2) := by decide +kernel
theorem dX12_markOf_88 : decode cX12_markOf 88 = .ok (.iaload, 1) := by decide +kernel
theorem dX12_markOf_89 : decode cX12_markOf 89 = .ok (.if_icmp .ge 7, 3) := by decide +kernel
theorem dX12_markOf_92 : decode cX12_markOf 92 = .ok (.iconst 1, 1) := by decide +kernel
theorem dX12_markOf_93 : decode cX12_markOf 93 = .ok (.goto 4, 3) := by decide +kernel
theorem dX12_markOf_96 : decode cX12_markOf 96 = .ok (.iconst 0, 1) := by decide +kernel
theorem dX12_markOf_97 : decode cX12_markOf 97 = .ok (.istore 8, 2) := by decide +kernel
theorem dX12_markOf_99 : decode cX12_markOf 99 = .ok (.aload_n 0, 1) := by decide +kernel
theorem dX12_markOf_100 : decode cX12_markOf 100 = .ok (.getfield 36, 3) := by decide +kernel
theorem dX12_markOf_103 : decode cX12_markOf 103 = .ok (.iload 9, 2) := by decide +kernel
theorem dX12_markOf_105 : decode cX12_markOf 105 = .ok (.iaload, 1) := by decide +kernel
theorem dX12_markOf_106 : decode cX12_markOf 106 = .ok (.aload_n 0, 1) := by decide +kernel
theorem dX12_markOf_107 : decode cX12_markOf 107 = .ok (.getfield 36, 3) := by decide +kernel
theorem dX12_markOf_110 : decode cX12_markOf 110 = .ok (.iload 5, 2) := by decide +kernel
theorem dX12_markOf_112 : decode cX12_markOf 112 = .ok (.iaload, 1) := by decide +kernel
theorem dX12_markOf_113 : decode cX12_markOf 113 = .ok (.if_icmp .ge 25, 3) := by decide +kernel
theorem dX12_markOf_116 : decode cX12_markOf 116 = .ok (.aload_n 0, 1) := by decide +kernel
theorem dX12_markOf_117 : decode cX12_markOf 117 = .ok (.getfield 39, 3) := by decide +kernel
theorem dX12_markOf_120 : decode cX12_markOf 120 = .ok (.iload 9, 2) := by decide +kernel
theorem dX12_markOf_122 : decode cX12_markOf 122 = .ok (.iaload, 1) := by decide +kernel
theorem dX12_markOf_123 : decode cX12_markOf 123 = .ok (.iload 7, 2) := by decide +kernel
theorem dX12_markOf_125 : decode cX12_markOf 125 = .ok (.if_icmp .le 13, 3) := by decide +kernel
theorem dX12_markOf_128 : decode cX12_markOf 128 = .ok (.aload_n 0, 1) := by decide +kernel
theorem dX12_markOf_129 : decode cX12_markOf 129 = .ok (.getfield 39, 3) := by decide +kernel
theorem dX12_markOf_132 : decode cX12_markOf 132 = .ok (.iload 9, 2) := by decide +kernel
theorem dX12_markOf_134 : decode cX12_markOf 134 = .ok (.iaload, 1) := by decide +kernel
theorem dX12_markOf_135 : decode cX12_markOf 135 = .ok (.goto 5, 3) := by decide +kernel
theorem dX12_markOf_138 : decode cX12_markOf 138 = .ok (.iload 7, 2) := by decide +kernel
theorem dX12_markOf_140 : decode cX12_markOf 140 = .ok (.istore 7, 2) := by decide +kernel
theorem dX12_markOf_142 : decode cX12_markOf 142 = .ok (.iinc 9 1, 3) := by decide +kernel
theorem dX12_markOf_145 : decode cX12_markOf 145 = .ok (.goto (-109), 3) := by decide +kernel
theorem dX12_markOf_148 : decode cX12_markOf 148 = .ok (.aload_n 0, 1) := by decide +kernel
theorem dX12_markOf_149 : decode cX12_markOf 149 = .ok (.getfield 39, 3) := by decide +kernel
theorem dX12_markOf_152 : decode cX12_markOf 152 = .ok (.iload 5, 2) := by decide +kernel
theorem dX12_markOf_154 : decode cX12_markOf 154 = .ok (.iload 7, 2) := by decide +kernel
theorem dX12_markOf_156 : decode cX12_markOf 156 = .ok (.iconst 1, 1) := by decide +kernel
theorem dX12_markOf_157 : decode cX12_markOf 157 = .ok (.iadd, 1) := by decide +kernel
theorem dX12_markOf_158 : decode cX12_markOf 158 = .ok (.iastore, 1) := by decide +kernel
theorem dX12_markOf_159 : decode cX12_markOf 159 = .ok (.aload_n 0, 1) := by decide +kernel
theorem dX12_markOf_160 : decode cX12_markOf 160 = .ok (.getfield 39, 3) := by decide +kernel
theorem dX12_markOf_163 : decode cX12_markOf 163 = .ok (.iload 5, 2) := by decide +kernel
theorem dX12_markOf_165 : decode cX12_markOf 165 = .ok (.iaload, 1) := by decide +kernel
theorem dX12_markOf_166 : decode cX12_markOf 166 = .ok (.iload 4, 2) := by decide +kernel
theorem dX12_markOf_168 : decode cX12_markOf 168 = .ok (.if_icmp .le 13, 3) := by decide +kernel
theorem dX12_markOf_171 : decode cX12_markOf 171 = .ok (.aload_n 0, 1) := by decide +kernel
theorem dX12_markOf_172 : decode cX12_markOf 172 = .ok (.getfield 39, 3) := by decide +kernel
theorem dX12_markOf_175 : decode cX12_markOf 175 = .ok (.iload 5, 2) := by decide +kernel
theorem dX12_markOf_177 : decode cX12_markOf 177 = .ok (.iaload, 1) := by decide +kernel
theorem dX12_markOf_178 : decode cX12_markOf 178 = .ok (.goto 5, 3) := by decide +kernel
theorem dX12_markOf_181 : decode cX12_markOf 181 = .ok (.iload 4, 2) := by decide +kernel
theorem dX12_markOf_183 : decode cX12_markOf 183 = .ok (.istore 4, 2) := by decide +kernel
theorem dX12_markOf_185 : decode cX12_markOf 185 = .ok (.iload_n 3, 1) := by decide +kernel
theorem dX12_markOf_186 : decode cX12_markOf 186 = .ok (.iload_n 2, 1) := by decide +kernel
theorem dX12_markOf_187 : decode cX12_markOf 187 = .ok (.iconst 1, 1) := by decide +kernel
theorem dX12_markOf_188 : decode cX12_markOf 188 = .ok (.if_icmp .ne 35, 3) := by decide +kernel
theorem dX12_markOf_191 : decode cX12_markOf 191 = .ok (.iload 5, 2) := by decide +kernel
theorem dX12_markOf_193 : decode cX12_markOf 193 = .ok (.ifCond .le 26, 3) := by decide +kernel
theorem dX12_markOf_196 : decode cX12_markOf 196 = .ok (.aload_n 0, 1) := by decide +kernel
theorem dX12_markOf_197 : decode cX12_markOf 197 = .ok (.getfield 36, 3) := by decide +kernel
theorem dX12_markOf_200 : decode cX12_markOf 200 = .ok (.iload 5, 2) := by decide +kernel
theorem dX12_markOf_202 : decode cX12_markOf 202 = .ok (.iconst 1, 1) := by decide +kernel
theorem dX12_markOf_203 : decode cX12_markOf 203 = .ok (.isub, 1) := by decide +kernel
theorem dX12_markOf_204 : decode cX12_markOf 204 = .ok (.iaload, 1) := by decide +kernel
theorem dX12_markOf_205 : decode cX12_markOf 205 = .ok (.aload_n 0, 1) := by decide +kernel
theorem dX12_markOf_206 : decode cX12_markOf 206 = .ok (.getfield 36, 3) := by decide +kernel
theorem dX12_markOf_209 : decode cX12_markOf 209 = .ok (.iload 5, 2) := by decide +kernel
theorem dX12_markOf_211 : decode cX12_markOf 211 = .ok (.iaload, 1) := by decide +kernel
theorem dX12_markOf_212 : decode cX12_markOf 212 = .ok (.if_icmp .le 7, 3) := by decide +kernel
theorem dX12_markOf_215 : decode cX12_markOf 215 = .ok (.iconst 1, 1) := by decide +kernel
theorem dX12_markOf_216 : decode cX12_markOf 216 = .ok (.goto 27, 3) := by decide +kernel
theorem dX12_markOf_219 : decode cX12_markOf 219 = .ok (.iconst 0, 1) := by decide +kernel
theorem dX12_markOf_220 : decode cX12_markOf 220 = .ok (.goto 23, 3) := by decide +kernel
theorem dX12_markOf_223 : decode cX12_markOf 223 = .ok (.iload_n 2, 1) := by decide +kernel
theorem dX12_markOf_224 : decode cX12_markOf 224 = .ok (.iconst 2, 1) := by decide +kernel
theorem dX12_markOf_225 : decode cX12_markOf 225 = .ok (.if_icmp .ne 8, 3) := by decide +kernel
theorem dX12_markOf_228 : decode cX12_markOf 228 = .ok (.iload 6, 2) := by decide +kernel
theorem dX12_markOf_230 : decode cX12_markOf 230 = .ok (.goto 13, 3) := by decide +kernel
theorem dX12_markOf_233 : decode cX12_markOf 233 = .ok (.iload 8, 2) := by decide +kernel
theorem dX12_markOf_235 : decode cX12_markOf 235 = .ok (.ifCond .eq 7, 3) := by decide +kernel
theorem dX12_markOf_238 : decode cX12_markOf 238 = .ok (.iconst 1, 1) := by decide +kernel
theorem dX12_markOf_239 : decode cX12_markOf 239 = .ok (.goto 4, 3) := by decide +kernel
theorem dX12_markOf_242 : decode cX12_markOf 242 = .ok (.iconst 0, 1) := by decide +kernel
theorem dX12_markOf_243 : decode cX12_markOf 243 = .ok (.iadd, 1) := by decide +kernel
theorem dX12_markOf_244 : decode cX12_markOf 244 = .ok (.istore_n 3, 1) := by decide +kernel
theorem dX12_markOf_245 : decode cX12_markOf 245 = .ok (.iinc 5 1, 3) := by decide +kernel
theorem dX12_markOf_248 : decode cX12_markOf 248 = .ok (.goto (-230), 3) := by decide +kernel
theorem dX12_markOf_251 : decode cX12_markOf 251 = .ok (.iload_n 2, 1) := by decide +kernel
theorem dX12_markOf_252 : decode cX12_markOf 252 = .ok (.iconst 4, 1) := by decide +kernel
theorem dX12_markOf_253 : decode cX12_markOf 253 = .ok (.if_icmp .ne 8, 3) := by decide +kernel
theorem dX12_markOf_256 : decode cX12_markOf 256 = .ok (.iload 4, 2) := by decide +kernel
theorem dX12_markOf_258 : decode cX12_markOf 258 = .ok (.goto 4, 3) := by decide +kernel
theorem dX12_markOf_261 : decode cX12_markOf 261 = .ok (.iload_n 3, 1) := by decide +kernel
theorem dX12_markOf_262 : decode cX12_markOf 262 = .ok (.ireturn, 1) := by decide +kernel
theorem dX12_orders_0 : decode cX12_orders 0 = .ok (.iload_n 1, 1) := by decide +kernel
theorem dX12_orders_1 : decode cX12_orders 1 = .ok (.invokestatic 158, 3) := by decide +kernel
theorem dX12_orders_4 : decode cX12_orders 4 = .ok (.ifCond .eq 33, 3) := by decide +kernel
theorem dX12_orders_7 : decode cX12_orders 7 = .ok (.iload_n 2, 1) := by decide +kernel
theorem dX12_orders_8 : decode cX12_orders 8 = .ok (.i2l, 1) := by decide +kernel
theorem dX12_orders_9 : decode cX12_orders 9 = .ok (.lconst 0, 1) := by decide +kernel
theorem dX12_orders_10 : decode cX12_orders 10 = .ok (.ldc2_w 176, 3) := by decide +kernel
theorem dX12_orders_13 : decode cX12_orders 13 = .ok (.invokestatic 62, 3) := by decide +kernel
theorem dX12_orders_16 : decode cX12_orders 16 = .ok (.ifCond .eq 21, 3) := by decide +kernel
theorem dX12_orders_19 : decode cX12_orders 19 = .ok (.iload_n 3, 1) := by decide +kernel
theorem dX12_orders_20 : decode cX12_orders 20 = .ok (.i2l, 1) := by decide +kernel
theorem dX12_orders_21 : decode cX12_orders 21 = .ok (.lconst 0, 1) := by decide +kernel
theorem dX12_orders_22 : decode cX12_orders 22 = .ok (.ldc2_w 178, 3) := by decide +kernel
theorem dX12_orders_25 : decode cX12_orders 25 = .ok (.invokestatic 62, 3) := by decide +kernel
theorem dX12_orders_28 : decode cX12_orders 28 = .ok (.ifCond .eq 9, 3) := by decide +kernel
theorem dX12_orders_31 : decode cX12_orders 31 = .ok (.iload 4, 2) := by decide +kernel
theorem dX12_orders_33 : decode cX12_orders 33 = .ok (.iconst (-1), 1) := by decide +kernel
theorem dX12_orders_34 : decode cX12_orders 34 = .ok (.if_icmp .ge 5, 3) := by decide +kernel
theorem dX12_orders_37 : decode cX12_orders 37 = .ok (.iconst (-1), 1) := by decide +kernel
theorem dX12_orders_38 : decode cX12_orders 38 = .ok (.ireturn, 1) := by decide +kernel
theorem dX12_orders_39 : decode cX12_orders 39 = .ok (.aload_n 0, 1) := by decide +kernel
theorem dX12_orders_40 : decode cX12_orders 40 = .ok (.iload_n 1, 1) := by decide +kernel
theorem dX12_orders_41 : decode cX12_orders 41 = .ok (.invokevirtual 180, 3) := by decide +kernel
theorem dX12_orders_44 : decode cX12_orders 44 = .ok (.iconst 0, 1) := by decide +kernel
theorem dX12_orders_45 : decode cX12_orders 45 = .ok (.istore 5, 2) := by decide +kernel
theorem dX12_orders_47 : decode cX12_orders 47 = .ok (.iconst 1, 1) := by decide +kernel
theorem dX12_orders_48 : decode cX12_orders 48 = .ok (.istore 6, 2) := by decide +kernel
theorem dX12_orders_50 : decode cX12_orders 50 = .ok (.iload 6, 2) := by decide +kernel
theorem dX12_orders_52 : decode cX12_orders 52 = .ok (.ifCond .eq 39, 3) := by decide +kernel
theorem dX12_orders_55 : decode cX12_orders 55 = .ok (.aload_n 0, 1) := by decide +kernel
theorem dX12_orders_56 : decode cX12_orders 56 = .ok (.iload_n 1, 1) := by decide +kernel
theorem dX12_orders_57 : decode cX12_orders 57 = .ok (.iload_n 2, 1) := by decide +kernel
theorem dX12_orders_58 : decode cX12_orders 58 = .ok (.invokevirtual 184, 3) := by decide +kernel
theorem dX12_orders_61 : decode cX12_orders 61 = .ok (.iload_n 3, 1) := by decide +kernel
theorem dX12_orders_62 : decode cX12_orders 62 = .ok (.if_icmp .ne 19, 3) := by decide +kernel
theorem dX12_orders_65 : decode cX12_orders 65 = .ok (.iload 5, 2) := by decide +kernel
theorem dX12_orders_67 : decode cX12_orders 67 = .ok (.iload 4, 2) := by decide +kernel
theorem dX12_orders_69 : decode cX12_orders 69 = .ok (.if_icmp .ne 9, 3) := by decide +kernel
theorem dX12_orders_72 : decode cX12_orders 72 = .ok (.aload_n 0, 1) := by decide +kernel
theorem dX12_orders_73 : decode cX12_orders 73 = .ok (.iload_n 1, 1) := by decide +kernel
theorem dX12_orders_74 : decode cX12_orders 74 = .ok (.invokevirtual 154, 3) := by decide +kernel
theorem dX12_orders_77 : decode cX12_orders 77 = .ok (.ireturn, 1) := by decide +kernel
theorem dX12_orders_78 : decode cX12_orders 78 = .ok (.iinc 5 1, 3) := by decide +kernel
theorem dX12_orders_81 : decode cX12_orders 81 = .ok (.aload_n 0, 1) := by decide +kernel
theorem dX12_orders_82 : decode cX12_orders 82 = .ok (.iload_n 1, 1) := by decide +kernel
theorem dX12_orders_83 : decode cX12_orders 83 = .ok (.invokevirtual 188, 3) := by decide +kernel
theorem dX12_orders_86 : decode cX12_orders 86 = .ok (.istore 6, 2) := by decide +kernel
theorem dX12_orders_88 : decode cX12_orders 88 = .ok (.goto (-38), 3) := by decide +kernel
theorem dX12_orders_91 : decode cX12_orders 91 = .ok (.iload 4, 2) := by decide +kernel
theorem dX12_orders_93 : decode cX12_orders 93 = .ok (.iconst (-1), 1) := by decide +kernel
theorem dX12_orders_94 : decode cX12_orders 94 = .ok (.if_icmp .ne 8, 3) := by decide +kernel
theorem dX12_orders_97 : decode cX12_orders 97 = .ok (.iload 5, 2) := by decide +kernel
theorem dX12_orders_99 : decode cX12_orders 99 = .ok (.goto 5, 3) := by decide +kernel
theorem dX12_orders_102 : decode cX12_orders 102 = .ok (.bipush (-4), 2) := by decide +kernel
theorem dX12_orders_104 : decode cX12_orders 104 = .ok (.ireturn, 1) := by decide +kernel
theorem dX12_mark_0 : decode cX12_mark 0 = .ok (.aload_n 0, 1) := by decide +kernel
theorem dX12_mark_1 : decode cX12_mark 1 = .ok (.iload_n 1, 1) := by decide +kernel
theorem dX12_mark_2 : decode cX12_mark 2 = .ok (.iload_n 2, 1) := by decide +kernel
theorem dX12_mark_3 : decode cX12_mark 3 = .ok (.invokevirtual 191, 3) := by decide +kernel
theorem dX12_mark_6 : decode cX12_mark 6 = .ok (.ifCond .eq 24, 3) := by decide +kernel
theorem dX12_mark_9 : decode cX12_mark 9 = .ok (.iload_n 3, 1) := by decide +kernel
theorem dX12_mark_10 : decode cX12_mark 10 = .ok (.i2l, 1) := by decide +kernel
theorem dX12_mark_11 : decode cX12_mark 11 = .ok (.lconst 0, 1) := by decide +kernel
theorem dX12_mark_12 : decode cX12_mark 12 = .ok (.ldc2_w 176, 3) := by decide +kernel
theorem dX12_mark_15 : decode cX12_mark 15 = .ok (.invokestatic 62, 3) := by decide +kernel
theorem dX12_mark_18 : decode cX12_mark 18 = .ok (.ifCond .eq 12, 3) := by decide +kernel
theorem dX12_mark_21 : decode cX12_mark 21 = .ok (.aload_n 0, 1) := by decide +kernel
theorem dX12_mark_22 : decode cX12_mark 22 = .ok (.iload_n 1, 1) := by decide +kernel
theorem dX12_mark_23 : decode cX12_mark 23 = .ok (.iload_n 3, 1) := by decide +kernel
theorem dX12_mark_24 : decode cX12_mark 24 = .ok (.invokevirtual 184, 3) := by decide +kernel
theorem dX12_mark_27 : decode cX12_mark 27 = .ok (.goto 4, 3) := by decide +kernel
theorem dX12_mark_30 : decode cX12_mark 30 = .ok (.iconst (-1), 1) := by decide +kernel
theorem dX12_mark_31 : decode cX12_mark 31 = .ok (.ireturn, 1) := by decide +kernel
theorem dX12_rank_0 : decode cX12_rank 0 = .ok (.aload_n 0, 1) := by decide +kernel
theorem dX12_rank_1 : decode cX12_rank 1 = .ok (.iload_n 1, 1) := by decide +kernel
theorem dX12_rank_2 : decode cX12_rank 2 = .ok (.iload_n 2, 1) := by decide +kernel
theorem dX12_rank_3 : decode cX12_rank 3 = .ok (.invokevirtual 191, 3) := by decide +kernel
theorem dX12_rank_6 : decode cX12_rank 6 = .ok (.ifCond .ne 5, 3) := by decide +kernel
theorem dX12_rank_9 : decode cX12_rank 9 = .ok (.iconst (-1), 1) := by decide +kernel
theorem dX12_rank_10 : decode cX12_rank 10 = .ok (.ireturn, 1) := by decide +kernel
theorem dX12_rank_11 : decode cX12_rank 11 = .ok (.iconst 0, 1) := by decide +kernel
theorem dX12_rank_12 : decode cX12_rank 12 = .ok (.istore_n 3, 1) := by decide +kernel
theorem dX12_rank_13 : decode cX12_rank 13 = .ok (.iconst 0, 1) := by decide +kernel
theorem dX12_rank_14 : decode cX12_rank 14 = .ok (.istore 4, 2) := by decide +kernel
theorem dX12_rank_16 : decode cX12_rank 16 = .ok (.iload 4, 2) := by decide +kernel
theorem dX12_rank_18 : decode cX12_rank 18 = .ok (.iload_n 1, 1) := by decide +kernel
theorem dX12_rank_19 : decode cX12_rank 19 = .ok (.if_icmp .ge 67, 3) := by decide +kernel
theorem dX12_rank_22 : decode cX12_rank 22 = .ok (.iconst 0, 1) := by decide +kernel
theorem dX12_rank_23 : decode cX12_rank 23 = .ok (.istore 5, 2) := by decide +kernel
theorem dX12_rank_25 : decode cX12_rank 25 = .ok (.iload 4, 2) := by decide +kernel
theorem dX12_rank_27 : decode cX12_rank 27 = .ok (.iconst 1, 1) := by decide +kernel
theorem dX12_rank_28 : decode cX12_rank 28 = .ok (.iadd, 1) := by decide +kernel
theorem dX12_rank_29 : decode cX12_rank 29 = .ok (.istore 6, 2) := by decide +kernel
theorem dX12_rank_31 : decode cX12_rank 31 = .ok (.iload 6, 2) := by decide +kernel
theorem dX12_rank_33 : decode cX12_rank 33 = .ok (.iload_n 1, 1) := by decide +kernel
theorem dX12_rank_34 : decode cX12_rank 34 = .ok (.if_icmp .ge 36, 3) := by decide +kernel
theorem dX12_rank_37 : decode cX12_rank 37 = .ok (.iload 5, 2) := by decide +kernel
theorem dX12_rank_39 : decode cX12_rank 39 = .ok (.aload_n 0, 1) := by decide +kernel
theorem dX12_rank_40 : decode cX12_rank 40 = .ok (.getfield 36, 3) := by decide +kernel
theorem dX12_rank_43 : decode cX12_rank 43 = .ok (.iload 6, 2) := by decide +kernel
theorem dX12_rank_45 : decode cX12_rank 45 = .ok (.iaload, 1) := by decide +kernel
theorem dX12_rank_46 : decode cX12_rank 46 = .ok (.aload_n 0, 1) := by decide +kernel
theorem dX12_rank_47 : decode cX12_rank 47 = .ok (.getfield 36, 3) := by decide +kernel
theorem dX12_rank_50 : decode cX12_rank 50 = .ok (.iload 4, 2) := by decide +kernel
theorem dX12_rank_52 : decode cX12_rank 52 = .ok (.iaload, 1) := by decide +kernel
theorem dX12_rank_53 : decode cX12_rank 53 = .ok (.if_icmp .ge 7, 3) := by decide +kernel
theorem dX12_rank_56 : decode cX12_rank 56 = .ok (.iconst 1, 1) := by decide +kernel
theorem dX12_rank_57 : decode cX12_rank 57 = .ok (.goto 4, 3) := by decide +kernel
theorem dX12_rank_60 : decode cX12_rank 60 = .ok (.iconst 0, 1) := by decide +kernel
theorem dX12_rank_61 : decode cX12_rank 61 = .ok (.iadd, 1) := by decide +kernel
theorem dX12_rank_62 : decode cX12_rank 62 = .ok (.istore 5, 2) := by decide +kernel
theorem dX12_rank_64 : decode cX12_rank 64 = .ok (.iinc 6 1, 3) := by decide +kernel
theorem dX12_rank_67 : decode cX12_rank 67 = .ok (.goto (-36), 3) := by decide +kernel
theorem dX12_rank_70 : decode cX12_rank 70 = .ok (.iload_n 3, 1) := by decide +kernel
theorem dX12_rank_71 : decode cX12_rank 71 = .ok (.iload_n 1, 1) := by decide +kernel
theorem dX12_rank_72 : decode cX12_rank 72 = .ok (.iload 4, 2) := by decide +kernel
theorem dX12_rank_74 : decode cX12_rank 74 = .ok (.isub, 1) := by decide +kernel
theorem dX12_rank_75 : decode cX12_rank 75 = .ok (.imul, 1) := by decide +kernel
theorem dX12_rank_76 : decode cX12_rank 76 = .ok (.iload 5, 2) := by decide +kernel
theorem dX12_rank_78 : decode cX12_rank 78 = .ok (.iadd, 1) := by decide +kernel
theorem dX12_rank_79 : decode cX12_rank 79 = .ok (.istore_n 3, 1) := by decide +kernel
theorem dX12_rank_80 : decode cX12_rank 80 = .ok (.iinc 4 1, 3) := by decide +kernel
theorem dX12_rank_83 : decode cX12_rank 83 = .ok (.goto (-67), 3) := by decide +kernel
theorem dX12_rank_86 : decode cX12_rank 86 = .ok (.iload_n 3, 1) := by decide +kernel
theorem dX12_rank_87 : decode cX12_rank 87 = .ok (.ireturn, 1) := by decide +kernel
theorem dX12_over_0 : decode cX12_over 0 = .ok (.aload_n 0, 1) := by decide +kernel
theorem dX12_over_1 : decode cX12_over 1 = .ok (.iload_n 1, 1) := by decide +kernel
theorem dX12_over_2 : decode cX12_over 2 = .ok (.iload_n 2, 1) := by decide +kernel
theorem dX12_over_3 : decode cX12_over 3 = .ok (.invokevirtual 191, 3) := by decide +kernel
theorem dX12_over_6 : decode cX12_over 6 = .ok (.ifCond .ne 5, 3) := by decide +kernel
theorem dX12_over_9 : decode cX12_over 9 = .ok (.iconst (-1), 1) := by decide +kernel
theorem dX12_over_10 : decode cX12_over 10 = .ok (.ireturn, 1) := by decide +kernel
theorem dX12_over_11 : decode cX12_over 11 = .ok (.iconst 0, 1) := by decide +kernel
theorem dX12_over_12 : decode cX12_over 12 = .ok (.istore_n 3, 1) := by decide +kernel
theorem dX12_over_13 : decode cX12_over 13 = .ok (.iload_n 3, 1) := by decide +kernel
theorem dX12_over_14 : decode cX12_over 14 = .ok (.iload_n 1, 1) := by decide +kernel
theorem dX12_over_15 : decode cX12_over 15 = .ok (.if_icmp .ge 21, 3) := by decide +kernel
theorem dX12_over_18 : decode cX12_over 18 = .ok (.aload_n 0, 1) := by decide +kernel
theorem dX12_over_19 : decode cX12_over 19 = .ok (.getfield 42, 3) := by decide +kernel
theorem dX12_over_22 : decode cX12_over 22 = .ok (.aload_n 0, 1) := by decide +kernel
theorem dX12_over_23 : decode cX12_over 23 = .ok (.getfield 36, 3) := by decide +kernel
theorem dX12_over_26 : decode cX12_over 26 = .ok (.iload_n 3, 1) := by decide +kernel
theorem dX12_over_27 : decode cX12_over 27 = .ok (.iaload, 1) := by decide +kernel
theorem dX12_over_28 : decode cX12_over 28 = .ok (.iload_n 3, 1) := by decide +kernel
theorem dX12_over_29 : decode cX12_over 29 = .ok (.iastore, 1) := by decide +kernel
theorem dX12_over_30 : decode cX12_over 30 = .ok (.iinc 3 1, 3) := by decide +kernel
theorem dX12_over_33 : decode cX12_over 33 = .ok (.goto (-20), 3) := by decide +kernel
theorem dX12_over_36 : decode cX12_over 36 = .ok (.iconst 0, 1) := by decide +kernel
theorem dX12_over_37 : decode cX12_over 37 = .ok (.istore_n 3, 1) := by decide +kernel
theorem dX12_over_38 : decode cX12_over 38 = .ok (.iload_n 3, 1) := by decide +kernel
theorem dX12_over_39 : decode cX12_over 39 = .ok (.iload_n 1, 1) := by decide +kernel
theorem dX12_over_40 : decode cX12_over 40 = .ok (.if_icmp .ge 21, 3) := by decide +kernel
theorem dX12_over_43 : decode cX12_over 43 = .ok (.aload_n 0, 1) := by decide +kernel
theorem dX12_over_44 : decode cX12_over 44 = .ok (.getfield 36, 3) := by decide +kernel
theorem dX12_over_47 : decode cX12_over 47 = .ok (.iload_n 3, 1) := by decide +kernel
theorem dX12_over_48 : decode cX12_over 48 = .ok (.aload_n 0, 1) := by decide +kernel
theorem dX12_over_49 : decode cX12_over 49 = .ok (.getfield 42, 3) := by decide +kernel
theorem dX12_over_52 : decode cX12_over 52 = .ok (.iload_n 3, 1) := by decide +kernel
theorem dX12_over_53 : decode cX12_over 53 = .ok (.iaload, 1) := by decide +kernel
theorem dX12_over_54 : decode cX12_over 54 = .ok (.iastore, 1) := by decide +kernel
theorem dX12_over_55 : decode cX12_over 55 = .ok (.iinc 3 1, 3) := by decide +kernel
theorem dX12_over_58 : decode cX12_over 58 = .ok (.goto (-20), 3) := by decide +kernel
theorem dX12_over_61 : decode cX12_over 61 = .ok (.aload_n 0, 1) := by decide +kernel
theorem dX12_over_62 : decode cX12_over 62 = .ok (.iload_n 1, 1) := by decide +kernel
theorem dX12_over_63 : decode cX12_over 63 = .ok (.invokevirtual 154, 3) := by decide +kernel
theorem dX12_over_66 : decode cX12_over 66 = .ok (.ireturn, 1) := by decide +kernel
theorem dX12_behind_0 : decode cX12_behind 0 = .ok (.aload_n 0, 1) := by decide +kernel
theorem dX12_behind_1 : decode cX12_behind 1 = .ok (.iload_n 1, 1) := by decide +kernel
theorem dX12_behind_2 : decode cX12_behind 2 = .ok (.iload_n 2, 1) := by decide +kernel
theorem dX12_behind_3 : decode cX12_behind 3 = .ok (.invokevirtual 191, 3) := by decide +kernel
theorem dX12_behind_6 : decode cX12_behind 6 = .ok (.ifCond .ne 5, 3) := by decide +kernel
theorem dX12_behind_9 : decode cX12_behind 9 = .ok (.iconst (-1), 1) := by decide +kernel
theorem dX12_behind_10 : decode cX12_behind 10 = .ok (.ireturn, 1) := by decide +kernel
theorem dX12_behind_11 : decode cX12_behind 11 = .ok (.iconst 0, 1) := by decide +kernel
theorem dX12_behind_12 : decode cX12_behind 12 = .ok (.istore 4, 2) := by decide +kernel
theorem dX12_behind_14 : decode cX12_behind 14 = .ok (.iload 4, 2) := by decide +kernel
theorem dX12_behind_16 : decode cX12_behind 16 = .ok (.iload_n 1, 1) := by decide +kernel
theorem dX12_behind_17 : decode cX12_behind 17 = .ok (.if_icmp .ge 23, 3) := by decide +kernel
theorem dX12_behind_20 : decode cX12_behind 20 = .ok (.aload_n 0, 1) := by decide +kernel
theorem dX12_behind_21 : decode cX12_behind 21 = .ok (.getfield 42, 3) := by decide +kernel
theorem dX12_behind_24 : decode cX12_behind 24 = .ok (.iload 4, 2) := by decide +kernel
theorem dX12_behind_26 : decode cX12_behind 26 = .ok (.aload_n 0, 1) := by decide +kernel
theorem dX12_behind_27 : decode cX12_behind 27 = .ok (.getfield 36, 3) := by decide +kernel
theorem dX12_behind_30 : decode cX12_behind 30 = .ok (.iload 4, 2) := by decide +kernel
theorem dX12_behind_32 : decode cX12_behind 32 = .ok (.iaload, 1) := by decide +kernel
theorem dX12_behind_33 : decode cX12_behind 33 = .ok (.iastore, 1) := by decide +kernel
theorem dX12_behind_34 : decode cX12_behind 34 = .ok (.iinc 4 1, 3) := by decide +kernel
theorem dX12_behind_37 : decode cX12_behind 37 = .ok (.goto (-23), 3) := by decide +kernel
theorem dX12_behind_40 : decode cX12_behind 40 = .ok (.aload_n 0, 1) := by decide +kernel
theorem dX12_behind_41 : decode cX12_behind 41 = .ok (.iload_n 1, 1) := by decide +kernel
theorem dX12_behind_42 : decode cX12_behind 42 = .ok (.iload_n 3, 1) := by decide +kernel
theorem dX12_behind_43 : decode cX12_behind 43 = .ok (.invokevirtual 191, 3) := by decide +kernel
theorem dX12_behind_46 : decode cX12_behind 46 = .ok (.ifCond .ne 5, 3) := by decide +kernel
theorem dX12_behind_49 : decode cX12_behind 49 = .ok (.iconst (-1), 1) := by decide +kernel
theorem dX12_behind_50 : decode cX12_behind 50 = .ok (.ireturn, 1) := by decide +kernel
theorem dX12_behind_51 : decode cX12_behind 51 = .ok (.iconst 0, 1) := by decide +kernel
theorem dX12_behind_52 : decode cX12_behind 52 = .ok (.istore 4, 2) := by decide +kernel
theorem dX12_behind_54 : decode cX12_behind 54 = .ok (.iload 4, 2) := by decide +kernel
theorem dX12_behind_56 : decode cX12_behind 56 = .ok (.iload_n 1, 1) := by decide +kernel
theorem dX12_behind_57 : decode cX12_behind 57 = .ok (.if_icmp .ge 28, 3) := by decide +kernel
theorem dX12_behind_60 : decode cX12_behind 60 = .ok (.aload_n 0, 1) := by decide +kernel
theorem dX12_behind_61 : decode cX12_behind 61 = .ok (.getfield 36, 3) := by decide +kernel
theorem dX12_behind_64 : decode cX12_behind 64 = .ok (.iload 4, 2) := by decide +kernel
theorem dX12_behind_66 : decode cX12_behind 66 = .ok (.aload_n 0, 1) := by decide +kernel
theorem dX12_behind_67 : decode cX12_behind 67 = .ok (.getfield 42, 3) := by decide +kernel
theorem dX12_behind_70 : decode cX12_behind 70 = .ok (.aload_n 0, 1) := by decide +kernel
theorem dX12_behind_71 : decode cX12_behind 71 = .ok (.getfield 36, 3) := by decide +kernel
theorem dX12_behind_74 : decode cX12_behind 74 = .ok (.iload 4, 2) := by decide +kernel
theorem dX12_behind_76 : decode cX12_behind 76 = .ok (.iaload, 1) := by decide +kernel
theorem dX12_behind_77 : decode cX12_behind 77 = .ok (.iaload, 1) := by decide +kernel
theorem dX12_behind_78 : decode cX12_behind 78 = .ok (.iastore, 1) := by decide +kernel
theorem dX12_behind_79 : decode cX12_behind 79 = .ok (.iinc 4 1, 3) := by decide +kernel
theorem dX12_behind_82 : decode cX12_behind 82 = .ok (.goto (-28), 3) := by decide +kernel
theorem dX12_behind_85 : decode cX12_behind 85 = .ok (.aload_n 0, 1) := by decide +kernel
theorem dX12_behind_86 : decode cX12_behind 86 = .ok (.iload_n 1, 1) := by decide +kernel
theorem dX12_behind_87 : decode cX12_behind 87 = .ok (.invokevirtual 154, 3) := by decide +kernel
theorem dX12_behind_90 : decode cX12_behind 90 = .ok (.ireturn, 1) := by decide +kernel
theorem dX12_isPolynomial_0 : decode cX12_isPolynomial 0 = .ok (.iload_n 0, 1) := by decide +kernel
theorem dX12_isPolynomial_1 : decode cX12_isPolynomial 1 = .ok (.i2l, 1) := by decide +kernel
theorem dX12_isPolynomial_2 : decode cX12_isPolynomial 2 = .ok (.lconst 0, 1) := by decide +kernel
theorem dX12_isPolynomial_3 : decode cX12_isPolynomial 3 = .ok (.ldc2_w 98, 3) := by decide +kernel
theorem dX12_isPolynomial_6 : decode cX12_isPolynomial 6 = .ok (.invokestatic 62, 3) := by decide +kernel
theorem dX12_isPolynomial_9 : decode cX12_isPolynomial 9 = .ok (.ireturn, 1) := by decide +kernel
theorem dX12_base_0 : decode cX12_base 0 = .ok (.iload_n 1, 1) := by decide +kernel
theorem dX12_base_1 : decode cX12_base 1 = .ok (.invokestatic 194, 3) := by decide +kernel
theorem dX12_base_4 : decode cX12_base 4 = .ok (.ifCond .eq 15, 3) := by decide +kernel
theorem dX12_base_7 : decode cX12_base 7 = .ok (.iload_n 2, 1) := by decide +kernel
theorem dX12_base_8 : decode cX12_base 8 = .ok (.i2l, 1) := by decide +kernel
theorem dX12_base_9 : decode cX12_base 9 = .ok (.lconst 0, 1) := by decide +kernel
theorem dX12_base_10 : decode cX12_base 10 = .ok (.ldc2_w 98, 3) := by decide +kernel
theorem dX12_base_13 : decode cX12_base 13 = .ok (.invokestatic 62, 3) := by decide +kernel
theorem dX12_base_16 : decode cX12_base 16 = .ok (.ifCond .ne 5, 3) := by decide +kernel
theorem dX12_base_19 : decode cX12_base 19 = .ok (.iconst (-1), 1) := by decide +kernel
theorem dX12_base_20 : decode cX12_base 20 = .ok (.ireturn, 1) := by decide +kernel
theorem dX12_base_21 : decode cX12_base 21 = .ok (.aload_n 0, 1) := by decide +kernel
theorem dX12_base_22 : decode cX12_base 22 = .ok (.getfield 45, 3) := by decide +kernel
theorem dX12_base_25 : decode cX12_base 25 = .ok (.iload_n 1, 1) := by decide +kernel
theorem dX12_base_26 : decode cX12_base 26 = .ok (.iaload, 1) := by decide +kernel
theorem dX12_base_27 : decode cX12_base 27 = .ok (.istore_n 3, 1) := by decide +kernel
theorem dX12_base_28 : decode cX12_base 28 = .ok (.aload_n 0, 1) := by decide +kernel
theorem dX12_base_29 : decode cX12_base 29 = .ok (.getfield 45, 3) := by decide +kernel
theorem dX12_base_32 : decode cX12_base 32 = .ok (.iload_n 1, 1) := by decide +kernel
theorem dX12_base_33 : decode cX12_base 33 = .ok (.iload_n 2, 1) := by decide +kernel
theorem dX12_base_34 : decode cX12_base 34 = .ok (.iastore, 1) := by decide +kernel
theorem dX12_base_35 : decode cX12_base 35 = .ok (.iconst 0, 1) := by decide +kernel
theorem dX12_base_36 : decode cX12_base 36 = .ok (.istore 4, 2) := by decide +kernel
theorem dX12_base_38 : decode cX12_base 38 = .ok (.iload 4, 2) := by decide +kernel
theorem dX12_base_40 : decode cX12_base 40 = .ok (.bipush 9, 2) := by decide +kernel
theorem dX12_base_42 : decode cX12_base 42 = .ok (.if_icmp .ge 22, 3) := by decide +kernel
theorem dX12_base_45 : decode cX12_base 45 = .ok (.aload_n 0, 1) := by decide +kernel
theorem dX12_base_46 : decode cX12_base 46 = .ok (.getfield 48, 3) := by decide +kernel
theorem dX12_base_49 : decode cX12_base 49 = .ok (.bipush 9, 2) := by decide +kernel
theorem dX12_base_51 : decode cX12_base 51 = .ok (.iload_n 1, 1) := by decide +kernel
theorem dX12_base_52 : decode cX12_base 52 = .ok (.imul, 1) := by decide +kernel
theorem dX12_base_53 : decode cX12_base 53 = .ok (.iload 4, 2) := by decide +kernel
theorem dX12_base_55 : decode cX12_base 55 = .ok (.iadd, 1) := by decide +kernel
theorem dX12_base_56 : decode cX12_base 56 = .ok (.lconst 0, 1) := by decide +kernel
theorem dX12_base_57 : decode cX12_base 57 = .ok (.lastore, 1) := by decide +kernel
theorem dX12_base_58 : decode cX12_base 58 = .ok (.iinc 4 1, 3) := by decide +kernel
theorem dX12_base_61 : decode cX12_base 61 = .ok (.goto (-23), 3) := by decide +kernel
theorem dX12_base_64 : decode cX12_base 64 = .ok (.iload_n 3, 1) := by decide +kernel
theorem dX12_base_65 : decode cX12_base 65 = .ok (.ireturn, 1) := by decide +kernel
theorem dX12_set_0 : decode cX12_set 0 = .ok (.iload_n 1, 1) := by decide +kernel
theorem dX12_set_1 : decode cX12_set 1 = .ok (.invokestatic 194, 3) := by decide +kernel
theorem dX12_set_4 : decode cX12_set 4 = .ok (.ifCond .eq 28, 3) := by decide +kernel
theorem dX12_set_7 : decode cX12_set 7 = .ok (.iload_n 2, 1) := by decide +kernel
theorem dX12_set_8 : decode cX12_set 8 = .ok (.i2l, 1) := by decide +kernel
theorem dX12_set_9 : decode cX12_set 9 = .ok (.lconst 0, 1) := by decide +kernel
theorem dX12_set_10 : decode cX12_set 10 = .ok (.ldc2_w 60, 3) := by decide +kernel
theorem dX12_set_13 : decode cX12_set 13 = .ok (.invokestatic 62, 3) := by decide +kernel
theorem dX12_set_16 : decode cX12_set 16 = .ok (.ifCond .eq 16, 3) := by decide +kernel
theorem dX12_set_19 : decode cX12_set 19 = .ok (.lload_n 3, 1) := by decide +kernel
theorem dX12_set_20 : decode cX12_set 20 = .ok (.ldc2_w 197, 3) := by decide +kernel
theorem dX12_set_23 : decode cX12_set 23 = .ok (.ldc2_w 199, 3) := by decide +kernel
theorem dX12_set_26 : decode cX12_set 26 = .ok (.invokestatic 62, 3) := by decide +kernel
theorem dX12_set_29 : decode cX12_set 29 = .ok (.ifCond .ne 7, 3) := by decide +kernel
theorem dX12_set_32 : decode cX12_set 32 = .ok (.ldc2_w 130, 3) := by decide +kernel
theorem dX12_set_35 : decode cX12_set 35 = .ok (.lreturn, 1) := by decide +kernel
theorem dX12_set_36 : decode cX12_set 36 = .ok (.aload_n 0, 1) := by decide +kernel
theorem dX12_set_37 : decode cX12_set 37 = .ok (.getfield 48, 3) := by decide +kernel
theorem dX12_set_40 : decode cX12_set 40 = .ok (.bipush 9, 2) := by decide +kernel
theorem dX12_set_42 : decode cX12_set 42 = .ok (.iload_n 1, 1) := by decide +kernel
theorem dX12_set_43 : decode cX12_set 43 = .ok (.imul, 1) := by decide +kernel
theorem dX12_set_44 : decode cX12_set 44 = .ok (.iload_n 2, 1) := by decide +kernel
theorem dX12_set_45 : decode cX12_set 45 = .ok (.iadd, 1) := by decide +kernel
theorem dX12_set_46 : decode cX12_set 46 = .ok (.laload, 1) := by decide +kernel
theorem dX12_set_47 : decode cX12_set 47 = .ok (.lstore 5, 2) := by decide +kernel
theorem dX12_set_49 : decode cX12_set 49 = .ok (.aload_n 0, 1) := by decide +kernel
theorem dX12_set_50 : decode cX12_set 50 = .ok (.getfield 48, 3) := by decide +kernel
theorem dX12_set_53 : decode cX12_set 53 = .ok (.bipush 9, 2) := by decide +kernel
theorem dX12_set_55 : decode cX12_set 55 = .ok (.iload_n 1, 1) := by decide +kernel
theorem dX12_set_56 : decode cX12_set 56 = .ok (.imul, 1) := by decide +kernel
theorem dX12_set_57 : decode cX12_set 57 = .ok (.iload_n 2, 1) := by decide +kernel
theorem dX12_set_58 : decode cX12_set 58 = .ok (.iadd, 1) := by decide +kernel
theorem dX12_set_59 : decode cX12_set 59 = .ok (.lload_n 3, 1) := by decide +kernel
theorem dX12_set_60 : decode cX12_set 60 = .ok (.lastore, 1) := by decide +kernel
theorem dX12_set_61 : decode cX12_set 61 = .ok (.lload 5, 2) := by decide +kernel
theorem dX12_set_63 : decode cX12_set 63 = .ok (.lreturn, 1) := by decide +kernel
theorem dX12_coefficient_0 : decode cX12_coefficient 0 = .ok (.iload_n 1, 1) := by decide +kernel
theorem dX12_coefficient_1 : decode cX12_coefficient 1 = .ok (.invokestatic 194, 3) := by decide +kernel
theorem dX12_coefficient_4 : decode cX12_coefficient 4 = .ok (.ifCond .eq 29, 3) := by decide +kernel
theorem dX12_coefficient_7 : decode cX12_coefficient 7 = .ok (.iload_n 2, 1) := by decide +kernel
theorem dX12_coefficient_8 : decode cX12_coefficient 8 = .ok (.i2l, 1) := by decide +kernel
theorem dX12_coefficient_9 : decode cX12_coefficient 9 = .ok (.lconst 0, 1) := by decide +kernel
theorem dX12_coefficient_10 : decode cX12_coefficient 10 = .ok (.ldc2_w 60, 3) := by decide +kernel
theorem dX12_coefficient_13 : decode cX12_coefficient 13 = .ok (.invokestatic 62, 3) := by decide +kernel
theorem dX12_coefficient_16 : decode cX12_coefficient 16 = .ok (.ifCond .eq 17, 3) := by decide +kernel
theorem dX12_coefficient_19 : decode cX12_coefficient 19 = .ok (.aload_n 0, 1) := by decide +kernel
theorem dX12_coefficient_20 : decode cX12_coefficient 20 = .ok (.getfield 48, 3) := by decide +kernel
theorem dX12_coefficient_23 : decode cX12_coefficient 23 = .ok (.bipush 9, 2) := by decide +kernel
theorem dX12_coefficient_25 : decode cX12_coefficient 25 = .ok (.iload_n 1, 1) := by decide +kernel
theorem dX12_coefficient_26 : decode cX12_coefficient 26 = .ok (.imul, 1) := by decide +kernel
theorem dX12_coefficient_27 : decode cX12_coefficient 27 = .ok (.iload_n 2, 1) := by decide +kernel
theorem dX12_coefficient_28 : decode cX12_coefficient 28 = .ok (.iadd, 1) := by decide +kernel
theorem dX12_coefficient_29 : decode cX12_coefficient 29 = .ok (.laload, 1) := by decide +kernel
theorem dX12_coefficient_30 : decode cX12_coefficient 30 = .ok (.goto 6, 3) := by decide +kernel
theorem dX12_coefficient_33 : decode cX12_coefficient 33 = .ok (.ldc2_w 130, 3) := by decide +kernel
theorem dX12_coefficient_36 : decode cX12_coefficient 36 = .ok (.lreturn, 1) := by decide +kernel
theorem dX12_degree_0 : decode cX12_degree 0 = .ok (.bipush (-4), 2) := by decide +kernel
theorem dX12_degree_2 : decode cX12_degree 2 = .ok (.istore_n 2, 1) := by decide +kernel
theorem dX12_degree_3 : decode cX12_degree 3 = .ok (.iconst 0, 1) := by decide +kernel
theorem dX12_degree_4 : decode cX12_degree 4 = .ok (.istore_n 3, 1) := by decide +kernel
theorem dX12_degree_5 : decode cX12_degree 5 = .ok (.iload_n 3, 1) := by decide +kernel
theorem dX12_degree_6 : decode cX12_degree 6 = .ok (.bipush 9, 2) := by decide +kernel
theorem dX12_degree_8 : decode cX12_degree 8 = .ok (.if_icmp .ge 31, 3) := by decide +kernel
theorem dX12_degree_11 : decode cX12_degree 11 = .ok (.aload_n 0, 1) := by decide +kernel
theorem dX12_degree_12 : decode cX12_degree 12 = .ok (.getfield 48, 3) := by decide +kernel
theorem dX12_degree_15 : decode cX12_degree 15 = .ok (.bipush 9, 2) := by decide +kernel
theorem dX12_degree_17 : decode cX12_degree 17 = .ok (.iload_n 1, 1) := by decide +kernel
theorem dX12_degree_18 : decode cX12_degree 18 = .ok (.imul, 1) := by decide +kernel
theorem dX12_degree_19 : decode cX12_degree 19 = .ok (.iload_n 3, 1) := by decide +kernel
theorem dX12_degree_20 : decode cX12_degree 20 = .ok (.iadd, 1) := by decide +kernel
theorem dX12_degree_21 : decode cX12_degree 21 = .ok (.laload, 1) := by decide +kernel
theorem dX12_degree_22 : decode cX12_degree 22 = .ok (.lconst 0, 1) := by decide +kernel
theorem dX12_degree_23 : decode cX12_degree 23 = .ok (.lcmp, 1) := by decide +kernel
theorem dX12_degree_24 : decode cX12_degree 24 = .ok (.ifCond .eq 7, 3) := by decide +kernel
theorem dX12_degree_27 : decode cX12_degree 27 = .ok (.iload_n 3, 1) := by decide +kernel
theorem dX12_degree_28 : decode cX12_degree 28 = .ok (.goto 4, 3) := by decide +kernel
theorem dX12_degree_31 : decode cX12_degree 31 = .ok (.iload_n 2, 1) := by decide +kernel
theorem dX12_degree_32 : decode cX12_degree 32 = .ok (.istore_n 2, 1) := by decide +kernel
theorem dX12_degree_33 : decode cX12_degree 33 = .ok (.iinc 3 1, 3) := by decide +kernel
theorem dX12_degree_36 : decode cX12_degree 36 = .ok (.goto (-31), 3) := by decide +kernel
theorem dX12_degree_39 : decode cX12_degree 39 = .ok (.iload_n 2, 1) := by decide +kernel
theorem dX12_degree_40 : decode cX12_degree 40 = .ok (.ireturn, 1) := by decide +kernel
theorem dX12_told_0 : decode cX12_told 0 = .ok (.iload_n 1, 1) := by decide +kernel
theorem dX12_told_1 : decode cX12_told 1 = .ok (.invokestatic 194, 3) := by decide +kernel
theorem dX12_told_4 : decode cX12_told 4 = .ok (.ifCond .eq 13, 3) := by decide +kernel
theorem dX12_told_7 : decode cX12_told 7 = .ok (.iload_n 2, 1) := by decide +kernel
theorem dX12_told_8 : decode cX12_told 8 = .ok (.i2l, 1) := by decide +kernel
theorem dX12_told_9 : decode cX12_told 9 = .ok (.lconst 0, 1) := by decide +kernel
theorem dX12_told_10 : decode cX12_told 10 = .ok (.lconst 1, 1) := by decide +kernel
theorem dX12_told_11 : decode cX12_told 11 = .ok (.invokestatic 62, 3) := by decide +kernel
theorem dX12_told_14 : decode cX12_told 14 = .ok (.ifCond .ne 5, 3) := by decide +kernel
theorem dX12_told_17 : decode cX12_told 17 = .ok (.iconst (-1), 1) := by decide +kernel
theorem dX12_told_18 : decode cX12_told 18 = .ok (.ireturn, 1) := by decide +kernel
theorem dX12_told_19 : decode cX12_told 19 = .ok (.iload_n 2, 1) := by decide +kernel
theorem dX12_told_20 : decode cX12_told 20 = .ok (.ifCond .ne 12, 3) := by decide +kernel
theorem dX12_told_23 : decode cX12_told 23 = .ok (.aload_n 0, 1) := by decide +kernel
theorem dX12_told_24 : decode cX12_told 24 = .ok (.getfield 45, 3) := by decide +kernel
theorem dX12_told_27 : decode cX12_told 27 = .ok (.iload_n 1, 1) := by decide +kernel
theorem dX12_told_28 : decode cX12_told 28 = .ok (.iaload, 1) := by decide +kernel
theorem dX12_told_29 : decode cX12_told 29 = .ok (.goto 8, 3) := by decide +kernel
theorem dX12_told_32 : decode cX12_told 32 = .ok (.aload_n 0, 1) := by decide +kernel
theorem dX12_told_33 : decode cX12_told 33 = .ok (.iload_n 1, 1) := by decide +kernel
theorem dX12_told_34 : decode cX12_told 34 = .ok (.invokevirtual 201, 3) := by decide +kernel
theorem dX12_told_37 : decode cX12_told 37 = .ok (.ireturn, 1) := by decide +kernel
theorem dX12_steps_0 : decode cX12_steps 0 = .ok (.lconst 1, 1) := by decide +kernel
theorem dX12_steps_1 : decode cX12_steps 1 = .ok (.lstore_n 1, 1) := by decide +kernel
theorem dX12_steps_2 : decode cX12_steps 2 = .ok (.iconst 2, 1) := by decide +kernel
theorem dX12_steps_3 : decode cX12_steps 3 = .ok (.istore_n 3, 1) := by decide +kernel
theorem dX12_steps_4 : decode cX12_steps 4 = .ok (.iload_n 3, 1) := by decide +kernel
theorem dX12_steps_5 : decode cX12_steps 5 = .ok (.iload_n 0, 1) := by decide +kernel
theorem dX12_steps_6 : decode cX12_steps 6 = .ok (.if_icmp .gt 14, 3) := by decide +kernel
theorem dX12_steps_9 : decode cX12_steps 9 = .ok (.lload_n 1, 1) := by decide +kernel
theorem dX12_steps_10 : decode cX12_steps 10 = .ok (.iload_n 3, 1) := by decide +kernel
theorem dX12_steps_11 : decode cX12_steps 11 = .ok (.i2l, 1) := by decide +kernel
theorem dX12_steps_12 : decode cX12_steps 12 = .ok (.lmul, 1) := by decide +kernel
theorem dX12_steps_13 : decode cX12_steps 13 = .ok (.lstore_n 1, 1) := by decide +kernel
theorem dX12_steps_14 : decode cX12_steps 14 = .ok (.iinc 3 1, 3) := by decide +kernel
theorem dX12_steps_17 : decode cX12_steps 17 = .ok (.goto (-13), 3) := by decide +kernel
theorem dX12_steps_20 : decode cX12_steps 20 = .ok (.lload_n 1, 1) := by decide +kernel
theorem dX12_steps_21 : decode cX12_steps 21 = .ok (.lreturn, 1) := by decide +kernel
theorem dX12_timesInFalling_0 : decode cX12_timesInFalling 0 = .ok (.bipush 8, 2) := by decide +kernel
theorem dX12_timesInFalling_2 : decode cX12_timesInFalling 2 = .ok (.istore_n 3, 1) := by decide +kernel
theorem dX12_timesInFalling_3 : decode cX12_timesInFalling 3 = .ok (.iload_n 3, 1) := by decide +kernel
theorem dX12_timesInFalling_4 : decode cX12_timesInFalling 4 = .ok (.ifCond .lt 43, 3) := by decide +kernel
theorem dX12_timesInFalling_7 : decode cX12_timesInFalling 7 = .ok (.aload_n 0, 1) := by decide +kernel
theorem dX12_timesInFalling_8 : decode cX12_timesInFalling 8 = .ok (.getfield 54, 3) := by decide +kernel
theorem dX12_timesInFalling_11 : decode cX12_timesInFalling 11 = .ok (.iload_n 3, 1) := by decide +kernel
theorem dX12_timesInFalling_12 : decode cX12_timesInFalling 12 = .ok (.aload_n 0, 1) := by decide +kernel
theorem dX12_timesInFalling_13 : decode cX12_timesInFalling 13 = .ok (.getfield 54, 3) := by decide +kernel
theorem dX12_timesInFalling_16 : decode cX12_timesInFalling 16 = .ok (.iload_n 3, 1) := by decide +kernel
theorem dX12_timesInFalling_17 : decode cX12_timesInFalling 17 = .ok (.laload, 1) := by decide +kernel
theorem dX12_timesInFalling_18 : decode cX12_timesInFalling 18 = .ok (.iload_n 3, 1) := by decide +kernel
theorem dX12_timesInFalling_19 : decode cX12_timesInFalling 19 = .ok (.i2l, 1) := by decide +kernel
theorem dX12_timesInFalling_20 : decode cX12_timesInFalling 20 = .ok (.lload_n 1, 1) := by decide +kernel
theorem dX12_timesInFalling_21 : decode cX12_timesInFalling 21 = .ok (.lsub, 1) := by decide +kernel
theorem dX12_timesInFalling_22 : decode cX12_timesInFalling 22 = .ok (.lmul, 1) := by decide +kernel
theorem dX12_timesInFalling_23 : decode cX12_timesInFalling 23 = .ok (.iload_n 3, 1) := by decide +kernel
theorem dX12_timesInFalling_24 : decode cX12_timesInFalling 24 = .ok (.ifCond .le 14, 3) := by decide +kernel
theorem dX12_timesInFalling_27 : decode cX12_timesInFalling 27 = .ok (.aload_n 0, 1) := by decide +kernel
theorem dX12_timesInFalling_28 : decode cX12_timesInFalling 28 = .ok (.getfield 54, 3) := by decide +kernel
theorem dX12_timesInFalling_31 : decode cX12_timesInFalling 31 = .ok (.iload_n 3, 1) := by decide +kernel
theorem dX12_timesInFalling_32 : decode cX12_timesInFalling 32 = .ok (.iconst 1, 1) := by decide +kernel
theorem dX12_timesInFalling_33 : decode cX12_timesInFalling 33 = .ok (.isub, 1) := by decide +kernel
theorem dX12_timesInFalling_34 : decode cX12_timesInFalling 34 = .ok (.laload, 1) := by decide +kernel
theorem dX12_timesInFalling_35 : decode cX12_timesInFalling 35 = .ok (.goto 4, 3) := by decide +kernel
theorem dX12_timesInFalling_38 : decode cX12_timesInFalling 38 = .ok (.lconst 0, 1) := by decide +kernel
theorem dX12_timesInFalling_39 : decode cX12_timesInFalling 39 = .ok (.ladd, 1) := by decide +kernel
theorem dX12_timesInFalling_40 : decode cX12_timesInFalling 40 = .ok (.lastore, 1) := by decide +kernel
theorem dX12_timesInFalling_41 : decode cX12_timesInFalling 41 = .ok (.iinc 3 (-1), 3) := by decide +kernel
theorem dX12_timesInFalling_44 : decode cX12_timesInFalling 44 = .ok (.goto (-41), 3) := by decide +kernel
theorem dX12_timesInFalling_47 : decode cX12_timesInFalling 47 = .ok (.return_, 1) := by decide +kernel
theorem dX12_timesIn_0 : decode cX12_timesIn 0 = .ok (.bipush 8, 2) := by decide +kernel
theorem dX12_timesIn_2 : decode cX12_timesIn 2 = .ok (.istore 4, 2) := by decide +kernel
theorem dX12_timesIn_4 : decode cX12_timesIn 4 = .ok (.iload 4, 2) := by decide +kernel
theorem dX12_timesIn_6 : decode cX12_timesIn 6 = .ok (.ifCond .lt 62, 3) := by decide +kernel
theorem dX12_timesIn_9 : decode cX12_timesIn 9 = .ok (.iload_n 1, 1) := by decide +kernel
theorem dX12_timesIn_10 : decode cX12_timesIn 10 = .ok (.ifCond .ne 8, 3) := by decide +kernel
theorem dX12_timesIn_13 : decode cX12_timesIn 13 = .ok (.lload_n 2, 1) := by decide +kernel
theorem dX12_timesIn_14 : decode cX12_timesIn 14 = .ok (.lneg, 1) := by decide +kernel
theorem dX12_timesIn_15 : decode cX12_timesIn 15 = .ok (.goto 9, 3) := by decide +kernel
theorem dX12_timesIn_18 : decode cX12_timesIn 18 = .ok (.iload 4, 2) := by decide +kernel
theorem dX12_timesIn_20 : decode cX12_timesIn 20 = .ok (.ineg, 1) := by decide +kernel
theorem dX12_timesIn_21 : decode cX12_timesIn 21 = .ok (.i2l, 1) := by decide +kernel
theorem dX12_timesIn_22 : decode cX12_timesIn 22 = .ok (.lload_n 2, 1) := by decide +kernel
theorem dX12_timesIn_23 : decode cX12_timesIn 23 = .ok (.lsub, 1) := by decide +kernel
theorem dX12_timesIn_24 : decode cX12_timesIn 24 = .ok (.lstore 5, 2) := by decide +kernel
theorem dX12_timesIn_26 : decode cX12_timesIn 26 = .ok (.aload_n 0, 1) := by decide +kernel
theorem dX12_timesIn_27 : decode cX12_timesIn 27 = .ok (.getfield 54, 3) := by decide +kernel
theorem dX12_timesIn_30 : decode cX12_timesIn 30 = .ok (.iload 4, 2) := by decide +kernel
theorem dX12_timesIn_32 : decode cX12_timesIn 32 = .ok (.aload_n 0, 1) := by decide +kernel
theorem dX12_timesIn_33 : decode cX12_timesIn 33 = .ok (.getfield 54, 3) := by decide +kernel
theorem dX12_timesIn_36 : decode cX12_timesIn 36 = .ok (.iload 4, 2) := by decide +kernel
theorem dX12_timesIn_38 : decode cX12_timesIn 38 = .ok (.laload, 1) := by decide +kernel
theorem dX12_timesIn_39 : decode cX12_timesIn 39 = .ok (.lload 5, 2) := by decide +kernel
theorem dX12_timesIn_41 : decode cX12_timesIn 41 = .ok (.lmul, 1) := by decide +kernel
theorem dX12_timesIn_42 : decode cX12_timesIn 42 = .ok (.iload 4, 2) := by decide +kernel
theorem dX12_timesIn_44 : decode cX12_timesIn 44 = .ok (.ifCond .le 15, 3) := by decide +kernel
theorem dX12_timesIn_47 : decode cX12_timesIn 47 = .ok (.aload_n 0, 1) := by decide +kernel
theorem dX12_timesIn_48 : decode cX12_timesIn 48 = .ok (.getfield 54, 3) := by decide +kernel
theorem dX12_timesIn_51 : decode cX12_timesIn 51 = .ok (.iload 4, 2) := by decide +kernel
theorem dX12_timesIn_53 : decode cX12_timesIn 53 = .ok (.iconst 1, 1) := by decide +kernel
theorem dX12_timesIn_54 : decode cX12_timesIn 54 = .ok (.isub, 1) := by decide +kernel
theorem dX12_timesIn_55 : decode cX12_timesIn 55 = .ok (.laload, 1) := by decide +kernel
theorem dX12_timesIn_56 : decode cX12_timesIn 56 = .ok (.goto 4, 3) := by decide +kernel
theorem dX12_timesIn_59 : decode cX12_timesIn 59 = .ok (.lconst 0, 1) := by decide +kernel
theorem dX12_timesIn_60 : decode cX12_timesIn 60 = .ok (.ladd, 1) := by decide +kernel
theorem dX12_timesIn_61 : decode cX12_timesIn 61 = .ok (.lastore, 1) := by decide +kernel
theorem dX12_timesIn_62 : decode cX12_timesIn 62 = .ok (.iinc 4 (-1), 3) := by decide +kernel
theorem dX12_timesIn_65 : decode cX12_timesIn 65 = .ok (.goto (-61), 3) := by decide +kernel
theorem dX12_timesIn_68 : decode cX12_timesIn 68 = .ok (.return_, 1) := by decide +kernel
theorem dX12_clearMade_0 : decode cX12_clearMade 0 = .ok (.iconst 0, 1) := by decide +kernel
theorem dX12_clearMade_1 : decode cX12_clearMade 1 = .ok (.istore_n 1, 1) := by decide +kernel
theorem dX12_clearMade_2 : decode cX12_clearMade 2 = .ok (.iload_n 1, 1) := by decide +kernel
theorem dX12_clearMade_3 : decode cX12_clearMade 3 = .ok (.bipush 9, 2) := by decide +kernel
theorem dX12_clearMade_5 : decode cX12_clearMade 5 = .ok (.if_icmp .ge 16, 3) := by decide +kernel
theorem dX12_clearMade_8 : decode cX12_clearMade 8 = .ok (.aload_n 0, 1) := by decide +kernel
theorem dX12_clearMade_9 : decode cX12_clearMade 9 = .ok (.getfield 54, 3) := by decide +kernel
theorem dX12_clearMade_12 : decode cX12_clearMade 12 = .ok (.iload_n 1, 1) := by decide +kernel
theorem dX12_clearMade_13 : decode cX12_clearMade 13 = .ok (.lconst 0, 1) := by decide +kernel
theorem dX12_clearMade_14 : decode cX12_clearMade 14 = .ok (.lastore, 1) := by decide +kernel
theorem dX12_clearMade_15 : decode cX12_clearMade 15 = .ok (.iinc 1 1, 3) := by decide +kernel
theorem dX12_clearMade_18 : decode cX12_clearMade 18 = .ok (.goto (-16), 3) := by decide +kernel
theorem dX12_clearMade_21 : decode cX12_clearMade 21 = .ok (.return_, 1) := by decide +kernel
theorem dX12_findFalling_0 : decode cX12_findFalling 0 = .ok (.iconst 0, 1) := by decide +kernel
theorem dX12_findFalling_1 : decode cX12_findFalling 1 = .ok (.istore_n 2, 1) := by decide +kernel
theorem dX12_findFalling_2 : decode cX12_findFalling 2 = .ok (.iload_n 2, 1) := by decide +kernel
theorem dX12_findFalling_3 : decode cX12_findFalling 3 = .ok (.bipush 9, 2) := by decide +kernel
theorem dX12_findFalling_5 : decode cX12_findFalling 5 = .ok (.if_icmp .ge 16, 3) := by decide +kernel
theorem dX12_findFalling_8 : decode cX12_findFalling 8 = .ok (.aload_n 0, 1) := by decide +kernel
theorem dX12_findFalling_9 : decode cX12_findFalling 9 = .ok (.getfield 51, 3) := by decide +kernel
theorem dX12_findFalling_12 : decode cX12_findFalling 12 = .ok (.iload_n 2, 1) := by decide +kernel
theorem dX12_findFalling_13 : decode cX12_findFalling 13 = .ok (.lconst 0, 1) := by decide +kernel
theorem dX12_findFalling_14 : decode cX12_findFalling 14 = .ok (.lastore, 1) := by decide +kernel
theorem dX12_findFalling_15 : decode cX12_findFalling 15 = .ok (.iinc 2 1, 3) := by decide +kernel
theorem dX12_findFalling_18 : decode cX12_findFalling 18 = .ok (.goto (-16), 3) := by decide +kernel
theorem dX12_findFalling_21 : decode cX12_findFalling 21 = .ok (.aload_n 0, 1) := by decide +kernel
theorem dX12_findFalling_22 : decode cX12_findFalling 22 = .ok (.getfield 45, 3) := by decide +kernel
theorem dX12_findFalling_25 : decode cX12_findFalling 25 = .ok (.iload_n 1, 1) := by decide +kernel
theorem dX12_findFalling_26 : decode cX12_findFalling 26 = .ok (.iaload, 1) := by decide +kernel
theorem dX12_findFalling_27 : decode cX12_findFalling 27 = .ok (.iconst 1, 1) := by decide +kernel
theorem dX12_findFalling_28 : decode cX12_findFalling 28 = .ok (.if_icmp .eq 13, 3) := by decide +kernel
theorem dX12_findFalling_31 : decode cX12_findFalling 31 = .ok (.aload_n 0, 1) := by decide +kernel
theorem dX12_findFalling_32 : decode cX12_findFalling 32 = .ok (.getfield 45, 3) := by decide +kernel
theorem dX12_findFalling_35 : decode cX12_findFalling 35 = .ok (.iload_n 1, 1) := by decide +kernel
theorem dX12_findFalling_36 : decode cX12_findFalling 36 = .ok (.iaload, 1) := by decide +kernel
theorem dX12_findFalling_37 : decode cX12_findFalling 37 = .ok (.iconst 3, 1) := by decide +kernel
theorem dX12_findFalling_38 : decode cX12_findFalling 38 = .ok (.if_icmp .ne 60, 3) := by decide +kernel
theorem dX12_findFalling_41 : decode cX12_findFalling 41 = .ok (.iconst 0, 1) := by decide +kernel
theorem dX12_findFalling_42 : decode cX12_findFalling 42 = .ok (.istore_n 2, 1) := by decide +kernel
theorem dX12_findFalling_43 : decode cX12_findFalling 43 = .ok (.iload_n 2, 1) := by decide +kernel
theorem dX12_findFalling_44 : decode cX12_findFalling 44 = .ok (.bipush 9, 2) := by decide +kernel
theorem dX12_findFalling_46 : decode cX12_findFalling 46 = .ok (.if_icmp .ge 51, 3) := by decide +kernel
theorem dX12_findFalling_49 : decode cX12_findFalling 49 = .ok (.aload_n 0, 1) := by decide +kernel
theorem dX12_findFalling_50 : decode cX12_findFalling 50 = .ok (.getfield 51, 3) := by decide +kernel
theorem dX12_findFalling_53 : decode cX12_findFalling 53 = .ok (.iload_n 2, 1) := by decide +kernel
theorem dX12_findFalling_54 : decode cX12_findFalling 54 = .ok (.aload_n 0, 1) := by decide +kernel
theorem dX12_findFalling_55 : decode cX12_findFalling 55 = .ok (.getfield 48, 3) := by decide +kernel
theorem dX12_findFalling_58 : decode cX12_findFalling 58 = .ok (.bipush 9, 2) := by decide +kernel
theorem dX12_findFalling_60 : decode cX12_findFalling 60 = .ok (.iload_n 1, 1) := by decide +kernel
theorem dX12_findFalling_61 : decode cX12_findFalling 61 = .ok (.imul, 1) := by decide +kernel
theorem dX12_findFalling_62 : decode cX12_findFalling 62 = .ok (.iload_n 2, 1) := by decide +kernel
theorem dX12_findFalling_63 : decode cX12_findFalling 63 = .ok (.iadd, 1) := by decide +kernel
theorem dX12_findFalling_64 : decode cX12_findFalling 64 = .ok (.laload, 1) := by decide +kernel
theorem dX12_findFalling_65 : decode cX12_findFalling 65 = .ok (.aload_n 0, 1) := by decide +kernel
theorem dX12_findFalling_66 : decode cX12_findFalling 66 = .ok (.getfield 45, 3) := by decide +kernel
theorem dX12_findFalling_69 : decode cX12_findFalling 69 = .ok (.iload_n 1, 1) := by decide +kernel
theorem dX12_findFalling_70 : decode cX12_findFalling 70 = .ok (.iaload, 1) := by decide +kernel
theorem dX12_findFalling_71 : decode cX12_findFalling 71 = .ok (.iconst 1, 1) := by decide +kernel
theorem dX12_findFalling_72 : decode cX12_findFalling 72 = .ok (.if_icmp .ne 9, 3) := by decide +kernel
theorem dX12_findFalling_75 : decode cX12_findFalling 75 = .ok (.ldc2_w 204, 3) := by decide +kernel
theorem dX12_findFalling_78 : decode cX12_findFalling 78 = .ok (.goto 11, 3) := by decide +kernel
theorem dX12_findFalling_81 : decode cX12_findFalling 81 = .ok (.ldc2_w 204, 3) := by decide +kernel
theorem dX12_findFalling_84 : decode cX12_findFalling 84 = .ok (.iload_n 2, 1) := by decide +kernel
theorem dX12_findFalling_85 : decode cX12_findFalling 85 = .ok (.invokestatic 206, 3) := by decide +kernel
theorem dX12_findFalling_88 : decode cX12_findFalling 88 = .ok (.ldiv, 1) := by decide +kernel
theorem dX12_findFalling_89 : decode cX12_findFalling 89 = .ok (.lmul, 1) := by decide +kernel
theorem dX12_findFalling_90 : decode cX12_findFalling 90 = .ok (.lastore, 1) := by decide +kernel
theorem dX12_findFalling_91 : decode cX12_findFalling 91 = .ok (.iinc 2 1, 3) := by decide +kernel
theorem dX12_findFalling_94 : decode cX12_findFalling 94 = .ok (.goto (-51), 3) := by decide +kernel
theorem dX12_findFalling_97 : decode cX12_findFalling 97 = .ok (.return_, 1) := by decide +kernel
theorem dX12_findFalling_98 : decode cX12_findFalling 98 = .ok (.aload_n 0, 1) := by decide +kernel
theorem dX12_findFalling_99 : decode cX12_findFalling 99 = .ok (.invokevirtual 210, 3) := by decide +kernel
theorem dX12_findFalling_102 : decode cX12_findFalling 102 = .ok (.bipush 8, 2) := by decide +kernel
theorem dX12_findFalling_104 : decode cX12_findFalling 104 = .ok (.istore_n 2, 1) := by decide +kernel
theorem dX12_findFalling_105 : decode cX12_findFalling 105 = .ok (.iload_n 2, 1) := by decide +kernel
theorem dX12_findFalling_106 : decode cX12_findFalling 106 = .ok (.ifCond .lt 49, 3) := by decide +kernel
theorem dX12_findFalling_109 : decode cX12_findFalling 109 = .ok (.aload_n 0, 1) := by decide +kernel
theorem dX12_findFalling_110 : decode cX12_findFalling 110 = .ok (.aload_n 0, 1) := by decide +kernel
theorem dX12_findFalling_111 : decode cX12_findFalling 111 = .ok (.getfield 45, 3) := by decide +kernel
theorem dX12_findFalling_114 : decode cX12_findFalling 114 = .ok (.iload_n 1, 1) := by decide +kernel
theorem dX12_findFalling_115 : decode cX12_findFalling 115 = .ok (.iaload, 1) := by decide +kernel
theorem dX12_findFalling_116 : decode cX12_findFalling 116 = .ok (.ifCond .ne 7, 3) := by decide +kernel
theorem dX12_findFalling_119 : decode cX12_findFalling 119 = .ok (.lconst 0, 1) := by decide +kernel
theorem dX12_findFalling_120 : decode cX12_findFalling 120 = .ok (.goto 6, 3) := by decide +kernel
theorem dX12_findFalling_123 : decode cX12_findFalling 123 = .ok (.iload_n 2, 1) := by decide +kernel
theorem dX12_findFalling_124 : decode cX12_findFalling 124 = .ok (.ineg, 1) := by decide +kernel
theorem dX12_findFalling_125 : decode cX12_findFalling 125 = .ok (.i2l, 1) := by decide +kernel
theorem dX12_findFalling_126 : decode cX12_findFalling 126 = .ok (.invokevirtual 213, 3) := by decide +kernel
theorem dX12_findFalling_129 : decode cX12_findFalling 129 = .ok (.aload_n 0, 1) := by decide +kernel
theorem dX12_findFalling_130 : decode cX12_findFalling 130 = .ok (.getfield 54, 3) := by decide +kernel
theorem dX12_findFalling_133 : decode cX12_findFalling 133 = .ok (.iconst 0, 1) := by decide +kernel
theorem dX12_findFalling_134 : decode cX12_findFalling 134 = .ok (.dup2, 1) := by decide +kernel
theorem dX12_findFalling_135 : decode cX12_findFalling 135 = .ok (.laload, 1) := by decide +kernel
theorem dX12_findFalling_136 : decode cX12_findFalling 136 = .ok (.aload_n 0, 1) := by decide +kernel
theorem dX12_findFalling_137 : decode cX12_findFalling 137 = .ok (.getfield 48, 3) := by decide +kernel
theorem dX12_findFalling_140 : decode cX12_findFalling 140 = .ok (.bipush 9, 2) := by decide +kernel
theorem dX12_findFalling_142 : decode cX12_findFalling 142 = .ok (.iload_n 1, 1) := by decide +kernel
theorem dX12_findFalling_143 : decode cX12_findFalling 143 = .ok (.imul, 1) := by decide +kernel
theorem dX12_findFalling_144 : decode cX12_findFalling 144 = .ok (.iload_n 2, 1) := by decide +kernel
theorem dX12_findFalling_145 : decode cX12_findFalling 145 = .ok (.iadd, 1) := by decide +kernel
theorem dX12_findFalling_146 : decode cX12_findFalling 146 = .ok (.laload, 1) := by decide +kernel
theorem dX12_findFalling_147 : decode cX12_findFalling 147 = .ok (.ladd, 1) := by decide +kernel
theorem dX12_findFalling_148 : decode cX12_findFalling 148 = .ok (.lastore, 1) := by decide +kernel
theorem dX12_findFalling_149 : decode cX12_findFalling 149 = .ok (.iinc 2 (-1), 3) := by decide +kernel
theorem dX12_findFalling_152 : decode cX12_findFalling 152 = .ok (.goto (-47), 3) := by decide +kernel
theorem dX12_findFalling_155 : decode cX12_findFalling 155 = .ok (.iconst 0, 1) := by decide +kernel
theorem dX12_findFalling_156 : decode cX12_findFalling 156 = .ok (.istore_n 2, 1) := by decide +kernel
theorem dX12_findFalling_157 : decode cX12_findFalling 157 = .ok (.iload_n 2, 1) := by decide +kernel
theorem dX12_findFalling_158 : decode cX12_findFalling 158 = .ok (.bipush 9, 2) := by decide +kernel
theorem dX12_findFalling_160 : decode cX12_findFalling 160 = .ok (.if_icmp .ge 25, 3) := by decide +kernel
theorem dX12_findFalling_163 : decode cX12_findFalling 163 = .ok (.aload_n 0, 1) := by decide +kernel
theorem dX12_findFalling_164 : decode cX12_findFalling 164 = .ok (.getfield 51, 3) := by decide +kernel
theorem dX12_findFalling_167 : decode cX12_findFalling 167 = .ok (.iload_n 2, 1) := by decide +kernel
theorem dX12_findFalling_168 : decode cX12_findFalling 168 = .ok (.aload_n 0, 1) := by decide +kernel
theorem dX12_findFalling_169 : decode cX12_findFalling 169 = .ok (.getfield 54, 3) := by decide +kernel
theorem dX12_findFalling_172 : decode cX12_findFalling 172 = .ok (.iload_n 2, 1) := by decide +kernel
theorem dX12_findFalling_173 : decode cX12_findFalling 173 = .ok (.laload, 1) := by decide +kernel
theorem dX12_findFalling_174 : decode cX12_findFalling 174 = .ok (.ldc2_w 204, 3) := by decide +kernel
theorem dX12_findFalling_177 : decode cX12_findFalling 177 = .ok (.lmul, 1) := by decide +kernel
theorem dX12_findFalling_178 : decode cX12_findFalling 178 = .ok (.lastore, 1) := by decide +kernel
theorem dX12_findFalling_179 : decode cX12_findFalling 179 = .ok (.iinc 2 1, 3) := by decide +kernel
theorem dX12_findFalling_182 : decode cX12_findFalling 182 = .ok (.goto (-25), 3) := by decide +kernel
theorem dX12_findFalling_185 : decode cX12_findFalling 185 = .ok (.return_, 1) := by decide +kernel
theorem dX12_areMade_0 : decode cX12_areMade 0 = .ok (.aload_n 0, 1) := by decide +kernel
theorem dX12_areMade_1 : decode cX12_areMade 1 = .ok (.iload_n 1, 1) := by decide +kernel
theorem dX12_areMade_2 : decode cX12_areMade 2 = .ok (.invokevirtual 217, 3) := by decide +kernel
theorem dX12_areMade_5 : decode cX12_areMade 5 = .ok (.aload_n 0, 1) := by decide +kernel
theorem dX12_areMade_6 : decode cX12_areMade 6 = .ok (.invokevirtual 210, 3) := by decide +kernel
theorem dX12_areMade_9 : decode cX12_areMade 9 = .ok (.iload_n 2, 1) := by decide +kernel
theorem dX12_areMade_10 : decode cX12_areMade 10 = .ok (.iconst 1, 1) := by decide +kernel
theorem dX12_areMade_11 : decode cX12_areMade 11 = .ok (.if_icmp .eq 8, 3) := by decide +kernel
theorem dX12_areMade_14 : decode cX12_areMade 14 = .ok (.iload_n 2, 1) := by decide +kernel
theorem dX12_areMade_15 : decode cX12_areMade 15 = .ok (.iconst 3, 1) := by decide +kernel
theorem dX12_areMade_16 : decode cX12_areMade 16 = .ok (.if_icmp .ne 32, 3) := by decide +kernel
theorem dX12_areMade_19 : decode cX12_areMade 19 = .ok (.iconst 0, 1) := by decide +kernel
theorem dX12_areMade_20 : decode cX12_areMade 20 = .ok (.istore_n 3, 1) := by decide +kernel
theorem dX12_areMade_21 : decode cX12_areMade 21 = .ok (.iload_n 3, 1) := by decide +kernel
theorem dX12_areMade_22 : decode cX12_areMade 22 = .ok (.bipush 9, 2) := by decide +kernel
theorem dX12_areMade_24 : decode cX12_areMade 24 = .ok (.if_icmp .ge 21, 3) := by decide +kernel
theorem dX12_areMade_27 : decode cX12_areMade 27 = .ok (.aload_n 0, 1) := by decide +kernel
theorem dX12_areMade_28 : decode cX12_areMade 28 = .ok (.getfield 54, 3) := by decide +kernel
theorem dX12_areMade_31 : decode cX12_areMade 31 = .ok (.iload_n 3, 1) := by decide +kernel
theorem dX12_areMade_32 : decode cX12_areMade 32 = .ok (.aload_n 0, 1) := by decide +kernel
theorem dX12_areMade_33 : decode cX12_areMade 33 = .ok (.getfield 51, 3) := by decide +kernel
theorem dX12_areMade_36 : decode cX12_areMade 36 = .ok (.iload_n 3, 1) := by decide +kernel
theorem dX12_areMade_37 : decode cX12_areMade 37 = .ok (.laload, 1) := by decide +kernel
theorem dX12_areMade_38 : decode cX12_areMade 38 = .ok (.lastore, 1) := by decide +kernel
theorem dX12_areMade_39 : decode cX12_areMade 39 = .ok (.iinc 3 1, 3) := by decide +kernel
theorem dX12_areMade_42 : decode cX12_areMade 42 = .ok (.goto (-21), 3) := by decide +kernel
theorem dX12_areMade_45 : decode cX12_areMade 45 = .ok (.goto 38, 3) := by decide +kernel
theorem dX12_areMade_48 : decode cX12_areMade 48 = .ok (.bipush 8, 2) := by decide +kernel
theorem dX12_areMade_50 : decode cX12_areMade 50 = .ok (.istore_n 3, 1) := by decide +kernel
theorem dX12_areMade_51 : decode cX12_areMade 51 = .ok (.iload_n 3, 1) := by decide +kernel
theorem dX12_areMade_52 : decode cX12_areMade 52 = .ok (.ifCond .lt 31, 3) := by decide +kernel
theorem dX12_areMade_55 : decode cX12_areMade 55 = .ok (.aload_n 0, 1) := by decide +kernel
theorem dX12_areMade_56 : decode cX12_areMade 56 = .ok (.iload_n 2, 1) := by decide +kernel
theorem dX12_areMade_57 : decode cX12_areMade 57 = .ok (.iload_n 3, 1) := by decide +kernel
theorem dX12_areMade_58 : decode cX12_areMade 58 = .ok (.i2l, 1) := by decide +kernel
theorem dX12_areMade_59 : decode cX12_areMade 59 = .ok (.invokevirtual 220, 3) := by decide +kernel
theorem dX12_areMade_62 : decode cX12_areMade 62 = .ok (.aload_n 0, 1) := by decide +kernel
theorem dX12_areMade_63 : decode cX12_areMade 63 = .ok (.getfield 54, 3) := by decide +kernel
theorem dX12_areMade_66 : decode cX12_areMade 66 = .ok (.iconst 0, 1) := by decide +kernel
theorem dX12_areMade_67 : decode cX12_areMade 67 = .ok (.dup2, 1) := by decide +kernel
theorem dX12_areMade_68 : decode cX12_areMade 68 = .ok (.laload, 1) := by decide +kernel
theorem dX12_areMade_69 : decode cX12_areMade 69 = .ok (.aload_n 0, 1) := by decide +kernel
theorem dX12_areMade_70 : decode cX12_areMade 70 = .ok (.getfield 51, 3) := by decide +kernel
theorem dX12_areMade_73 : decode cX12_areMade 73 = .ok (.iload_n 3, 1) := by decide +kernel
theorem dX12_areMade_74 : decode cX12_areMade 74 = .ok (.laload, 1) := by decide +kernel
theorem dX12_areMade_75 : decode cX12_areMade 75 = .ok (.ladd, 1) := by decide +kernel
theorem dX12_areMade_76 : decode cX12_areMade 76 = .ok (.lastore, 1) := by decide +kernel
theorem dX12_areMade_77 : decode cX12_areMade 77 = .ok (.iinc 3 (-1), 3) := by decide +kernel
theorem dX12_areMade_80 : decode cX12_areMade 80 = .ok (.goto (-29), 3) := by decide +kernel
theorem dX12_areMade_83 : decode cX12_areMade 83 = .ok (.iconst 1, 1) := by decide +kernel
theorem dX12_areMade_84 : decode cX12_areMade 84 = .ok (.istore_n 3, 1) := by decide +kernel
theorem dX12_areMade_85 : decode cX12_areMade 85 = .ok (.iconst 0, 1) := by decide +kernel
theorem dX12_areMade_86 : decode cX12_areMade 86 = .ok (.istore 4, 2) := by decide +kernel
theorem dX12_areMade_88 : decode cX12_areMade 88 = .ok (.iload 4, 2) := by decide +kernel
theorem dX12_areMade_90 : decode cX12_areMade 90 = .ok (.bipush 9, 2) := by decide +kernel
theorem dX12_areMade_92 : decode cX12_areMade 92 = .ok (.if_icmp .ge 102, 3) := by decide +kernel
theorem dX12_areMade_95 : decode cX12_areMade 95 = .ok (.iload_n 2, 1) := by decide +kernel
theorem dX12_areMade_96 : decode cX12_areMade 96 = .ok (.iconst 3, 1) := by decide +kernel
theorem dX12_areMade_97 : decode cX12_areMade 97 = .ok (.if_icmp .ne 15, 3) := by decide +kernel
theorem dX12_areMade_100 : decode cX12_areMade 100 = .ok (.ldc2_w 204, 3) := by decide +kernel
theorem dX12_areMade_103 : decode cX12_areMade 103 = .ok (.iload 4, 2) := by decide +kernel
theorem dX12_areMade_105 : decode cX12_areMade 105 = .ok (.invokestatic 206, 3) := by decide +kernel
theorem dX12_areMade_108 : decode cX12_areMade 108 = .ok (.ldiv, 1) := by decide +kernel
theorem dX12_areMade_109 : decode cX12_areMade 109 = .ok (.goto 6, 3) := by decide +kernel
theorem dX12_areMade_112 : decode cX12_areMade 112 = .ok (.ldc2_w 204, 3) := by decide +kernel
theorem dX12_areMade_115 : decode cX12_areMade 115 = .ok (.lstore 5, 2) := by decide +kernel
theorem dX12_areMade_117 : decode cX12_areMade 117 = .ok (.iload_n 3, 1) := by decide +kernel
theorem dX12_areMade_118 : decode cX12_areMade 118 = .ok (.ifCond .eq 22, 3) := by decide +kernel
theorem dX12_areMade_121 : decode cX12_areMade 121 = .ok (.aload_n 0, 1) := by decide +kernel
theorem dX12_areMade_122 : decode cX12_areMade 122 = .ok (.getfield 54, 3) := by decide +kernel
theorem dX12_areMade_125 : decode cX12_areMade 125 = .ok (.iload 4, 2) := by decide +kernel
theorem dX12_areMade_127 : decode cX12_areMade 127 = .ok (.laload, 1) := by decide +kernel
theorem dX12_areMade_128 : decode cX12_areMade 128 = .ok (.lload 5, 2) := by decide +kernel
theorem dX12_areMade_130 : decode cX12_areMade 130 = .ok (.lrem, 1) := by decide +kernel
theorem dX12_areMade_131 : decode cX12_areMade 131 = .ok (.lconst 0, 1) := by decide +kernel
theorem dX12_areMade_132 : decode cX12_areMade 132 = .ok (.lcmp, 1) := by decide +kernel
theorem dX12_areMade_133 : decode cX12_areMade 133 = .ok (.ifCond .ne 7, 3) := by decide +kernel
theorem dX12_areMade_136 : decode cX12_areMade 136 = .ok (.iconst 1, 1) := by decide +kernel
theorem dX12_areMade_137 : decode cX12_areMade 137 = .ok (.goto 4, 3) := by decide +kernel
theorem dX12_areMade_140 : decode cX12_areMade 140 = .ok (.iconst 0, 1) := by decide +kernel
theorem dX12_areMade_141 : decode cX12_areMade 141 = .ok (.istore_n 3, 1) := by decide +kernel
theorem dX12_areMade_142 : decode cX12_areMade 142 = .ok (.aload_n 0, 1) := by decide +kernel
theorem dX12_areMade_143 : decode cX12_areMade 143 = .ok (.getfield 54, 3) := by decide +kernel
theorem dX12_areMade_146 : decode cX12_areMade 146 = .ok (.iload 4, 2) := by decide +kernel
theorem dX12_areMade_148 : decode cX12_areMade 148 = .ok (.aload_n 0, 1) := by decide +kernel
theorem dX12_areMade_149 : decode cX12_areMade 149 = .ok (.getfield 54, 3) := by decide +kernel
theorem dX12_areMade_152 : decode cX12_areMade 152 = .ok (.iload 4, 2) := by decide +kernel
theorem dX12_areMade_154 : decode cX12_areMade 154 = .ok (.laload, 1) := by decide +kernel
theorem dX12_areMade_155 : decode cX12_areMade 155 = .ok (.lload 5, 2) := by decide +kernel
theorem dX12_areMade_157 : decode cX12_areMade 157 = .ok (.ldiv, 1) := by decide +kernel
theorem dX12_areMade_158 : decode cX12_areMade 158 = .ok (.lastore, 1) := by decide +kernel
theorem dX12_areMade_159 : decode cX12_areMade 159 = .ok (.iload_n 3, 1) := by decide +kernel
theorem dX12_areMade_160 : decode cX12_areMade 160 = .ok (.ifCond .eq 26, 3) := by decide +kernel
theorem dX12_areMade_163 : decode cX12_areMade 163 = .ok (.aload_n 0, 1) := by decide +kernel
theorem dX12_areMade_164 : decode cX12_areMade 164 = .ok (.getfield 54, 3) := by decide +kernel
theorem dX12_areMade_167 : decode cX12_areMade 167 = .ok (.iload 4, 2) := by decide +kernel
theorem dX12_areMade_169 : decode cX12_areMade 169 = .ok (.laload, 1) := by decide +kernel
theorem dX12_areMade_170 : decode cX12_areMade 170 = .ok (.ldc2_w 197, 3) := by decide +kernel
theorem dX12_areMade_173 : decode cX12_areMade 173 = .ok (.ldc2_w 199, 3) := by decide +kernel
theorem dX12_areMade_176 : decode cX12_areMade 176 = .ok (.invokestatic 62, 3) := by decide +kernel
theorem dX12_areMade_179 : decode cX12_areMade 179 = .ok (.ifCond .eq 7, 3) := by decide +kernel
theorem dX12_areMade_182 : decode cX12_areMade 182 = .ok (.iconst 1, 1) := by decide +kernel
theorem dX12_areMade_183 : decode cX12_areMade 183 = .ok (.goto 4, 3) := by decide +kernel
theorem dX12_areMade_186 : decode cX12_areMade 186 = .ok (.iconst 0, 1) := by decide +kernel
theorem dX12_areMade_187 : decode cX12_areMade 187 = .ok (.istore_n 3, 1) := by decide +kernel
theorem dX12_areMade_188 : decode cX12_areMade 188 = .ok (.iinc 4 1, 3) := by decide +kernel
theorem dX12_areMade_191 : decode cX12_areMade 191 = .ok (.goto (-103), 3) := by decide +kernel
theorem dX12_areMade_194 : decode cX12_areMade 194 = .ok (.iload_n 3, 1) := by decide +kernel
theorem dX12_areMade_195 : decode cX12_areMade 195 = .ok (.ireturn, 1) := by decide +kernel
theorem dX12_turn_0 : decode cX12_turn 0 = .ok (.iload_n 1, 1) := by decide +kernel
theorem dX12_turn_1 : decode cX12_turn 1 = .ok (.invokestatic 194, 3) := by decide +kernel
theorem dX12_turn_4 : decode cX12_turn 4 = .ok (.ifCond .eq 15, 3) := by decide +kernel
theorem dX12_turn_7 : decode cX12_turn 7 = .ok (.iload_n 2, 1) := by decide +kernel
theorem dX12_turn_8 : decode cX12_turn 8 = .ok (.i2l, 1) := by decide +kernel
theorem dX12_turn_9 : decode cX12_turn 9 = .ok (.lconst 0, 1) := by decide +kernel
theorem dX12_turn_10 : decode cX12_turn 10 = .ok (.ldc2_w 98, 3) := by decide +kernel
theorem dX12_turn_13 : decode cX12_turn 13 = .ok (.invokestatic 62, 3) := by decide +kernel
theorem dX12_turn_16 : decode cX12_turn 16 = .ok (.ifCond .ne 5, 3) := by decide +kernel
theorem dX12_turn_19 : decode cX12_turn 19 = .ok (.iconst (-1), 1) := by decide +kernel
theorem dX12_turn_20 : decode cX12_turn 20 = .ok (.ireturn, 1) := by decide +kernel
theorem dX12_turn_21 : decode cX12_turn 21 = .ok (.iload_n 2, 1) := by decide +kernel
theorem dX12_turn_22 : decode cX12_turn 22 = .ok (.aload_n 0, 1) := by decide +kernel
theorem dX12_turn_23 : decode cX12_turn 23 = .ok (.getfield 45, 3) := by decide +kernel
theorem dX12_turn_26 : decode cX12_turn 26 = .ok (.iload_n 1, 1) := by decide +kernel
theorem dX12_turn_27 : decode cX12_turn 27 = .ok (.iaload, 1) := by decide +kernel
theorem dX12_turn_28 : decode cX12_turn 28 = .ok (.if_icmp .eq 53, 3) := by decide +kernel
theorem dX12_turn_31 : decode cX12_turn 31 = .ok (.aload_n 0, 1) := by decide +kernel
theorem dX12_turn_32 : decode cX12_turn 32 = .ok (.iload_n 1, 1) := by decide +kernel
theorem dX12_turn_33 : decode cX12_turn 33 = .ok (.iload_n 2, 1) := by decide +kernel
theorem dX12_turn_34 : decode cX12_turn 34 = .ok (.invokevirtual 224, 3) := by decide +kernel
theorem dX12_turn_37 : decode cX12_turn 37 = .ok (.ifCond .ne 6, 3) := by decide +kernel
theorem dX12_turn_40 : decode cX12_turn 40 = .ok (.bipush (-2), 2) := by decide +kernel
theorem dX12_turn_42 : decode cX12_turn 42 = .ok (.ireturn, 1) := by decide +kernel
theorem dX12_turn_43 : decode cX12_turn 43 = .ok (.aload_n 0, 1) := by decide +kernel
theorem dX12_turn_44 : decode cX12_turn 44 = .ok (.getfield 45, 3) := by decide +kernel
theorem dX12_turn_47 : decode cX12_turn 47 = .ok (.iload_n 1, 1) := by decide +kernel
theorem dX12_turn_48 : decode cX12_turn 48 = .ok (.iload_n 2, 1) := by decide +kernel
theorem dX12_turn_49 : decode cX12_turn 49 = .ok (.iastore, 1) := by decide +kernel
theorem dX12_turn_50 : decode cX12_turn 50 = .ok (.iconst 0, 1) := by decide +kernel
theorem dX12_turn_51 : decode cX12_turn 51 = .ok (.istore_n 3, 1) := by decide +kernel
theorem dX12_turn_52 : decode cX12_turn 52 = .ok (.iload_n 3, 1) := by decide +kernel
theorem dX12_turn_53 : decode cX12_turn 53 = .ok (.bipush 9, 2) := by decide +kernel
theorem dX12_turn_55 : decode cX12_turn 55 = .ok (.if_icmp .ge 26, 3) := by decide +kernel
theorem dX12_turn_58 : decode cX12_turn 58 = .ok (.aload_n 0, 1) := by decide +kernel
theorem dX12_turn_59 : decode cX12_turn 59 = .ok (.getfield 48, 3) := by decide +kernel
theorem dX12_turn_62 : decode cX12_turn 62 = .ok (.bipush 9, 2) := by decide +kernel
theorem dX12_turn_64 : decode cX12_turn 64 = .ok (.iload_n 1, 1) := by decide +kernel
theorem dX12_turn_65 : decode cX12_turn 65 = .ok (.imul, 1) := by decide +kernel
theorem dX12_turn_66 : decode cX12_turn 66 = .ok (.iload_n 3, 1) := by decide +kernel
theorem dX12_turn_67 : decode cX12_turn 67 = .ok (.iadd, 1) := by decide +kernel
theorem dX12_turn_68 : decode cX12_turn 68 = .ok (.aload_n 0, 1) := by decide +kernel
theorem dX12_turn_69 : decode cX12_turn 69 = .ok (.getfield 54, 3) := by decide +kernel
theorem dX12_turn_72 : decode cX12_turn 72 = .ok (.iload_n 3, 1) := by decide +kernel
theorem dX12_turn_73 : decode cX12_turn 73 = .ok (.laload, 1) := by decide +kernel
theorem dX12_turn_74 : decode cX12_turn 74 = .ok (.lastore, 1) := by decide +kernel
theorem dX12_turn_75 : decode cX12_turn 75 = .ok (.iinc 3 1, 3) := by decide +kernel
theorem dX12_turn_78 : decode cX12_turn 78 = .ok (.goto (-26), 3) := by decide +kernel
theorem dX12_turn_81 : decode cX12_turn 81 = .ok (.aload_n 0, 1) := by decide +kernel
theorem dX12_turn_82 : decode cX12_turn 82 = .ok (.iload_n 1, 1) := by decide +kernel
theorem dX12_turn_83 : decode cX12_turn 83 = .ok (.invokevirtual 201, 3) := by decide +kernel
theorem dX12_turn_86 : decode cX12_turn 86 = .ok (.ireturn, 1) := by decide +kernel
theorem dX12_valueAt_0 : decode cX12_valueAt 0 = .ok (.lconst 0, 1) := by decide +kernel
theorem dX12_valueAt_1 : decode cX12_valueAt 1 = .ok (.lstore 4, 2) := by decide +kernel
theorem dX12_valueAt_3 : decode cX12_valueAt 3 = .ok (.lconst 1, 1) := by decide +kernel
theorem dX12_valueAt_4 : decode cX12_valueAt 4 = .ok (.lstore 6, 2) := by decide +kernel
theorem dX12_valueAt_6 : decode cX12_valueAt 6 = .ok (.iconst 0, 1) := by decide +kernel
theorem dX12_valueAt_7 : decode cX12_valueAt 7 = .ok (.istore 8, 2) := by decide +kernel
theorem dX12_valueAt_9 : decode cX12_valueAt 9 = .ok (.iload 8, 2) := by decide +kernel
theorem dX12_valueAt_11 : decode cX12_valueAt 11 = .ok (.bipush 9, 2) := by decide +kernel
theorem dX12_valueAt_13 : decode cX12_valueAt 13 = .ok (.if_icmp .ge 103, 3) := by decide +kernel
theorem dX12_valueAt_16 : decode cX12_valueAt 16 = .ok (.lload 4, 2) := by decide +kernel
theorem dX12_valueAt_18 : decode cX12_valueAt 18 = .ok (.aload_n 0, 1) := by decide +kernel
theorem dX12_valueAt_19 : decode cX12_valueAt 19 = .ok (.getfield 48, 3) := by decide +kernel
theorem dX12_valueAt_22 : decode cX12_valueAt 22 = .ok (.bipush 9, 2) := by decide +kernel
theorem dX12_valueAt_24 : decode cX12_valueAt 24 = .ok (.iload_n 1, 1) := by decide +kernel
theorem dX12_valueAt_25 : decode cX12_valueAt 25 = .ok (.imul, 1) := by decide +kernel
theorem dX12_valueAt_26 : decode cX12_valueAt 26 = .ok (.iload 8, 2) := by decide +kernel
theorem dX12_valueAt_28 : decode cX12_valueAt 28 = .ok (.iadd, 1) := by decide +kernel
theorem dX12_valueAt_29 : decode cX12_valueAt 29 = .ok (.laload, 1) := by decide +kernel
theorem dX12_valueAt_30 : decode cX12_valueAt 30 = .ok (.lload 6, 2) := by decide +kernel
theorem dX12_valueAt_32 : decode cX12_valueAt 32 = .ok (.lmul, 1) := by decide +kernel
theorem dX12_valueAt_33 : decode cX12_valueAt 33 = .ok (.ladd, 1) := by decide +kernel
theorem dX12_valueAt_34 : decode cX12_valueAt 34 = .ok (.lstore 4, 2) := by decide +kernel
theorem dX12_valueAt_36 : decode cX12_valueAt 36 = .ok (.aload_n 0, 1) := by decide +kernel
theorem dX12_valueAt_37 : decode cX12_valueAt 37 = .ok (.getfield 45, 3) := by decide +kernel
theorem dX12_valueAt_40 : decode cX12_valueAt 40 = .ok (.iload_n 1, 1) := by decide +kernel
theorem dX12_valueAt_41 : decode cX12_valueAt 41 = .ok (.iaload, 1) := by decide +kernel
theorem dX12_valueAt_42 : decode cX12_valueAt 42 = .ok (.ifCond .ne 10, 3) := by decide +kernel
theorem dX12_valueAt_45 : decode cX12_valueAt 45 = .ok (.lload 6, 2) := by decide +kernel
theorem dX12_valueAt_47 : decode cX12_valueAt 47 = .ok (.lload_n 2, 1) := by decide +kernel
theorem dX12_valueAt_48 : decode cX12_valueAt 48 = .ok (.lmul, 1) := by decide +kernel
theorem dX12_valueAt_49 : decode cX12_valueAt 49 = .ok (.goto 59, 3) := by decide +kernel
theorem dX12_valueAt_52 : decode cX12_valueAt 52 = .ok (.aload_n 0, 1) := by decide +kernel
theorem dX12_valueAt_53 : decode cX12_valueAt 53 = .ok (.getfield 45, 3) := by decide +kernel
theorem dX12_valueAt_56 : decode cX12_valueAt 56 = .ok (.iload_n 1, 1) := by decide +kernel
theorem dX12_valueAt_57 : decode cX12_valueAt 57 = .ok (.iaload, 1) := by decide +kernel
theorem dX12_valueAt_58 : decode cX12_valueAt 58 = .ok (.iconst 1, 1) := by decide +kernel
theorem dX12_valueAt_59 : decode cX12_valueAt 59 = .ok (.if_icmp .ne 14, 3) := by decide +kernel
theorem dX12_valueAt_62 : decode cX12_valueAt 62 = .ok (.lload 6, 2) := by decide +kernel
theorem dX12_valueAt_64 : decode cX12_valueAt 64 = .ok (.lload_n 2, 1) := by decide +kernel
theorem dX12_valueAt_65 : decode cX12_valueAt 65 = .ok (.iload 8, 2) := by decide +kernel
theorem dX12_valueAt_67 : decode cX12_valueAt 67 = .ok (.i2l, 1) := by decide +kernel
theorem dX12_valueAt_68 : decode cX12_valueAt 68 = .ok (.lsub, 1) := by decide +kernel
theorem dX12_valueAt_69 : decode cX12_valueAt 69 = .ok (.lmul, 1) := by decide +kernel
theorem dX12_valueAt_70 : decode cX12_valueAt 70 = .ok (.goto 38, 3) := by decide +kernel
theorem dX12_valueAt_73 : decode cX12_valueAt 73 = .ok (.aload_n 0, 1) := by decide +kernel
theorem dX12_valueAt_74 : decode cX12_valueAt 74 = .ok (.getfield 45, 3) := by decide +kernel
theorem dX12_valueAt_77 : decode cX12_valueAt 77 = .ok (.iload_n 1, 1) := by decide +kernel
theorem dX12_valueAt_78 : decode cX12_valueAt 78 = .ok (.iaload, 1) := by decide +kernel
theorem dX12_valueAt_79 : decode cX12_valueAt 79 = .ok (.iconst 2, 1) := by decide +kernel
theorem dX12_valueAt_80 : decode cX12_valueAt 80 = .ok (.if_icmp .ne 14, 3) := by decide +kernel
theorem dX12_valueAt_83 : decode cX12_valueAt 83 = .ok (.lload 6, 2) := by decide +kernel
theorem dX12_valueAt_85 : decode cX12_valueAt 85 = .ok (.lload_n 2, 1) := by decide +kernel
theorem dX12_valueAt_86 : decode cX12_valueAt 86 = .ok (.iload 8, 2) := by decide +kernel
theorem dX12_valueAt_88 : decode cX12_valueAt 88 = .ok (.i2l, 1) := by decide +kernel
theorem dX12_valueAt_89 : decode cX12_valueAt 89 = .ok (.ladd, 1) := by decide +kernel
theorem dX12_valueAt_90 : decode cX12_valueAt 90 = .ok (.lmul, 1) := by decide +kernel
theorem dX12_valueAt_91 : decode cX12_valueAt 91 = .ok (.goto 17, 3) := by decide +kernel
theorem dX12_valueAt_94 : decode cX12_valueAt 94 = .ok (.lload 6, 2) := by decide +kernel
theorem dX12_valueAt_96 : decode cX12_valueAt 96 = .ok (.lload_n 2, 1) := by decide +kernel
theorem dX12_valueAt_97 : decode cX12_valueAt 97 = .ok (.iload 8, 2) := by decide +kernel
theorem dX12_valueAt_99 : decode cX12_valueAt 99 = .ok (.i2l, 1) := by decide +kernel
theorem dX12_valueAt_100 : decode cX12_valueAt 100 = .ok (.lsub, 1) := by decide +kernel
theorem dX12_valueAt_101 : decode cX12_valueAt 101 = .ok (.lmul, 1) := by decide +kernel
theorem dX12_valueAt_102 : decode cX12_valueAt 102 = .ok (.iload 8, 2) := by decide +kernel
theorem dX12_valueAt_104 : decode cX12_valueAt 104 = .ok (.iconst 1, 1) := by decide +kernel
theorem dX12_valueAt_105 : decode cX12_valueAt 105 = .ok (.iadd, 1) := by decide +kernel
theorem dX12_valueAt_106 : decode cX12_valueAt 106 = .ok (.i2l, 1) := by decide +kernel
theorem dX12_valueAt_107 : decode cX12_valueAt 107 = .ok (.ldiv, 1) := by decide +kernel
theorem dX12_valueAt_108 : decode cX12_valueAt 108 = .ok (.lstore 6, 2) := by decide +kernel
theorem dX12_valueAt_110 : decode cX12_valueAt 110 = .ok (.iinc 8 1, 3) := by decide +kernel
theorem dX12_valueAt_113 : decode cX12_valueAt 113 = .ok (.goto (-104), 3) := by decide +kernel
theorem dX12_valueAt_116 : decode cX12_valueAt 116 = .ok (.lload 4, 2) := by decide +kernel
theorem dX12_valueAt_118 : decode cX12_valueAt 118 = .ok (.lreturn, 1) := by decide +kernel
theorem dX12_value_0 : decode cX12_value 0 = .ok (.iload_n 1, 1) := by decide +kernel
theorem dX12_value_1 : decode cX12_value 1 = .ok (.invokestatic 194, 3) := by decide +kernel
theorem dX12_value_4 : decode cX12_value 4 = .ok (.ifCond .eq 29, 3) := by decide +kernel
theorem dX12_value_7 : decode cX12_value 7 = .ok (.iload_n 2, 1) := by decide +kernel
theorem dX12_value_8 : decode cX12_value 8 = .ok (.i2l, 1) := by decide +kernel
theorem dX12_value_9 : decode cX12_value 9 = .ok (.ldc2_w 227, 3) := by decide +kernel
theorem dX12_value_12 : decode cX12_value 12 = .ok (.ldc2_w 229, 3) := by decide +kernel
theorem dX12_value_15 : decode cX12_value 15 = .ok (.invokestatic 62, 3) := by decide +kernel
theorem dX12_value_18 : decode cX12_value 18 = .ok (.ifCond .eq 15, 3) := by decide +kernel
theorem dX12_value_21 : decode cX12_value 21 = .ok (.iload_n 3, 1) := by decide +kernel
theorem dX12_value_22 : decode cX12_value 22 = .ok (.i2l, 1) := by decide +kernel
theorem dX12_value_23 : decode cX12_value 23 = .ok (.lconst 0, 1) := by decide +kernel
theorem dX12_value_24 : decode cX12_value 24 = .ok (.ldc2_w 60, 3) := by decide +kernel
theorem dX12_value_27 : decode cX12_value 27 = .ok (.invokestatic 62, 3) := by decide +kernel
theorem dX12_value_30 : decode cX12_value 30 = .ok (.ifCond .ne 7, 3) := by decide +kernel
theorem dX12_value_33 : decode cX12_value 33 = .ok (.ldc2_w 130, 3) := by decide +kernel
theorem dX12_value_36 : decode cX12_value 36 = .ok (.lreturn, 1) := by decide +kernel
theorem dX12_value_37 : decode cX12_value 37 = .ok (.iconst 0, 1) := by decide +kernel
theorem dX12_value_38 : decode cX12_value 38 = .ok (.istore 4, 2) := by decide +kernel
theorem dX12_value_40 : decode cX12_value 40 = .ok (.iload 4, 2) := by decide +kernel
theorem dX12_value_42 : decode cX12_value 42 = .ok (.iload_n 3, 1) := by decide +kernel
theorem dX12_value_43 : decode cX12_value 43 = .ok (.if_icmp .gt 26, 3) := by decide +kernel
theorem dX12_value_46 : decode cX12_value 46 = .ok (.aload_n 0, 1) := by decide +kernel
theorem dX12_value_47 : decode cX12_value 47 = .ok (.getfield 57, 3) := by decide +kernel
theorem dX12_value_50 : decode cX12_value 50 = .ok (.iload 4, 2) := by decide +kernel
theorem dX12_value_52 : decode cX12_value 52 = .ok (.aload_n 0, 1) := by decide +kernel
theorem dX12_value_53 : decode cX12_value 53 = .ok (.iload_n 1, 1) := by decide +kernel
theorem dX12_value_54 : decode cX12_value 54 = .ok (.iload_n 2, 1) := by decide +kernel
theorem dX12_value_55 : decode cX12_value 55 = .ok (.iload 4, 2) := by decide +kernel
theorem dX12_value_57 : decode cX12_value 57 = .ok (.iadd, 1) := by decide +kernel
theorem dX12_value_58 : decode cX12_value 58 = .ok (.i2l, 1) := by decide +kernel
theorem dX12_value_59 : decode cX12_value 59 = .ok (.invokevirtual 231, 3) := by decide +kernel
theorem dX12_value_62 : decode cX12_value 62 = .ok (.lastore, 1) := by decide +kernel
theorem dX12_value_63 : decode cX12_value 63 = .ok (.iinc 4 1, 3) := by decide +kernel
theorem dX12_value_66 : decode cX12_value 66 = .ok (.goto (-26), 3) := by decide +kernel
theorem dX12_value_69 : decode cX12_value 69 = .ok (.iconst 0, 1) := by decide +kernel
theorem dX12_value_70 : decode cX12_value 70 = .ok (.istore 4, 2) := by decide +kernel
theorem dX12_value_72 : decode cX12_value 72 = .ok (.iload 4, 2) := by decide +kernel
theorem dX12_value_74 : decode cX12_value 74 = .ok (.iload_n 3, 1) := by decide +kernel
theorem dX12_value_75 : decode cX12_value 75 = .ok (.if_icmp .ge 51, 3) := by decide +kernel
theorem dX12_value_78 : decode cX12_value 78 = .ok (.iconst 0, 1) := by decide +kernel
theorem dX12_value_79 : decode cX12_value 79 = .ok (.istore 5, 2) := by decide +kernel
theorem dX12_value_81 : decode cX12_value 81 = .ok (.iload 5, 2) := by decide +kernel
theorem dX12_value_83 : decode cX12_value 83 = .ok (.iload_n 3, 1) := by decide +kernel
theorem dX12_value_84 : decode cX12_value 84 = .ok (.iload 4, 2) := by decide +kernel
theorem dX12_value_86 : decode cX12_value 86 = .ok (.isub, 1) := by decide +kernel
theorem dX12_value_87 : decode cX12_value 87 = .ok (.if_icmp .ge 33, 3) := by decide +kernel
theorem dX12_value_90 : decode cX12_value 90 = .ok (.aload_n 0, 1) := by decide +kernel
theorem dX12_value_91 : decode cX12_value 91 = .ok (.getfield 57, 3) := by decide +kernel
theorem dX12_value_94 : decode cX12_value 94 = .ok (.iload 5, 2) := by decide +kernel
theorem dX12_value_96 : decode cX12_value 96 = .ok (.aload_n 0, 1) := by decide +kernel
theorem dX12_value_97 : decode cX12_value 97 = .ok (.getfield 57, 3) := by decide +kernel
theorem dX12_value_100 : decode cX12_value 100 = .ok (.iload 5, 2) := by decide +kernel
theorem dX12_value_102 : decode cX12_value 102 = .ok (.iconst 1, 1) := by decide +kernel
theorem dX12_value_103 : decode cX12_value 103 = .ok (.iadd, 1) := by decide +kernel
theorem dX12_value_104 : decode cX12_value 104 = .ok (.laload, 1) := by decide +kernel
theorem dX12_value_105 : decode cX12_value 105 = .ok (.aload_n 0, 1) := by decide +kernel
theorem dX12_value_106 : decode cX12_value 106 = .ok (.getfield 57, 3) := by decide +kernel
theorem dX12_value_109 : decode cX12_value 109 = .ok (.iload 5, 2) := by decide +kernel
theorem dX12_value_111 : decode cX12_value 111 = .ok (.laload, 1) := by decide +kernel
theorem dX12_value_112 : decode cX12_value 112 = .ok (.lsub, 1) := by decide +kernel
theorem dX12_value_113 : decode cX12_value 113 = .ok (.lastore, 1) := by decide +kernel
theorem dX12_value_114 : decode cX12_value 114 = .ok (.iinc 5 1, 3) := by decide +kernel
theorem dX12_value_117 : decode cX12_value 117 = .ok (.goto (-36), 3) := by decide +kernel
theorem dX12_value_120 : decode cX12_value 120 = .ok (.iinc 4 1, 3) := by decide +kernel
theorem dX12_value_123 : decode cX12_value 123 = .ok (.goto (-51), 3) := by decide +kernel
theorem dX12_value_126 : decode cX12_value 126 = .ok (.aload_n 0, 1) := by decide +kernel
theorem dX12_value_127 : decode cX12_value 127 = .ok (.getfield 57, 3) := by decide +kernel
theorem dX12_value_130 : decode cX12_value 130 = .ok (.iconst 0, 1) := by decide +kernel
theorem dX12_value_131 : decode cX12_value 131 = .ok (.laload, 1) := by decide +kernel
theorem dX12_value_132 : decode cX12_value 132 = .ok (.lreturn, 1) := by decide +kernel
theorem dX12_sumUp_0 : decode cX12_sumUp 0 = .ok (.iload_n 1, 1) := by decide +kernel
theorem dX12_sumUp_1 : decode cX12_sumUp 1 = .ok (.invokestatic 194, 3) := by decide +kernel
theorem dX12_sumUp_4 : decode cX12_sumUp 4 = .ok (.ifCond .ne 5, 3) := by decide +kernel
theorem dX12_sumUp_7 : decode cX12_sumUp 7 = .ok (.iconst (-1), 1) := by decide +kernel
theorem dX12_sumUp_8 : decode cX12_sumUp 8 = .ok (.ireturn, 1) := by decide +kernel
theorem dX12_sumUp_9 : decode cX12_sumUp 9 = .ok (.aload_n 0, 1) := by decide +kernel
theorem dX12_sumUp_10 : decode cX12_sumUp 10 = .ok (.getfield 45, 3) := by decide +kernel
theorem dX12_sumUp_13 : decode cX12_sumUp 13 = .ok (.iload_n 1, 1) := by decide +kernel
theorem dX12_sumUp_14 : decode cX12_sumUp 14 = .ok (.iaload, 1) := by decide +kernel
theorem dX12_sumUp_15 : decode cX12_sumUp 15 = .ok (.iconst 3, 1) := by decide +kernel
theorem dX12_sumUp_16 : decode cX12_sumUp 16 = .ok (.if_icmp .ne 37, 3) := by decide +kernel
theorem dX12_sumUp_19 : decode cX12_sumUp 19 = .ok (.iconst 0, 1) := by decide +kernel
theorem dX12_sumUp_20 : decode cX12_sumUp 20 = .ok (.istore_n 2, 1) := by decide +kernel
theorem dX12_sumUp_21 : decode cX12_sumUp 21 = .ok (.iload_n 2, 1) := by decide +kernel
theorem dX12_sumUp_22 : decode cX12_sumUp 22 = .ok (.bipush 9, 2) := by decide +kernel
theorem dX12_sumUp_24 : decode cX12_sumUp 24 = .ok (.if_icmp .ge 26, 3) := by decide +kernel
theorem dX12_sumUp_27 : decode cX12_sumUp 27 = .ok (.aload_n 0, 1) := by decide +kernel
theorem dX12_sumUp_28 : decode cX12_sumUp 28 = .ok (.getfield 54, 3) := by decide +kernel
theorem dX12_sumUp_31 : decode cX12_sumUp 31 = .ok (.iload_n 2, 1) := by decide +kernel
theorem dX12_sumUp_32 : decode cX12_sumUp 32 = .ok (.aload_n 0, 1) := by decide +kernel
theorem dX12_sumUp_33 : decode cX12_sumUp 33 = .ok (.getfield 48, 3) := by decide +kernel
theorem dX12_sumUp_36 : decode cX12_sumUp 36 = .ok (.bipush 9, 2) := by decide +kernel
theorem dX12_sumUp_38 : decode cX12_sumUp 38 = .ok (.iload_n 1, 1) := by decide +kernel
theorem dX12_sumUp_39 : decode cX12_sumUp 39 = .ok (.imul, 1) := by decide +kernel
theorem dX12_sumUp_40 : decode cX12_sumUp 40 = .ok (.iload_n 2, 1) := by decide +kernel
theorem dX12_sumUp_41 : decode cX12_sumUp 41 = .ok (.iadd, 1) := by decide +kernel
theorem dX12_sumUp_42 : decode cX12_sumUp 42 = .ok (.laload, 1) := by decide +kernel
theorem dX12_sumUp_43 : decode cX12_sumUp 43 = .ok (.lastore, 1) := by decide +kernel
theorem dX12_sumUp_44 : decode cX12_sumUp 44 = .ok (.iinc 2 1, 3) := by decide +kernel
theorem dX12_sumUp_47 : decode cX12_sumUp 47 = .ok (.goto (-26), 3) := by decide +kernel
theorem dX12_sumUp_50 : decode cX12_sumUp 50 = .ok (.goto 15, 3) := by decide +kernel
theorem dX12_sumUp_53 : decode cX12_sumUp 53 = .ok (.aload_n 0, 1) := by decide +kernel
theorem dX12_sumUp_54 : decode cX12_sumUp 54 = .ok (.iload_n 1, 1) := by decide +kernel
theorem dX12_sumUp_55 : decode cX12_sumUp 55 = .ok (.iconst 3, 1) := by decide +kernel
theorem dX12_sumUp_56 : decode cX12_sumUp 56 = .ok (.invokevirtual 224, 3) := by decide +kernel
theorem dX12_sumUp_59 : decode cX12_sumUp 59 = .ok (.ifCond .ne 6, 3) := by decide +kernel
theorem dX12_sumUp_62 : decode cX12_sumUp 62 = .ok (.bipush (-2), 2) := by decide +kernel
theorem dX12_sumUp_64 : decode cX12_sumUp 64 = .ok (.ireturn, 1) := by decide +kernel
theorem dX12_sumUp_65 : decode cX12_sumUp 65 = .ok (.aload_n 0, 1) := by decide +kernel
theorem dX12_sumUp_66 : decode cX12_sumUp 66 = .ok (.getfield 54, 3) := by decide +kernel
theorem dX12_sumUp_69 : decode cX12_sumUp 69 = .ok (.bipush 8, 2) := by decide +kernel
theorem dX12_sumUp_71 : decode cX12_sumUp 71 = .ok (.laload, 1) := by decide +kernel
theorem dX12_sumUp_72 : decode cX12_sumUp 72 = .ok (.lconst 0, 1) := by decide +kernel
theorem dX12_sumUp_73 : decode cX12_sumUp 73 = .ok (.lcmp, 1) := by decide +kernel
theorem dX12_sumUp_74 : decode cX12_sumUp 74 = .ok (.ifCond .eq 6, 3) := by decide +kernel
theorem dX12_sumUp_77 : decode cX12_sumUp 77 = .ok (.bipush (-2), 2) := by decide +kernel
theorem dX12_sumUp_79 : decode cX12_sumUp 79 = .ok (.ireturn, 1) := by decide +kernel
theorem dX12_sumUp_80 : decode cX12_sumUp 80 = .ok (.aload_n 0, 1) := by decide +kernel
theorem dX12_sumUp_81 : decode cX12_sumUp 81 = .ok (.getfield 45, 3) := by decide +kernel
theorem dX12_sumUp_84 : decode cX12_sumUp 84 = .ok (.iload_n 1, 1) := by decide +kernel
theorem dX12_sumUp_85 : decode cX12_sumUp 85 = .ok (.iconst 3, 1) := by decide +kernel
theorem dX12_sumUp_86 : decode cX12_sumUp 86 = .ok (.iastore, 1) := by decide +kernel
theorem dX12_sumUp_87 : decode cX12_sumUp 87 = .ok (.bipush 8, 2) := by decide +kernel
theorem dX12_sumUp_89 : decode cX12_sumUp 89 = .ok (.istore_n 2, 1) := by decide +kernel
theorem dX12_sumUp_90 : decode cX12_sumUp 90 = .ok (.iload_n 2, 1) := by decide +kernel
theorem dX12_sumUp_91 : decode cX12_sumUp 91 = .ok (.ifCond .lt 36, 3) := by decide +kernel
theorem dX12_sumUp_94 : decode cX12_sumUp 94 = .ok (.aload_n 0, 1) := by decide +kernel
theorem dX12_sumUp_95 : decode cX12_sumUp 95 = .ok (.getfield 48, 3) := by decide +kernel
theorem dX12_sumUp_98 : decode cX12_sumUp 98 = .ok (.bipush 9, 2) := by decide +kernel
theorem dX12_sumUp_100 : decode cX12_sumUp 100 = .ok (.iload_n 1, 1) := by decide +kernel
theorem dX12_sumUp_101 : decode cX12_sumUp 101 = .ok (.imul, 1) := by decide +kernel
theorem dX12_sumUp_102 : decode cX12_sumUp 102 = .ok (.iload_n 2, 1) := by decide +kernel
theorem dX12_sumUp_103 : decode cX12_sumUp 103 = .ok (.iadd, 1) := by decide +kernel
theorem dX12_sumUp_104 : decode cX12_sumUp 104 = .ok (.iload_n 2, 1) := by decide +kernel
theorem dX12_sumUp_105 : decode cX12_sumUp 105 = .ok (.ifCond .le 14, 3) := by decide +kernel
theorem dX12_sumUp_108 : decode cX12_sumUp 108 = .ok (.aload_n 0, 1) := by decide +kernel
theorem dX12_sumUp_109 : decode cX12_sumUp 109 = .ok (.getfield 54, 3) := by decide +kernel
theorem dX12_sumUp_112 : decode cX12_sumUp 112 = .ok (.iload_n 2, 1) := by decide +kernel
theorem dX12_sumUp_113 : decode cX12_sumUp 113 = .ok (.iconst 1, 1) := by decide +kernel
theorem dX12_sumUp_114 : decode cX12_sumUp 114 = .ok (.isub, 1) := by decide +kernel
theorem dX12_sumUp_115 : decode cX12_sumUp 115 = .ok (.laload, 1) := by decide +kernel
theorem dX12_sumUp_116 : decode cX12_sumUp 116 = .ok (.goto 4, 3) := by decide +kernel
theorem dX12_sumUp_119 : decode cX12_sumUp 119 = .ok (.lconst 0, 1) := by decide +kernel
theorem dX12_sumUp_120 : decode cX12_sumUp 120 = .ok (.lastore, 1) := by decide +kernel
theorem dX12_sumUp_121 : decode cX12_sumUp 121 = .ok (.iinc 2 (-1), 3) := by decide +kernel
theorem dX12_sumUp_124 : decode cX12_sumUp 124 = .ok (.goto (-34), 3) := by decide +kernel
theorem dX12_sumUp_127 : decode cX12_sumUp 127 = .ok (.aload_n 0, 1) := by decide +kernel
theorem dX12_sumUp_128 : decode cX12_sumUp 128 = .ok (.iload_n 1, 1) := by decide +kernel
theorem dX12_sumUp_129 : decode cX12_sumUp 129 = .ok (.invokevirtual 201, 3) := by decide +kernel
theorem dX12_sumUp_132 : decode cX12_sumUp 132 = .ok (.ireturn, 1) := by decide +kernel
theorem dX12_root_0 : decode cX12_root 0 = .ok (.iload_n 1, 1) := by decide +kernel
theorem dX12_root_1 : decode cX12_root 1 = .ok (.invokestatic 194, 3) := by decide +kernel
theorem dX12_root_4 : decode cX12_root 4 = .ok (.ifCond .eq 8, 3) := by decide +kernel
theorem dX12_root_7 : decode cX12_root 7 = .ok (.iload_n 2, 1) := by decide +kernel
theorem dX12_root_8 : decode cX12_root 8 = .ok (.iconst (-1), 1) := by decide +kernel
theorem dX12_root_9 : decode cX12_root 9 = .ok (.if_icmp .ge 7, 3) := by decide +kernel
theorem dX12_root_12 : decode cX12_root 12 = .ok (.sipush (-1001), 3) := by decide +kernel
theorem dX12_root_15 : decode cX12_root 15 = .ok (.ireturn, 1) := by decide +kernel
theorem dX12_root_16 : decode cX12_root 16 = .ok (.iconst 0, 1) := by decide +kernel
theorem dX12_root_17 : decode cX12_root 17 = .ok (.istore_n 3, 1) := by decide +kernel
theorem dX12_root_18 : decode cX12_root 18 = .ok (.bipush (-20), 2) := by decide +kernel
theorem dX12_root_20 : decode cX12_root 20 = .ok (.istore 4, 2) := by decide +kernel
theorem dX12_root_22 : decode cX12_root 22 = .ok (.iload 4, 2) := by decide +kernel
