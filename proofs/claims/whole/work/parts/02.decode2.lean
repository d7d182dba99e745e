theorem dX10_numberEnd_65 : decode cX10_numberEnd 65 = .ok (.ireturn, 1) := by decide +kernel
theorem dX10_numberFrom_0 : decode cX10_numberFrom 0 = .ok (.aload_n 0, 1) := by decide +kernel
theorem dX10_numberFrom_1 : decode cX10_numberFrom 1 = .ok (.iload_n 1, 1) := by decide +kernel
theorem dX10_numberFrom_2 : decode cX10_numberFrom 2 = .ok (.invokevirtual 23, 3) := by decide +kernel
theorem dX10_numberFrom_5 : decode cX10_numberFrom 5 = .ok (.bipush 45, 2) := by decide +kernel
theorem dX10_numberFrom_7 : decode cX10_numberFrom 7 = .ok (.if_icmp .ne 16, 3) := by decide +kernel
theorem dX10_numberFrom_10 : decode cX10_numberFrom 10 = .ok (.bipush 48, 2) := by decide +kernel
theorem dX10_numberFrom_12 : decode cX10_numberFrom 12 = .ok (.aload_n 0, 1) := by decide +kernel
theorem dX10_numberFrom_13 : decode cX10_numberFrom 13 = .ok (.iload_n 1, 1) := by decide +kernel
theorem dX10_numberFrom_14 : decode cX10_numberFrom 14 = .ok (.iconst 1, 1) := by decide +kernel
theorem dX10_numberFrom_15 : decode cX10_numberFrom 15 = .ok (.iadd, 1) := by decide +kernel
theorem dX10_numberFrom_16 : decode cX10_numberFrom 16 = .ok (.invokevirtual 23, 3) := by decide +kernel
theorem dX10_numberFrom_19 : decode cX10_numberFrom 19 = .ok (.isub, 1) := by decide +kernel
theorem dX10_numberFrom_20 : decode cX10_numberFrom 20 = .ok (.goto 11, 3) := by decide +kernel
theorem dX10_numberFrom_23 : decode cX10_numberFrom 23 = .ok (.aload_n 0, 1) := by decide +kernel
theorem dX10_numberFrom_24 : decode cX10_numberFrom 24 = .ok (.iload_n 1, 1) := by decide +kernel
theorem dX10_numberFrom_25 : decode cX10_numberFrom 25 = .ok (.invokevirtual 23, 3) := by decide +kernel
theorem dX10_numberFrom_28 : decode cX10_numberFrom 28 = .ok (.bipush 48, 2) := by decide +kernel
theorem dX10_numberFrom_30 : decode cX10_numberFrom 30 = .ok (.isub, 1) := by decide +kernel
theorem dX10_numberFrom_31 : decode cX10_numberFrom 31 = .ok (.ireturn, 1) := by decide +kernel
theorem dX10_nextNumber_0 : decode cX10_nextNumber 0 = .ok (.aload_n 0, 1) := by decide +kernel
theorem dX10_nextNumber_1 : decode cX10_nextNumber 1 = .ok (.iload_n 1, 1) := by decide +kernel
theorem dX10_nextNumber_2 : decode cX10_nextNumber 2 = .ok (.invokevirtual 23, 3) := by decide +kernel
theorem dX10_nextNumber_5 : decode cX10_nextNumber 5 = .ok (.bipush 45, 2) := by decide +kernel
theorem dX10_nextNumber_7 : decode cX10_nextNumber 7 = .ok (.if_icmp .ne 9, 3) := by decide +kernel
theorem dX10_nextNumber_10 : decode cX10_nextNumber 10 = .ok (.iload_n 1, 1) := by decide +kernel
theorem dX10_nextNumber_11 : decode cX10_nextNumber 11 = .ok (.iconst 3, 1) := by decide +kernel
theorem dX10_nextNumber_12 : decode cX10_nextNumber 12 = .ok (.iadd, 1) := by decide +kernel
theorem dX10_nextNumber_13 : decode cX10_nextNumber 13 = .ok (.goto 6, 3) := by decide +kernel
theorem dX10_nextNumber_16 : decode cX10_nextNumber 16 = .ok (.iload_n 1, 1) := by decide +kernel
theorem dX10_nextNumber_17 : decode cX10_nextNumber 17 = .ok (.iconst 2, 1) := by decide +kernel
theorem dX10_nextNumber_18 : decode cX10_nextNumber 18 = .ok (.iadd, 1) := by decide +kernel
theorem dX10_nextNumber_19 : decode cX10_nextNumber 19 = .ok (.ireturn, 1) := by decide +kernel
theorem dX11_init_0 : decode cX11_init 0 = .ok (.aload_n 0, 1) := by decide +kernel
theorem dX11_init_1 : decode cX11_init 1 = .ok (.invokespecial 3, 3) := by decide +kernel
theorem dX11_init_4 : decode cX11_init 4 = .ok (.aload_n 0, 1) := by decide +kernel
theorem dX11_init_5 : decode cX11_init 5 = .ok (.new 9, 3) := by decide +kernel
theorem dX11_init_8 : decode cX11_init 8 = .ok (.dup, 1) := by decide +kernel
theorem dX11_init_9 : decode cX11_init 9 = .ok (.invokespecial 11, 3) := by decide +kernel
theorem dX11_init_12 : decode cX11_init 12 = .ok (.putfield 12, 3) := by decide +kernel
theorem dX11_init_15 : decode cX11_init 15 = .ok (.aload_n 0, 1) := by decide +kernel
theorem dX11_init_16 : decode cX11_init 16 = .ok (.iconst 4, 1) := by decide +kernel
theorem dX11_init_17 : decode cX11_init 17 = .ok (.anewarray 16, 3) := by decide +kernel
theorem dX11_init_20 : decode cX11_init 20 = .ok (.putfield 18, 3) := by decide +kernel
theorem dX11_init_23 : decode cX11_init 23 = .ok (.aload_n 0, 1) := by decide +kernel
theorem dX11_init_24 : decode cX11_init 24 = .ok (.new 22, 3) := by decide +kernel
theorem dX11_init_27 : decode cX11_init 27 = .ok (.dup, 1) := by decide +kernel
theorem dX11_init_28 : decode cX11_init 28 = .ok (.invokespecial 24, 3) := by decide +kernel
theorem dX11_init_31 : decode cX11_init 31 = .ok (.putfield 25, 3) := by decide +kernel
theorem dX11_init_34 : decode cX11_init 34 = .ok (.aload_n 0, 1) := by decide +kernel
theorem dX11_init_35 : decode cX11_init 35 = .ok (.new 29, 3) := by decide +kernel
theorem dX11_init_38 : decode cX11_init 38 = .ok (.dup, 1) := by decide +kernel
theorem dX11_init_39 : decode cX11_init 39 = .ok (.invokespecial 31, 3) := by decide +kernel
theorem dX11_init_42 : decode cX11_init 42 = .ok (.putfield 32, 3) := by decide +kernel
theorem dX11_init_45 : decode cX11_init 45 = .ok (.aload_n 0, 1) := by decide +kernel
theorem dX11_init_46 : decode cX11_init 46 = .ok (.iconst 4, 1) := by decide +kernel
theorem dX11_init_47 : decode cX11_init 47 = .ok (.anewarray 36, 3) := by decide +kernel
theorem dX11_init_50 : decode cX11_init 50 = .ok (.putfield 38, 3) := by decide +kernel
theorem dX11_init_53 : decode cX11_init 53 = .ok (.iconst 0, 1) := by decide +kernel
theorem dX11_init_54 : decode cX11_init 54 = .ok (.istore_n 1, 1) := by decide +kernel
theorem dX11_init_55 : decode cX11_init 55 = .ok (.iload_n 1, 1) := by decide +kernel
theorem dX11_init_56 : decode cX11_init 56 = .ok (.iconst 4, 1) := by decide +kernel
theorem dX11_init_57 : decode cX11_init 57 = .ok (.if_icmp .ge 22, 3) := by decide +kernel
theorem dX11_init_60 : decode cX11_init 60 = .ok (.aload_n 0, 1) := by decide +kernel
theorem dX11_init_61 : decode cX11_init 61 = .ok (.getfield 18, 3) := by decide +kernel
theorem dX11_init_64 : decode cX11_init 64 = .ok (.iload_n 1, 1) := by decide +kernel
theorem dX11_init_65 : decode cX11_init 65 = .ok (.new 16, 3) := by decide +kernel
theorem dX11_init_68 : decode cX11_init 68 = .ok (.dup, 1) := by decide +kernel
theorem dX11_init_69 : decode cX11_init 69 = .ok (.invokespecial 42, 3) := by decide +kernel
theorem dX11_init_72 : decode cX11_init 72 = .ok (.aastore, 1) := by decide +kernel
theorem dX11_init_73 : decode cX11_init 73 = .ok (.iinc 1 1, 3) := by decide +kernel
theorem dX11_init_76 : decode cX11_init 76 = .ok (.goto (-21), 3) := by decide +kernel
theorem dX11_init_79 : decode cX11_init 79 = .ok (.iconst 0, 1) := by decide +kernel
theorem dX11_init_80 : decode cX11_init 80 = .ok (.istore_n 1, 1) := by decide +kernel
theorem dX11_init_81 : decode cX11_init 81 = .ok (.iload_n 1, 1) := by decide +kernel
theorem dX11_init_82 : decode cX11_init 82 = .ok (.iconst 4, 1) := by decide +kernel
theorem dX11_init_83 : decode cX11_init 83 = .ok (.if_icmp .ge 22, 3) := by decide +kernel
theorem dX11_init_86 : decode cX11_init 86 = .ok (.aload_n 0, 1) := by decide +kernel
theorem dX11_init_87 : decode cX11_init 87 = .ok (.getfield 38, 3) := by decide +kernel
theorem dX11_init_90 : decode cX11_init 90 = .ok (.iload_n 1, 1) := by decide +kernel
theorem dX11_init_91 : decode cX11_init 91 = .ok (.new 36, 3) := by decide +kernel
theorem dX11_init_94 : decode cX11_init 94 = .ok (.dup, 1) := by decide +kernel
theorem dX11_init_95 : decode cX11_init 95 = .ok (.invokespecial 43, 3) := by decide +kernel
theorem dX11_init_98 : decode cX11_init 98 = .ok (.aastore, 1) := by decide +kernel
theorem dX11_init_99 : decode cX11_init 99 = .ok (.iinc 1 1, 3) := by decide +kernel
theorem dX11_init_102 : decode cX11_init 102 = .ok (.goto (-21), 3) := by decide +kernel
theorem dX11_init_105 : decode cX11_init 105 = .ok (.return_, 1) := by decide +kernel
theorem dX11_write_0 : decode cX11_write 0 = .ok (.iload_n 1, 1) := by decide +kernel
theorem dX11_write_1 : decode cX11_write 1 = .ok (.iconst 1, 1) := by decide +kernel
theorem dX11_write_2 : decode cX11_write 2 = .ok (.bipush 8, 2) := by decide +kernel
theorem dX11_write_4 : decode cX11_write 4 = .ok (.invokestatic 44, 3) := by decide +kernel
theorem dX11_write_7 : decode cX11_write 7 = .ok (.ifCond .ne 5, 3) := by decide +kernel
theorem dX11_write_10 : decode cX11_write 10 = .ok (.iconst (-1), 1) := by decide +kernel
theorem dX11_write_11 : decode cX11_write 11 = .ok (.ireturn, 1) := by decide +kernel
theorem dX11_write_12 : decode cX11_write 12 = .ok (.aload_n 0, 1) := by decide +kernel
theorem dX11_write_13 : decode cX11_write 13 = .ok (.getfield 12, 3) := by decide +kernel
theorem dX11_write_16 : decode cX11_write 16 = .ok (.iload_n 1, 1) := by decide +kernel
theorem dX11_write_17 : decode cX11_write 17 = .ok (.lload_n 2, 1) := by decide +kernel
theorem dX11_write_18 : decode cX11_write 18 = .ok (.invokevirtual 48, 3) := by decide +kernel
theorem dX11_write_21 : decode cX11_write 21 = .ok (.ifCond .eq 13, 3) := by decide +kernel
theorem dX11_write_24 : decode cX11_write 24 = .ok (.aload_n 0, 1) := by decide +kernel
theorem dX11_write_25 : decode cX11_write 25 = .ok (.getfield 12, 3) := by decide +kernel
theorem dX11_write_28 : decode cX11_write 28 = .ok (.invokevirtual 52, 3) := by decide +kernel
theorem dX11_write_31 : decode cX11_write 31 = .ok (.goto 5, 3) := by decide +kernel
theorem dX11_write_34 : decode cX11_write 34 = .ok (.bipush (-3), 2) := by decide +kernel
theorem dX11_write_36 : decode cX11_write 36 = .ok (.ireturn, 1) := by decide +kernel
theorem dX11_wipe_0 : decode cX11_wipe 0 = .ok (.aload_n 0, 1) := by decide +kernel
theorem dX11_wipe_1 : decode cX11_wipe 1 = .ok (.getfield 12, 3) := by decide +kernel
theorem dX11_wipe_4 : decode cX11_wipe 4 = .ok (.invokevirtual 52, 3) := by decide +kernel
theorem dX11_wipe_7 : decode cX11_wipe 7 = .ok (.istore_n 1, 1) := by decide +kernel
theorem dX11_wipe_8 : decode cX11_wipe 8 = .ok (.aload_n 0, 1) := by decide +kernel
theorem dX11_wipe_9 : decode cX11_wipe 9 = .ok (.getfield 12, 3) := by decide +kernel
theorem dX11_wipe_12 : decode cX11_wipe 12 = .ok (.invokevirtual 56, 3) := by decide +kernel
theorem dX11_wipe_15 : decode cX11_wipe 15 = .ok (.iload_n 1, 1) := by decide +kernel
theorem dX11_wipe_16 : decode cX11_wipe 16 = .ok (.ireturn, 1) := by decide +kernel
theorem dX11_fault_0 : decode cX11_fault 0 = .ok (.aload_n 0, 1) := by decide +kernel
theorem dX11_fault_1 : decode cX11_fault 1 = .ok (.getfield 12, 3) := by decide +kernel
theorem dX11_fault_4 : decode cX11_fault 4 = .ok (.invokevirtual 59, 3) := by decide +kernel
theorem dX11_fault_7 : decode cX11_fault 7 = .ok (.ireturn, 1) := by decide +kernel
theorem dX11_lay_0 : decode cX11_lay 0 = .ok (.iload_n 1, 1) := by decide +kernel
theorem dX11_lay_1 : decode cX11_lay 1 = .ok (.invokestatic 62, 3) := by decide +kernel
theorem dX11_lay_4 : decode cX11_lay 4 = .ok (.ifCond .ne 5, 3) := by decide +kernel
theorem dX11_lay_7 : decode cX11_lay 7 = .ok (.iconst (-1), 1) := by decide +kernel
theorem dX11_lay_8 : decode cX11_lay 8 = .ok (.ireturn, 1) := by decide +kernel
theorem dX11_lay_9 : decode cX11_lay 9 = .ok (.aload_n 0, 1) := by decide +kernel
theorem dX11_lay_10 : decode cX11_lay 10 = .ok (.getfield 12, 3) := by decide +kernel
theorem dX11_lay_13 : decode cX11_lay 13 = .ok (.invokevirtual 59, 3) := by decide +kernel
theorem dX11_lay_16 : decode cX11_lay 16 = .ok (.bipush (-4), 2) := by decide +kernel
theorem dX11_lay_18 : decode cX11_lay 18 = .ok (.if_icmp .eq 6, 3) := by decide +kernel
theorem dX11_lay_21 : decode cX11_lay 21 = .ok (.bipush (-2), 2) := by decide +kernel
theorem dX11_lay_23 : decode cX11_lay 23 = .ok (.ireturn, 1) := by decide +kernel
theorem dX11_lay_24 : decode cX11_lay 24 = .ok (.aload_n 0, 1) := by decide +kernel
theorem dX11_lay_25 : decode cX11_lay 25 = .ok (.getfield 18, 3) := by decide +kernel
theorem dX11_lay_28 : decode cX11_lay 28 = .ok (.iload_n 1, 1) := by decide +kernel
theorem dX11_lay_29 : decode cX11_lay 29 = .ok (.aaload, 1) := by decide +kernel
theorem dX11_lay_30 : decode cX11_lay 30 = .ok (.aload_n 0, 1) := by decide +kernel
theorem dX11_lay_31 : decode cX11_lay 31 = .ok (.getfield 12, 3) := by decide +kernel
theorem dX11_lay_34 : decode cX11_lay 34 = .ok (.invokevirtual 66, 3) := by decide +kernel
theorem dX11_lay_37 : decode cX11_lay 37 = .ok (.aload_n 0, 1) := by decide +kernel
theorem dX11_lay_38 : decode cX11_lay 38 = .ok (.getfield 18, 3) := by decide +kernel
theorem dX11_lay_41 : decode cX11_lay 41 = .ok (.iload_n 1, 1) := by decide +kernel
theorem dX11_lay_42 : decode cX11_lay 42 = .ok (.aaload, 1) := by decide +kernel
theorem dX11_lay_43 : decode cX11_lay 43 = .ok (.invokevirtual 70, 3) := by decide +kernel
theorem dX11_lay_46 : decode cX11_lay 46 = .ok (.ireturn, 1) := by decide +kernel
theorem dX11_number_0 : decode cX11_number 0 = .ok (.iload_n 1, 1) := by decide +kernel
theorem dX11_number_1 : decode cX11_number 1 = .ok (.invokestatic 62, 3) := by decide +kernel
theorem dX11_number_4 : decode cX11_number 4 = .ok (.ifCond .eq 13, 3) := by decide +kernel
theorem dX11_number_7 : decode cX11_number 7 = .ok (.iload_n 2, 1) := by decide +kernel
theorem dX11_number_8 : decode cX11_number 8 = .ok (.iload_n 3, 1) := by decide +kernel
theorem dX11_number_9 : decode cX11_number 9 = .ok (.bipush 24, 2) := by decide +kernel
theorem dX11_number_11 : decode cX11_number 11 = .ok (.invokestatic 73, 3) := by decide +kernel
theorem dX11_number_14 : decode cX11_number 14 = .ok (.ifCond .ne 7, 3) := by decide +kernel
theorem dX11_number_17 : decode cX11_number 17 = .ok (.ldc2_w 76, 3) := by decide +kernel
theorem dX11_number_20 : decode cX11_number 20 = .ok (.lreturn, 1) := by decide +kernel
theorem dX11_number_21 : decode cX11_number 21 = .ok (.aload_n 0, 1) := by decide +kernel
theorem dX11_number_22 : decode cX11_number 22 = .ok (.getfield 18, 3) := by decide +kernel
theorem dX11_number_25 : decode cX11_number 25 = .ok (.iload_n 1, 1) := by decide +kernel
theorem dX11_number_26 : decode cX11_number 26 = .ok (.aaload, 1) := by decide +kernel
theorem dX11_number_27 : decode cX11_number 27 = .ok (.iload_n 2, 1) := by decide +kernel
theorem dX11_number_28 : decode cX11_number 28 = .ok (.iload_n 3, 1) := by decide +kernel
theorem dX11_number_29 : decode cX11_number 29 = .ok (.invokevirtual 78, 3) := by decide +kernel
theorem dX11_number_32 : decode cX11_number 32 = .ok (.invokestatic 82, 3) := by decide +kernel
theorem dX11_number_35 : decode cX11_number 35 = .ok (.lreturn, 1) := by decide +kernel
theorem dX11_sum_0 : decode cX11_sum 0 = .ok (.iload_n 1, 1) := by decide +kernel
theorem dX11_sum_1 : decode cX11_sum 1 = .ok (.invokestatic 62, 3) := by decide +kernel
theorem dX11_sum_4 : decode cX11_sum 4 = .ok (.ifCond .eq 22, 3) := by decide +kernel
theorem dX11_sum_7 : decode cX11_sum 7 = .ok (.iload_n 2, 1) := by decide +kernel
theorem dX11_sum_8 : decode cX11_sum 8 = .ok (.iconst 0, 1) := by decide +kernel
theorem dX11_sum_9 : decode cX11_sum 9 = .ok (.bipush 24, 2) := by decide +kernel
theorem dX11_sum_11 : decode cX11_sum 11 = .ok (.invokestatic 44, 3) := by decide +kernel
theorem dX11_sum_14 : decode cX11_sum 14 = .ok (.ifCond .eq 12, 3) := by decide +kernel
theorem dX11_sum_17 : decode cX11_sum 17 = .ok (.iload_n 3, 1) := by decide +kernel
theorem dX11_sum_18 : decode cX11_sum 18 = .ok (.iconst 0, 1) := by decide +kernel
theorem dX11_sum_19 : decode cX11_sum 19 = .ok (.iconst 3, 1) := by decide +kernel
theorem dX11_sum_20 : decode cX11_sum 20 = .ok (.invokestatic 44, 3) := by decide +kernel
theorem dX11_sum_23 : decode cX11_sum 23 = .ok (.ifCond .ne 7, 3) := by decide +kernel
theorem dX11_sum_26 : decode cX11_sum 26 = .ok (.ldc2_w 76, 3) := by decide +kernel
theorem dX11_sum_29 : decode cX11_sum 29 = .ok (.lreturn, 1) := by decide +kernel
theorem dX11_sum_30 : decode cX11_sum 30 = .ok (.iload_n 3, 1) := by decide +kernel
theorem dX11_sum_31 : decode cX11_sum 31 = .ok (.tableswitch 69 0 2 #[25, 40, 55], 25) := by decide +kernel
theorem dX11_sum_56 : decode cX11_sum 56 = .ok (.aload_n 0, 1) := by decide +kernel
theorem dX11_sum_57 : decode cX11_sum 57 = .ok (.getfield 18, 3) := by decide +kernel
theorem dX11_sum_60 : decode cX11_sum 60 = .ok (.iload_n 1, 1) := by decide +kernel
theorem dX11_sum_61 : decode cX11_sum 61 = .ok (.aaload, 1) := by decide +kernel
theorem dX11_sum_62 : decode cX11_sum 62 = .ok (.iload_n 2, 1) := by decide +kernel
theorem dX11_sum_63 : decode cX11_sum 63 = .ok (.iconst 0, 1) := by decide +kernel
theorem dX11_sum_64 : decode cX11_sum 64 = .ok (.invokevirtual 86, 3) := by decide +kernel
theorem dX11_sum_67 : decode cX11_sum 67 = .ok (.invokestatic 82, 3) := by decide +kernel
theorem dX11_sum_70 : decode cX11_sum 70 = .ok (.lreturn, 1) := by decide +kernel
theorem dX11_sum_71 : decode cX11_sum 71 = .ok (.aload_n 0, 1) := by decide +kernel
theorem dX11_sum_72 : decode cX11_sum 72 = .ok (.getfield 18, 3) := by decide +kernel
theorem dX11_sum_75 : decode cX11_sum 75 = .ok (.iload_n 1, 1) := by decide +kernel
theorem dX11_sum_76 : decode cX11_sum 76 = .ok (.aaload, 1) := by decide +kernel
theorem dX11_sum_77 : decode cX11_sum 77 = .ok (.iload_n 2, 1) := by decide +kernel
theorem dX11_sum_78 : decode cX11_sum 78 = .ok (.iconst 1, 1) := by decide +kernel
theorem dX11_sum_79 : decode cX11_sum 79 = .ok (.invokevirtual 86, 3) := by decide +kernel
theorem dX11_sum_82 : decode cX11_sum 82 = .ok (.invokestatic 82, 3) := by decide +kernel
theorem dX11_sum_85 : decode cX11_sum 85 = .ok (.lreturn, 1) := by decide +kernel
theorem dX11_sum_86 : decode cX11_sum 86 = .ok (.aload_n 0, 1) := by decide +kernel
theorem dX11_sum_87 : decode cX11_sum 87 = .ok (.getfield 18, 3) := by decide +kernel
theorem dX11_sum_90 : decode cX11_sum 90 = .ok (.iload_n 1, 1) := by decide +kernel
theorem dX11_sum_91 : decode cX11_sum 91 = .ok (.aaload, 1) := by decide +kernel
theorem dX11_sum_92 : decode cX11_sum 92 = .ok (.iload_n 2, 1) := by decide +kernel
theorem dX11_sum_93 : decode cX11_sum 93 = .ok (.invokevirtual 90, 3) := by decide +kernel
theorem dX11_sum_96 : decode cX11_sum 96 = .ok (.invokestatic 82, 3) := by decide +kernel
theorem dX11_sum_99 : decode cX11_sum 99 = .ok (.lreturn, 1) := by decide +kernel
theorem dX11_sum_100 : decode cX11_sum 100 = .ok (.aload_n 0, 1) := by decide +kernel
theorem dX11_sum_101 : decode cX11_sum 101 = .ok (.getfield 18, 3) := by decide +kernel
theorem dX11_sum_104 : decode cX11_sum 104 = .ok (.iload_n 1, 1) := by decide +kernel
theorem dX11_sum_105 : decode cX11_sum 105 = .ok (.aaload, 1) := by decide +kernel
theorem dX11_sum_106 : decode cX11_sum 106 = .ok (.iload_n 2, 1) := by decide +kernel
theorem dX11_sum_107 : decode cX11_sum 107 = .ok (.invokevirtual 94, 3) := by decide +kernel
theorem dX11_sum_110 : decode cX11_sum 110 = .ok (.invokestatic 82, 3) := by decide +kernel
theorem dX11_sum_113 : decode cX11_sum 113 = .ok (.lreturn, 1) := by decide +kernel
theorem dX11_shape_0 : decode cX11_shape 0 = .ok (.iload_n 1, 1) := by decide +kernel
theorem dX11_shape_1 : decode cX11_shape 1 = .ok (.invokestatic 62, 3) := by decide +kernel
theorem dX11_shape_4 : decode cX11_shape 4 = .ok (.ifCond .eq 22, 3) := by decide +kernel
theorem dX11_shape_7 : decode cX11_shape 7 = .ok (.iload_n 2, 1) := by decide +kernel
theorem dX11_shape_8 : decode cX11_shape 8 = .ok (.iconst 0, 1) := by decide +kernel
theorem dX11_shape_9 : decode cX11_shape 9 = .ok (.bipush 24, 2) := by decide +kernel
theorem dX11_shape_11 : decode cX11_shape 11 = .ok (.invokestatic 44, 3) := by decide +kernel
theorem dX11_shape_14 : decode cX11_shape 14 = .ok (.ifCond .eq 12, 3) := by decide +kernel
theorem dX11_shape_17 : decode cX11_shape 17 = .ok (.iload_n 3, 1) := by decide +kernel
theorem dX11_shape_18 : decode cX11_shape 18 = .ok (.iconst 0, 1) := by decide +kernel
theorem dX11_shape_19 : decode cX11_shape 19 = .ok (.iconst 2, 1) := by decide +kernel
theorem dX11_shape_20 : decode cX11_shape 20 = .ok (.invokestatic 44, 3) := by decide +kernel
theorem dX11_shape_23 : decode cX11_shape 23 = .ok (.ifCond .ne 5, 3) := by decide +kernel
theorem dX11_shape_26 : decode cX11_shape 26 = .ok (.iconst (-1), 1) := by decide +kernel
theorem dX11_shape_27 : decode cX11_shape 27 = .ok (.ireturn, 1) := by decide +kernel
theorem dX11_shape_28 : decode cX11_shape 28 = .ok (.iload_n 3, 1) := by decide +kernel
theorem dX11_shape_29 : decode cX11_shape 29 = .ok (.iconst 2, 1) := by decide +kernel
theorem dX11_shape_30 : decode cX11_shape 30 = .ok (.if_icmp .ne 9, 3) := by decide +kernel
theorem dX11_shape_33 : decode cX11_shape 33 = .ok (.ldc2_w 97, 3) := by decide +kernel
theorem dX11_shape_36 : decode cX11_shape 36 = .ok (.goto 6, 3) := by decide +kernel
theorem dX11_shape_39 : decode cX11_shape 39 = .ok (.ldc2_w 99, 3) := by decide +kernel
theorem dX11_shape_42 : decode cX11_shape 42 = .ok (.lstore 4, 2) := by decide +kernel
theorem dX11_shape_44 : decode cX11_shape 44 = .ok (.aload_n 0, 1) := by decide +kernel
theorem dX11_shape_45 : decode cX11_shape 45 = .ok (.getfield 18, 3) := by decide +kernel
theorem dX11_shape_48 : decode cX11_shape 48 = .ok (.iload_n 1, 1) := by decide +kernel
theorem dX11_shape_49 : decode cX11_shape 49 = .ok (.aaload, 1) := by decide +kernel
theorem dX11_shape_50 : decode cX11_shape 50 = .ok (.iload_n 2, 1) := by decide +kernel
theorem dX11_shape_51 : decode cX11_shape 51 = .ok (.lload 4, 2) := by decide +kernel
theorem dX11_shape_53 : decode cX11_shape 53 = .ok (.invokevirtual 101, 3) := by decide +kernel
theorem dX11_shape_56 : decode cX11_shape 56 = .ok (.ifCond .ne 6, 3) := by decide +kernel
theorem dX11_shape_59 : decode cX11_shape 59 = .ok (.bipush (-2), 2) := by decide +kernel
theorem dX11_shape_61 : decode cX11_shape 61 = .ok (.ireturn, 1) := by decide +kernel
theorem dX11_shape_62 : decode cX11_shape 62 = .ok (.iload_n 3, 1) := by decide +kernel
theorem dX11_shape_63 : decode cX11_shape 63 = .ok (.lookupswitch 47 #[(0, 25), (1, 36)], 25) := by decide +kernel
theorem dX11_shape_88 : decode cX11_shape 88 = .ok (.aload_n 0, 1) := by decide +kernel
theorem dX11_shape_89 : decode cX11_shape 89 = .ok (.getfield 18, 3) := by decide +kernel
theorem dX11_shape_92 : decode cX11_shape 92 = .ok (.iload_n 1, 1) := by decide +kernel
theorem dX11_shape_93 : decode cX11_shape 93 = .ok (.aaload, 1) := by decide +kernel
theorem dX11_shape_94 : decode cX11_shape 94 = .ok (.iload_n 2, 1) := by decide +kernel
theorem dX11_shape_95 : decode cX11_shape 95 = .ok (.invokevirtual 104, 3) := by decide +kernel
theorem dX11_shape_98 : decode cX11_shape 98 = .ok (.ireturn, 1) := by decide +kernel
theorem dX11_shape_99 : decode cX11_shape 99 = .ok (.aload_n 0, 1) := by decide +kernel
theorem dX11_shape_100 : decode cX11_shape 100 = .ok (.getfield 18, 3) := by decide +kernel
theorem dX11_shape_103 : decode cX11_shape 103 = .ok (.iload_n 1, 1) := by decide +kernel
theorem dX11_shape_104 : decode cX11_shape 104 = .ok (.aaload, 1) := by decide +kernel
theorem dX11_shape_105 : decode cX11_shape 105 = .ok (.iload_n 2, 1) := by decide +kernel
theorem dX11_shape_106 : decode cX11_shape 106 = .ok (.invokevirtual 108, 3) := by decide +kernel
theorem dX11_shape_109 : decode cX11_shape 109 = .ok (.ireturn, 1) := by decide +kernel
theorem dX11_shape_110 : decode cX11_shape 110 = .ok (.aload_n 0, 1) := by decide +kernel
theorem dX11_shape_111 : decode cX11_shape 111 = .ok (.getfield 18, 3) := by decide +kernel
theorem dX11_shape_114 : decode cX11_shape 114 = .ok (.iload_n 1, 1) := by decide +kernel
theorem dX11_shape_115 : decode cX11_shape 115 = .ok (.aaload, 1) := by decide +kernel
theorem dX11_shape_116 : decode cX11_shape 116 = .ok (.iload_n 2, 1) := by decide +kernel
theorem dX11_shape_117 : decode cX11_shape 117 = .ok (.invokevirtual 111, 3) := by decide +kernel
theorem dX11_shape_120 : decode cX11_shape 120 = .ok (.ireturn, 1) := by decide +kernel
theorem dX11_rest_0 : decode cX11_rest 0 = .ok (.iload_n 1, 1) := by decide +kernel
theorem dX11_rest_1 : decode cX11_rest 1 = .ok (.invokestatic 62, 3) := by decide +kernel
theorem dX11_rest_4 : decode cX11_rest 4 = .ok (.ifCond .eq 25, 3) := by decide +kernel
theorem dX11_rest_7 : decode cX11_rest 7 = .ok (.iload_n 2, 1) := by decide +kernel
theorem dX11_rest_8 : decode cX11_rest 8 = .ok (.iload_n 3, 1) := by decide +kernel
theorem dX11_rest_9 : decode cX11_rest 9 = .ok (.bipush 60, 2) := by decide +kernel
theorem dX11_rest_11 : decode cX11_rest 11 = .ok (.invokestatic 73, 3) := by decide +kernel
theorem dX11_rest_14 : decode cX11_rest 14 = .ok (.ifCond .eq 15, 3) := by decide +kernel
theorem dX11_rest_17 : decode cX11_rest 17 = .ok (.iload 4, 2) := by decide +kernel
theorem dX11_rest_19 : decode cX11_rest 19 = .ok (.iconst 2, 1) := by decide +kernel
theorem dX11_rest_20 : decode cX11_rest 20 = .ok (.sipush 10000, 3) := by decide +kernel
theorem dX11_rest_23 : decode cX11_rest 23 = .ok (.invokestatic 44, 3) := by decide +kernel
theorem dX11_rest_26 : decode cX11_rest 26 = .ok (.ifCond .ne 5, 3) := by decide +kernel
theorem dX11_rest_29 : decode cX11_rest 29 = .ok (.iconst (-1), 1) := by decide +kernel
theorem dX11_rest_30 : decode cX11_rest 30 = .ok (.ireturn, 1) := by decide +kernel
theorem dX11_rest_31 : decode cX11_rest 31 = .ok (.aload_n 0, 1) := by decide +kernel
theorem dX11_rest_32 : decode cX11_rest 32 = .ok (.getfield 18, 3) := by decide +kernel
theorem dX11_rest_35 : decode cX11_rest 35 = .ok (.iload_n 1, 1) := by decide +kernel
theorem dX11_rest_36 : decode cX11_rest 36 = .ok (.aaload, 1) := by decide +kernel
theorem dX11_rest_37 : decode cX11_rest 37 = .ok (.iload_n 2, 1) := by decide +kernel
theorem dX11_rest_38 : decode cX11_rest 38 = .ok (.iload_n 3, 1) := by decide +kernel
theorem dX11_rest_39 : decode cX11_rest 39 = .ok (.iload 4, 2) := by decide +kernel
theorem dX11_rest_41 : decode cX11_rest 41 = .ok (.invokevirtual 114, 3) := by decide +kernel
theorem dX11_rest_44 : decode cX11_rest 44 = .ok (.ireturn, 1) := by decide +kernel
theorem dX11_times_0 : decode cX11_times 0 = .ok (.iload_n 1, 1) := by decide +kernel
theorem dX11_times_1 : decode cX11_times 1 = .ok (.invokestatic 62, 3) := by decide +kernel
theorem dX11_times_4 : decode cX11_times 4 = .ok (.ifCond .eq 21, 3) := by decide +kernel
theorem dX11_times_7 : decode cX11_times 7 = .ok (.iload_n 2, 1) := by decide +kernel
theorem dX11_times_8 : decode cX11_times 8 = .ok (.invokestatic 62, 3) := by decide +kernel
theorem dX11_times_11 : decode cX11_times 11 = .ok (.ifCond .eq 14, 3) := by decide +kernel
theorem dX11_times_14 : decode cX11_times 14 = .ok (.iload_n 3, 1) := by decide +kernel
theorem dX11_times_15 : decode cX11_times 15 = .ok (.iload 4, 2) := by decide +kernel
theorem dX11_times_17 : decode cX11_times 17 = .ok (.bipush 24, 2) := by decide +kernel
theorem dX11_times_19 : decode cX11_times 19 = .ok (.invokestatic 73, 3) := by decide +kernel
theorem dX11_times_22 : decode cX11_times 22 = .ok (.ifCond .ne 7, 3) := by decide +kernel
theorem dX11_times_25 : decode cX11_times 25 = .ok (.ldc2_w 76, 3) := by decide +kernel
theorem dX11_times_28 : decode cX11_times 28 = .ok (.lreturn, 1) := by decide +kernel
theorem dX11_times_29 : decode cX11_times 29 = .ok (.aload_n 0, 1) := by decide +kernel
theorem dX11_times_30 : decode cX11_times 30 = .ok (.getfield 18, 3) := by decide +kernel
theorem dX11_times_33 : decode cX11_times 33 = .ok (.iload_n 1, 1) := by decide +kernel
theorem dX11_times_34 : decode cX11_times 34 = .ok (.aaload, 1) := by decide +kernel
theorem dX11_times_35 : decode cX11_times 35 = .ok (.aload_n 0, 1) := by decide +kernel
theorem dX11_times_36 : decode cX11_times 36 = .ok (.getfield 18, 3) := by decide +kernel
theorem dX11_times_39 : decode cX11_times 39 = .ok (.iload_n 2, 1) := by decide +kernel
theorem dX11_times_40 : decode cX11_times 40 = .ok (.aaload, 1) := by decide +kernel
theorem dX11_times_41 : decode cX11_times 41 = .ok (.iload_n 3, 1) := by decide +kernel
theorem dX11_times_42 : decode cX11_times 42 = .ok (.iload 4, 2) := by decide +kernel
theorem dX11_times_44 : decode cX11_times 44 = .ok (.invokevirtual 118, 3) := by decide +kernel
theorem dX11_times_47 : decode cX11_times 47 = .ok (.invokestatic 82, 3) := by decide +kernel
theorem dX11_times_50 : decode cX11_times 50 = .ok (.lreturn, 1) := by decide +kernel
theorem dX11_undoes_0 : decode cX11_undoes 0 = .ok (.iload_n 1, 1) := by decide +kernel
theorem dX11_undoes_1 : decode cX11_undoes 1 = .ok (.invokestatic 62, 3) := by decide +kernel
theorem dX11_undoes_4 : decode cX11_undoes 4 = .ok (.ifCond .eq 20, 3) := by decide +kernel
theorem dX11_undoes_7 : decode cX11_undoes 7 = .ok (.iload_n 2, 1) := by decide +kernel
theorem dX11_undoes_8 : decode cX11_undoes 8 = .ok (.invokestatic 62, 3) := by decide +kernel
theorem dX11_undoes_11 : decode cX11_undoes 11 = .ok (.ifCond .eq 13, 3) := by decide +kernel
theorem dX11_undoes_14 : decode cX11_undoes 14 = .ok (.iload_n 3, 1) := by decide +kernel
theorem dX11_undoes_15 : decode cX11_undoes 15 = .ok (.iconst 0, 1) := by decide +kernel
theorem dX11_undoes_16 : decode cX11_undoes 16 = .ok (.bipush 24, 2) := by decide +kernel
theorem dX11_undoes_18 : decode cX11_undoes 18 = .ok (.invokestatic 44, 3) := by decide +kernel
theorem dX11_undoes_21 : decode cX11_undoes 21 = .ok (.ifCond .ne 5, 3) := by decide +kernel
theorem dX11_undoes_24 : decode cX11_undoes 24 = .ok (.iconst (-1), 1) := by decide +kernel
theorem dX11_undoes_25 : decode cX11_undoes 25 = .ok (.ireturn, 1) := by decide +kernel
theorem dX11_undoes_26 : decode cX11_undoes 26 = .ok (.aload_n 0, 1) := by decide +kernel
theorem dX11_undoes_27 : decode cX11_undoes 27 = .ok (.getfield 18, 3) := by decide +kernel
theorem dX11_undoes_30 : decode cX11_undoes 30 = .ok (.iload_n 1, 1) := by decide +kernel
theorem dX11_undoes_31 : decode cX11_undoes 31 = .ok (.aaload, 1) := by decide +kernel
theorem dX11_undoes_32 : decode cX11_undoes 32 = .ok (.aload_n 0, 1) := by decide +kernel
theorem dX11_undoes_33 : decode cX11_undoes 33 = .ok (.getfield 18, 3) := by decide +kernel
theorem dX11_undoes_36 : decode cX11_undoes 36 = .ok (.iload_n 2, 1) := by decide +kernel
theorem dX11_undoes_37 : decode cX11_undoes 37 = .ok (.aaload, 1) := by decide +kernel
theorem dX11_undoes_38 : decode cX11_undoes 38 = .ok (.iload_n 3, 1) := by decide +kernel
theorem dX11_undoes_39 : decode cX11_undoes 39 = .ok (.invokevirtual 122, 3) := by decide +kernel
theorem dX11_undoes_42 : decode cX11_undoes 42 = .ok (.ireturn, 1) := by decide +kernel
theorem dX11_back_0 : decode cX11_back 0 = .ok (.iload_n 1, 1) := by decide +kernel
theorem dX11_back_1 : decode cX11_back 1 = .ok (.invokestatic 62, 3) := by decide +kernel
theorem dX11_back_4 : decode cX11_back 4 = .ok (.ifCond .eq 13, 3) := by decide +kernel
theorem dX11_back_7 : decode cX11_back 7 = .ok (.iload_n 2, 1) := by decide +kernel
theorem dX11_back_8 : decode cX11_back 8 = .ok (.iload_n 3, 1) := by decide +kernel
theorem dX11_back_9 : decode cX11_back 9 = .ok (.bipush 24, 2) := by decide +kernel
theorem dX11_back_11 : decode cX11_back 11 = .ok (.invokestatic 73, 3) := by decide +kernel
theorem dX11_back_14 : decode cX11_back 14 = .ok (.ifCond .ne 7, 3) := by decide +kernel
theorem dX11_back_17 : decode cX11_back 17 = .ok (.ldc2_w 76, 3) := by decide +kernel
theorem dX11_back_20 : decode cX11_back 20 = .ok (.lreturn, 1) := by decide +kernel
theorem dX11_back_21 : decode cX11_back 21 = .ok (.aload_n 0, 1) := by decide +kernel
theorem dX11_back_22 : decode cX11_back 22 = .ok (.getfield 18, 3) := by decide +kernel
theorem dX11_back_25 : decode cX11_back 25 = .ok (.iload_n 1, 1) := by decide +kernel
theorem dX11_back_26 : decode cX11_back 26 = .ok (.aaload, 1) := by decide +kernel
theorem dX11_back_27 : decode cX11_back 27 = .ok (.iload_n 2, 1) := by decide +kernel
theorem dX11_back_28 : decode cX11_back 28 = .ok (.iload_n 3, 1) := by decide +kernel
theorem dX11_back_29 : decode cX11_back 29 = .ok (.invokevirtual 126, 3) := by decide +kernel
theorem dX11_back_32 : decode cX11_back 32 = .ok (.invokestatic 82, 3) := by decide +kernel
theorem dX11_back_35 : decode cX11_back 35 = .ok (.lreturn, 1) := by decide +kernel
theorem dX11_parting_0 : decode cX11_parting 0 = .ok (.iload_n 1, 1) := by decide +kernel
theorem dX11_parting_1 : decode cX11_parting 1 = .ok (.iconst 1, 1) := by decide +kernel
theorem dX11_parting_2 : decode cX11_parting 2 = .ok (.bipush 8, 2) := by decide +kernel
theorem dX11_parting_4 : decode cX11_parting 4 = .ok (.invokestatic 44, 3) := by decide +kernel
theorem dX11_parting_7 : decode cX11_parting 7 = .ok (.ifCond .eq 18, 3) := by decide +kernel
theorem dX11_parting_10 : decode cX11_parting 10 = .ok (.iload_n 2, 1) := by decide +kernel
theorem dX11_parting_11 : decode cX11_parting 11 = .ok (.iconst 1, 1) := by decide +kernel
theorem dX11_parting_12 : decode cX11_parting 12 = .ok (.bipush 8, 2) := by decide +kernel
theorem dX11_parting_14 : decode cX11_parting 14 = .ok (.invokestatic 44, 3) := by decide +kernel
theorem dX11_parting_17 : decode cX11_parting 17 = .ok (.ifCond .eq 8, 3) := by decide +kernel
theorem dX11_parting_20 : decode cX11_parting 20 = .ok (.iload_n 3, 1) := by decide +kernel
theorem dX11_parting_21 : decode cX11_parting 21 = .ok (.iconst (-1), 1) := by decide +kernel
theorem dX11_parting_22 : decode cX11_parting 22 = .ok (.if_icmp .ge 5, 3) := by decide +kernel
theorem dX11_parting_25 : decode cX11_parting 25 = .ok (.iconst (-1), 1) := by decide +kernel
theorem dX11_parting_26 : decode cX11_parting 26 = .ok (.ireturn, 1) := by decide +kernel
theorem dX11_parting_27 : decode cX11_parting 27 = .ok (.aload_n 0, 1) := by decide +kernel
theorem dX11_parting_28 : decode cX11_parting 28 = .ok (.getfield 25, 3) := by decide +kernel
theorem dX11_parting_31 : decode cX11_parting 31 = .ok (.iload_n 2, 1) := by decide +kernel
theorem dX11_parting_32 : decode cX11_parting 32 = .ok (.invokevirtual 129, 3) := by decide +kernel
theorem dX11_parting_35 : decode cX11_parting 35 = .ok (.aload_n 0, 1) := by decide +kernel
theorem dX11_parting_36 : decode cX11_parting 36 = .ok (.getfield 25, 3) := by decide +kernel
theorem dX11_parting_39 : decode cX11_parting 39 = .ok (.iload_n 1, 1) := by decide +kernel
theorem dX11_parting_40 : decode cX11_parting 40 = .ok (.invokevirtual 133, 3) := by decide +kernel
theorem dX11_parting_43 : decode cX11_parting 43 = .ok (.istore 4, 2) := by decide +kernel
theorem dX11_parting_45 : decode cX11_parting 45 = .ok (.iload_n 3, 1) := by decide +kernel
theorem dX11_parting_46 : decode cX11_parting 46 = .ok (.iconst (-1), 1) := by decide +kernel
theorem dX11_parting_47 : decode cX11_parting 47 = .ok (.if_icmp .ne 6, 3) := by decide +kernel
theorem dX11_parting_50 : decode cX11_parting 50 = .ok (.iload 4, 2) := by decide +kernel
theorem dX11_parting_52 : decode cX11_parting 52 = .ok (.ireturn, 1) := by decide +kernel
theorem dX11_parting_53 : decode cX11_parting 53 = .ok (.iload_n 3, 1) := by decide +kernel
theorem dX11_parting_54 : decode cX11_parting 54 = .ok (.iload 4, 2) := by decide +kernel
theorem dX11_parting_56 : decode cX11_parting 56 = .ok (.if_icmp .ge 15, 3) := by decide +kernel
theorem dX11_parting_59 : decode cX11_parting 59 = .ok (.aload_n 0, 1) := by decide +kernel
theorem dX11_parting_60 : decode cX11_parting 60 = .ok (.getfield 25, 3) := by decide +kernel
theorem dX11_parting_63 : decode cX11_parting 63 = .ok (.iload_n 1, 1) := by decide +kernel
theorem dX11_parting_64 : decode cX11_parting 64 = .ok (.iload_n 3, 1) := by decide +kernel
theorem dX11_parting_65 : decode cX11_parting 65 = .ok (.invokevirtual 136, 3) := by decide +kernel
theorem dX11_parting_68 : decode cX11_parting 68 = .ok (.goto 5, 3) := by decide +kernel
theorem dX11_parting_71 : decode cX11_parting 71 = .ok (.bipush (-4), 2) := by decide +kernel
theorem dX11_parting_73 : decode cX11_parting 73 = .ok (.ireturn, 1) := by decide +kernel
theorem dX11_partRank_0 : decode cX11_partRank 0 = .ok (.iload_n 1, 1) := by decide +kernel
theorem dX11_partRank_1 : decode cX11_partRank 1 = .ok (.iconst 1, 1) := by decide +kernel
theorem dX11_partRank_2 : decode cX11_partRank 2 = .ok (.bipush 8, 2) := by decide +kernel
theorem dX11_partRank_4 : decode cX11_partRank 4 = .ok (.invokestatic 44, 3) := by decide +kernel
theorem dX11_partRank_7 : decode cX11_partRank 7 = .ok (.ifCond .ne 5, 3) := by decide +kernel
theorem dX11_partRank_10 : decode cX11_partRank 10 = .ok (.iconst (-1), 1) := by decide +kernel
theorem dX11_partRank_11 : decode cX11_partRank 11 = .ok (.ireturn, 1) := by decide +kernel
theorem dX11_partRank_12 : decode cX11_partRank 12 = .ok (.aload_n 0, 1) := by decide +kernel
theorem dX11_partRank_13 : decode cX11_partRank 13 = .ok (.getfield 25, 3) := by decide +kernel
theorem dX11_partRank_16 : decode cX11_partRank 16 = .ok (.iload_n 1, 1) := by decide +kernel
theorem dX11_partRank_17 : decode cX11_partRank 17 = .ok (.iload_n 2, 1) := by decide +kernel
theorem dX11_partRank_18 : decode cX11_partRank 18 = .ok (.invokevirtual 140, 3) := by decide +kernel
theorem dX11_partRank_21 : decode cX11_partRank 21 = .ok (.istore_n 3, 1) := by decide +kernel
theorem dX11_partRank_22 : decode cX11_partRank 22 = .ok (.iload_n 3, 1) := by decide +kernel
theorem dX11_partRank_23 : decode cX11_partRank 23 = .ok (.ifCond .ne 5, 3) := by decide +kernel
theorem dX11_partRank_26 : decode cX11_partRank 26 = .ok (.iconst (-1), 1) := by decide +kernel
theorem dX11_partRank_27 : decode cX11_partRank 27 = .ok (.ireturn, 1) := by decide +kernel
theorem dX11_partRank_28 : decode cX11_partRank 28 = .ok (.aload_n 0, 1) := by decide +kernel
theorem dX11_partRank_29 : decode cX11_partRank 29 = .ok (.getfield 25, 3) := by decide +kernel
theorem dX11_partRank_32 : decode cX11_partRank 32 = .ok (.iload_n 3, 1) := by decide +kernel
theorem dX11_partRank_33 : decode cX11_partRank 33 = .ok (.invokevirtual 129, 3) := by decide +kernel
theorem dX11_partRank_36 : decode cX11_partRank 36 = .ok (.aload_n 0, 1) := by decide +kernel
theorem dX11_partRank_37 : decode cX11_partRank 37 = .ok (.getfield 25, 3) := by decide +kernel
theorem dX11_partRank_40 : decode cX11_partRank 40 = .ok (.iload_n 1, 1) := by decide +kernel
theorem dX11_partRank_41 : decode cX11_partRank 41 = .ok (.iload_n 2, 1) := by decide +kernel
theorem dX11_partRank_42 : decode cX11_partRank 42 = .ok (.invokevirtual 143, 3) := by decide +kernel
theorem dX11_partRank_45 : decode cX11_partRank 45 = .ok (.ireturn, 1) := by decide +kernel
theorem dX11_orders_0 : decode cX11_orders 0 = .ok (.iload_n 1, 1) := by decide +kernel
theorem dX11_orders_1 : decode cX11_orders 1 = .ok (.iconst 1, 1) := by decide +kernel
theorem dX11_orders_2 : decode cX11_orders 2 = .ok (.bipush 8, 2) := by decide +kernel
theorem dX11_orders_4 : decode cX11_orders 4 = .ok (.invokestatic 44, 3) := by decide +kernel
theorem dX11_orders_7 : decode cX11_orders 7 = .ok (.ifCond .eq 12, 3) := by decide +kernel
theorem dX11_orders_10 : decode cX11_orders 10 = .ok (.iload_n 2, 1) := by decide +kernel
theorem dX11_orders_11 : decode cX11_orders 11 = .ok (.iconst 0, 1) := by decide +kernel
theorem dX11_orders_12 : decode cX11_orders 12 = .ok (.iconst 4, 1) := by decide +kernel
theorem dX11_orders_13 : decode cX11_orders 13 = .ok (.invokestatic 44, 3) := by decide +kernel
theorem dX11_orders_16 : decode cX11_orders 16 = .ok (.ifCond .ne 5, 3) := by decide +kernel
theorem dX11_orders_19 : decode cX11_orders 19 = .ok (.iconst (-1), 1) := by decide +kernel
theorem dX11_orders_20 : decode cX11_orders 20 = .ok (.ireturn, 1) := by decide +kernel
theorem dX11_orders_21 : decode cX11_orders 21 = .ok (.iload_n 3, 1) := by decide +kernel
theorem dX11_orders_22 : decode cX11_orders 22 = .ok (.iconst 0, 1) := by decide +kernel
theorem dX11_orders_23 : decode cX11_orders 23 = .ok (.bipush 28, 2) := by decide +kernel
theorem dX11_orders_25 : decode cX11_orders 25 = .ok (.invokestatic 44, 3) := by decide +kernel
theorem dX11_orders_28 : decode cX11_orders 28 = .ok (.ifCond .eq 9, 3) := by decide +kernel
theorem dX11_orders_31 : decode cX11_orders 31 = .ok (.iload 4, 2) := by decide +kernel
theorem dX11_orders_33 : decode cX11_orders 33 = .ok (.iconst (-1), 1) := by decide +kernel
theorem dX11_orders_34 : decode cX11_orders 34 = .ok (.if_icmp .ge 5, 3) := by decide +kernel
theorem dX11_orders_37 : decode cX11_orders 37 = .ok (.iconst (-1), 1) := by decide +kernel
theorem dX11_orders_38 : decode cX11_orders 38 = .ok (.ireturn, 1) := by decide +kernel
theorem dX11_orders_39 : decode cX11_orders 39 = .ok (.aload_n 0, 1) := by decide +kernel
theorem dX11_orders_40 : decode cX11_orders 40 = .ok (.getfield 32, 3) := by decide +kernel
theorem dX11_orders_43 : decode cX11_orders 43 = .ok (.iload_n 1, 1) := by decide +kernel
theorem dX11_orders_44 : decode cX11_orders 44 = .ok (.iload_n 2, 1) := by decide +kernel
theorem dX11_orders_45 : decode cX11_orders 45 = .ok (.iload_n 3, 1) := by decide +kernel
theorem dX11_orders_46 : decode cX11_orders 46 = .ok (.invokevirtual 146, 3) := by decide +kernel
theorem dX11_orders_49 : decode cX11_orders 49 = .ok (.istore 5, 2) := by decide +kernel
theorem dX11_orders_51 : decode cX11_orders 51 = .ok (.iload 4, 2) := by decide +kernel
theorem dX11_orders_53 : decode cX11_orders 53 = .ok (.iconst (-1), 1) := by decide +kernel
theorem dX11_orders_54 : decode cX11_orders 54 = .ok (.if_icmp .ne 6, 3) := by decide +kernel
theorem dX11_orders_57 : decode cX11_orders 57 = .ok (.iload 5, 2) := by decide +kernel
theorem dX11_orders_59 : decode cX11_orders 59 = .ok (.ireturn, 1) := by decide +kernel
theorem dX11_orders_60 : decode cX11_orders 60 = .ok (.iload 4, 2) := by decide +kernel
theorem dX11_orders_62 : decode cX11_orders 62 = .ok (.iload 5, 2) := by decide +kernel
theorem dX11_orders_64 : decode cX11_orders 64 = .ok (.if_icmp .ge 18, 3) := by decide +kernel
theorem dX11_orders_67 : decode cX11_orders 67 = .ok (.aload_n 0, 1) := by decide +kernel
theorem dX11_orders_68 : decode cX11_orders 68 = .ok (.getfield 32, 3) := by decide +kernel
theorem dX11_orders_71 : decode cX11_orders 71 = .ok (.iload_n 1, 1) := by decide +kernel
theorem dX11_orders_72 : decode cX11_orders 72 = .ok (.iload_n 2, 1) := by decide +kernel
theorem dX11_orders_73 : decode cX11_orders 73 = .ok (.iload_n 3, 1) := by decide +kernel
theorem dX11_orders_74 : decode cX11_orders 74 = .ok (.iload 4, 2) := by decide +kernel
theorem dX11_orders_76 : decode cX11_orders 76 = .ok (.invokevirtual 148, 3) := by decide +kernel
theorem dX11_orders_79 : decode cX11_orders 79 = .ok (.goto 5, 3) := by decide +kernel
theorem dX11_orders_82 : decode cX11_orders 82 = .ok (.bipush (-4), 2) := by decide +kernel
theorem dX11_orders_84 : decode cX11_orders 84 = .ok (.ireturn, 1) := by decide +kernel
theorem dX11_mark_0 : decode cX11_mark 0 = .ok (.aload_n 0, 1) := by decide +kernel
theorem dX11_mark_1 : decode cX11_mark 1 = .ok (.iload_n 1, 1) := by decide +kernel
theorem dX11_mark_2 : decode cX11_mark 2 = .ok (.iload_n 2, 1) := by decide +kernel
theorem dX11_mark_3 : decode cX11_mark 3 = .ok (.invokevirtual 151, 3) := by decide +kernel
theorem dX11_mark_6 : decode cX11_mark 6 = .ok (.ifCond .eq 12, 3) := by decide +kernel
theorem dX11_mark_9 : decode cX11_mark 9 = .ok (.iload_n 3, 1) := by decide +kernel
theorem dX11_mark_10 : decode cX11_mark 10 = .ok (.iconst 0, 1) := by decide +kernel
theorem dX11_mark_11 : decode cX11_mark 11 = .ok (.iconst 4, 1) := by decide +kernel
theorem dX11_mark_12 : decode cX11_mark 12 = .ok (.invokestatic 44, 3) := by decide +kernel
theorem dX11_mark_15 : decode cX11_mark 15 = .ok (.ifCond .ne 5, 3) := by decide +kernel
theorem dX11_mark_18 : decode cX11_mark 18 = .ok (.iconst (-1), 1) := by decide +kernel
theorem dX11_mark_19 : decode cX11_mark 19 = .ok (.ireturn, 1) := by decide +kernel
theorem dX11_mark_20 : decode cX11_mark 20 = .ok (.aload_n 0, 1) := by decide +kernel
theorem dX11_mark_21 : decode cX11_mark 21 = .ok (.getfield 32, 3) := by decide +kernel
theorem dX11_mark_24 : decode cX11_mark 24 = .ok (.iload_n 1, 1) := by decide +kernel
theorem dX11_mark_25 : decode cX11_mark 25 = .ok (.iload_n 2, 1) := by decide +kernel
theorem dX11_mark_26 : decode cX11_mark 26 = .ok (.iload_n 3, 1) := by decide +kernel
theorem dX11_mark_27 : decode cX11_mark 27 = .ok (.invokevirtual 155, 3) := by decide +kernel
theorem dX11_mark_30 : decode cX11_mark 30 = .ok (.ireturn, 1) := by decide +kernel
theorem dX11_rank_0 : decode cX11_rank 0 = .ok (.aload_n 0, 1) := by decide +kernel
theorem dX11_rank_1 : decode cX11_rank 1 = .ok (.iload_n 1, 1) := by decide +kernel
theorem dX11_rank_2 : decode cX11_rank 2 = .ok (.iload_n 2, 1) := by decide +kernel
theorem dX11_rank_3 : decode cX11_rank 3 = .ok (.invokevirtual 151, 3) := by decide +kernel
theorem dX11_rank_6 : decode cX11_rank 6 = .ok (.ifCond .eq 15, 3) := by decide +kernel
theorem dX11_rank_9 : decode cX11_rank 9 = .ok (.aload_n 0, 1) := by decide +kernel
theorem dX11_rank_10 : decode cX11_rank 10 = .ok (.getfield 32, 3) := by decide +kernel
theorem dX11_rank_13 : decode cX11_rank 13 = .ok (.iload_n 1, 1) := by decide +kernel
theorem dX11_rank_14 : decode cX11_rank 14 = .ok (.iload_n 2, 1) := by decide +kernel
theorem dX11_rank_15 : decode cX11_rank 15 = .ok (.invokevirtual 158, 3) := by decide +kernel
theorem dX11_rank_18 : decode cX11_rank 18 = .ok (.goto 4, 3) := by decide +kernel
theorem dX11_rank_21 : decode cX11_rank 21 = .ok (.iconst (-1), 1) := by decide +kernel
theorem dX11_rank_22 : decode cX11_rank 22 = .ok (.ireturn, 1) := by decide +kernel
theorem dX11_over_0 : decode cX11_over 0 = .ok (.aload_n 0, 1) := by decide +kernel
theorem dX11_over_1 : decode cX11_over 1 = .ok (.iload_n 1, 1) := by decide +kernel
theorem dX11_over_2 : decode cX11_over 2 = .ok (.iload_n 2, 1) := by decide +kernel
theorem dX11_over_3 : decode cX11_over 3 = .ok (.invokevirtual 151, 3) := by decide +kernel
theorem dX11_over_6 : decode cX11_over 6 = .ok (.ifCond .eq 15, 3) := by decide +kernel
theorem dX11_over_9 : decode cX11_over 9 = .ok (.aload_n 0, 1) := by decide +kernel
theorem dX11_over_10 : decode cX11_over 10 = .ok (.getfield 32, 3) := by decide +kernel
theorem dX11_over_13 : decode cX11_over 13 = .ok (.iload_n 1, 1) := by decide +kernel
theorem dX11_over_14 : decode cX11_over 14 = .ok (.iload_n 2, 1) := by decide +kernel
theorem dX11_over_15 : decode cX11_over 15 = .ok (.invokevirtual 159, 3) := by decide +kernel
theorem dX11_over_18 : decode cX11_over 18 = .ok (.goto 4, 3) := by decide +kernel
theorem dX11_over_21 : decode cX11_over 21 = .ok (.iconst (-1), 1) := by decide +kernel
theorem dX11_over_22 : decode cX11_over 22 = .ok (.ireturn, 1) := by decide +kernel
theorem dX11_behind_0 : decode cX11_behind 0 = .ok (.aload_n 0, 1) := by decide +kernel
theorem dX11_behind_1 : decode cX11_behind 1 = .ok (.iload_n 1, 1) := by decide +kernel
theorem dX11_behind_2 : decode cX11_behind 2 = .ok (.iload_n 2, 1) := by decide +kernel
theorem dX11_behind_3 : decode cX11_behind 3 = .ok (.invokevirtual 151, 3) := by decide +kernel
theorem dX11_behind_6 : decode cX11_behind 6 = .ok (.ifCond .eq 25, 3) := by decide +kernel
theorem dX11_behind_9 : decode cX11_behind 9 = .ok (.aload_n 0, 1) := by decide +kernel
theorem dX11_behind_10 : decode cX11_behind 10 = .ok (.iload_n 1, 1) := by decide +kernel
theorem dX11_behind_11 : decode cX11_behind 11 = .ok (.iload_n 3, 1) := by decide +kernel
theorem dX11_behind_12 : decode cX11_behind 12 = .ok (.invokevirtual 151, 3) := by decide +kernel
theorem dX11_behind_15 : decode cX11_behind 15 = .ok (.ifCond .eq 16, 3) := by decide +kernel
theorem dX11_behind_18 : decode cX11_behind 18 = .ok (.aload_n 0, 1) := by decide +kernel
theorem dX11_behind_19 : decode cX11_behind 19 = .ok (.getfield 32, 3) := by decide +kernel
theorem dX11_behind_22 : decode cX11_behind 22 = .ok (.iload_n 1, 1) := by decide +kernel
theorem dX11_behind_23 : decode cX11_behind 23 = .ok (.iload_n 2, 1) := by decide +kernel
theorem dX11_behind_24 : decode cX11_behind 24 = .ok (.iload_n 3, 1) := by decide +kernel
theorem dX11_behind_25 : decode cX11_behind 25 = .ok (.invokevirtual 162, 3) := by decide +kernel
theorem dX11_behind_28 : decode cX11_behind 28 = .ok (.goto 4, 3) := by decide +kernel
theorem dX11_behind_31 : decode cX11_behind 31 = .ok (.iconst (-1), 1) := by decide +kernel
theorem dX11_behind_32 : decode cX11_behind 32 = .ok (.ireturn, 1) := by decide +kernel
theorem dX11_base_0 : decode cX11_base 0 = .ok (.iload_n 1, 1) := by decide +kernel
theorem dX11_base_1 : decode cX11_base 1 = .ok (.invokestatic 165, 3) := by decide +kernel
theorem dX11_base_4 : decode cX11_base 4 = .ok (.ifCond .eq 12, 3) := by decide +kernel
theorem dX11_base_7 : decode cX11_base 7 = .ok (.iload_n 2, 1) := by decide +kernel
theorem dX11_base_8 : decode cX11_base 8 = .ok (.iconst 0, 1) := by decide +kernel
theorem dX11_base_9 : decode cX11_base 9 = .ok (.iconst 3, 1) := by decide +kernel
theorem dX11_base_10 : decode cX11_base 10 = .ok (.invokestatic 44, 3) := by decide +kernel
theorem dX11_base_13 : decode cX11_base 13 = .ok (.ifCond .ne 5, 3) := by decide +kernel
theorem dX11_base_16 : decode cX11_base 16 = .ok (.iconst (-1), 1) := by decide +kernel
theorem dX11_base_17 : decode cX11_base 17 = .ok (.ireturn, 1) := by decide +kernel
theorem dX11_base_18 : decode cX11_base 18 = .ok (.aload_n 0, 1) := by decide +kernel
theorem dX11_base_19 : decode cX11_base 19 = .ok (.getfield 38, 3) := by decide +kernel
theorem dX11_base_22 : decode cX11_base 22 = .ok (.iload_n 1, 1) := by decide +kernel
theorem dX11_base_23 : decode cX11_base 23 = .ok (.aaload, 1) := by decide +kernel
theorem dX11_base_24 : decode cX11_base 24 = .ok (.invokevirtual 168, 3) := by decide +kernel
theorem dX11_base_27 : decode cX11_base 27 = .ok (.istore_n 3, 1) := by decide +kernel
theorem dX11_base_28 : decode cX11_base 28 = .ok (.aload_n 0, 1) := by decide +kernel
theorem dX11_base_29 : decode cX11_base 29 = .ok (.getfield 38, 3) := by decide +kernel
theorem dX11_base_32 : decode cX11_base 32 = .ok (.iload_n 1, 1) := by decide +kernel
theorem dX11_base_33 : decode cX11_base 33 = .ok (.aaload, 1) := by decide +kernel
theorem dX11_base_34 : decode cX11_base 34 = .ok (.iload_n 2, 1) := by decide +kernel
theorem dX11_base_35 : decode cX11_base 35 = .ok (.invokevirtual 171, 3) := by decide +kernel
theorem dX11_base_38 : decode cX11_base 38 = .ok (.iload_n 3, 1) := by decide +kernel
theorem dX11_base_39 : decode cX11_base 39 = .ok (.ireturn, 1) := by decide +kernel
theorem dX11_set_0 : decode cX11_set 0 = .ok (.iload_n 1, 1) := by decide +kernel
theorem dX11_set_1 : decode cX11_set 1 = .ok (.invokestatic 165, 3) := by decide +kernel
theorem dX11_set_4 : decode cX11_set 4 = .ok (.ifCond .eq 23, 3) := by decide +kernel
theorem dX11_set_7 : decode cX11_set 7 = .ok (.iload_n 2, 1) := by decide +kernel
theorem dX11_set_8 : decode cX11_set 8 = .ok (.iconst 0, 1) := by decide +kernel
theorem dX11_set_9 : decode cX11_set 9 = .ok (.bipush 8, 2) := by decide +kernel
theorem dX11_set_11 : decode cX11_set 11 = .ok (.invokestatic 44, 3) := by decide +kernel
theorem dX11_set_14 : decode cX11_set 14 = .ok (.ifCond .eq 13, 3) := by decide +kernel
theorem dX11_set_17 : decode cX11_set 17 = .ok (.lload_n 3, 1) := by decide +kernel
theorem dX11_set_18 : decode cX11_set 18 = .ok (.ldc2_w 174, 3) := by decide +kernel
theorem dX11_set_21 : decode cX11_set 21 = .ok (.invokestatic 176, 3) := by decide +kernel
theorem dX11_set_24 : decode cX11_set 24 = .ok (.ifCond .eq 7, 3) := by decide +kernel
theorem dX11_set_27 : decode cX11_set 27 = .ok (.ldc2_w 76, 3) := by decide +kernel
theorem dX11_set_30 : decode cX11_set 30 = .ok (.lreturn, 1) := by decide +kernel
theorem dX11_set_31 : decode cX11_set 31 = .ok (.aload_n 0, 1) := by decide +kernel
theorem dX11_set_32 : decode cX11_set 32 = .ok (.getfield 38, 3) := by decide +kernel
theorem dX11_set_35 : decode cX11_set 35 = .ok (.iload_n 1, 1) := by decide +kernel
theorem dX11_set_36 : decode cX11_set 36 = .ok (.aaload, 1) := by decide +kernel
theorem dX11_set_37 : decode cX11_set 37 = .ok (.iload_n 2, 1) := by decide +kernel
theorem dX11_set_38 : decode cX11_set 38 = .ok (.invokevirtual 180, 3) := by decide +kernel
theorem dX11_set_41 : decode cX11_set 41 = .ok (.lstore 5, 2) := by decide +kernel
theorem dX11_set_43 : decode cX11_set 43 = .ok (.aload_n 0, 1) := by decide +kernel
theorem dX11_set_44 : decode cX11_set 44 = .ok (.getfield 38, 3) := by decide +kernel
theorem dX11_set_47 : decode cX11_set 47 = .ok (.iload_n 1, 1) := by decide +kernel
theorem dX11_set_48 : decode cX11_set 48 = .ok (.aaload, 1) := by decide +kernel
theorem dX11_set_49 : decode cX11_set 49 = .ok (.iload_n 2, 1) := by decide +kernel
theorem dX11_set_50 : decode cX11_set 50 = .ok (.lload_n 3, 1) := by decide +kernel
theorem dX11_set_51 : decode cX11_set 51 = .ok (.invokevirtual 183, 3) := by decide +kernel
theorem dX11_set_54 : decode cX11_set 54 = .ok (.lload 5, 2) := by decide +kernel
theorem dX11_set_56 : decode cX11_set 56 = .ok (.lreturn, 1) := by decide +kernel
theorem dX11_coefficient_0 : decode cX11_coefficient 0 = .ok (.iload_n 1, 1) := by decide +kernel
theorem dX11_coefficient_1 : decode cX11_coefficient 1 = .ok (.invokestatic 165, 3) := by decide +kernel
theorem dX11_coefficient_4 : decode cX11_coefficient 4 = .ok (.ifCond .eq 13, 3) := by decide +kernel
theorem dX11_coefficient_7 : decode cX11_coefficient 7 = .ok (.iload_n 2, 1) := by decide +kernel
theorem dX11_coefficient_8 : decode cX11_coefficient 8 = .ok (.iconst 0, 1) := by decide +kernel
theorem dX11_coefficient_9 : decode cX11_coefficient 9 = .ok (.bipush 8, 2) := by decide +kernel
theorem dX11_coefficient_11 : decode cX11_coefficient 11 = .ok (.invokestatic 44, 3) := by decide +kernel
theorem dX11_coefficient_14 : decode cX11_coefficient 14 = .ok (.ifCond .ne 7, 3) := by decide +kernel
theorem dX11_coefficient_17 : decode cX11_coefficient 17 = .ok (.ldc2_w 76, 3) := by decide +kernel
theorem dX11_coefficient_20 : decode cX11_coefficient 20 = .ok (.lreturn, 1) := by decide +kernel
theorem dX11_coefficient_21 : decode cX11_coefficient 21 = .ok (.aload_n 0, 1) := by decide +kernel
theorem dX11_coefficient_22 : decode cX11_coefficient 22 = .ok (.getfield 38, 3) := by decide +kernel
theorem dX11_coefficient_25 : decode cX11_coefficient 25 = .ok (.iload_n 1, 1) := by decide +kernel
theorem dX11_coefficient_26 : decode cX11_coefficient 26 = .ok (.aaload, 1) := by decide +kernel
theorem dX11_coefficient_27 : decode cX11_coefficient 27 = .ok (.iload_n 2, 1) := by decide +kernel
theorem dX11_coefficient_28 : decode cX11_coefficient 28 = .ok (.invokevirtual 180, 3) := by decide +kernel
theorem dX11_coefficient_31 : decode cX11_coefficient 31 = .ok (.lreturn, 1) := by decide +kernel
theorem dX11_told_0 : decode cX11_told 0 = .ok (.iload_n 1, 1) := by decide +kernel
theorem dX11_told_1 : decode cX11_told 1 = .ok (.invokestatic 165, 3) := by decide +kernel
theorem dX11_told_4 : decode cX11_told 4 = .ok (.ifCond .eq 12, 3) := by decide +kernel
theorem dX11_told_7 : decode cX11_told 7 = .ok (.iload_n 2, 1) := by decide +kernel
theorem dX11_told_8 : decode cX11_told 8 = .ok (.iconst 0, 1) := by decide +kernel
theorem dX11_told_9 : decode cX11_told 9 = .ok (.iconst 1, 1) := by decide +kernel
theorem dX11_told_10 : decode cX11_told 10 = .ok (.invokestatic 44, 3) := by decide +kernel
theorem dX11_told_13 : decode cX11_told 13 = .ok (.ifCond .ne 5, 3) := by decide +kernel
theorem dX11_told_16 : decode cX11_told 16 = .ok (.iconst (-1), 1) := by decide +kernel
theorem dX11_told_17 : decode cX11_told 17 = .ok (.ireturn, 1) := by decide +kernel
theorem dX11_told_18 : decode cX11_told 18 = .ok (.iload_n 2, 1) := by decide +kernel
theorem dX11_told_19 : decode cX11_told 19 = .ok (.ifCond .ne 15, 3) := by decide +kernel
theorem dX11_told_22 : decode cX11_told 22 = .ok (.aload_n 0, 1) := by decide +kernel
theorem dX11_told_23 : decode cX11_told 23 = .ok (.getfield 38, 3) := by decide +kernel
theorem dX11_told_26 : decode cX11_told 26 = .ok (.iload_n 1, 1) := by decide +kernel
theorem dX11_told_27 : decode cX11_told 27 = .ok (.aaload, 1) := by decide +kernel
theorem dX11_told_28 : decode cX11_told 28 = .ok (.invokevirtual 168, 3) := by decide +kernel
theorem dX11_told_31 : decode cX11_told 31 = .ok (.goto 12, 3) := by decide +kernel
theorem dX11_told_34 : decode cX11_told 34 = .ok (.aload_n 0, 1) := by decide +kernel
theorem dX11_told_35 : decode cX11_told 35 = .ok (.getfield 38, 3) := by decide +kernel
theorem dX11_told_38 : decode cX11_told 38 = .ok (.iload_n 1, 1) := by decide +kernel
theorem dX11_told_39 : decode cX11_told 39 = .ok (.aaload, 1) := by decide +kernel
theorem dX11_told_40 : decode cX11_told 40 = .ok (.invokevirtual 187, 3) := by decide +kernel
theorem dX11_told_43 : decode cX11_told 43 = .ok (.ireturn, 1) := by decide +kernel
theorem dX11_turn_0 : decode cX11_turn 0 = .ok (.iload_n 1, 1) := by decide +kernel
theorem dX11_turn_1 : decode cX11_turn 1 = .ok (.invokestatic 165, 3) := by decide +kernel
theorem dX11_turn_4 : decode cX11_turn 4 = .ok (.ifCond .eq 12, 3) := by decide +kernel
theorem dX11_turn_7 : decode cX11_turn 7 = .ok (.iload_n 2, 1) := by decide +kernel
theorem dX11_turn_8 : decode cX11_turn 8 = .ok (.iconst 0, 1) := by decide +kernel
theorem dX11_turn_9 : decode cX11_turn 9 = .ok (.iconst 3, 1) := by decide +kernel
theorem dX11_turn_10 : decode cX11_turn 10 = .ok (.invokestatic 44, 3) := by decide +kernel
theorem dX11_turn_13 : decode cX11_turn 13 = .ok (.ifCond .ne 5, 3) := by decide +kernel
theorem dX11_turn_16 : decode cX11_turn 16 = .ok (.iconst (-1), 1) := by decide +kernel
theorem dX11_turn_17 : decode cX11_turn 17 = .ok (.ireturn, 1) := by decide +kernel
theorem dX11_turn_18 : decode cX11_turn 18 = .ok (.aload_n 0, 1) := by decide +kernel
theorem dX11_turn_19 : decode cX11_turn 19 = .ok (.getfield 38, 3) := by decide +kernel
theorem dX11_turn_22 : decode cX11_turn 22 = .ok (.iload_n 1, 1) := by decide +kernel
theorem dX11_turn_23 : decode cX11_turn 23 = .ok (.aaload, 1) := by decide +kernel
theorem dX11_turn_24 : decode cX11_turn 24 = .ok (.iload_n 2, 1) := by decide +kernel
theorem dX11_turn_25 : decode cX11_turn 25 = .ok (.invokevirtual 190, 3) := by decide +kernel
theorem dX11_turn_28 : decode cX11_turn 28 = .ok (.ifCond .eq 15, 3) := by decide +kernel
theorem dX11_turn_31 : decode cX11_turn 31 = .ok (.aload_n 0, 1) := by decide +kernel
theorem dX11_turn_32 : decode cX11_turn 32 = .ok (.getfield 38, 3) := by decide +kernel
theorem dX11_turn_35 : decode cX11_turn 35 = .ok (.iload_n 1, 1) := by decide +kernel
theorem dX11_turn_36 : decode cX11_turn 36 = .ok (.aaload, 1) := by decide +kernel
theorem dX11_turn_37 : decode cX11_turn 37 = .ok (.invokevirtual 187, 3) := by decide +kernel
theorem dX11_turn_40 : decode cX11_turn 40 = .ok (.goto 5, 3) := by decide +kernel
theorem dX11_turn_43 : decode cX11_turn 43 = .ok (.bipush (-2), 2) := by decide +kernel
theorem dX11_turn_45 : decode cX11_turn 45 = .ok (.ireturn, 1) := by decide +kernel
theorem dX11_value_0 : decode cX11_value 0 = .ok (.iload_n 1, 1) := by decide +kernel
theorem dX11_value_1 : decode cX11_value 1 = .ok (.invokestatic 165, 3) := by decide +kernel
theorem dX11_value_4 : decode cX11_value 4 = .ok (.ifCond .eq 24, 3) := by decide +kernel
theorem dX11_value_7 : decode cX11_value 7 = .ok (.iload_n 2, 1) := by decide +kernel
theorem dX11_value_8 : decode cX11_value 8 = .ok (.bipush (-20), 2) := by decide +kernel
theorem dX11_value_10 : decode cX11_value 10 = .ok (.bipush 20, 2) := by decide +kernel
theorem dX11_value_12 : decode cX11_value 12 = .ok (.invokestatic 44, 3) := by decide +kernel
theorem dX11_value_15 : decode cX11_value 15 = .ok (.ifCond .eq 13, 3) := by decide +kernel
theorem dX11_value_18 : decode cX11_value 18 = .ok (.iload_n 3, 1) := by decide +kernel
theorem dX11_value_19 : decode cX11_value 19 = .ok (.iconst 0, 1) := by decide +kernel
theorem dX11_value_20 : decode cX11_value 20 = .ok (.bipush 8, 2) := by decide +kernel
theorem dX11_value_22 : decode cX11_value 22 = .ok (.invokestatic 44, 3) := by decide +kernel
theorem dX11_value_25 : decode cX11_value 25 = .ok (.ifCond .ne 7, 3) := by decide +kernel
theorem dX11_value_28 : decode cX11_value 28 = .ok (.ldc2_w 76, 3) := by decide +kernel
theorem dX11_value_31 : decode cX11_value 31 = .ok (.lreturn, 1) := by decide +kernel
theorem dX11_value_32 : decode cX11_value 32 = .ok (.aload_n 0, 1) := by decide +kernel
theorem dX11_value_33 : decode cX11_value 33 = .ok (.getfield 38, 3) := by decide +kernel
theorem dX11_value_36 : decode cX11_value 36 = .ok (.iload_n 1, 1) := by decide +kernel
theorem dX11_value_37 : decode cX11_value 37 = .ok (.aaload, 1) := by decide +kernel
theorem dX11_value_38 : decode cX11_value 38 = .ok (.iload_n 2, 1) := by decide +kernel
theorem dX11_value_39 : decode cX11_value 39 = .ok (.iload_n 3, 1) := by decide +kernel
theorem dX11_value_40 : decode cX11_value 40 = .ok (.invokevirtual 193, 3) := by decide +kernel
theorem dX11_value_43 : decode cX11_value 43 = .ok (.lreturn, 1) := by decide +kernel
theorem dX11_sumUp_0 : decode cX11_sumUp 0 = .ok (.iload_n 1, 1) := by decide +kernel
theorem dX11_sumUp_1 : decode cX11_sumUp 1 = .ok (.invokestatic 165, 3) := by decide +kernel
theorem dX11_sumUp_4 : decode cX11_sumUp 4 = .ok (.ifCond .ne 5, 3) := by decide +kernel
theorem dX11_sumUp_7 : decode cX11_sumUp 7 = .ok (.iconst (-1), 1) := by decide +kernel
theorem dX11_sumUp_8 : decode cX11_sumUp 8 = .ok (.ireturn, 1) := by decide +kernel
theorem dX11_sumUp_9 : decode cX11_sumUp 9 = .ok (.aload_n 0, 1) := by decide +kernel
theorem dX11_sumUp_10 : decode cX11_sumUp 10 = .ok (.getfield 38, 3) := by decide +kernel
theorem dX11_sumUp_13 : decode cX11_sumUp 13 = .ok (.iload_n 1, 1) := by decide +kernel
theorem dX11_sumUp_14 : decode cX11_sumUp 14 = .ok (.aaload, 1) := by decide +kernel
theorem dX11_sumUp_15 : decode cX11_sumUp 15 = .ok (.invokevirtual 196, 3) := by decide +kernel
theorem dX11_sumUp_18 : decode cX11_sumUp 18 = .ok (.ifCond .eq 15, 3) := by decide +kernel
theorem dX11_sumUp_21 : decode cX11_sumUp 21 = .ok (.aload_n 0, 1) := by decide +kernel
theorem dX11_sumUp_22 : decode cX11_sumUp 22 = .ok (.getfield 38, 3) := by decide +kernel
theorem dX11_sumUp_25 : decode cX11_sumUp 25 = .ok (.iload_n 1, 1) := by decide +kernel
theorem dX11_sumUp_26 : decode cX11_sumUp 26 = .ok (.aaload, 1) := by decide +kernel
theorem dX11_sumUp_27 : decode cX11_sumUp 27 = .ok (.invokevirtual 187, 3) := by decide +kernel
theorem dX11_sumUp_30 : decode cX11_sumUp 30 = .ok (.goto 5, 3) := by decide +kernel
theorem dX11_sumUp_33 : decode cX11_sumUp 33 = .ok (.bipush (-2), 2) := by decide +kernel
theorem dX11_sumUp_35 : decode cX11_sumUp 35 = .ok (.ireturn, 1) := by decide +kernel
theorem dX11_root_0 : decode cX11_root 0 = .ok (.iload_n 1, 1) := by decide +kernel
theorem dX11_root_1 : decode cX11_root 1 = .ok (.invokestatic 165, 3) := by decide +kernel
theorem dX11_root_4 : decode cX11_root 4 = .ok (.ifCond .eq 8, 3) := by decide +kernel
theorem dX11_root_7 : decode cX11_root 7 = .ok (.iload_n 2, 1) := by decide +kernel
theorem dX11_root_8 : decode cX11_root 8 = .ok (.iconst (-1), 1) := by decide +kernel
theorem dX11_root_9 : decode cX11_root 9 = .ok (.if_icmp .ge 7, 3) := by decide +kernel
theorem dX11_root_12 : decode cX11_root 12 = .ok (.sipush (-1001), 3) := by decide +kernel
theorem dX11_root_15 : decode cX11_root 15 = .ok (.ireturn, 1) := by decide +kernel
theorem dX11_root_16 : decode cX11_root 16 = .ok (.iconst 0, 1) := by decide +kernel
theorem dX11_root_17 : decode cX11_root 17 = .ok (.istore_n 3, 1) := by decide +kernel
theorem dX11_root_18 : decode cX11_root 18 = .ok (.bipush (-20), 2) := by decide +kernel
theorem dX11_root_20 : decode cX11_root 20 = .ok (.istore 4, 2) := by decide +kernel
theorem dX11_root_22 : decode cX11_root 22 = .ok (.iload 4, 2) := by decide +kernel
theorem dX11_root_24 : decode cX11_root 24 = .ok (.bipush 20, 2) := by decide +kernel
theorem dX11_root_26 : decode cX11_root 26 = .ok (.if_icmp .gt 36, 3) := by decide +kernel
theorem dX11_root_29 : decode cX11_root 29 = .ok (.aload_n 0, 1) := by decide +kernel
theorem dX11_root_30 : decode cX11_root 30 = .ok (.getfield 38, 3) := by decide +kernel
theorem dX11_root_33 : decode cX11_root 33 = .ok (.iload_n 1, 1) := by decide +kernel
theorem dX11_root_34 : decode cX11_root 34 = .ok (.aaload, 1) := by decide +kernel
theorem dX11_root_35 : decode cX11_root 35 = .ok (.iload 4, 2) := by decide +kernel
theorem dX11_root_37 : decode cX11_root 37 = .ok (.invokevirtual 200, 3) := by decide +kernel
theorem dX11_root_40 : decode cX11_root 40 = .ok (.lconst 0, 1) := by decide +kernel
theorem dX11_root_41 : decode cX11_root 41 = .ok (.lcmp, 1) := by decide +kernel
theorem dX11_root_42 : decode cX11_root 42 = .ok (.ifCond .ne 14, 3) := by decide +kernel
theorem dX11_root_45 : decode cX11_root 45 = .ok (.iload_n 3, 1) := by decide +kernel
theorem dX11_root_46 : decode cX11_root 46 = .ok (.iload_n 2, 1) := by decide +kernel
theorem dX11_root_47 : decode cX11_root 47 = .ok (.if_icmp .ne 6, 3) := by decide +kernel
theorem dX11_root_50 : decode cX11_root 50 = .ok (.iload 4, 2) := by decide +kernel
theorem dX11_root_52 : decode cX11_root 52 = .ok (.ireturn, 1) := by decide +kernel
theorem dX11_root_53 : decode cX11_root 53 = .ok (.iinc 3 1, 3) := by decide +kernel
theorem dX11_root_56 : decode cX11_root 56 = .ok (.iinc 4 1, 3) := by decide +kernel
theorem dX11_root_59 : decode cX11_root 59 = .ok (.goto (-37), 3) := by decide +kernel
theorem dX11_root_62 : decode cX11_root 62 = .ok (.iload_n 2, 1) := by decide +kernel
theorem dX11_root_63 : decode cX11_root 63 = .ok (.iconst (-1), 1) := by decide +kernel
theorem dX11_root_64 : decode cX11_root 64 = .ok (.if_icmp .ne 7, 3) := by decide +kernel
theorem dX11_root_67 : decode cX11_root 67 = .ok (.iload_n 3, 1) := by decide +kernel
theorem dX11_root_68 : decode cX11_root 68 = .ok (.goto 6, 3) := by decide +kernel
theorem dX11_root_71 : decode cX11_root 71 = .ok (.sipush (-1004), 3) := by decide +kernel
theorem dX11_root_74 : decode cX11_root 74 = .ok (.ireturn, 1) := by decide +kernel
theorem dX11_count_0 : decode cX11_count 0 = .ok (.iload_n 1, 1) := by decide +kernel
theorem dX11_count_1 : decode cX11_count 1 = .ok (.tableswitch 45 0 2 #[27, 35, 40], 27) := by decide +kernel
theorem dX11_count_28 : decode cX11_count 28 = .ok (.aload_n 0, 1) := by decide +kernel
theorem dX11_count_29 : decode cX11_count 29 = .ok (.getfield 12, 3) := by decide +kernel
theorem dX11_count_32 : decode cX11_count 32 = .ok (.invokevirtual 52, 3) := by decide +kernel
theorem dX11_count_35 : decode cX11_count 35 = .ok (.ireturn, 1) := by decide +kernel
theorem dX11_count_36 : decode cX11_count 36 = .ok (.aload_n 0, 1) := by decide +kernel
theorem dX11_count_37 : decode cX11_count 37 = .ok (.invokevirtual 203, 3) := by decide +kernel
theorem dX11_count_40 : decode cX11_count 40 = .ok (.ireturn, 1) := by decide +kernel
theorem dX11_count_41 : decode cX11_count 41 = .ok (.aload_n 0, 1) := by decide +kernel
theorem dX11_count_42 : decode cX11_count 42 = .ok (.invokevirtual 206, 3) := by decide +kernel
theorem dX11_count_45 : decode cX11_count 45 = .ok (.ireturn, 1) := by decide +kernel
theorem dX11_count_46 : decode cX11_count 46 = .ok (.iconst (-1), 1) := by decide +kernel
theorem dX11_count_47 : decode cX11_count 47 = .ok (.ireturn, 1) := by decide +kernel
theorem dX11_itemsOfLaws_0 : decode cX11_itemsOfLaws 0 = .ok (.iconst 0, 1) := by decide +kernel
theorem dX11_itemsOfLaws_1 : decode cX11_itemsOfLaws 1 = .ok (.istore_n 1, 1) := by decide +kernel
theorem dX11_itemsOfLaws_2 : decode cX11_itemsOfLaws 2 = .ok (.iconst 0, 1) := by decide +kernel
theorem dX11_itemsOfLaws_3 : decode cX11_itemsOfLaws 3 = .ok (.istore_n 2, 1) := by decide +kernel
theorem dX11_itemsOfLaws_4 : decode cX11_itemsOfLaws 4 = .ok (.iload_n 2, 1) := by decide +kernel
theorem dX11_itemsOfLaws_5 : decode cX11_itemsOfLaws 5 = .ok (.iconst 4, 1) := by decide +kernel
theorem dX11_itemsOfLaws_6 : decode cX11_itemsOfLaws 6 = .ok (.if_icmp .ge 21, 3) := by decide +kernel
theorem dX11_itemsOfLaws_9 : decode cX11_itemsOfLaws 9 = .ok (.iload_n 1, 1) := by decide +kernel
theorem dX11_itemsOfLaws_10 : decode cX11_itemsOfLaws 10 = .ok (.aload_n 0, 1) := by decide +kernel
theorem dX11_itemsOfLaws_11 : decode cX11_itemsOfLaws 11 = .ok (.getfield 18, 3) := by decide +kernel
theorem dX11_itemsOfLaws_14 : decode cX11_itemsOfLaws 14 = .ok (.iload_n 2, 1) := by decide +kernel
theorem dX11_itemsOfLaws_15 : decode cX11_itemsOfLaws 15 = .ok (.aaload, 1) := by decide +kernel
theorem dX11_itemsOfLaws_16 : decode cX11_itemsOfLaws 16 = .ok (.invokevirtual 70, 3) := by decide +kernel
theorem dX11_itemsOfLaws_19 : decode cX11_itemsOfLaws 19 = .ok (.iadd, 1) := by decide +kernel
theorem dX11_itemsOfLaws_20 : decode cX11_itemsOfLaws 20 = .ok (.istore_n 1, 1) := by decide +kernel
theorem dX11_itemsOfLaws_21 : decode cX11_itemsOfLaws 21 = .ok (.iinc 2 1, 3) := by decide +kernel
theorem dX11_itemsOfLaws_24 : decode cX11_itemsOfLaws 24 = .ok (.goto (-20), 3) := by decide +kernel
theorem dX11_itemsOfLaws_27 : decode cX11_itemsOfLaws 27 = .ok (.iload_n 1, 1) := by decide +kernel
theorem dX11_itemsOfLaws_28 : decode cX11_itemsOfLaws 28 = .ok (.ireturn, 1) := by decide +kernel
theorem dX11_coefficientsInUse_0 : decode cX11_coefficientsInUse 0 = .ok (.iconst 0, 1) := by decide +kernel
theorem dX11_coefficientsInUse_1 : decode cX11_coefficientsInUse 1 = .ok (.istore_n 1, 1) := by decide +kernel
theorem dX11_coefficientsInUse_2 : decode cX11_coefficientsInUse 2 = .ok (.iconst 0, 1) := by decide +kernel
theorem dX11_coefficientsInUse_3 : decode cX11_coefficientsInUse 3 = .ok (.istore_n 2, 1) := by decide +kernel
theorem dX11_coefficientsInUse_4 : decode cX11_coefficientsInUse 4 = .ok (.iload_n 2, 1) := by decide +kernel
theorem dX11_coefficientsInUse_5 : decode cX11_coefficientsInUse 5 = .ok (.iconst 4, 1) := by decide +kernel
theorem dX11_coefficientsInUse_6 : decode cX11_coefficientsInUse 6 = .ok (.if_icmp .ge 21, 3) := by decide +kernel
theorem dX11_coefficientsInUse_9 : decode cX11_coefficientsInUse 9 = .ok (.iload_n 1, 1) := by decide +kernel
theorem dX11_coefficientsInUse_10 : decode cX11_coefficientsInUse 10 = .ok (.aload_n 0, 1) := by decide +kernel
theorem dX11_coefficientsInUse_11 : decode cX11_coefficientsInUse 11 = .ok (.getfield 38, 3) := by decide +kernel
theorem dX11_coefficientsInUse_14 : decode cX11_coefficientsInUse 14 = .ok (.iload_n 2, 1) := by decide +kernel
theorem dX11_coefficientsInUse_15 : decode cX11_coefficientsInUse 15 = .ok (.aaload, 1) := by decide +kernel
theorem dX11_coefficientsInUse_16 : decode cX11_coefficientsInUse 16 = .ok (.invokevirtual 209, 3) := by decide +kernel
theorem dX11_coefficientsInUse_19 : decode cX11_coefficientsInUse 19 = .ok (.iadd, 1) := by decide +kernel
theorem dX11_coefficientsInUse_20 : decode cX11_coefficientsInUse 20 = .ok (.istore_n 1, 1) := by decide +kernel
theorem dX11_coefficientsInUse_21 : decode cX11_coefficientsInUse 21 = .ok (.iinc 2 1, 3) := by decide +kernel
theorem dX11_coefficientsInUse_24 : decode cX11_coefficientsInUse 24 = .ok (.goto (-20), 3) := by decide +kernel
theorem dX11_coefficientsInUse_27 : decode cX11_coefficientsInUse 27 = .ok (.iload_n 1, 1) := by decide +kernel
theorem dX11_coefficientsInUse_28 : decode cX11_coefficientsInUse 28 = .ok (.ireturn, 1) := by decide +kernel
theorem dX11_isOrder_0 : decode cX11_isOrder 0 = .ok (.iload_n 1, 1) := by decide +kernel
theorem dX11_isOrder_1 : decode cX11_isOrder 1 = .ok (.iconst 1, 1) := by decide +kernel
theorem dX11_isOrder_2 : decode cX11_isOrder 2 = .ok (.bipush 8, 2) := by decide +kernel
theorem dX11_isOrder_4 : decode cX11_isOrder 4 = .ok (.invokestatic 44, 3) := by decide +kernel
theorem dX11_isOrder_7 : decode cX11_isOrder 7 = .ok (.ifCond .eq 19, 3) := by decide +kernel
theorem dX11_isOrder_10 : decode cX11_isOrder 10 = .ok (.aload_n 0, 1) := by decide +kernel
theorem dX11_isOrder_11 : decode cX11_isOrder 11 = .ok (.getfield 32, 3) := by decide +kernel
theorem dX11_isOrder_14 : decode cX11_isOrder 14 = .ok (.iload_n 1, 1) := by decide +kernel
theorem dX11_isOrder_15 : decode cX11_isOrder 15 = .ok (.iload_n 2, 1) := by decide +kernel
theorem dX11_isOrder_16 : decode cX11_isOrder 16 = .ok (.invokevirtual 212, 3) := by decide +kernel
theorem dX11_isOrder_19 : decode cX11_isOrder 19 = .ok (.ifCond .eq 7, 3) := by decide +kernel
theorem dX11_isOrder_22 : decode cX11_isOrder 22 = .ok (.iconst 1, 1) := by decide +kernel
theorem dX11_isOrder_23 : decode cX11_isOrder 23 = .ok (.goto 4, 3) := by decide +kernel
theorem dX11_isOrder_26 : decode cX11_isOrder 26 = .ok (.iconst 0, 1) := by decide +kernel
theorem dX11_isOrder_27 : decode cX11_isOrder 27 = .ok (.ireturn, 1) := by decide +kernel
theorem dX11_isLaw_0 : decode cX11_isLaw 0 = .ok (.iload_n 0, 1) := by decide +kernel
theorem dX11_isLaw_1 : decode cX11_isLaw 1 = .ok (.iconst 0, 1) := by decide +kernel
theorem dX11_isLaw_2 : decode cX11_isLaw 2 = .ok (.iconst 3, 1) := by decide +kernel
theorem dX11_isLaw_3 : decode cX11_isLaw 3 = .ok (.invokestatic 44, 3) := by decide +kernel
theorem dX11_isLaw_6 : decode cX11_isLaw 6 = .ok (.ireturn, 1) := by decide +kernel
theorem dX11_isPolynomial_0 : decode cX11_isPolynomial 0 = .ok (.iload_n 0, 1) := by decide +kernel
theorem dX11_isPolynomial_1 : decode cX11_isPolynomial 1 = .ok (.iconst 0, 1) := by decide +kernel
theorem dX11_isPolynomial_2 : decode cX11_isPolynomial 2 = .ok (.iconst 3, 1) := by decide +kernel
theorem dX11_isPolynomial_3 : decode cX11_isPolynomial 3 = .ok (.invokestatic 44, 3) := by decide +kernel
theorem dX11_isPolynomial_6 : decode cX11_isPolynomial 6 = .ok (.ireturn, 1) := by decide +kernel
theorem dX11_isPlace_0 : decode cX11_isPlace 0 = .ok (.iload_n 0, 1) := by decide +kernel
theorem dX11_isPlace_1 : decode cX11_isPlace 1 = .ok (.iconst 0, 1) := by decide +kernel
theorem dX11_isPlace_2 : decode cX11_isPlace 2 = .ok (.iload_n 2, 1) := by decide +kernel
theorem dX11_isPlace_3 : decode cX11_isPlace 3 = .ok (.invokestatic 44, 3) := by decide +kernel
theorem dX11_isPlace_6 : decode cX11_isPlace 6 = .ok (.ifCond .eq 16, 3) := by decide +kernel
theorem dX11_isPlace_9 : decode cX11_isPlace 9 = .ok (.iload_n 1, 1) := by decide +kernel
theorem dX11_isPlace_10 : decode cX11_isPlace 10 = .ok (.iconst 0, 1) := by decide +kernel
theorem dX11_isPlace_11 : decode cX11_isPlace 11 = .ok (.iload_n 0, 1) := by decide +kernel
theorem dX11_isPlace_12 : decode cX11_isPlace 12 = .ok (.invokestatic 44, 3) := by decide +kernel
theorem dX11_isPlace_15 : decode cX11_isPlace 15 = .ok (.ifCond .eq 7, 3) := by decide +kernel
theorem dX11_isPlace_18 : decode cX11_isPlace 18 = .ok (.iconst 1, 1) := by decide +kernel
theorem dX11_isPlace_19 : decode cX11_isPlace 19 = .ok (.goto 4, 3) := by decide +kernel
theorem dX11_isPlace_22 : decode cX11_isPlace 22 = .ok (.iconst 0, 1) := by decide +kernel
theorem dX11_isPlace_23 : decode cX11_isPlace 23 = .ok (.ireturn, 1) := by decide +kernel
theorem dX11_within_0 : decode cX11_within 0 = .ok (.iload_n 0, 1) := by decide +kernel
theorem dX11_within_1 : decode cX11_within 1 = .ok (.iload_n 1, 1) := by decide +kernel
theorem dX11_within_2 : decode cX11_within 2 = .ok (.if_icmp .lt 12, 3) := by decide +kernel
theorem dX11_within_5 : decode cX11_within 5 = .ok (.iload_n 0, 1) := by decide +kernel
theorem dX11_within_6 : decode cX11_within 6 = .ok (.iload_n 2, 1) := by decide +kernel
theorem dX11_within_7 : decode cX11_within 7 = .ok (.if_icmp .gt 7, 3) := by decide +kernel
theorem dX11_within_10 : decode cX11_within 10 = .ok (.iconst 1, 1) := by decide +kernel
theorem dX11_within_11 : decode cX11_within 11 = .ok (.goto 4, 3) := by decide +kernel
theorem dX11_within_14 : decode cX11_within 14 = .ok (.iconst 0, 1) := by decide +kernel
theorem dX11_within_15 : decode cX11_within 15 = .ok (.ireturn, 1) := by decide +kernel
theorem dX11_beyond_0 : decode cX11_beyond 0 = .ok (.lload_n 0, 1) := by decide +kernel
theorem dX11_beyond_1 : decode cX11_beyond 1 = .ok (.lload_n 2, 1) := by decide +kernel
theorem dX11_beyond_2 : decode cX11_beyond 2 = .ok (.lcmp, 1) := by decide +kernel
theorem dX11_beyond_3 : decode cX11_beyond 3 = .ok (.ifCond .gt 10, 3) := by decide +kernel
theorem dX11_beyond_6 : decode cX11_beyond 6 = .ok (.lload_n 0, 1) := by decide +kernel
theorem dX11_beyond_7 : decode cX11_beyond 7 = .ok (.lload_n 2, 1) := by decide +kernel
theorem dX11_beyond_8 : decode cX11_beyond 8 = .ok (.lneg, 1) := by decide +kernel
theorem dX11_beyond_9 : decode cX11_beyond 9 = .ok (.lcmp, 1) := by decide +kernel
theorem dX11_beyond_10 : decode cX11_beyond 10 = .ok (.ifCond .ge 7, 3) := by decide +kernel
theorem dX11_beyond_13 : decode cX11_beyond 13 = .ok (.iconst 1, 1) := by decide +kernel
theorem dX11_beyond_14 : decode cX11_beyond 14 = .ok (.goto 4, 3) := by decide +kernel
theorem dX11_beyond_17 : decode cX11_beyond 17 = .ok (.iconst 0, 1) := by decide +kernel
theorem dX11_beyond_18 : decode cX11_beyond 18 = .ok (.ireturn, 1) := by decide +kernel
theorem dX11_answer_0 : decode cX11_answer 0 = .ok (.lload_n 0, 1) := by decide +kernel
theorem dX11_answer_1 : decode cX11_answer 1 = .ok (.ldc2_w 215, 3) := by decide +kernel
theorem dX11_answer_4 : decode cX11_answer 4 = .ok (.lcmp, 1) := by decide +kernel
theorem dX11_answer_5 : decode cX11_answer 5 = .ok (.ifCond .ne 9, 3) := by decide +kernel
theorem dX11_answer_8 : decode cX11_answer 8 = .ok (.ldc2_w 217, 3) := by decide +kernel
theorem dX11_answer_11 : decode cX11_answer 11 = .ok (.goto 4, 3) := by decide +kernel
theorem dX11_answer_14 : decode cX11_answer 14 = .ok (.lload_n 0, 1) := by decide +kernel
theorem dX11_answer_15 : decode cX11_answer 15 = .ok (.lreturn, 1) := by decide +kernel
theorem dX11_digitAt_0 : decode cX11_digitAt 0 = .ok (.iload_n 0, 1) := by decide +kernel
theorem dX11_digitAt_1 : decode cX11_digitAt 1 = .ok (.iconst 4, 1) := by decide +kernel
theorem dX11_digitAt_2 : decode cX11_digitAt 2 = .ok (.iload_n 1, 1) := by decide +kernel
theorem dX11_digitAt_3 : decode cX11_digitAt 3 = .ok (.iconst 1, 1) := by decide +kernel
theorem dX11_digitAt_4 : decode cX11_digitAt 4 = .ok (.isub, 1) := by decide +kernel
theorem dX11_digitAt_5 : decode cX11_digitAt 5 = .ok (.iload_n 2, 1) := by decide +kernel
theorem dX11_digitAt_6 : decode cX11_digitAt 6 = .ok (.isub, 1) := by decide +kernel
theorem dX11_digitAt_7 : decode cX11_digitAt 7 = .ok (.imul, 1) := by decide +kernel
theorem dX11_digitAt_8 : decode cX11_digitAt 8 = .ok (.iushr, 1) := by decide +kernel
theorem dX11_digitAt_9 : decode cX11_digitAt 9 = .ok (.bipush 15, 2) := by decide +kernel
theorem dX11_digitAt_11 : decode cX11_digitAt 11 = .ok (.iand, 1) := by decide +kernel
theorem dX11_digitAt_12 : decode cX11_digitAt 12 = .ok (.ireturn, 1) := by decide +kernel
theorem dX11_hasDigitsAlone_0 : decode cX11_hasDigitsAlone 0 = .ok (.iload_n 1, 1) := by decide +kernel
theorem dX11_hasDigitsAlone_1 : decode cX11_hasDigitsAlone 1 = .ok (.bipush 8, 2) := by decide +kernel
theorem dX11_hasDigitsAlone_3 : decode cX11_hasDigitsAlone 3 = .ok (.if_icmp .ge 11, 3) := by decide +kernel
theorem dX11_hasDigitsAlone_6 : decode cX11_hasDigitsAlone 6 = .ok (.iload_n 0, 1) := by decide +kernel
theorem dX11_hasDigitsAlone_7 : decode cX11_hasDigitsAlone 7 = .ok (.iconst 4, 1) := by decide +kernel
theorem dX11_hasDigitsAlone_8 : decode cX11_hasDigitsAlone 8 = .ok (.iload_n 1, 1) := by decide +kernel
theorem dX11_hasDigitsAlone_9 : decode cX11_hasDigitsAlone 9 = .ok (.imul, 1) := by decide +kernel
theorem dX11_hasDigitsAlone_10 : decode cX11_hasDigitsAlone 10 = .ok (.iushr, 1) := by decide +kernel
theorem dX11_hasDigitsAlone_11 : decode cX11_hasDigitsAlone 11 = .ok (.ifCond .ne 7, 3) := by decide +kernel
theorem dX11_hasDigitsAlone_14 : decode cX11_hasDigitsAlone 14 = .ok (.iconst 1, 1) := by decide +kernel
theorem dX11_hasDigitsAlone_15 : decode cX11_hasDigitsAlone 15 = .ok (.goto 4, 3) := by decide +kernel
theorem dX11_hasDigitsAlone_18 : decode cX11_hasDigitsAlone 18 = .ok (.iconst 0, 1) := by decide +kernel
theorem dX11_hasDigitsAlone_19 : decode cX11_hasDigitsAlone 19 = .ok (.ireturn, 1) := by decide +kernel
theorem dX12_init_0 : decode cX12_init 0 = .ok (.aload_n 0, 1) := by decide +kernel
theorem dX12_init_1 : decode cX12_init 1 = .ok (.invokespecial 1, 3) := by decide +kernel
theorem dX12_init_4 : decode cX12_init 4 = .ok (.aload_n 0, 1) := by decide +kernel
theorem dX12_init_5 : decode cX12_init 5 = .ok (.bipush 120, 2) := by decide +kernel
theorem dX12_init_7 : decode cX12_init 7 = .ok (.newarray .int, 2) := by decide +kernel
theorem dX12_init_9 : decode cX12_init 9 = .ok (.putfield 7, 3) := by decide +kernel
theorem dX12_init_12 : decode cX12_init 12 = .ok (.aload_n 0, 1) := by decide +kernel
theorem dX12_init_13 : decode cX12_init 13 = .ok (.bipush 7, 2) := by decide +kernel
theorem dX12_init_15 : decode cX12_init 15 = .ok (.newarray .int, 2) := by decide +kernel
theorem dX12_init_17 : decode cX12_init 17 = .ok (.putfield 13, 3) := by decide +kernel
theorem dX12_init_20 : decode cX12_init 20 = .ok (.aload_n 0, 1) := by decide +kernel
theorem dX12_init_21 : decode cX12_init 21 = .ok (.bipush 28, 2) := by decide +kernel
theorem dX12_init_23 : decode cX12_init 23 = .ok (.newarray .int, 2) := by decide +kernel
theorem dX12_init_25 : decode cX12_init 25 = .ok (.putfield 16, 3) := by decide +kernel
theorem dX12_init_28 : decode cX12_init 28 = .ok (.aload_n 0, 1) := by decide +kernel
theorem dX12_init_29 : decode cX12_init 29 = .ok (.iconst 4, 1) := by decide +kernel
theorem dX12_init_30 : decode cX12_init 30 = .ok (.newarray .int, 2) := by decide +kernel
theorem dX12_init_32 : decode cX12_init 32 = .ok (.putfield 19, 3) := by decide +kernel
theorem dX12_init_35 : decode cX12_init 35 = .ok (.aload_n 0, 1) := by decide +kernel
theorem dX12_init_36 : decode cX12_init 36 = .ok (.sipush 650, 3) := by decide +kernel
theorem dX12_init_39 : decode cX12_init 39 = .ok (.newarray .long, 2) := by decide +kernel
theorem dX12_init_41 : decode cX12_init 41 = .ok (.putfield 22, 3) := by decide +kernel
theorem dX12_init_44 : decode cX12_init 44 = .ok (.aload_n 0, 1) := by decide +kernel
theorem dX12_init_45 : decode cX12_init 45 = .ok (.sipush 650, 3) := by decide +kernel
theorem dX12_init_48 : decode cX12_init 48 = .ok (.newarray .boolean, 2) := by decide +kernel
theorem dX12_init_50 : decode cX12_init 50 = .ok (.putfield 26, 3) := by decide +kernel
theorem dX12_init_53 : decode cX12_init 53 = .ok (.aload_n 0, 1) := by decide +kernel
theorem dX12_init_54 : decode cX12_init 54 = .ok (.bipush 122, 2) := by decide +kernel
theorem dX12_init_56 : decode cX12_init 56 = .ok (.newarray .int, 2) := by decide +kernel
theorem dX12_init_58 : decode cX12_init 58 = .ok (.putfield 30, 3) := by decide +kernel
theorem dX12_init_61 : decode cX12_init 61 = .ok (.aload_n 0, 1) := by decide +kernel
theorem dX12_init_62 : decode cX12_init 62 = .ok (.bipush 25, 2) := by decide +kernel
theorem dX12_init_64 : decode cX12_init 64 = .ok (.newarray .long, 2) := by decide +kernel
theorem dX12_init_66 : decode cX12_init 66 = .ok (.putfield 33, 3) := by decide +kernel
theorem dX12_init_69 : decode cX12_init 69 = .ok (.aload_n 0, 1) := by decide +kernel
theorem dX12_init_70 : decode cX12_init 70 = .ok (.bipush 8, 2) := by decide +kernel
theorem dX12_init_72 : decode cX12_init 72 = .ok (.newarray .int, 2) := by decide +kernel
theorem dX12_init_74 : decode cX12_init 74 = .ok (.putfield 36, 3) := by decide +kernel
theorem dX12_init_77 : decode cX12_init 77 = .ok (.aload_n 0, 1) := by decide +kernel
theorem dX12_init_78 : decode cX12_init 78 = .ok (.bipush 8, 2) := by decide +kernel
theorem dX12_init_80 : decode cX12_init 80 = .ok (.newarray .int, 2) := by decide +kernel
theorem dX12_init_82 : decode cX12_init 82 = .ok (.putfield 39, 3) := by decide +kernel
theorem dX12_init_85 : decode cX12_init 85 = .ok (.aload_n 0, 1) := by decide +kernel
theorem dX12_init_86 : decode cX12_init 86 = .ok (.bipush 8, 2) := by decide +kernel
theorem dX12_init_88 : decode cX12_init 88 = .ok (.newarray .int, 2) := by decide +kernel
theorem dX12_init_90 : decode cX12_init 90 = .ok (.putfield 42, 3) := by decide +kernel
theorem dX12_init_93 : decode cX12_init 93 = .ok (.aload_n 0, 1) := by decide +kernel
theorem dX12_init_94 : decode cX12_init 94 = .ok (.iconst 4, 1) := by decide +kernel
theorem dX12_init_95 : decode cX12_init 95 = .ok (.newarray .int, 2) := by decide +kernel
theorem dX12_init_97 : decode cX12_init 97 = .ok (.putfield 45, 3) := by decide +kernel
theorem dX12_init_100 : decode cX12_init 100 = .ok (.aload_n 0, 1) := by decide +kernel
theorem dX12_init_101 : decode cX12_init 101 = .ok (.bipush 36, 2) := by decide +kernel
theorem dX12_init_103 : decode cX12_init 103 = .ok (.newarray .long, 2) := by decide +kernel
theorem dX12_init_105 : decode cX12_init 105 = .ok (.putfield 48, 3) := by decide +kernel
theorem dX12_init_108 : decode cX12_init 108 = .ok (.aload_n 0, 1) := by decide +kernel
theorem dX12_init_109 : decode cX12_init 109 = .ok (.bipush 9, 2) := by decide +kernel
theorem dX12_init_111 : decode cX12_init 111 = .ok (.newarray .long, 2) := by decide +kernel
theorem dX12_init_113 : decode cX12_init 113 = .ok (.putfield 51, 3) := by decide +kernel
theorem dX12_init_116 : decode cX12_init 116 = .ok (.aload_n 0, 1) := by decide +kernel
theorem dX12_init_117 : decode cX12_init 117 = .ok (.bipush 9, 2) := by decide +kernel
theorem dX12_init_119 : decode cX12_init 119 = .ok (.newarray .long, 2) := by decide +kernel
theorem dX12_init_121 : decode cX12_init 121 = .ok (.putfield 54, 3) := by decide +kernel
theorem dX12_init_124 : decode cX12_init 124 = .ok (.aload_n 0, 1) := by decide +kernel
theorem dX12_init_125 : decode cX12_init 125 = .ok (.bipush 9, 2) := by decide +kernel
theorem dX12_init_127 : decode cX12_init 127 = .ok (.newarray .long, 2) := by decide +kernel
theorem dX12_init_129 : decode cX12_init 129 = .ok (.putfield 57, 3) := by decide +kernel
theorem dX12_init_132 : decode cX12_init 132 = .ok (.iconst 0, 1) := by decide +kernel
theorem dX12_init_133 : decode cX12_init 133 = .ok (.istore_n 1, 1) := by decide +kernel
theorem dX12_init_134 : decode cX12_init 134 = .ok (.iload_n 1, 1) := by decide +kernel
theorem dX12_init_135 : decode cX12_init 135 = .ok (.iconst 4, 1) := by decide +kernel
theorem dX12_init_136 : decode cX12_init 136 = .ok (.if_icmp .ge 22, 3) := by decide +kernel
theorem dX12_init_139 : decode cX12_init 139 = .ok (.aload_n 0, 1) := by decide +kernel
theorem dX12_init_140 : decode cX12_init 140 = .ok (.getfield 16, 3) := by decide +kernel
theorem dX12_init_143 : decode cX12_init 143 = .ok (.bipush 7, 2) := by decide +kernel
theorem dX12_init_145 : decode cX12_init 145 = .ok (.iload_n 1, 1) := by decide +kernel
theorem dX12_init_146 : decode cX12_init 146 = .ok (.imul, 1) := by decide +kernel
theorem dX12_init_147 : decode cX12_init 147 = .ok (.bipush 6, 2) := by decide +kernel
theorem dX12_init_149 : decode cX12_init 149 = .ok (.iadd, 1) := by decide +kernel
theorem dX12_init_150 : decode cX12_init 150 = .ok (.iconst 1, 1) := by decide +kernel
theorem dX12_init_151 : decode cX12_init 151 = .ok (.iastore, 1) := by decide +kernel
theorem dX12_init_152 : decode cX12_init 152 = .ok (.iinc 1 1, 3) := by decide +kernel
theorem dX12_init_155 : decode cX12_init 155 = .ok (.goto (-21), 3) := by decide +kernel
theorem dX12_init_158 : decode cX12_init 158 = .ok (.return_, 1) := by decide +kernel
theorem dX12_in_0 : decode cX12_in 0 = .ok (.lload_n 0, 1) := by decide +kernel
theorem dX12_in_1 : decode cX12_in 1 = .ok (.lload_n 2, 1) := by decide +kernel
theorem dX12_in_2 : decode cX12_in 2 = .ok (.lcmp, 1) := by decide +kernel
theorem dX12_in_3 : decode cX12_in 3 = .ok (.ifCond .lt 14, 3) := by decide +kernel
theorem dX12_in_6 : decode cX12_in 6 = .ok (.lload_n 0, 1) := by decide +kernel
theorem dX12_in_7 : decode cX12_in 7 = .ok (.lload 4, 2) := by decide +kernel
theorem dX12_in_9 : decode cX12_in 9 = .ok (.lcmp, 1) := by decide +kernel
theorem dX12_in_10 : decode cX12_in 10 = .ok (.ifCond .gt 7, 3) := by decide +kernel
theorem dX12_in_13 : decode cX12_in 13 = .ok (.iconst 1, 1) := by decide +kernel
theorem dX12_in_14 : decode cX12_in 14 = .ok (.goto 4, 3) := by decide +kernel
theorem dX12_in_17 : decode cX12_in 17 = .ok (.iconst 0, 1) := by decide +kernel
theorem dX12_in_18 : decode cX12_in 18 = .ok (.ireturn, 1) := by decide +kernel
theorem dX12_write_0 : decode cX12_write 0 = .ok (.iload_n 1, 1) := by decide +kernel
theorem dX12_write_1 : decode cX12_write 1 = .ok (.i2l, 1) := by decide +kernel
theorem dX12_write_2 : decode cX12_write 2 = .ok (.lconst 1, 1) := by decide +kernel
theorem dX12_write_3 : decode cX12_write 3 = .ok (.ldc2_w 60, 3) := by decide +kernel
theorem dX12_write_6 : decode cX12_write 6 = .ok (.invokestatic 62, 3) := by decide +kernel
theorem dX12_write_9 : decode cX12_write 9 = .ok (.ifCond .ne 5, 3) := by decide +kernel
theorem dX12_write_12 : decode cX12_write 12 = .ok (.iconst (-1), 1) := by decide +kernel
theorem dX12_write_13 : decode cX12_write 13 = .ok (.ireturn, 1) := by decide +kernel
theorem dX12_write_14 : decode cX12_write 14 = .ok (.aload_n 0, 1) := by decide +kernel
theorem dX12_write_15 : decode cX12_write 15 = .ok (.getfield 66, 3) := by decide +kernel
theorem dX12_write_18 : decode cX12_write 18 = .ok (.iload_n 1, 1) := by decide +kernel
theorem dX12_write_19 : decode cX12_write 19 = .ok (.iadd, 1) := by decide +kernel
theorem dX12_write_20 : decode cX12_write 20 = .ok (.bipush 120, 2) := by decide +kernel
theorem dX12_write_22 : decode cX12_write 22 = .ok (.if_icmp .le 6, 3) := by decide +kernel
theorem dX12_write_25 : decode cX12_write 25 = .ok (.bipush (-3), 2) := by decide +kernel
theorem dX12_write_27 : decode cX12_write 27 = .ok (.ireturn, 1) := by decide +kernel
theorem dX12_write_28 : decode cX12_write 28 = .ok (.iconst 0, 1) := by decide +kernel
theorem dX12_write_29 : decode cX12_write 29 = .ok (.istore 4, 2) := by decide +kernel
theorem dX12_write_31 : decode cX12_write 31 = .ok (.iload 4, 2) := by decide +kernel
theorem dX12_write_33 : decode cX12_write 33 = .ok (.iload_n 1, 1) := by decide +kernel
theorem dX12_write_34 : decode cX12_write 34 = .ok (.if_icmp .ge 37, 3) := by decide +kernel
theorem dX12_write_37 : decode cX12_write 37 = .ok (.aload_n 0, 1) := by decide +kernel
theorem dX12_write_38 : decode cX12_write 38 = .ok (.getfield 7, 3) := by decide +kernel
theorem dX12_write_41 : decode cX12_write 41 = .ok (.aload_n 0, 1) := by decide +kernel
theorem dX12_write_42 : decode cX12_write 42 = .ok (.getfield 66, 3) := by decide +kernel
theorem dX12_write_45 : decode cX12_write 45 = .ok (.iload 4, 2) := by decide +kernel
theorem dX12_write_47 : decode cX12_write 47 = .ok (.iadd, 1) := by decide +kernel
theorem dX12_write_48 : decode cX12_write 48 = .ok (.lload_n 2, 1) := by decide +kernel
theorem dX12_write_49 : decode cX12_write 49 = .ok (.bipush 8, 2) := by decide +kernel
theorem dX12_write_51 : decode cX12_write 51 = .ok (.iload_n 1, 1) := by decide +kernel
theorem dX12_write_52 : decode cX12_write 52 = .ok (.iconst 1, 1) := by decide +kernel
theorem dX12_write_53 : decode cX12_write 53 = .ok (.isub, 1) := by decide +kernel
theorem dX12_write_54 : decode cX12_write 54 = .ok (.iload 4, 2) := by decide +kernel
theorem dX12_write_56 : decode cX12_write 56 = .ok (.isub, 1) := by decide +kernel
theorem dX12_write_57 : decode cX12_write 57 = .ok (.imul, 1) := by decide +kernel
theorem dX12_write_58 : decode cX12_write 58 = .ok (.lshr, 1) := by decide +kernel
theorem dX12_write_59 : decode cX12_write 59 = .ok (.ldc2_w 70, 3) := by decide +kernel
theorem dX12_write_62 : decode cX12_write 62 = .ok (.land, 1) := by decide +kernel
theorem dX12_write_63 : decode cX12_write 63 = .ok (.l2i, 1) := by decide +kernel
theorem dX12_write_64 : decode cX12_write 64 = .ok (.iastore, 1) := by decide +kernel
theorem dX12_write_65 : decode cX12_write 65 = .ok (.iinc 4 1, 3) := by decide +kernel
theorem dX12_write_68 : decode cX12_write 68 = .ok (.goto (-37), 3) := by decide +kernel
theorem dX12_write_71 : decode cX12_write 71 = .ok (.aload_n 0, 1) := by decide +kernel
theorem dX12_write_72 : decode cX12_write 72 = .ok (.dup, 1) := by decide +kernel
theorem dX12_write_73 : decode cX12_write 73 = .ok (.getfield 66, 3) := by decide +kernel
theorem dX12_write_76 : decode cX12_write 76 = .ok (.iload_n 1, 1) := by decide +kernel
theorem dX12_write_77 : decode cX12_write 77 = .ok (.iadd, 1) := by decide +kernel
theorem dX12_write_78 : decode cX12_write 78 = .ok (.putfield 66, 3) := by decide +kernel
theorem dX12_write_81 : decode cX12_write 81 = .ok (.aload_n 0, 1) := by decide +kernel
theorem dX12_write_82 : decode cX12_write 82 = .ok (.getfield 66, 3) := by decide +kernel
theorem dX12_write_85 : decode cX12_write 85 = .ok (.ireturn, 1) := by decide +kernel
theorem dX12_wipe_0 : decode cX12_wipe 0 = .ok (.aload_n 0, 1) := by decide +kernel
theorem dX12_wipe_1 : decode cX12_wipe 1 = .ok (.getfield 66, 3) := by decide +kernel
theorem dX12_wipe_4 : decode cX12_wipe 4 = .ok (.istore_n 1, 1) := by decide +kernel
theorem dX12_wipe_5 : decode cX12_wipe 5 = .ok (.aload_n 0, 1) := by decide +kernel
theorem dX12_wipe_6 : decode cX12_wipe 6 = .ok (.iconst 0, 1) := by decide +kernel
theorem dX12_wipe_7 : decode cX12_wipe 7 = .ok (.putfield 66, 3) := by decide +kernel
theorem dX12_wipe_10 : decode cX12_wipe 10 = .ok (.iload_n 1, 1) := by decide +kernel
theorem dX12_wipe_11 : decode cX12_wipe 11 = .ok (.ireturn, 1) := by decide +kernel
theorem dX12_byteNow_0 : decode cX12_byteNow 0 = .ok (.aload_n 0, 1) := by decide +kernel
theorem dX12_byteNow_1 : decode cX12_byteNow 1 = .ok (.getfield 72, 3) := by decide +kernel
theorem dX12_byteNow_4 : decode cX12_byteNow 4 = .ok (.aload_n 0, 1) := by decide +kernel
theorem dX12_byteNow_5 : decode cX12_byteNow 5 = .ok (.getfield 66, 3) := by decide +kernel
theorem dX12_byteNow_8 : decode cX12_byteNow 8 = .ok (.if_icmp .ge 15, 3) := by decide +kernel
theorem dX12_byteNow_11 : decode cX12_byteNow 11 = .ok (.aload_n 0, 1) := by decide +kernel
theorem dX12_byteNow_12 : decode cX12_byteNow 12 = .ok (.getfield 7, 3) := by decide +kernel
theorem dX12_byteNow_15 : decode cX12_byteNow 15 = .ok (.aload_n 0, 1) := by decide +kernel
theorem dX12_byteNow_16 : decode cX12_byteNow 16 = .ok (.getfield 72, 3) := by decide +kernel
theorem dX12_byteNow_19 : decode cX12_byteNow 19 = .ok (.iaload, 1) := by decide +kernel
theorem dX12_byteNow_20 : decode cX12_byteNow 20 = .ok (.goto 5, 3) := by decide +kernel
theorem dX12_byteNow_23 : decode cX12_byteNow 23 = .ok (.bipush (-4), 2) := by decide +kernel
theorem dX12_byteNow_25 : decode cX12_byteNow 25 = .ok (.ireturn, 1) := by decide +kernel
theorem dX12_isNumber_0 : decode cX12_isNumber 0 = .ok (.aload_n 0, 1) := by decide +kernel
theorem dX12_isNumber_1 : decode cX12_isNumber 1 = .ok (.invokevirtual 75, 3) := by decide +kernel
theorem dX12_isNumber_4 : decode cX12_isNumber 4 = .ok (.bipush 45, 2) := by decide +kernel
theorem dX12_isNumber_6 : decode cX12_isNumber 6 = .ok (.if_icmp .ne 7, 3) := by decide +kernel
theorem dX12_isNumber_9 : decode cX12_isNumber 9 = .ok (.iconst 1, 1) := by decide +kernel
theorem dX12_isNumber_10 : decode cX12_isNumber 10 = .ok (.goto 4, 3) := by decide +kernel
theorem dX12_isNumber_13 : decode cX12_isNumber 13 = .ok (.iconst 0, 1) := by decide +kernel
theorem dX12_isNumber_14 : decode cX12_isNumber 14 = .ok (.istore_n 3, 1) := by decide +kernel
theorem dX12_isNumber_15 : decode cX12_isNumber 15 = .ok (.aload_n 0, 1) := by decide +kernel
theorem dX12_isNumber_16 : decode cX12_isNumber 16 = .ok (.dup, 1) := by decide +kernel
theorem dX12_isNumber_17 : decode cX12_isNumber 17 = .ok (.getfield 72, 3) := by decide +kernel
theorem dX12_isNumber_20 : decode cX12_isNumber 20 = .ok (.iload_n 3, 1) := by decide +kernel
theorem dX12_isNumber_21 : decode cX12_isNumber 21 = .ok (.ifCond .eq 7, 3) := by decide +kernel
theorem dX12_isNumber_24 : decode cX12_isNumber 24 = .ok (.iconst 1, 1) := by decide +kernel
theorem dX12_isNumber_25 : decode cX12_isNumber 25 = .ok (.goto 4, 3) := by decide +kernel
theorem dX12_isNumber_28 : decode cX12_isNumber 28 = .ok (.iconst 0, 1) := by decide +kernel
theorem dX12_isNumber_29 : decode cX12_isNumber 29 = .ok (.iadd, 1) := by decide +kernel
theorem dX12_isNumber_30 : decode cX12_isNumber 30 = .ok (.putfield 72, 3) := by decide +kernel
theorem dX12_isNumber_33 : decode cX12_isNumber 33 = .ok (.aload_n 0, 1) := by decide +kernel
theorem dX12_isNumber_34 : decode cX12_isNumber 34 = .ok (.invokevirtual 75, 3) := by decide +kernel
theorem dX12_isNumber_37 : decode cX12_isNumber 37 = .ok (.bipush 48, 2) := by decide +kernel
theorem dX12_isNumber_39 : decode cX12_isNumber 39 = .ok (.isub, 1) := by decide +kernel
theorem dX12_isNumber_40 : decode cX12_isNumber 40 = .ok (.istore 4, 2) := by decide +kernel
theorem dX12_isNumber_42 : decode cX12_isNumber 42 = .ok (.iload 4, 2) := by decide +kernel
theorem dX12_isNumber_44 : decode cX12_isNumber 44 = .ok (.i2l, 1) := by decide +kernel
theorem dX12_isNumber_45 : decode cX12_isNumber 45 = .ok (.iload_n 3, 1) := by decide +kernel
theorem dX12_isNumber_46 : decode cX12_isNumber 46 = .ok (.ifCond .eq 7, 3) := by decide +kernel
theorem dX12_isNumber_49 : decode cX12_isNumber 49 = .ok (.lconst 1, 1) := by decide +kernel
theorem dX12_isNumber_50 : decode cX12_isNumber 50 = .ok (.goto 4, 3) := by decide +kernel
theorem dX12_isNumber_53 : decode cX12_isNumber 53 = .ok (.lconst 0, 1) := by decide +kernel
theorem dX12_isNumber_54 : decode cX12_isNumber 54 = .ok (.ldc2_w 79, 3) := by decide +kernel
theorem dX12_isNumber_57 : decode cX12_isNumber 57 = .ok (.invokestatic 62, 3) := by decide +kernel
theorem dX12_isNumber_60 : decode cX12_isNumber 60 = .ok (.ifCond .ne 5, 3) := by decide +kernel
theorem dX12_isNumber_63 : decode cX12_isNumber 63 = .ok (.iconst 0, 1) := by decide +kernel
theorem dX12_isNumber_64 : decode cX12_isNumber 64 = .ok (.ireturn, 1) := by decide +kernel
theorem dX12_isNumber_65 : decode cX12_isNumber 65 = .ok (.aload_n 0, 1) := by decide +kernel
theorem dX12_isNumber_66 : decode cX12_isNumber 66 = .ok (.getfield 13, 3) := by decide +kernel
theorem dX12_isNumber_69 : decode cX12_isNumber 69 = .ok (.iload_n 1, 1) := by decide +kernel
theorem dX12_isNumber_70 : decode cX12_isNumber 70 = .ok (.iload_n 3, 1) := by decide +kernel
theorem dX12_isNumber_71 : decode cX12_isNumber 71 = .ok (.ifCond .eq 9, 3) := by decide +kernel
theorem dX12_isNumber_74 : decode cX12_isNumber 74 = .ok (.iload 4, 2) := by decide +kernel
theorem dX12_isNumber_76 : decode cX12_isNumber 76 = .ok (.ineg, 1) := by decide +kernel
theorem dX12_isNumber_77 : decode cX12_isNumber 77 = .ok (.goto 5, 3) := by decide +kernel
theorem dX12_isNumber_80 : decode cX12_isNumber 80 = .ok (.iload 4, 2) := by decide +kernel
theorem dX12_isNumber_82 : decode cX12_isNumber 82 = .ok (.iastore, 1) := by decide +kernel
theorem dX12_isNumber_83 : decode cX12_isNumber 83 = .ok (.aload_n 0, 1) := by decide +kernel
theorem dX12_isNumber_84 : decode cX12_isNumber 84 = .ok (.dup, 1) := by decide +kernel
theorem dX12_isNumber_85 : decode cX12_isNumber 85 = .ok (.getfield 72, 3) := by decide +kernel
theorem dX12_isNumber_88 : decode cX12_isNumber 88 = .ok (.iconst 1, 1) := by decide +kernel
theorem dX12_isNumber_89 : decode cX12_isNumber 89 = .ok (.iadd, 1) := by decide +kernel
theorem dX12_isNumber_90 : decode cX12_isNumber 90 = .ok (.putfield 72, 3) := by decide +kernel
theorem dX12_isNumber_93 : decode cX12_isNumber 93 = .ok (.aload_n 0, 1) := by decide +kernel
theorem dX12_isNumber_94 : decode cX12_isNumber 94 = .ok (.invokevirtual 75, 3) := by decide +kernel
theorem dX12_isNumber_97 : decode cX12_isNumber 97 = .ok (.iload_n 2, 1) := by decide +kernel
theorem dX12_isNumber_98 : decode cX12_isNumber 98 = .ok (.if_icmp .eq 5, 3) := by decide +kernel
theorem dX12_isNumber_101 : decode cX12_isNumber 101 = .ok (.iconst 0, 1) := by decide +kernel
theorem dX12_isNumber_102 : decode cX12_isNumber 102 = .ok (.ireturn, 1) := by decide +kernel
theorem dX12_isNumber_103 : decode cX12_isNumber 103 = .ok (.aload_n 0, 1) := by decide +kernel
theorem dX12_isNumber_104 : decode cX12_isNumber 104 = .ok (.dup, 1) := by decide +kernel
theorem dX12_isNumber_105 : decode cX12_isNumber 105 = .ok (.getfield 72, 3) := by decide +kernel
theorem dX12_isNumber_108 : decode cX12_isNumber 108 = .ok (.iconst 1, 1) := by decide +kernel
theorem dX12_isNumber_109 : decode cX12_isNumber 109 = .ok (.iadd, 1) := by decide +kernel
theorem dX12_isNumber_110 : decode cX12_isNumber 110 = .ok (.putfield 72, 3) := by decide +kernel
theorem dX12_isNumber_113 : decode cX12_isNumber 113 = .ok (.iconst 1, 1) := by decide +kernel
theorem dX12_isNumber_114 : decode cX12_isNumber 114 = .ok (.ireturn, 1) := by decide +kernel
theorem dX12_isItem_0 : decode cX12_isItem 0 = .ok (.aload_n 0, 1) := by decide +kernel
theorem dX12_isItem_1 : decode cX12_isItem 1 = .ok (.invokevirtual 75, 3) := by decide +kernel
theorem dX12_isItem_4 : decode cX12_isItem 4 = .ok (.istore_n 1, 1) := by decide +kernel
theorem dX12_isItem_5 : decode cX12_isItem 5 = .ok (.aload_n 0, 1) := by decide +kernel
theorem dX12_isItem_6 : decode cX12_isItem 6 = .ok (.dup, 1) := by decide +kernel
theorem dX12_isItem_7 : decode cX12_isItem 7 = .ok (.getfield 72, 3) := by decide +kernel
theorem dX12_isItem_10 : decode cX12_isItem 10 = .ok (.iconst 1, 1) := by decide +kernel
theorem dX12_isItem_11 : decode cX12_isItem 11 = .ok (.iadd, 1) := by decide +kernel
theorem dX12_isItem_12 : decode cX12_isItem 12 = .ok (.putfield 72, 3) := by decide +kernel
theorem dX12_isItem_15 : decode cX12_isItem 15 = .ok (.iload_n 1, 1) := by decide +kernel
theorem dX12_isItem_16 : decode cX12_isItem 16 = .ok (.bipush 115, 2) := by decide +kernel
theorem dX12_isItem_18 : decode cX12_isItem 18 = .ok (.if_icmp .ne 12, 3) := by decide +kernel
theorem dX12_isItem_21 : decode cX12_isItem 21 = .ok (.aload_n 0, 1) := by decide +kernel
theorem dX12_isItem_22 : decode cX12_isItem 22 = .ok (.bipush 6, 2) := by decide +kernel
theorem dX12_isItem_24 : decode cX12_isItem 24 = .ok (.bipush 59, 2) := by decide +kernel
theorem dX12_isItem_26 : decode cX12_isItem 26 = .ok (.invokevirtual 81, 3) := by decide +kernel
theorem dX12_isItem_29 : decode cX12_isItem 29 = .ok (.ireturn, 1) := by decide +kernel
theorem dX12_isItem_30 : decode cX12_isItem 30 = .ok (.iload_n 1, 1) := by decide +kernel
theorem dX12_isItem_31 : decode cX12_isItem 31 = .ok (.bipush 97, 2) := by decide +kernel
theorem dX12_isItem_33 : decode cX12_isItem 33 = .ok (.if_icmp .ne 7, 3) := by decide +kernel
theorem dX12_isItem_36 : decode cX12_isItem 36 = .ok (.iconst 0, 1) := by decide +kernel
theorem dX12_isItem_37 : decode cX12_isItem 37 = .ok (.goto 4, 3) := by decide +kernel
theorem dX12_isItem_40 : decode cX12_isItem 40 = .ok (.iconst 3, 1) := by decide +kernel
theorem dX12_isItem_41 : decode cX12_isItem 41 = .ok (.istore_n 2, 1) := by decide +kernel
theorem dX12_isItem_42 : decode cX12_isItem 42 = .ok (.iload_n 1, 1) := by decide +kernel
theorem dX12_isItem_43 : decode cX12_isItem 43 = .ok (.bipush 97, 2) := by decide +kernel
theorem dX12_isItem_45 : decode cX12_isItem 45 = .ok (.if_icmp .eq 9, 3) := by decide +kernel
theorem dX12_isItem_48 : decode cX12_isItem 48 = .ok (.iload_n 1, 1) := by decide +kernel
theorem dX12_isItem_49 : decode cX12_isItem 49 = .ok (.bipush 98, 2) := by decide +kernel
theorem dX12_isItem_51 : decode cX12_isItem 51 = .ok (.if_icmp .ne 41, 3) := by decide +kernel
theorem dX12_isItem_54 : decode cX12_isItem 54 = .ok (.aload_n 0, 1) := by decide +kernel
theorem dX12_isItem_55 : decode cX12_isItem 55 = .ok (.iload_n 2, 1) := by decide +kernel
theorem dX12_isItem_56 : decode cX12_isItem 56 = .ok (.bipush 44, 2) := by decide +kernel
theorem dX12_isItem_58 : decode cX12_isItem 58 = .ok (.invokevirtual 81, 3) := by decide +kernel
theorem dX12_isItem_61 : decode cX12_isItem 61 = .ok (.ifCond .eq 31, 3) := by decide +kernel
theorem dX12_isItem_64 : decode cX12_isItem 64 = .ok (.aload_n 0, 1) := by decide +kernel
theorem dX12_isItem_65 : decode cX12_isItem 65 = .ok (.iload_n 2, 1) := by decide +kernel
theorem dX12_isItem_66 : decode cX12_isItem 66 = .ok (.iconst 1, 1) := by decide +kernel
theorem dX12_isItem_67 : decode cX12_isItem 67 = .ok (.iadd, 1) := by decide +kernel
theorem dX12_isItem_68 : decode cX12_isItem 68 = .ok (.bipush 44, 2) := by decide +kernel
theorem dX12_isItem_70 : decode cX12_isItem 70 = .ok (.invokevirtual 81, 3) := by decide +kernel
theorem dX12_isItem_73 : decode cX12_isItem 73 = .ok (.ifCond .eq 19, 3) := by decide +kernel
theorem dX12_isItem_76 : decode cX12_isItem 76 = .ok (.aload_n 0, 1) := by decide +kernel
theorem dX12_isItem_77 : decode cX12_isItem 77 = .ok (.iload_n 2, 1) := by decide +kernel
theorem dX12_isItem_78 : decode cX12_isItem 78 = .ok (.iconst 2, 1) := by decide +kernel
theorem dX12_isItem_79 : decode cX12_isItem 79 = .ok (.iadd, 1) := by decide +kernel
theorem dX12_isItem_80 : decode cX12_isItem 80 = .ok (.bipush 59, 2) := by decide +kernel
theorem dX12_isItem_82 : decode cX12_isItem 82 = .ok (.invokevirtual 81, 3) := by decide +kernel
theorem dX12_isItem_85 : decode cX12_isItem 85 = .ok (.ifCond .eq 7, 3) := by decide +kernel
theorem dX12_isItem_88 : decode cX12_isItem 88 = .ok (.iconst 1, 1) := by decide +kernel
theorem dX12_isItem_89 : decode cX12_isItem 89 = .ok (.goto 4, 3) := by decide +kernel
theorem dX12_isItem_92 : decode cX12_isItem 92 = .ok (.iconst 0, 1) := by decide +kernel
theorem dX12_isItem_93 : decode cX12_isItem 93 = .ok (.ireturn, 1) := by decide +kernel
theorem dX12_isRead_0 : decode cX12_isRead 0 = .ok (.aload_n 0, 1) := by decide +kernel
theorem dX12_isRead_1 : decode cX12_isRead 1 = .ok (.iconst 0, 1) := by decide +kernel
theorem dX12_isRead_2 : decode cX12_isRead 2 = .ok (.putfield 72, 3) := by decide +kernel
theorem dX12_isRead_5 : decode cX12_isRead 5 = .ok (.aload_n 0, 1) := by decide +kernel
theorem dX12_isRead_6 : decode cX12_isRead 6 = .ok (.iconst 0, 1) := by decide +kernel
theorem dX12_isRead_7 : decode cX12_isRead 7 = .ok (.putfield 85, 3) := by decide +kernel
theorem dX12_isRead_10 : decode cX12_isRead 10 = .ok (.iconst 0, 1) := by decide +kernel
theorem dX12_isRead_11 : decode cX12_isRead 11 = .ok (.istore_n 1, 1) := by decide +kernel
theorem dX12_isRead_12 : decode cX12_isRead 12 = .ok (.iload_n 1, 1) := by decide +kernel
theorem dX12_isRead_13 : decode cX12_isRead 13 = .ok (.bipush 7, 2) := by decide +kernel
theorem dX12_isRead_15 : decode cX12_isRead 15 = .ok (.if_icmp .ge 26, 3) := by decide +kernel
theorem dX12_isRead_18 : decode cX12_isRead 18 = .ok (.aload_n 0, 1) := by decide +kernel
theorem dX12_isRead_19 : decode cX12_isRead 19 = .ok (.getfield 13, 3) := by decide +kernel
theorem dX12_isRead_22 : decode cX12_isRead 22 = .ok (.iload_n 1, 1) := by decide +kernel
theorem dX12_isRead_23 : decode cX12_isRead 23 = .ok (.iload_n 1, 1) := by decide +kernel
theorem dX12_isRead_24 : decode cX12_isRead 24 = .ok (.bipush 6, 2) := by decide +kernel
theorem dX12_isRead_26 : decode cX12_isRead 26 = .ok (.if_icmp .ne 7, 3) := by decide +kernel
theorem dX12_isRead_29 : decode cX12_isRead 29 = .ok (.iconst 1, 1) := by decide +kernel
theorem dX12_isRead_30 : decode cX12_isRead 30 = .ok (.goto 4, 3) := by decide +kernel
theorem dX12_isRead_33 : decode cX12_isRead 33 = .ok (.iconst 0, 1) := by decide +kernel
theorem dX12_isRead_34 : decode cX12_isRead 34 = .ok (.iastore, 1) := by decide +kernel
theorem dX12_isRead_35 : decode cX12_isRead 35 = .ok (.iinc 1 1, 3) := by decide +kernel
theorem dX12_isRead_38 : decode cX12_isRead 38 = .ok (.goto (-26), 3) := by decide +kernel
theorem dX12_isRead_41 : decode cX12_isRead 41 = .ok (.aload_n 0, 1) := by decide +kernel
theorem dX12_isRead_42 : decode cX12_isRead 42 = .ok (.getfield 72, 3) := by decide +kernel
theorem dX12_isRead_45 : decode cX12_isRead 45 = .ok (.aload_n 0, 1) := by decide +kernel
theorem dX12_isRead_46 : decode cX12_isRead 46 = .ok (.getfield 66, 3) := by decide +kernel
theorem dX12_isRead_49 : decode cX12_isRead 49 = .ok (.if_icmp .ge 33, 3) := by decide +kernel
theorem dX12_isRead_52 : decode cX12_isRead 52 = .ok (.aload_n 0, 1) := by decide +kernel
theorem dX12_isRead_53 : decode cX12_isRead 53 = .ok (.aload_n 0, 1) := by decide +kernel
theorem dX12_isRead_54 : decode cX12_isRead 54 = .ok (.getfield 72, 3) := by decide +kernel
theorem dX12_isRead_57 : decode cX12_isRead 57 = .ok (.putfield 88, 3) := by decide +kernel
theorem dX12_isRead_60 : decode cX12_isRead 60 = .ok (.aload_n 0, 1) := by decide +kernel
theorem dX12_isRead_61 : decode cX12_isRead 61 = .ok (.invokevirtual 91, 3) := by decide +kernel
theorem dX12_isRead_64 : decode cX12_isRead 64 = .ok (.ifCond .ne 5, 3) := by decide +kernel
theorem dX12_isRead_67 : decode cX12_isRead 67 = .ok (.iconst 0, 1) := by decide +kernel
theorem dX12_isRead_68 : decode cX12_isRead 68 = .ok (.ireturn, 1) := by decide +kernel
theorem dX12_isRead_69 : decode cX12_isRead 69 = .ok (.aload_n 0, 1) := by decide +kernel
theorem dX12_isRead_70 : decode cX12_isRead 70 = .ok (.dup, 1) := by decide +kernel
theorem dX12_isRead_71 : decode cX12_isRead 71 = .ok (.getfield 85, 3) := by decide +kernel
theorem dX12_isRead_74 : decode cX12_isRead 74 = .ok (.iconst 1, 1) := by decide +kernel
theorem dX12_isRead_75 : decode cX12_isRead 75 = .ok (.iadd, 1) := by decide +kernel
theorem dX12_isRead_76 : decode cX12_isRead 76 = .ok (.putfield 85, 3) := by decide +kernel
theorem dX12_isRead_79 : decode cX12_isRead 79 = .ok (.goto (-38), 3) := by decide +kernel
theorem dX12_isRead_82 : decode cX12_isRead 82 = .ok (.iconst 1, 1) := by decide +kernel
theorem dX12_isRead_83 : decode cX12_isRead 83 = .ok (.ireturn, 1) := by decide +kernel
theorem dX12_fault_0 : decode cX12_fault 0 = .ok (.aload_n 0, 1) := by decide +kernel
theorem dX12_fault_1 : decode cX12_fault 1 = .ok (.invokevirtual 95, 3) := by decide +kernel
theorem dX12_fault_4 : decode cX12_fault 4 = .ok (.ifCond .eq 8, 3) := by decide +kernel
theorem dX12_fault_7 : decode cX12_fault 7 = .ok (.bipush (-4), 2) := by decide +kernel
theorem dX12_fault_9 : decode cX12_fault 9 = .ok (.goto 7, 3) := by decide +kernel
theorem dX12_fault_12 : decode cX12_fault 12 = .ok (.aload_n 0, 1) := by decide +kernel
theorem dX12_fault_13 : decode cX12_fault 13 = .ok (.getfield 88, 3) := by decide +kernel
theorem dX12_fault_16 : decode cX12_fault 16 = .ok (.ireturn, 1) := by decide +kernel
theorem dX12_isLaw_0 : decode cX12_isLaw 0 = .ok (.iload_n 0, 1) := by decide +kernel
theorem dX12_isLaw_1 : decode cX12_isLaw 1 = .ok (.i2l, 1) := by decide +kernel
theorem dX12_isLaw_2 : decode cX12_isLaw 2 = .ok (.lconst 0, 1) := by decide +kernel
theorem dX12_isLaw_3 : decode cX12_isLaw 3 = .ok (.ldc2_w 98, 3) := by decide +kernel
theorem dX12_isLaw_6 : decode cX12_isLaw 6 = .ok (.invokestatic 62, 3) := by decide +kernel
theorem dX12_isLaw_9 : decode cX12_isLaw 9 = .ok (.ireturn, 1) := by decide +kernel
theorem dX12_lay_0 : decode cX12_lay 0 = .ok (.iload_n 1, 1) := by decide +kernel
theorem dX12_lay_1 : decode cX12_lay 1 = .ok (.invokestatic 100, 3) := by decide +kernel
theorem dX12_lay_4 : decode cX12_lay 4 = .ok (.ifCond .ne 5, 3) := by decide +kernel
theorem dX12_lay_7 : decode cX12_lay 7 = .ok (.iconst (-1), 1) := by decide +kernel
theorem dX12_lay_8 : decode cX12_lay 8 = .ok (.ireturn, 1) := by decide +kernel
theorem dX12_lay_9 : decode cX12_lay 9 = .ok (.aload_n 0, 1) := by decide +kernel
theorem dX12_lay_10 : decode cX12_lay 10 = .ok (.invokevirtual 95, 3) := by decide +kernel
theorem dX12_lay_13 : decode cX12_lay 13 = .ok (.ifCond .ne 6, 3) := by decide +kernel
theorem dX12_lay_16 : decode cX12_lay 16 = .ok (.bipush (-2), 2) := by decide +kernel
theorem dX12_lay_18 : decode cX12_lay 18 = .ok (.ireturn, 1) := by decide +kernel
theorem dX12_lay_19 : decode cX12_lay 19 = .ok (.iconst 0, 1) := by decide +kernel
theorem dX12_lay_20 : decode cX12_lay 20 = .ok (.istore_n 2, 1) := by decide +kernel
theorem dX12_lay_21 : decode cX12_lay 21 = .ok (.iload_n 2, 1) := by decide +kernel
theorem dX12_lay_22 : decode cX12_lay 22 = .ok (.bipush 7, 2) := by decide +kernel
theorem dX12_lay_24 : decode cX12_lay 24 = .ok (.if_icmp .ge 26, 3) := by decide +kernel
theorem dX12_lay_27 : decode cX12_lay 27 = .ok (.aload_n 0, 1) := by decide +kernel
theorem dX12_lay_28 : decode cX12_lay 28 = .ok (.getfield 16, 3) := by decide +kernel
theorem dX12_lay_31 : decode cX12_lay 31 = .ok (.bipush 7, 2) := by decide +kernel
theorem dX12_lay_33 : decode cX12_lay 33 = .ok (.iload_n 1, 1) := by decide +kernel
theorem dX12_lay_34 : decode cX12_lay 34 = .ok (.imul, 1) := by decide +kernel
theorem dX12_lay_35 : decode cX12_lay 35 = .ok (.iload_n 2, 1) := by decide +kernel
theorem dX12_lay_36 : decode cX12_lay 36 = .ok (.iadd, 1) := by decide +kernel
theorem dX12_lay_37 : decode cX12_lay 37 = .ok (.aload_n 0, 1) := by decide +kernel
theorem dX12_lay_38 : decode cX12_lay 38 = .ok (.getfield 13, 3) := by decide +kernel
theorem dX12_lay_41 : decode cX12_lay 41 = .ok (.iload_n 2, 1) := by decide +kernel
theorem dX12_lay_42 : decode cX12_lay 42 = .ok (.iaload, 1) := by decide +kernel
theorem dX12_lay_43 : decode cX12_lay 43 = .ok (.iastore, 1) := by decide +kernel
theorem dX12_lay_44 : decode cX12_lay 44 = .ok (.iinc 2 1, 3) := by decide +kernel
theorem dX12_lay_47 : decode cX12_lay 47 = .ok (.goto (-26), 3) := by decide +kernel
theorem dX12_lay_50 : decode cX12_lay 50 = .ok (.aload_n 0, 1) := by decide +kernel
theorem dX12_lay_51 : decode cX12_lay 51 = .ok (.getfield 19, 3) := by decide +kernel
theorem dX12_lay_54 : decode cX12_lay 54 = .ok (.iload_n 1, 1) := by decide +kernel
theorem dX12_lay_55 : decode cX12_lay 55 = .ok (.aload_n 0, 1) := by decide +kernel
theorem dX12_lay_56 : decode cX12_lay 56 = .ok (.getfield 85, 3) := by decide +kernel
theorem dX12_lay_59 : decode cX12_lay 59 = .ok (.iastore, 1) := by decide +kernel
theorem dX12_lay_60 : decode cX12_lay 60 = .ok (.aload_n 0, 1) := by decide +kernel
theorem dX12_lay_61 : decode cX12_lay 61 = .ok (.getfield 85, 3) := by decide +kernel
theorem dX12_lay_64 : decode cX12_lay 64 = .ok (.ireturn, 1) := by decide +kernel
theorem dX12_at_0 : decode cX12_at 0 = .ok (.sipush 325, 3) := by decide +kernel
theorem dX12_at_3 : decode cX12_at 3 = .ok (.iload_n 0, 1) := by decide +kernel
theorem dX12_at_4 : decode cX12_at 4 = .ok (.imul, 1) := by decide +kernel
theorem dX12_at_5 : decode cX12_at 5 = .ok (.iload_n 1, 1) := by decide +kernel
theorem dX12_at_6 : decode cX12_at 6 = .ok (.iload_n 1, 1) := by decide +kernel
theorem dX12_at_7 : decode cX12_at 7 = .ok (.iconst 1, 1) := by decide +kernel
theorem dX12_at_8 : decode cX12_at 8 = .ok (.iadd, 1) := by decide +kernel
theorem dX12_at_9 : decode cX12_at 9 = .ok (.imul, 1) := by decide +kernel
theorem dX12_at_10 : decode cX12_at 10 = .ok (.iconst 2, 1) := by decide +kernel
theorem dX12_at_11 : decode cX12_at 11 = .ok (.idiv, 1) := by decide +kernel
theorem dX12_at_12 : decode cX12_at 12 = .ok (.iadd, 1) := by decide +kernel
theorem dX12_at_13 : decode cX12_at 13 = .ok (.iload_n 2, 1) := by decide +kernel
theorem dX12_at_14 : decode cX12_at 14 = .ok (.iadd, 1) := by decide +kernel
theorem dX12_at_15 : decode cX12_at 15 = .ok (.ireturn, 1) := by decide +kernel
theorem dX12_comes_0 : decode cX12_comes 0 = .ok (.aload_n 0, 1) := by decide +kernel
theorem dX12_comes_1 : decode cX12_comes 1 = .ok (.getfield 16, 3) := by decide +kernel
theorem dX12_comes_4 : decode cX12_comes 4 = .ok (.bipush 7, 2) := by decide +kernel
theorem dX12_comes_6 : decode cX12_comes 6 = .ok (.iload_n 1, 1) := by decide +kernel
theorem dX12_comes_7 : decode cX12_comes 7 = .ok (.imul, 1) := by decide +kernel
theorem dX12_comes_8 : decode cX12_comes 8 = .ok (.iload_n 2, 1) := by decide +kernel
theorem dX12_comes_9 : decode cX12_comes 9 = .ok (.iadd, 1) := by decide +kernel
theorem dX12_comes_10 : decode cX12_comes 10 = .ok (.iaload, 1) := by decide +kernel
theorem dX12_comes_11 : decode cX12_comes 11 = .ok (.aload_n 0, 1) := by decide +kernel
theorem dX12_comes_12 : decode cX12_comes 12 = .ok (.getfield 16, 3) := by decide +kernel
theorem dX12_comes_15 : decode cX12_comes 15 = .ok (.bipush 7, 2) := by decide +kernel
theorem dX12_comes_17 : decode cX12_comes 17 = .ok (.iload_n 1, 1) := by decide +kernel
theorem dX12_comes_18 : decode cX12_comes 18 = .ok (.imul, 1) := by decide +kernel
theorem dX12_comes_19 : decode cX12_comes 19 = .ok (.iload_n 2, 1) := by decide +kernel
theorem dX12_comes_20 : decode cX12_comes 20 = .ok (.iadd, 1) := by decide +kernel
