theorem dX0_init_0 : decode cX0_init 0 = .ok (.aload_n 0, 1) := by decide +kernel
theorem dX0_init_1 : decode cX0_init 1 = .ok (.invokespecial 3, 3) := by decide +kernel
theorem dX0_init_4 : decode cX0_init 4 = .ok (.aload_n 0, 1) := by decide +kernel
theorem dX0_init_5 : decode cX0_init 5 = .ok (.sipush 729, 3) := by decide +kernel
theorem dX0_init_8 : decode cX0_init 8 = .ok (.newarray .int, 2) := by decide +kernel
theorem dX0_init_10 : decode cX0_init 10 = .ok (.putfield 9, 3) := by decide +kernel
theorem dX0_init_13 : decode cX0_init 13 = .ok (.aload_n 0, 1) := by decide +kernel
theorem dX0_init_14 : decode cX0_init 14 = .ok (.getfield 9, 3) := by decide +kernel
theorem dX0_init_17 : decode cX0_init 17 = .ok (.iconst 0, 1) := by decide +kernel
theorem dX0_init_18 : decode cX0_init 18 = .ok (.iconst 1, 1) := by decide +kernel
theorem dX0_init_19 : decode cX0_init 19 = .ok (.iastore, 1) := by decide +kernel
theorem dX0_init_20 : decode cX0_init 20 = .ok (.iconst 1, 1) := by decide +kernel
theorem dX0_init_21 : decode cX0_init 21 = .ok (.istore_n 1, 1) := by decide +kernel
theorem dX0_init_22 : decode cX0_init 22 = .ok (.iload_n 1, 1) := by decide +kernel
theorem dX0_init_23 : decode cX0_init 23 = .ok (.bipush 9, 2) := by decide +kernel
theorem dX0_init_25 : decode cX0_init 25 = .ok (.if_icmp .ge 59, 3) := by decide +kernel
theorem dX0_init_28 : decode cX0_init 28 = .ok (.iconst 0, 1) := by decide +kernel
theorem dX0_init_29 : decode cX0_init 29 = .ok (.istore_n 2, 1) := by decide +kernel
theorem dX0_init_30 : decode cX0_init 30 = .ok (.iload_n 2, 1) := by decide +kernel
theorem dX0_init_31 : decode cX0_init 31 = .ok (.iload_n 1, 1) := by decide +kernel
theorem dX0_init_32 : decode cX0_init 32 = .ok (.if_icmp .gt 46, 3) := by decide +kernel
theorem dX0_init_35 : decode cX0_init 35 = .ok (.iconst 0, 1) := by decide +kernel
theorem dX0_init_36 : decode cX0_init 36 = .ok (.istore_n 3, 1) := by decide +kernel
theorem dX0_init_37 : decode cX0_init 37 = .ok (.iload_n 3, 1) := by decide +kernel
theorem dX0_init_38 : decode cX0_init 38 = .ok (.bipush 9, 2) := by decide +kernel
theorem dX0_init_40 : decode cX0_init 40 = .ok (.if_icmp .ge 32, 3) := by decide +kernel
theorem dX0_init_43 : decode cX0_init 43 = .ok (.aload_n 0, 1) := by decide +kernel
theorem dX0_init_44 : decode cX0_init 44 = .ok (.getfield 9, 3) := by decide +kernel
theorem dX0_init_47 : decode cX0_init 47 = .ok (.iload_n 1, 1) := by decide +kernel
theorem dX0_init_48 : decode cX0_init 48 = .ok (.bipush 9, 2) := by decide +kernel
theorem dX0_init_50 : decode cX0_init 50 = .ok (.imul, 1) := by decide +kernel
theorem dX0_init_51 : decode cX0_init 51 = .ok (.iload_n 2, 1) := by decide +kernel
theorem dX0_init_52 : decode cX0_init 52 = .ok (.iadd, 1) := by decide +kernel
theorem dX0_init_53 : decode cX0_init 53 = .ok (.bipush 9, 2) := by decide +kernel
theorem dX0_init_55 : decode cX0_init 55 = .ok (.imul, 1) := by decide +kernel
theorem dX0_init_56 : decode cX0_init 56 = .ok (.iload_n 3, 1) := by decide +kernel
theorem dX0_init_57 : decode cX0_init 57 = .ok (.iadd, 1) := by decide +kernel
theorem dX0_init_58 : decode cX0_init 58 = .ok (.aload_n 0, 1) := by decide +kernel
theorem dX0_init_59 : decode cX0_init 59 = .ok (.iload_n 2, 1) := by decide +kernel
theorem dX0_init_60 : decode cX0_init 60 = .ok (.iload_n 1, 1) := by decide +kernel
theorem dX0_init_61 : decode cX0_init 61 = .ok (.iload_n 3, 1) := by decide +kernel
theorem dX0_init_62 : decode cX0_init 62 = .ok (.invokevirtual 15, 3) := by decide +kernel
theorem dX0_init_65 : decode cX0_init 65 = .ok (.iastore, 1) := by decide +kernel
theorem dX0_init_66 : decode cX0_init 66 = .ok (.iinc 3 1, 3) := by decide +kernel
theorem dX0_init_69 : decode cX0_init 69 = .ok (.goto (-32), 3) := by decide +kernel
theorem dX0_init_72 : decode cX0_init 72 = .ok (.iinc 2 1, 3) := by decide +kernel
theorem dX0_init_75 : decode cX0_init 75 = .ok (.goto (-45), 3) := by decide +kernel
theorem dX0_init_78 : decode cX0_init 78 = .ok (.iinc 1 1, 3) := by decide +kernel
theorem dX0_init_81 : decode cX0_init 81 = .ok (.goto (-59), 3) := by decide +kernel
theorem dX0_init_84 : decode cX0_init 84 = .ok (.return_, 1) := by decide +kernel
theorem dX0_waysByNext_0 : decode cX0_waysByNext 0 = .ok (.iconst 0, 1) := by decide +kernel
theorem dX0_waysByNext_1 : decode cX0_waysByNext 1 = .ok (.istore 4, 2) := by decide +kernel
theorem dX0_waysByNext_3 : decode cX0_waysByNext 3 = .ok (.iconst 0, 1) := by decide +kernel
theorem dX0_waysByNext_4 : decode cX0_waysByNext 4 = .ok (.istore 5, 2) := by decide +kernel
theorem dX0_waysByNext_6 : decode cX0_waysByNext 6 = .ok (.iload 5, 2) := by decide +kernel
theorem dX0_waysByNext_8 : decode cX0_waysByNext 8 = .ok (.iload_n 2, 1) := by decide +kernel
theorem dX0_waysByNext_9 : decode cX0_waysByNext 9 = .ok (.if_icmp .ge 36, 3) := by decide +kernel
theorem dX0_waysByNext_12 : decode cX0_waysByNext 12 = .ok (.iload 4, 2) := by decide +kernel
theorem dX0_waysByNext_14 : decode cX0_waysByNext 14 = .ok (.aload_n 0, 1) := by decide +kernel
theorem dX0_waysByNext_15 : decode cX0_waysByNext 15 = .ok (.iload 5, 2) := by decide +kernel
theorem dX0_waysByNext_17 : decode cX0_waysByNext 17 = .ok (.iload_n 2, 1) := by decide +kernel
theorem dX0_waysByNext_18 : decode cX0_waysByNext 18 = .ok (.iconst 1, 1) := by decide +kernel
theorem dX0_waysByNext_19 : decode cX0_waysByNext 19 = .ok (.isub, 1) := by decide +kernel
theorem dX0_waysByNext_20 : decode cX0_waysByNext 20 = .ok (.iload 5, 2) := by decide +kernel
theorem dX0_waysByNext_22 : decode cX0_waysByNext 22 = .ok (.iload_n 1, 1) := by decide +kernel
theorem dX0_waysByNext_23 : decode cX0_waysByNext 23 = .ok (.if_icmp .ge 9, 3) := by decide +kernel
theorem dX0_waysByNext_26 : decode cX0_waysByNext 26 = .ok (.iload_n 3, 1) := by decide +kernel
theorem dX0_waysByNext_27 : decode cX0_waysByNext 27 = .ok (.iconst 1, 1) := by decide +kernel
theorem dX0_waysByNext_28 : decode cX0_waysByNext 28 = .ok (.isub, 1) := by decide +kernel
theorem dX0_waysByNext_29 : decode cX0_waysByNext 29 = .ok (.goto 4, 3) := by decide +kernel
theorem dX0_waysByNext_32 : decode cX0_waysByNext 32 = .ok (.iload_n 3, 1) := by decide +kernel
theorem dX0_waysByNext_33 : decode cX0_waysByNext 33 = .ok (.invokevirtual 19, 3) := by decide +kernel
theorem dX0_waysByNext_36 : decode cX0_waysByNext 36 = .ok (.iadd, 1) := by decide +kernel
theorem dX0_waysByNext_37 : decode cX0_waysByNext 37 = .ok (.istore 4, 2) := by decide +kernel
theorem dX0_waysByNext_39 : decode cX0_waysByNext 39 = .ok (.iinc 5 1, 3) := by decide +kernel
theorem dX0_waysByNext_42 : decode cX0_waysByNext 42 = .ok (.goto (-36), 3) := by decide +kernel
theorem dX0_waysByNext_45 : decode cX0_waysByNext 45 = .ok (.iload 4, 2) := by decide +kernel
theorem dX0_waysByNext_47 : decode cX0_waysByNext 47 = .ok (.ireturn, 1) := by decide +kernel
theorem dX0_start_0 : decode cX0_start 0 = .ok (.iconst 0, 1) := by decide +kernel
theorem dX0_start_1 : decode cX0_start 1 = .ok (.ireturn, 1) := by decide +kernel
theorem dX0_growth_0 : decode cX0_growth 0 = .ok (.iload_n 3, 1) := by decide +kernel
theorem dX0_growth_1 : decode cX0_growth 1 = .ok (.iload_n 1, 1) := by decide +kernel
theorem dX0_growth_2 : decode cX0_growth 2 = .ok (.if_icmp .ge 7, 3) := by decide +kernel
theorem dX0_growth_5 : decode cX0_growth 5 = .ok (.iconst 1, 1) := by decide +kernel
theorem dX0_growth_6 : decode cX0_growth 6 = .ok (.goto 4, 3) := by decide +kernel
theorem dX0_growth_9 : decode cX0_growth 9 = .ok (.iconst 0, 1) := by decide +kernel
theorem dX0_growth_10 : decode cX0_growth 10 = .ok (.ireturn, 1) := by decide +kernel
theorem dX0_next_0 : decode cX0_next 0 = .ok (.iload_n 3, 1) := by decide +kernel
theorem dX0_next_1 : decode cX0_next 1 = .ok (.ireturn, 1) := by decide +kernel
theorem dX0_ways_0 : decode cX0_ways 0 = .ok (.iload_n 2, 1) := by decide +kernel
theorem dX0_ways_1 : decode cX0_ways 1 = .ok (.iconst 0, 1) := by decide +kernel
theorem dX0_ways_2 : decode cX0_ways 2 = .ok (.bipush 8, 2) := by decide +kernel
theorem dX0_ways_4 : decode cX0_ways 4 = .ok (.invokestatic 22, 3) := by decide +kernel
theorem dX0_ways_7 : decode cX0_ways 7 = .ok (.ifCond .eq 22, 3) := by decide +kernel
theorem dX0_ways_10 : decode cX0_ways 10 = .ok (.iload_n 1, 1) := by decide +kernel
theorem dX0_ways_11 : decode cX0_ways 11 = .ok (.iconst 0, 1) := by decide +kernel
theorem dX0_ways_12 : decode cX0_ways 12 = .ok (.iload_n 2, 1) := by decide +kernel
theorem dX0_ways_13 : decode cX0_ways 13 = .ok (.invokestatic 22, 3) := by decide +kernel
theorem dX0_ways_16 : decode cX0_ways 16 = .ok (.ifCond .eq 13, 3) := by decide +kernel
theorem dX0_ways_19 : decode cX0_ways 19 = .ok (.iload_n 3, 1) := by decide +kernel
theorem dX0_ways_20 : decode cX0_ways 20 = .ok (.iconst 0, 1) := by decide +kernel
theorem dX0_ways_21 : decode cX0_ways 21 = .ok (.bipush 8, 2) := by decide +kernel
theorem dX0_ways_23 : decode cX0_ways 23 = .ok (.invokestatic 22, 3) := by decide +kernel
theorem dX0_ways_26 : decode cX0_ways 26 = .ok (.ifCond .ne 5, 3) := by decide +kernel
theorem dX0_ways_29 : decode cX0_ways 29 = .ok (.iconst 0, 1) := by decide +kernel
theorem dX0_ways_30 : decode cX0_ways 30 = .ok (.ireturn, 1) := by decide +kernel
theorem dX0_ways_31 : decode cX0_ways 31 = .ok (.aload_n 0, 1) := by decide +kernel
theorem dX0_ways_32 : decode cX0_ways 32 = .ok (.getfield 9, 3) := by decide +kernel
theorem dX0_ways_35 : decode cX0_ways 35 = .ok (.iload_n 2, 1) := by decide +kernel
theorem dX0_ways_36 : decode cX0_ways 36 = .ok (.bipush 9, 2) := by decide +kernel
theorem dX0_ways_38 : decode cX0_ways 38 = .ok (.imul, 1) := by decide +kernel
theorem dX0_ways_39 : decode cX0_ways 39 = .ok (.iload_n 1, 1) := by decide +kernel
theorem dX0_ways_40 : decode cX0_ways 40 = .ok (.iadd, 1) := by decide +kernel
theorem dX0_ways_41 : decode cX0_ways 41 = .ok (.bipush 9, 2) := by decide +kernel
theorem dX0_ways_43 : decode cX0_ways 43 = .ok (.imul, 1) := by decide +kernel
theorem dX0_ways_44 : decode cX0_ways 44 = .ok (.iload_n 3, 1) := by decide +kernel
theorem dX0_ways_45 : decode cX0_ways 45 = .ok (.iadd, 1) := by decide +kernel
theorem dX0_ways_46 : decode cX0_ways 46 = .ok (.iaload, 1) := by decide +kernel
theorem dX0_ways_47 : decode cX0_ways 47 = .ok (.ireturn, 1) := by decide +kernel
theorem dX1_init_0 : decode cX1_init 0 = .ok (.aload_n 0, 1) := by decide +kernel
theorem dX1_init_1 : decode cX1_init 1 = .ok (.invokespecial 3, 3) := by decide +kernel
theorem dX1_init_4 : decode cX1_init 4 = .ok (.aload_n 0, 1) := by decide +kernel
theorem dX1_init_5 : decode cX1_init 5 = .ok (.aload_n 1, 1) := by decide +kernel
theorem dX1_init_6 : decode cX1_init 6 = .ok (.putfield 9, 3) := by decide +kernel
theorem dX1_init_9 : decode cX1_init 9 = .ok (.return_, 1) := by decide +kernel
theorem dX1_start_0 : decode cX1_start 0 = .ok (.iload_n 1, 1) := by decide +kernel
theorem dX1_start_1 : decode cX1_start 1 = .ok (.ireturn, 1) := by decide +kernel
theorem dX1_growth_0 : decode cX1_growth 0 = .ok (.iload_n 3, 1) := by decide +kernel
theorem dX1_growth_1 : decode cX1_growth 1 = .ok (.iload_n 2, 1) := by decide +kernel
theorem dX1_growth_2 : decode cX1_growth 2 = .ok (.iload_n 1, 1) := by decide +kernel
theorem dX1_growth_3 : decode cX1_growth 3 = .ok (.isub, 1) := by decide +kernel
theorem dX1_growth_4 : decode cX1_growth 4 = .ok (.if_icmp .lt 7, 3) := by decide +kernel
theorem dX1_growth_7 : decode cX1_growth 7 = .ok (.iconst 1, 1) := by decide +kernel
theorem dX1_growth_8 : decode cX1_growth 8 = .ok (.goto 4, 3) := by decide +kernel
theorem dX1_growth_11 : decode cX1_growth 11 = .ok (.iconst 0, 1) := by decide +kernel
theorem dX1_growth_12 : decode cX1_growth 12 = .ok (.ireturn, 1) := by decide +kernel
theorem dX1_next_0 : decode cX1_next 0 = .ok (.iload_n 1, 1) := by decide +kernel
theorem dX1_next_1 : decode cX1_next 1 = .ok (.iload_n 2, 1) := by decide +kernel
theorem dX1_next_2 : decode cX1_next 2 = .ok (.iconst 1, 1) := by decide +kernel
theorem dX1_next_3 : decode cX1_next 3 = .ok (.isub, 1) := by decide +kernel
theorem dX1_next_4 : decode cX1_next 4 = .ok (.iload_n 3, 1) := by decide +kernel
theorem dX1_next_5 : decode cX1_next 5 = .ok (.isub, 1) := by decide +kernel
theorem dX1_next_6 : decode cX1_next 6 = .ok (.invokestatic 15, 3) := by decide +kernel
theorem dX1_next_9 : decode cX1_next 9 = .ok (.ireturn, 1) := by decide +kernel
theorem dX1_ways_0 : decode cX1_ways 0 = .ok (.iload_n 2, 1) := by decide +kernel
theorem dX1_ways_1 : decode cX1_ways 1 = .ok (.iconst 0, 1) := by decide +kernel
theorem dX1_ways_2 : decode cX1_ways 2 = .ok (.bipush 8, 2) := by decide +kernel
theorem dX1_ways_4 : decode cX1_ways 4 = .ok (.invokestatic 21, 3) := by decide +kernel
theorem dX1_ways_7 : decode cX1_ways 7 = .ok (.ifCond .eq 12, 3) := by decide +kernel
theorem dX1_ways_10 : decode cX1_ways 10 = .ok (.iload_n 1, 1) := by decide +kernel
theorem dX1_ways_11 : decode cX1_ways 11 = .ok (.iconst 0, 1) := by decide +kernel
theorem dX1_ways_12 : decode cX1_ways 12 = .ok (.iload_n 2, 1) := by decide +kernel
theorem dX1_ways_13 : decode cX1_ways 13 = .ok (.invokestatic 21, 3) := by decide +kernel
theorem dX1_ways_16 : decode cX1_ways 16 = .ok (.ifCond .ne 5, 3) := by decide +kernel
theorem dX1_ways_19 : decode cX1_ways 19 = .ok (.iconst 0, 1) := by decide +kernel
theorem dX1_ways_20 : decode cX1_ways 20 = .ok (.ireturn, 1) := by decide +kernel
theorem dX1_ways_21 : decode cX1_ways 21 = .ok (.getstatic 25, 3) := by decide +kernel
theorem dX1_ways_24 : decode cX1_ways 24 = .ok (.iload_n 2, 1) := by decide +kernel
theorem dX1_ways_25 : decode cX1_ways 25 = .ok (.iaload, 1) := by decide +kernel
theorem dX1_ways_26 : decode cX1_ways 26 = .ok (.getstatic 25, 3) := by decide +kernel
theorem dX1_ways_29 : decode cX1_ways 29 = .ok (.iload_n 1, 1) := by decide +kernel
theorem dX1_ways_30 : decode cX1_ways 30 = .ok (.iaload, 1) := by decide +kernel
theorem dX1_ways_31 : decode cX1_ways 31 = .ok (.idiv, 1) := by decide +kernel
theorem dX1_ways_32 : decode cX1_ways 32 = .ok (.aload_n 0, 1) := by decide +kernel
theorem dX1_ways_33 : decode cX1_ways 33 = .ok (.getfield 9, 3) := by decide +kernel
theorem dX1_ways_36 : decode cX1_ways 36 = .ok (.iconst 0, 1) := by decide +kernel
theorem dX1_ways_37 : decode cX1_ways 37 = .ok (.iload_n 1, 1) := by decide +kernel
theorem dX1_ways_38 : decode cX1_ways 38 = .ok (.iload_n 3, 1) := by decide +kernel
theorem dX1_ways_39 : decode cX1_ways 39 = .ok (.invokevirtual 29, 3) := by decide +kernel
theorem dX1_ways_42 : decode cX1_ways 42 = .ok (.imul, 1) := by decide +kernel
theorem dX1_ways_43 : decode cX1_ways 43 = .ok (.ireturn, 1) := by decide +kernel
theorem dX2_init_0 : decode cX2_init 0 = .ok (.aload_n 0, 1) := by decide +kernel
theorem dX2_init_1 : decode cX2_init 1 = .ok (.invokespecial 3, 3) := by decide +kernel
theorem dX2_init_4 : decode cX2_init 4 = .ok (.aload_n 0, 1) := by decide +kernel
theorem dX2_init_5 : decode cX2_init 5 = .ok (.iconst 3, 1) := by decide +kernel
theorem dX2_init_6 : decode cX2_init 6 = .ok (.newarray .int, 2) := by decide +kernel
theorem dX2_init_8 : decode cX2_init 8 = .ok (.putfield 9, 3) := by decide +kernel
theorem dX2_init_11 : decode cX2_init 11 = .ok (.aload_n 0, 1) := by decide +kernel
theorem dX2_init_12 : decode cX2_init 12 = .ok (.iconst 3, 1) := by decide +kernel
theorem dX2_init_13 : decode cX2_init 13 = .ok (.newarray .int, 2) := by decide +kernel
theorem dX2_init_15 : decode cX2_init 15 = .ok (.putfield 15, 3) := by decide +kernel
theorem dX2_init_18 : decode cX2_init 18 = .ok (.aload_n 0, 1) := by decide +kernel
theorem dX2_init_19 : decode cX2_init 19 = .ok (.sipush 325, 3) := by decide +kernel
theorem dX2_init_22 : decode cX2_init 22 = .ok (.newarray .long, 2) := by decide +kernel
theorem dX2_init_24 : decode cX2_init 24 = .ok (.putfield 18, 3) := by decide +kernel
theorem dX2_init_27 : decode cX2_init 27 = .ok (.aload_n 0, 1) := by decide +kernel
theorem dX2_init_28 : decode cX2_init 28 = .ok (.bipush 25, 2) := by decide +kernel
theorem dX2_init_30 : decode cX2_init 30 = .ok (.newarray .long, 2) := by decide +kernel
theorem dX2_init_32 : decode cX2_init 32 = .ok (.putfield 22, 3) := by decide +kernel
theorem dX2_init_35 : decode cX2_init 35 = .ok (.aload_n 0, 1) := by decide +kernel
theorem dX2_init_36 : decode cX2_init 36 = .ok (.bipush 61, 2) := by decide +kernel
theorem dX2_init_38 : decode cX2_init 38 = .ok (.newarray .int, 2) := by decide +kernel
theorem dX2_init_40 : decode cX2_init 40 = .ok (.putfield 25, 3) := by decide +kernel
theorem dX2_init_43 : decode cX2_init 43 = .ok (.aload_n 0, 1) := by decide +kernel
theorem dX2_init_44 : decode cX2_init 44 = .ok (.iconst 1, 1) := by decide +kernel
theorem dX2_init_45 : decode cX2_init 45 = .ok (.putfield 28, 3) := by decide +kernel
theorem dX2_init_48 : decode cX2_init 48 = .ok (.aload_n 0, 1) := by decide +kernel
theorem dX2_init_49 : decode cX2_init 49 = .ok (.iconst 0, 1) := by decide +kernel
theorem dX2_init_50 : decode cX2_init 50 = .ok (.putfield 32, 3) := by decide +kernel
theorem dX2_init_53 : decode cX2_init 53 = .ok (.aload_n 0, 1) := by decide +kernel
theorem dX2_init_54 : decode cX2_init 54 = .ok (.getfield 18, 3) := by decide +kernel
theorem dX2_init_57 : decode cX2_init 57 = .ok (.iconst 0, 1) := by decide +kernel
theorem dX2_init_58 : decode cX2_init 58 = .ok (.aload_n 0, 1) := by decide +kernel
theorem dX2_init_59 : decode cX2_init 59 = .ok (.getfield 28, 3) := by decide +kernel
theorem dX2_init_62 : decode cX2_init 62 = .ok (.i2l, 1) := by decide +kernel
theorem dX2_init_63 : decode cX2_init 63 = .ok (.lastore, 1) := by decide +kernel
theorem dX2_init_64 : decode cX2_init 64 = .ok (.return_, 1) := by decide +kernel
theorem dX2_items_0 : decode cX2_items 0 = .ok (.aload_n 0, 1) := by decide +kernel
theorem dX2_items_1 : decode cX2_items 1 = .ok (.getfield 32, 3) := by decide +kernel
theorem dX2_items_4 : decode cX2_items 4 = .ok (.ireturn, 1) := by decide +kernel
theorem dX2_layFrom_0 : decode cX2_layFrom 0 = .ok (.aload_n 0, 1) := by decide +kernel
theorem dX2_layFrom_1 : decode cX2_layFrom 1 = .ok (.getfield 9, 3) := by decide +kernel
theorem dX2_layFrom_4 : decode cX2_layFrom 4 = .ok (.iconst 0, 1) := by decide +kernel
theorem dX2_layFrom_5 : decode cX2_layFrom 5 = .ok (.invokestatic 35, 3) := by decide +kernel
theorem dX2_layFrom_8 : decode cX2_layFrom 8 = .ok (.aload_n 0, 1) := by decide +kernel
theorem dX2_layFrom_9 : decode cX2_layFrom 9 = .ok (.getfield 15, 3) := by decide +kernel
theorem dX2_layFrom_12 : decode cX2_layFrom 12 = .ok (.iconst 0, 1) := by decide +kernel
theorem dX2_layFrom_13 : decode cX2_layFrom 13 = .ok (.invokestatic 35, 3) := by decide +kernel
theorem dX2_layFrom_16 : decode cX2_layFrom 16 = .ok (.aload_n 0, 1) := by decide +kernel
theorem dX2_layFrom_17 : decode cX2_layFrom 17 = .ok (.iconst 1, 1) := by decide +kernel
theorem dX2_layFrom_18 : decode cX2_layFrom 18 = .ok (.putfield 28, 3) := by decide +kernel
theorem dX2_layFrom_21 : decode cX2_layFrom 21 = .ok (.aload_n 0, 1) := by decide +kernel
theorem dX2_layFrom_22 : decode cX2_layFrom 22 = .ok (.iconst 0, 1) := by decide +kernel
theorem dX2_layFrom_23 : decode cX2_layFrom 23 = .ok (.putfield 32, 3) := by decide +kernel
theorem dX2_layFrom_26 : decode cX2_layFrom 26 = .ok (.iconst 0, 1) := by decide +kernel
theorem dX2_layFrom_27 : decode cX2_layFrom 27 = .ok (.istore_n 2, 1) := by decide +kernel
theorem dX2_layFrom_28 : decode cX2_layFrom 28 = .ok (.iconst 0, 1) := by decide +kernel
theorem dX2_layFrom_29 : decode cX2_layFrom 29 = .ok (.istore_n 3, 1) := by decide +kernel
theorem dX2_layFrom_30 : decode cX2_layFrom 30 = .ok (.iload_n 3, 1) := by decide +kernel
theorem dX2_layFrom_31 : decode cX2_layFrom 31 = .ok (.bipush 120, 2) := by decide +kernel
theorem dX2_layFrom_33 : decode cX2_layFrom 33 = .ok (.if_icmp .ge 52, 3) := by decide +kernel
theorem dX2_layFrom_36 : decode cX2_layFrom 36 = .ok (.iload_n 2, 1) := by decide +kernel
theorem dX2_layFrom_37 : decode cX2_layFrom 37 = .ok (.aload_n 1, 1) := by decide +kernel
theorem dX2_layFrom_38 : decode cX2_layFrom 38 = .ok (.invokevirtual 43, 3) := by decide +kernel
theorem dX2_layFrom_41 : decode cX2_layFrom 41 = .ok (.if_icmp .ge 44, 3) := by decide +kernel
theorem dX2_layFrom_44 : decode cX2_layFrom 44 = .ok (.aload_n 1, 1) := by decide +kernel
theorem dX2_layFrom_45 : decode cX2_layFrom 45 = .ok (.iload_n 2, 1) := by decide +kernel
theorem dX2_layFrom_46 : decode cX2_layFrom 46 = .ok (.invokevirtual 47, 3) := by decide +kernel
theorem dX2_layFrom_49 : decode cX2_layFrom 49 = .ok (.istore 4, 2) := by decide +kernel
theorem dX2_layFrom_51 : decode cX2_layFrom 51 = .ok (.iload 4, 2) := by decide +kernel
theorem dX2_layFrom_53 : decode cX2_layFrom 53 = .ok (.iconst (-1), 1) := by decide +kernel
theorem dX2_layFrom_54 : decode cX2_layFrom 54 = .ok (.if_icmp .ne 6, 3) := by decide +kernel
theorem dX2_layFrom_57 : decode cX2_layFrom 57 = .ok (.goto 28, 3) := by decide +kernel
theorem dX2_layFrom_60 : decode cX2_layFrom 60 = .ok (.aload_n 0, 1) := by decide +kernel
theorem dX2_layFrom_61 : decode cX2_layFrom 61 = .ok (.aload_n 1, 1) := by decide +kernel
theorem dX2_layFrom_62 : decode cX2_layFrom 62 = .ok (.iload_n 2, 1) := by decide +kernel
theorem dX2_layFrom_63 : decode cX2_layFrom 63 = .ok (.invokevirtual 51, 3) := by decide +kernel
theorem dX2_layFrom_66 : decode cX2_layFrom 66 = .ok (.aload_n 0, 1) := by decide +kernel
theorem dX2_layFrom_67 : decode cX2_layFrom 67 = .ok (.dup, 1) := by decide +kernel
theorem dX2_layFrom_68 : decode cX2_layFrom 68 = .ok (.getfield 32, 3) := by decide +kernel
theorem dX2_layFrom_71 : decode cX2_layFrom 71 = .ok (.iconst 1, 1) := by decide +kernel
theorem dX2_layFrom_72 : decode cX2_layFrom 72 = .ok (.iadd, 1) := by decide +kernel
theorem dX2_layFrom_73 : decode cX2_layFrom 73 = .ok (.putfield 32, 3) := by decide +kernel
theorem dX2_layFrom_76 : decode cX2_layFrom 76 = .ok (.iload 4, 2) := by decide +kernel
theorem dX2_layFrom_78 : decode cX2_layFrom 78 = .ok (.istore_n 2, 1) := by decide +kernel
theorem dX2_layFrom_79 : decode cX2_layFrom 79 = .ok (.iinc 3 1, 3) := by decide +kernel
theorem dX2_layFrom_82 : decode cX2_layFrom 82 = .ok (.goto (-52), 3) := by decide +kernel
theorem dX2_layFrom_85 : decode cX2_layFrom 85 = .ok (.aload_n 0, 1) := by decide +kernel
theorem dX2_layFrom_86 : decode cX2_layFrom 86 = .ok (.invokevirtual 55, 3) := by decide +kernel
theorem dX2_layFrom_89 : decode cX2_layFrom 89 = .ok (.return_, 1) := by decide +kernel
theorem dX2_takeItem_0 : decode cX2_takeItem 0 = .ok (.aload_n 1, 1) := by decide +kernel
theorem dX2_takeItem_1 : decode cX2_takeItem 1 = .ok (.iload_n 2, 1) := by decide +kernel
theorem dX2_takeItem_2 : decode cX2_takeItem 2 = .ok (.invokevirtual 58, 3) := by decide +kernel
theorem dX2_takeItem_5 : decode cX2_takeItem 5 = .ok (.istore_n 3, 1) := by decide +kernel
theorem dX2_takeItem_6 : decode cX2_takeItem 6 = .ok (.iload_n 3, 1) := by decide +kernel
theorem dX2_takeItem_7 : decode cX2_takeItem 7 = .ok (.bipush 115, 2) := by decide +kernel
theorem dX2_takeItem_9 : decode cX2_takeItem 9 = .ok (.if_icmp .ne 15, 3) := by decide +kernel
theorem dX2_takeItem_12 : decode cX2_takeItem 12 = .ok (.aload_n 0, 1) := by decide +kernel
theorem dX2_takeItem_13 : decode cX2_takeItem 13 = .ok (.aload_n 1, 1) := by decide +kernel
theorem dX2_takeItem_14 : decode cX2_takeItem 14 = .ok (.iload_n 2, 1) := by decide +kernel
theorem dX2_takeItem_15 : decode cX2_takeItem 15 = .ok (.iconst 1, 1) := by decide +kernel
theorem dX2_takeItem_16 : decode cX2_takeItem 16 = .ok (.iadd, 1) := by decide +kernel
theorem dX2_takeItem_17 : decode cX2_takeItem 17 = .ok (.invokevirtual 61, 3) := by decide +kernel
theorem dX2_takeItem_20 : decode cX2_takeItem 20 = .ok (.putfield 28, 3) := by decide +kernel
theorem dX2_takeItem_23 : decode cX2_takeItem 23 = .ok (.return_, 1) := by decide +kernel
theorem dX2_takeItem_24 : decode cX2_takeItem 24 = .ok (.iload_n 3, 1) := by decide +kernel
theorem dX2_takeItem_25 : decode cX2_takeItem 25 = .ok (.bipush 97, 2) := by decide +kernel
theorem dX2_takeItem_27 : decode cX2_takeItem 27 = .ok (.if_icmp .ne 10, 3) := by decide +kernel
theorem dX2_takeItem_30 : decode cX2_takeItem 30 = .ok (.aload_n 0, 1) := by decide +kernel
theorem dX2_takeItem_31 : decode cX2_takeItem 31 = .ok (.getfield 9, 3) := by decide +kernel
theorem dX2_takeItem_34 : decode cX2_takeItem 34 = .ok (.goto 7, 3) := by decide +kernel
theorem dX2_takeItem_37 : decode cX2_takeItem 37 = .ok (.aload_n 0, 1) := by decide +kernel
theorem dX2_takeItem_38 : decode cX2_takeItem 38 = .ok (.getfield 15, 3) := by decide +kernel
theorem dX2_takeItem_41 : decode cX2_takeItem 41 = .ok (.astore 4, 2) := by decide +kernel
theorem dX2_takeItem_43 : decode cX2_takeItem 43 = .ok (.iload_n 2, 1) := by decide +kernel
theorem dX2_takeItem_44 : decode cX2_takeItem 44 = .ok (.iconst 1, 1) := by decide +kernel
theorem dX2_takeItem_45 : decode cX2_takeItem 45 = .ok (.iadd, 1) := by decide +kernel
theorem dX2_takeItem_46 : decode cX2_takeItem 46 = .ok (.istore 5, 2) := by decide +kernel
theorem dX2_takeItem_48 : decode cX2_takeItem 48 = .ok (.iconst 0, 1) := by decide +kernel
theorem dX2_takeItem_49 : decode cX2_takeItem 49 = .ok (.istore 6, 2) := by decide +kernel
theorem dX2_takeItem_51 : decode cX2_takeItem 51 = .ok (.iload 6, 2) := by decide +kernel
theorem dX2_takeItem_53 : decode cX2_takeItem 53 = .ok (.iconst 3, 1) := by decide +kernel
theorem dX2_takeItem_54 : decode cX2_takeItem 54 = .ok (.if_icmp .ge 28, 3) := by decide +kernel
theorem dX2_takeItem_57 : decode cX2_takeItem 57 = .ok (.aload 4, 2) := by decide +kernel
theorem dX2_takeItem_59 : decode cX2_takeItem 59 = .ok (.iload 6, 2) := by decide +kernel
theorem dX2_takeItem_61 : decode cX2_takeItem 61 = .ok (.aload_n 1, 1) := by decide +kernel
theorem dX2_takeItem_62 : decode cX2_takeItem 62 = .ok (.iload 5, 2) := by decide +kernel
theorem dX2_takeItem_64 : decode cX2_takeItem 64 = .ok (.invokevirtual 61, 3) := by decide +kernel
theorem dX2_takeItem_67 : decode cX2_takeItem 67 = .ok (.iastore, 1) := by decide +kernel
theorem dX2_takeItem_68 : decode cX2_takeItem 68 = .ok (.aload_n 1, 1) := by decide +kernel
theorem dX2_takeItem_69 : decode cX2_takeItem 69 = .ok (.iload 5, 2) := by decide +kernel
theorem dX2_takeItem_71 : decode cX2_takeItem 71 = .ok (.invokevirtual 64, 3) := by decide +kernel
theorem dX2_takeItem_74 : decode cX2_takeItem 74 = .ok (.istore 5, 2) := by decide +kernel
theorem dX2_takeItem_76 : decode cX2_takeItem 76 = .ok (.iinc 6 1, 3) := by decide +kernel
theorem dX2_takeItem_79 : decode cX2_takeItem 79 = .ok (.goto (-28), 3) := by decide +kernel
theorem dX2_takeItem_82 : decode cX2_takeItem 82 = .ok (.return_, 1) := by decide +kernel
theorem dX2_fillNumbers_0 : decode cX2_fillNumbers 0 = .ok (.aload_n 0, 1) := by decide +kernel
theorem dX2_fillNumbers_1 : decode cX2_fillNumbers 1 = .ok (.getfield 18, 3) := by decide +kernel
theorem dX2_fillNumbers_4 : decode cX2_fillNumbers 4 = .ok (.iconst 0, 1) := by decide +kernel
theorem dX2_fillNumbers_5 : decode cX2_fillNumbers 5 = .ok (.aload_n 0, 1) := by decide +kernel
theorem dX2_fillNumbers_6 : decode cX2_fillNumbers 6 = .ok (.getfield 28, 3) := by decide +kernel
theorem dX2_fillNumbers_9 : decode cX2_fillNumbers 9 = .ok (.i2l, 1) := by decide +kernel
theorem dX2_fillNumbers_10 : decode cX2_fillNumbers 10 = .ok (.lastore, 1) := by decide +kernel
theorem dX2_fillNumbers_11 : decode cX2_fillNumbers 11 = .ok (.iconst 1, 1) := by decide +kernel
theorem dX2_fillNumbers_12 : decode cX2_fillNumbers 12 = .ok (.istore_n 1, 1) := by decide +kernel
theorem dX2_fillNumbers_13 : decode cX2_fillNumbers 13 = .ok (.iconst 1, 1) := by decide +kernel
theorem dX2_fillNumbers_14 : decode cX2_fillNumbers 14 = .ok (.istore_n 2, 1) := by decide +kernel
theorem dX2_fillNumbers_15 : decode cX2_fillNumbers 15 = .ok (.iload_n 2, 1) := by decide +kernel
theorem dX2_fillNumbers_16 : decode cX2_fillNumbers 16 = .ok (.bipush 24, 2) := by decide +kernel
theorem dX2_fillNumbers_18 : decode cX2_fillNumbers 18 = .ok (.if_icmp .gt 46, 3) := by decide +kernel
theorem dX2_fillNumbers_21 : decode cX2_fillNumbers 21 = .ok (.iconst 0, 1) := by decide +kernel
theorem dX2_fillNumbers_22 : decode cX2_fillNumbers 22 = .ok (.istore_n 3, 1) := by decide +kernel
theorem dX2_fillNumbers_23 : decode cX2_fillNumbers 23 = .ok (.iload_n 3, 1) := by decide +kernel
theorem dX2_fillNumbers_24 : decode cX2_fillNumbers 24 = .ok (.iload_n 2, 1) := by decide +kernel
theorem dX2_fillNumbers_25 : decode cX2_fillNumbers 25 = .ok (.if_icmp .gt 33, 3) := by decide +kernel
theorem dX2_fillNumbers_28 : decode cX2_fillNumbers 28 = .ok (.iload_n 1, 1) := by decide +kernel
theorem dX2_fillNumbers_29 : decode cX2_fillNumbers 29 = .ok (.aload_n 0, 1) := by decide +kernel
theorem dX2_fillNumbers_30 : decode cX2_fillNumbers 30 = .ok (.getfield 18, 3) := by decide +kernel
theorem dX2_fillNumbers_33 : decode cX2_fillNumbers 33 = .ok (.arraylength, 1) := by decide +kernel
theorem dX2_fillNumbers_34 : decode cX2_fillNumbers 34 = .ok (.if_icmp .ge 24, 3) := by decide +kernel
theorem dX2_fillNumbers_37 : decode cX2_fillNumbers 37 = .ok (.aload_n 0, 1) := by decide +kernel
theorem dX2_fillNumbers_38 : decode cX2_fillNumbers 38 = .ok (.getfield 18, 3) := by decide +kernel
theorem dX2_fillNumbers_41 : decode cX2_fillNumbers 41 = .ok (.iload_n 1, 1) := by decide +kernel
theorem dX2_fillNumbers_42 : decode cX2_fillNumbers 42 = .ok (.aload_n 0, 1) := by decide +kernel
theorem dX2_fillNumbers_43 : decode cX2_fillNumbers 43 = .ok (.iload_n 2, 1) := by decide +kernel
theorem dX2_fillNumbers_44 : decode cX2_fillNumbers 44 = .ok (.iload_n 3, 1) := by decide +kernel
theorem dX2_fillNumbers_45 : decode cX2_fillNumbers 45 = .ok (.invokevirtual 67, 3) := by decide +kernel
theorem dX2_fillNumbers_48 : decode cX2_fillNumbers 48 = .ok (.lastore, 1) := by decide +kernel
theorem dX2_fillNumbers_49 : decode cX2_fillNumbers 49 = .ok (.iinc 1 1, 3) := by decide +kernel
theorem dX2_fillNumbers_52 : decode cX2_fillNumbers 52 = .ok (.iinc 3 1, 3) := by decide +kernel
theorem dX2_fillNumbers_55 : decode cX2_fillNumbers 55 = .ok (.goto (-32), 3) := by decide +kernel
theorem dX2_fillNumbers_58 : decode cX2_fillNumbers 58 = .ok (.iinc 2 1, 3) := by decide +kernel
theorem dX2_fillNumbers_61 : decode cX2_fillNumbers 61 = .ok (.goto (-46), 3) := by decide +kernel
theorem dX2_fillNumbers_64 : decode cX2_fillNumbers 64 = .ok (.return_, 1) := by decide +kernel
theorem dX2_madeOfAbove_0 : decode cX2_madeOfAbove 0 = .ok (.aload_n 0, 1) := by decide +kernel
theorem dX2_madeOfAbove_1 : decode cX2_madeOfAbove 1 = .ok (.getfield 9, 3) := by decide +kernel
theorem dX2_madeOfAbove_4 : decode cX2_madeOfAbove 4 = .ok (.iload_n 1, 1) := by decide +kernel
theorem dX2_madeOfAbove_5 : decode cX2_madeOfAbove 5 = .ok (.iload_n 2, 1) := by decide +kernel
theorem dX2_madeOfAbove_6 : decode cX2_madeOfAbove 6 = .ok (.invokestatic 71, 3) := by decide +kernel
theorem dX2_madeOfAbove_9 : decode cX2_madeOfAbove 9 = .ok (.aload_n 0, 1) := by decide +kernel
theorem dX2_madeOfAbove_10 : decode cX2_madeOfAbove 10 = .ok (.iload_n 1, 1) := by decide +kernel
theorem dX2_madeOfAbove_11 : decode cX2_madeOfAbove 11 = .ok (.iconst 1, 1) := by decide +kernel
theorem dX2_madeOfAbove_12 : decode cX2_madeOfAbove 12 = .ok (.isub, 1) := by decide +kernel
theorem dX2_madeOfAbove_13 : decode cX2_madeOfAbove 13 = .ok (.iload_n 2, 1) := by decide +kernel
theorem dX2_madeOfAbove_14 : decode cX2_madeOfAbove 14 = .ok (.iconst 1, 1) := by decide +kernel
theorem dX2_madeOfAbove_15 : decode cX2_madeOfAbove 15 = .ok (.isub, 1) := by decide +kernel
theorem dX2_madeOfAbove_16 : decode cX2_madeOfAbove 16 = .ok (.invokevirtual 75, 3) := by decide +kernel
theorem dX2_madeOfAbove_19 : decode cX2_madeOfAbove 19 = .ok (.invokestatic 78, 3) := by decide +kernel
theorem dX2_madeOfAbove_22 : decode cX2_madeOfAbove 22 = .ok (.lstore_n 3, 1) := by decide +kernel
theorem dX2_madeOfAbove_23 : decode cX2_madeOfAbove 23 = .ok (.aload_n 0, 1) := by decide +kernel
theorem dX2_madeOfAbove_24 : decode cX2_madeOfAbove 24 = .ok (.getfield 15, 3) := by decide +kernel
theorem dX2_madeOfAbove_27 : decode cX2_madeOfAbove 27 = .ok (.iload_n 1, 1) := by decide +kernel
theorem dX2_madeOfAbove_28 : decode cX2_madeOfAbove 28 = .ok (.iload_n 2, 1) := by decide +kernel
theorem dX2_madeOfAbove_29 : decode cX2_madeOfAbove 29 = .ok (.invokestatic 71, 3) := by decide +kernel
theorem dX2_madeOfAbove_32 : decode cX2_madeOfAbove 32 = .ok (.aload_n 0, 1) := by decide +kernel
theorem dX2_madeOfAbove_33 : decode cX2_madeOfAbove 33 = .ok (.iload_n 1, 1) := by decide +kernel
theorem dX2_madeOfAbove_34 : decode cX2_madeOfAbove 34 = .ok (.iconst 1, 1) := by decide +kernel
theorem dX2_madeOfAbove_35 : decode cX2_madeOfAbove 35 = .ok (.isub, 1) := by decide +kernel
theorem dX2_madeOfAbove_36 : decode cX2_madeOfAbove 36 = .ok (.iload_n 2, 1) := by decide +kernel
theorem dX2_madeOfAbove_37 : decode cX2_madeOfAbove 37 = .ok (.invokevirtual 75, 3) := by decide +kernel
theorem dX2_madeOfAbove_40 : decode cX2_madeOfAbove 40 = .ok (.invokestatic 78, 3) := by decide +kernel
theorem dX2_madeOfAbove_43 : decode cX2_madeOfAbove 43 = .ok (.lstore 5, 2) := by decide +kernel
theorem dX2_madeOfAbove_45 : decode cX2_madeOfAbove 45 = .ok (.lload_n 3, 1) := by decide +kernel
theorem dX2_madeOfAbove_46 : decode cX2_madeOfAbove 46 = .ok (.ldc2_w 82, 3) := by decide +kernel
theorem dX2_madeOfAbove_49 : decode cX2_madeOfAbove 49 = .ok (.lcmp, 1) := by decide +kernel
theorem dX2_madeOfAbove_50 : decode cX2_madeOfAbove 50 = .ok (.ifCond .eq 12, 3) := by decide +kernel
theorem dX2_madeOfAbove_53 : decode cX2_madeOfAbove 53 = .ok (.lload 5, 2) := by decide +kernel
theorem dX2_madeOfAbove_55 : decode cX2_madeOfAbove 55 = .ok (.ldc2_w 82, 3) := by decide +kernel
theorem dX2_madeOfAbove_58 : decode cX2_madeOfAbove 58 = .ok (.lcmp, 1) := by decide +kernel
theorem dX2_madeOfAbove_59 : decode cX2_madeOfAbove 59 = .ok (.ifCond .ne 7, 3) := by decide +kernel
theorem dX2_madeOfAbove_62 : decode cX2_madeOfAbove 62 = .ok (.ldc2_w 82, 3) := by decide +kernel
theorem dX2_madeOfAbove_65 : decode cX2_madeOfAbove 65 = .ok (.lreturn, 1) := by decide +kernel
theorem dX2_madeOfAbove_66 : decode cX2_madeOfAbove 66 = .ok (.lload_n 3, 1) := by decide +kernel
theorem dX2_madeOfAbove_67 : decode cX2_madeOfAbove 67 = .ok (.lload 5, 2) := by decide +kernel
theorem dX2_madeOfAbove_69 : decode cX2_madeOfAbove 69 = .ok (.ladd, 1) := by decide +kernel
theorem dX2_madeOfAbove_70 : decode cX2_madeOfAbove 70 = .ok (.invokestatic 84, 3) := by decide +kernel
theorem dX2_madeOfAbove_73 : decode cX2_madeOfAbove 73 = .ok (.lreturn, 1) := by decide +kernel
theorem dX2_factor_0 : decode cX2_factor 0 = .ok (.aload_n 0, 1) := by decide +kernel
theorem dX2_factor_1 : decode cX2_factor 1 = .ok (.iconst 0, 1) := by decide +kernel
theorem dX2_factor_2 : decode cX2_factor 2 = .ok (.iaload, 1) := by decide +kernel
theorem dX2_factor_3 : decode cX2_factor 3 = .ok (.aload_n 0, 1) := by decide +kernel
theorem dX2_factor_4 : decode cX2_factor 4 = .ok (.iconst 1, 1) := by decide +kernel
theorem dX2_factor_5 : decode cX2_factor 5 = .ok (.iaload, 1) := by decide +kernel
theorem dX2_factor_6 : decode cX2_factor 6 = .ok (.iload_n 1, 1) := by decide +kernel
theorem dX2_factor_7 : decode cX2_factor 7 = .ok (.imul, 1) := by decide +kernel
theorem dX2_factor_8 : decode cX2_factor 8 = .ok (.iadd, 1) := by decide +kernel
theorem dX2_factor_9 : decode cX2_factor 9 = .ok (.aload_n 0, 1) := by decide +kernel
theorem dX2_factor_10 : decode cX2_factor 10 = .ok (.iconst 2, 1) := by decide +kernel
theorem dX2_factor_11 : decode cX2_factor 11 = .ok (.iaload, 1) := by decide +kernel
theorem dX2_factor_12 : decode cX2_factor 12 = .ok (.iload_n 2, 1) := by decide +kernel
theorem dX2_factor_13 : decode cX2_factor 13 = .ok (.imul, 1) := by decide +kernel
theorem dX2_factor_14 : decode cX2_factor 14 = .ok (.iadd, 1) := by decide +kernel
theorem dX2_factor_15 : decode cX2_factor 15 = .ok (.ireturn, 1) := by decide +kernel
theorem dX2_part_0 : decode cX2_part 0 = .ok (.iload_n 0, 1) := by decide +kernel
theorem dX2_part_1 : decode cX2_part 1 = .ok (.ifCond .ne 7, 3) := by decide +kernel
theorem dX2_part_4 : decode cX2_part 4 = .ok (.lconst 0, 1) := by decide +kernel
theorem dX2_part_5 : decode cX2_part 5 = .ok (.goto 9, 3) := by decide +kernel
theorem dX2_part_8 : decode cX2_part 8 = .ok (.iload_n 0, 1) := by decide +kernel
theorem dX2_part_9 : decode cX2_part 9 = .ok (.i2l, 1) := by decide +kernel
theorem dX2_part_10 : decode cX2_part 10 = .ok (.lload_n 1, 1) := by decide +kernel
theorem dX2_part_11 : decode cX2_part 11 = .ok (.invokestatic 88, 3) := by decide +kernel
theorem dX2_part_14 : decode cX2_part 14 = .ok (.lreturn, 1) := by decide +kernel
theorem dX2_limited_0 : decode cX2_limited 0 = .ok (.lload_n 0, 1) := by decide +kernel
theorem dX2_limited_1 : decode cX2_limited 1 = .ok (.ldc2_w 92, 3) := by decide +kernel
theorem dX2_limited_4 : decode cX2_limited 4 = .ok (.invokestatic 94, 3) := by decide +kernel
theorem dX2_limited_7 : decode cX2_limited 7 = .ok (.ifCond .eq 9, 3) := by decide +kernel
theorem dX2_limited_10 : decode cX2_limited 10 = .ok (.ldc2_w 82, 3) := by decide +kernel
theorem dX2_limited_13 : decode cX2_limited 13 = .ok (.goto 4, 3) := by decide +kernel
theorem dX2_limited_16 : decode cX2_limited 16 = .ok (.lload_n 0, 1) := by decide +kernel
theorem dX2_limited_17 : decode cX2_limited 17 = .ok (.lreturn, 1) := by decide +kernel
theorem dX2_product_0 : decode cX2_product 0 = .ok (.lload_n 0, 1) := by decide +kernel
theorem dX2_product_1 : decode cX2_product 1 = .ok (.ldc2_w 82, 3) := by decide +kernel
theorem dX2_product_4 : decode cX2_product 4 = .ok (.lcmp, 1) := by decide +kernel
theorem dX2_product_5 : decode cX2_product 5 = .ok (.ifCond .eq 11, 3) := by decide +kernel
theorem dX2_product_8 : decode cX2_product 8 = .ok (.lload_n 2, 1) := by decide +kernel
theorem dX2_product_9 : decode cX2_product 9 = .ok (.ldc2_w 82, 3) := by decide +kernel
theorem dX2_product_12 : decode cX2_product 12 = .ok (.lcmp, 1) := by decide +kernel
theorem dX2_product_13 : decode cX2_product 13 = .ok (.ifCond .ne 7, 3) := by decide +kernel
theorem dX2_product_16 : decode cX2_product 16 = .ok (.ldc2_w 82, 3) := by decide +kernel
theorem dX2_product_19 : decode cX2_product 19 = .ok (.lreturn, 1) := by decide +kernel
theorem dX2_product_20 : decode cX2_product 20 = .ok (.lload_n 2, 1) := by decide +kernel
theorem dX2_product_21 : decode cX2_product 21 = .ok (.lconst 0, 1) := by decide +kernel
theorem dX2_product_22 : decode cX2_product 22 = .ok (.lcmp, 1) := by decide +kernel
theorem dX2_product_23 : decode cX2_product 23 = .ok (.ifCond .eq 23, 3) := by decide +kernel
theorem dX2_product_26 : decode cX2_product 26 = .ok (.lload_n 0, 1) := by decide +kernel
theorem dX2_product_27 : decode cX2_product 27 = .ok (.invokestatic 98, 3) := by decide +kernel
theorem dX2_product_30 : decode cX2_product 30 = .ok (.ldc2_w 92, 3) := by decide +kernel
theorem dX2_product_33 : decode cX2_product 33 = .ok (.lload_n 2, 1) := by decide +kernel
theorem dX2_product_34 : decode cX2_product 34 = .ok (.invokestatic 98, 3) := by decide +kernel
theorem dX2_product_37 : decode cX2_product 37 = .ok (.ldiv, 1) := by decide +kernel
theorem dX2_product_38 : decode cX2_product 38 = .ok (.lcmp, 1) := by decide +kernel
theorem dX2_product_39 : decode cX2_product 39 = .ok (.ifCond .le 7, 3) := by decide +kernel
theorem dX2_product_42 : decode cX2_product 42 = .ok (.ldc2_w 82, 3) := by decide +kernel
theorem dX2_product_45 : decode cX2_product 45 = .ok (.lreturn, 1) := by decide +kernel
theorem dX2_product_46 : decode cX2_product 46 = .ok (.lload_n 0, 1) := by decide +kernel
theorem dX2_product_47 : decode cX2_product 47 = .ok (.lload_n 2, 1) := by decide +kernel
theorem dX2_product_48 : decode cX2_product 48 = .ok (.lmul, 1) := by decide +kernel
theorem dX2_product_49 : decode cX2_product 49 = .ok (.lreturn, 1) := by decide +kernel
theorem dX2_numberAt_0 : decode cX2_numberAt 0 = .ok (.iload_n 1, 1) := by decide +kernel
theorem dX2_numberAt_1 : decode cX2_numberAt 1 = .ok (.iload_n 2, 1) := by decide +kernel
theorem dX2_numberAt_2 : decode cX2_numberAt 2 = .ok (.bipush 24, 2) := by decide +kernel
theorem dX2_numberAt_4 : decode cX2_numberAt 4 = .ok (.invokestatic 103, 3) := by decide +kernel
theorem dX2_numberAt_7 : decode cX2_numberAt 7 = .ok (.ifCond .eq 20, 3) := by decide +kernel
theorem dX2_numberAt_10 : decode cX2_numberAt 10 = .ok (.aload_n 0, 1) := by decide +kernel
theorem dX2_numberAt_11 : decode cX2_numberAt 11 = .ok (.getfield 18, 3) := by decide +kernel
theorem dX2_numberAt_14 : decode cX2_numberAt 14 = .ok (.iload_n 1, 1) := by decide +kernel
theorem dX2_numberAt_15 : decode cX2_numberAt 15 = .ok (.iload_n 1, 1) := by decide +kernel
theorem dX2_numberAt_16 : decode cX2_numberAt 16 = .ok (.iconst 1, 1) := by decide +kernel
theorem dX2_numberAt_17 : decode cX2_numberAt 17 = .ok (.iadd, 1) := by decide +kernel
theorem dX2_numberAt_18 : decode cX2_numberAt 18 = .ok (.imul, 1) := by decide +kernel
theorem dX2_numberAt_19 : decode cX2_numberAt 19 = .ok (.iconst 2, 1) := by decide +kernel
theorem dX2_numberAt_20 : decode cX2_numberAt 20 = .ok (.idiv, 1) := by decide +kernel
theorem dX2_numberAt_21 : decode cX2_numberAt 21 = .ok (.iload_n 2, 1) := by decide +kernel
theorem dX2_numberAt_22 : decode cX2_numberAt 22 = .ok (.iadd, 1) := by decide +kernel
theorem dX2_numberAt_23 : decode cX2_numberAt 23 = .ok (.laload, 1) := by decide +kernel
theorem dX2_numberAt_24 : decode cX2_numberAt 24 = .ok (.goto 4, 3) := by decide +kernel
theorem dX2_numberAt_27 : decode cX2_numberAt 27 = .ok (.lconst 0, 1) := by decide +kernel
theorem dX2_numberAt_28 : decode cX2_numberAt 28 = .ok (.lreturn, 1) := by decide +kernel
theorem dX2_rowKeepsTo_0 : decode cX2_rowKeepsTo 0 = .ok (.iconst 0, 1) := by decide +kernel
theorem dX2_rowKeepsTo_1 : decode cX2_rowKeepsTo 1 = .ok (.istore 4, 2) := by decide +kernel
theorem dX2_rowKeepsTo_3 : decode cX2_rowKeepsTo 3 = .ok (.iload 4, 2) := by decide +kernel
theorem dX2_rowKeepsTo_5 : decode cX2_rowKeepsTo 5 = .ok (.iload_n 1, 1) := by decide +kernel
theorem dX2_rowKeepsTo_6 : decode cX2_rowKeepsTo 6 = .ok (.if_icmp .gt 25, 3) := by decide +kernel
theorem dX2_rowKeepsTo_9 : decode cX2_rowKeepsTo 9 = .ok (.aload_n 0, 1) := by decide +kernel
theorem dX2_rowKeepsTo_10 : decode cX2_rowKeepsTo 10 = .ok (.iload_n 1, 1) := by decide +kernel
theorem dX2_rowKeepsTo_11 : decode cX2_rowKeepsTo 11 = .ok (.iload 4, 2) := by decide +kernel
theorem dX2_rowKeepsTo_13 : decode cX2_rowKeepsTo 13 = .ok (.invokevirtual 75, 3) := by decide +kernel
theorem dX2_rowKeepsTo_16 : decode cX2_rowKeepsTo 16 = .ok (.lload_n 2, 1) := by decide +kernel
theorem dX2_rowKeepsTo_17 : decode cX2_rowKeepsTo 17 = .ok (.invokestatic 94, 3) := by decide +kernel
theorem dX2_rowKeepsTo_20 : decode cX2_rowKeepsTo 20 = .ok (.ifCond .eq 5, 3) := by decide +kernel
theorem dX2_rowKeepsTo_23 : decode cX2_rowKeepsTo 23 = .ok (.iconst 0, 1) := by decide +kernel
theorem dX2_rowKeepsTo_24 : decode cX2_rowKeepsTo 24 = .ok (.ireturn, 1) := by decide +kernel
theorem dX2_rowKeepsTo_25 : decode cX2_rowKeepsTo 25 = .ok (.iinc 4 1, 3) := by decide +kernel
theorem dX2_rowKeepsTo_28 : decode cX2_rowKeepsTo 28 = .ok (.goto (-25), 3) := by decide +kernel
theorem dX2_rowKeepsTo_31 : decode cX2_rowKeepsTo 31 = .ok (.iconst 1, 1) := by decide +kernel
theorem dX2_rowKeepsTo_32 : decode cX2_rowKeepsTo 32 = .ok (.ireturn, 1) := by decide +kernel
theorem dX2_rowSum_0 : decode cX2_rowSum 0 = .ok (.aload_n 0, 1) := by decide +kernel
theorem dX2_rowSum_1 : decode cX2_rowSum 1 = .ok (.iload_n 1, 1) := by decide +kernel
theorem dX2_rowSum_2 : decode cX2_rowSum 2 = .ok (.ldc2_w 92, 3) := by decide +kernel
theorem dX2_rowSum_5 : decode cX2_rowSum 5 = .ok (.invokevirtual 107, 3) := by decide +kernel
theorem dX2_rowSum_8 : decode cX2_rowSum 8 = .ok (.ifCond .ne 7, 3) := by decide +kernel
theorem dX2_rowSum_11 : decode cX2_rowSum 11 = .ok (.ldc2_w 82, 3) := by decide +kernel
theorem dX2_rowSum_14 : decode cX2_rowSum 14 = .ok (.lreturn, 1) := by decide +kernel
theorem dX2_rowSum_15 : decode cX2_rowSum 15 = .ok (.lconst 0, 1) := by decide +kernel
theorem dX2_rowSum_16 : decode cX2_rowSum 16 = .ok (.lstore_n 3, 1) := by decide +kernel
theorem dX2_rowSum_17 : decode cX2_rowSum 17 = .ok (.iconst 0, 1) := by decide +kernel
theorem dX2_rowSum_18 : decode cX2_rowSum 18 = .ok (.istore 5, 2) := by decide +kernel
theorem dX2_rowSum_20 : decode cX2_rowSum 20 = .ok (.iload 5, 2) := by decide +kernel
theorem dX2_rowSum_22 : decode cX2_rowSum 22 = .ok (.iload_n 1, 1) := by decide +kernel
theorem dX2_rowSum_23 : decode cX2_rowSum 23 = .ok (.if_icmp .gt 42, 3) := by decide +kernel
theorem dX2_rowSum_26 : decode cX2_rowSum 26 = .ok (.lload_n 3, 1) := by decide +kernel
theorem dX2_rowSum_27 : decode cX2_rowSum 27 = .ok (.iload_n 2, 1) := by decide +kernel
theorem dX2_rowSum_28 : decode cX2_rowSum 28 = .ok (.ifCond .eq 22, 3) := by decide +kernel
theorem dX2_rowSum_31 : decode cX2_rowSum 31 = .ok (.iload 5, 2) := by decide +kernel
theorem dX2_rowSum_33 : decode cX2_rowSum 33 = .ok (.iconst 2, 1) := by decide +kernel
theorem dX2_rowSum_34 : decode cX2_rowSum 34 = .ok (.irem, 1) := by decide +kernel
theorem dX2_rowSum_35 : decode cX2_rowSum 35 = .ok (.iconst 1, 1) := by decide +kernel
theorem dX2_rowSum_36 : decode cX2_rowSum 36 = .ok (.if_icmp .ne 14, 3) := by decide +kernel
theorem dX2_rowSum_39 : decode cX2_rowSum 39 = .ok (.aload_n 0, 1) := by decide +kernel
theorem dX2_rowSum_40 : decode cX2_rowSum 40 = .ok (.iload_n 1, 1) := by decide +kernel
theorem dX2_rowSum_41 : decode cX2_rowSum 41 = .ok (.iload 5, 2) := by decide +kernel
theorem dX2_rowSum_43 : decode cX2_rowSum 43 = .ok (.invokevirtual 75, 3) := by decide +kernel
theorem dX2_rowSum_46 : decode cX2_rowSum 46 = .ok (.lneg, 1) := by decide +kernel
theorem dX2_rowSum_47 : decode cX2_rowSum 47 = .ok (.goto 10, 3) := by decide +kernel
theorem dX2_rowSum_50 : decode cX2_rowSum 50 = .ok (.aload_n 0, 1) := by decide +kernel
theorem dX2_rowSum_51 : decode cX2_rowSum 51 = .ok (.iload_n 1, 1) := by decide +kernel
theorem dX2_rowSum_52 : decode cX2_rowSum 52 = .ok (.iload 5, 2) := by decide +kernel
theorem dX2_rowSum_54 : decode cX2_rowSum 54 = .ok (.invokevirtual 75, 3) := by decide +kernel
theorem dX2_rowSum_57 : decode cX2_rowSum 57 = .ok (.ladd, 1) := by decide +kernel
theorem dX2_rowSum_58 : decode cX2_rowSum 58 = .ok (.lstore_n 3, 1) := by decide +kernel
theorem dX2_rowSum_59 : decode cX2_rowSum 59 = .ok (.iinc 5 1, 3) := by decide +kernel
theorem dX2_rowSum_62 : decode cX2_rowSum 62 = .ok (.goto (-42), 3) := by decide +kernel
theorem dX2_rowSum_65 : decode cX2_rowSum 65 = .ok (.lload_n 3, 1) := by decide +kernel
theorem dX2_rowSum_66 : decode cX2_rowSum 66 = .ok (.lreturn, 1) := by decide +kernel
theorem dX2_slantSum_0 : decode cX2_slantSum 0 = .ok (.lconst 0, 1) := by decide +kernel
theorem dX2_slantSum_1 : decode cX2_slantSum 1 = .ok (.lstore_n 2, 1) := by decide +kernel
theorem dX2_slantSum_2 : decode cX2_slantSum 2 = .ok (.iconst 0, 1) := by decide +kernel
theorem dX2_slantSum_3 : decode cX2_slantSum 3 = .ok (.istore 4, 2) := by decide +kernel
theorem dX2_slantSum_5 : decode cX2_slantSum 5 = .ok (.iload 4, 2) := by decide +kernel
theorem dX2_slantSum_7 : decode cX2_slantSum 7 = .ok (.iload_n 1, 1) := by decide +kernel
theorem dX2_slantSum_8 : decode cX2_slantSum 8 = .ok (.iload 4, 2) := by decide +kernel
theorem dX2_slantSum_10 : decode cX2_slantSum 10 = .ok (.isub, 1) := by decide +kernel
theorem dX2_slantSum_11 : decode cX2_slantSum 11 = .ok (.if_icmp .gt 39, 3) := by decide +kernel
theorem dX2_slantSum_14 : decode cX2_slantSum 14 = .ok (.aload_n 0, 1) := by decide +kernel
theorem dX2_slantSum_15 : decode cX2_slantSum 15 = .ok (.iload_n 1, 1) := by decide +kernel
theorem dX2_slantSum_16 : decode cX2_slantSum 16 = .ok (.iload 4, 2) := by decide +kernel
theorem dX2_slantSum_18 : decode cX2_slantSum 18 = .ok (.isub, 1) := by decide +kernel
theorem dX2_slantSum_19 : decode cX2_slantSum 19 = .ok (.iload 4, 2) := by decide +kernel
theorem dX2_slantSum_21 : decode cX2_slantSum 21 = .ok (.invokevirtual 75, 3) := by decide +kernel
theorem dX2_slantSum_24 : decode cX2_slantSum 24 = .ok (.lstore 5, 2) := by decide +kernel
theorem dX2_slantSum_26 : decode cX2_slantSum 26 = .ok (.lload 5, 2) := by decide +kernel
theorem dX2_slantSum_28 : decode cX2_slantSum 28 = .ok (.ldc2_w 82, 3) := by decide +kernel
theorem dX2_slantSum_31 : decode cX2_slantSum 31 = .ok (.lcmp, 1) := by decide +kernel
theorem dX2_slantSum_32 : decode cX2_slantSum 32 = .ok (.ifCond .ne 7, 3) := by decide +kernel
theorem dX2_slantSum_35 : decode cX2_slantSum 35 = .ok (.ldc2_w 82, 3) := by decide +kernel
theorem dX2_slantSum_38 : decode cX2_slantSum 38 = .ok (.lreturn, 1) := by decide +kernel
theorem dX2_slantSum_39 : decode cX2_slantSum 39 = .ok (.lload_n 2, 1) := by decide +kernel
theorem dX2_slantSum_40 : decode cX2_slantSum 40 = .ok (.lload 5, 2) := by decide +kernel
theorem dX2_slantSum_42 : decode cX2_slantSum 42 = .ok (.ladd, 1) := by decide +kernel
theorem dX2_slantSum_43 : decode cX2_slantSum 43 = .ok (.lstore_n 2, 1) := by decide +kernel
theorem dX2_slantSum_44 : decode cX2_slantSum 44 = .ok (.iinc 4 1, 3) := by decide +kernel
theorem dX2_slantSum_47 : decode cX2_slantSum 47 = .ok (.goto (-42), 3) := by decide +kernel
theorem dX2_slantSum_50 : decode cX2_slantSum 50 = .ok (.lload_n 2, 1) := by decide +kernel
theorem dX2_slantSum_51 : decode cX2_slantSum 51 = .ok (.lreturn, 1) := by decide +kernel
theorem dX2_squareSum_0 : decode cX2_squareSum 0 = .ok (.aload_n 0, 1) := by decide +kernel
theorem dX2_squareSum_1 : decode cX2_squareSum 1 = .ok (.iload_n 1, 1) := by decide +kernel
theorem dX2_squareSum_2 : decode cX2_squareSum 2 = .ok (.ldc2_w 111, 3) := by decide +kernel
theorem dX2_squareSum_5 : decode cX2_squareSum 5 = .ok (.invokevirtual 107, 3) := by decide +kernel
theorem dX2_squareSum_8 : decode cX2_squareSum 8 = .ok (.ifCond .ne 7, 3) := by decide +kernel
theorem dX2_squareSum_11 : decode cX2_squareSum 11 = .ok (.ldc2_w 82, 3) := by decide +kernel
theorem dX2_squareSum_14 : decode cX2_squareSum 14 = .ok (.lreturn, 1) := by decide +kernel
theorem dX2_squareSum_15 : decode cX2_squareSum 15 = .ok (.lconst 0, 1) := by decide +kernel
theorem dX2_squareSum_16 : decode cX2_squareSum 16 = .ok (.lstore_n 2, 1) := by decide +kernel
theorem dX2_squareSum_17 : decode cX2_squareSum 17 = .ok (.iconst 0, 1) := by decide +kernel
theorem dX2_squareSum_18 : decode cX2_squareSum 18 = .ok (.istore 4, 2) := by decide +kernel
theorem dX2_squareSum_20 : decode cX2_squareSum 20 = .ok (.iload 4, 2) := by decide +kernel
theorem dX2_squareSum_22 : decode cX2_squareSum 22 = .ok (.iload_n 1, 1) := by decide +kernel
theorem dX2_squareSum_23 : decode cX2_squareSum 23 = .ok (.if_icmp .gt 27, 3) := by decide +kernel
theorem dX2_squareSum_26 : decode cX2_squareSum 26 = .ok (.lload_n 2, 1) := by decide +kernel
theorem dX2_squareSum_27 : decode cX2_squareSum 27 = .ok (.aload_n 0, 1) := by decide +kernel
theorem dX2_squareSum_28 : decode cX2_squareSum 28 = .ok (.iload_n 1, 1) := by decide +kernel
theorem dX2_squareSum_29 : decode cX2_squareSum 29 = .ok (.iload 4, 2) := by decide +kernel
theorem dX2_squareSum_31 : decode cX2_squareSum 31 = .ok (.invokevirtual 75, 3) := by decide +kernel
theorem dX2_squareSum_34 : decode cX2_squareSum 34 = .ok (.aload_n 0, 1) := by decide +kernel
theorem dX2_squareSum_35 : decode cX2_squareSum 35 = .ok (.iload_n 1, 1) := by decide +kernel
theorem dX2_squareSum_36 : decode cX2_squareSum 36 = .ok (.iload 4, 2) := by decide +kernel
theorem dX2_squareSum_38 : decode cX2_squareSum 38 = .ok (.invokevirtual 75, 3) := by decide +kernel
theorem dX2_squareSum_41 : decode cX2_squareSum 41 = .ok (.lmul, 1) := by decide +kernel
theorem dX2_squareSum_42 : decode cX2_squareSum 42 = .ok (.ladd, 1) := by decide +kernel
theorem dX2_squareSum_43 : decode cX2_squareSum 43 = .ok (.lstore_n 2, 1) := by decide +kernel
theorem dX2_squareSum_44 : decode cX2_squareSum 44 = .ok (.iinc 4 1, 3) := by decide +kernel
theorem dX2_squareSum_47 : decode cX2_squareSum 47 = .ok (.goto (-27), 3) := by decide +kernel
theorem dX2_squareSum_50 : decode cX2_squareSum 50 = .ok (.lload_n 2, 1) := by decide +kernel
theorem dX2_squareSum_51 : decode cX2_squareSum 51 = .ok (.lreturn, 1) := by decide +kernel
theorem dX2_greatestPlace_0 : decode cX2_greatestPlace 0 = .ok (.iconst 0, 1) := by decide +kernel
theorem dX2_greatestPlace_1 : decode cX2_greatestPlace 1 = .ok (.istore_n 2, 1) := by decide +kernel
theorem dX2_greatestPlace_2 : decode cX2_greatestPlace 2 = .ok (.iconst 1, 1) := by decide +kernel
theorem dX2_greatestPlace_3 : decode cX2_greatestPlace 3 = .ok (.istore_n 3, 1) := by decide +kernel
theorem dX2_greatestPlace_4 : decode cX2_greatestPlace 4 = .ok (.iload_n 3, 1) := by decide +kernel
theorem dX2_greatestPlace_5 : decode cX2_greatestPlace 5 = .ok (.iload_n 1, 1) := by decide +kernel
theorem dX2_greatestPlace_6 : decode cX2_greatestPlace 6 = .ok (.if_icmp .gt 27, 3) := by decide +kernel
theorem dX2_greatestPlace_9 : decode cX2_greatestPlace 9 = .ok (.aload_n 0, 1) := by decide +kernel
theorem dX2_greatestPlace_10 : decode cX2_greatestPlace 10 = .ok (.iload_n 1, 1) := by decide +kernel
theorem dX2_greatestPlace_11 : decode cX2_greatestPlace 11 = .ok (.iload_n 3, 1) := by decide +kernel
theorem dX2_greatestPlace_12 : decode cX2_greatestPlace 12 = .ok (.invokevirtual 75, 3) := by decide +kernel
theorem dX2_greatestPlace_15 : decode cX2_greatestPlace 15 = .ok (.aload_n 0, 1) := by decide +kernel
theorem dX2_greatestPlace_16 : decode cX2_greatestPlace 16 = .ok (.iload_n 1, 1) := by decide +kernel
theorem dX2_greatestPlace_17 : decode cX2_greatestPlace 17 = .ok (.iload_n 2, 1) := by decide +kernel
theorem dX2_greatestPlace_18 : decode cX2_greatestPlace 18 = .ok (.invokevirtual 75, 3) := by decide +kernel
theorem dX2_greatestPlace_21 : decode cX2_greatestPlace 21 = .ok (.lcmp, 1) := by decide +kernel
theorem dX2_greatestPlace_22 : decode cX2_greatestPlace 22 = .ok (.ifCond .le 5, 3) := by decide +kernel
theorem dX2_greatestPlace_25 : decode cX2_greatestPlace 25 = .ok (.iload_n 3, 1) := by decide +kernel
theorem dX2_greatestPlace_26 : decode cX2_greatestPlace 26 = .ok (.istore_n 2, 1) := by decide +kernel
theorem dX2_greatestPlace_27 : decode cX2_greatestPlace 27 = .ok (.iinc 3 1, 3) := by decide +kernel
theorem dX2_greatestPlace_30 : decode cX2_greatestPlace 30 = .ok (.goto (-26), 3) := by decide +kernel
theorem dX2_greatestPlace_33 : decode cX2_greatestPlace 33 = .ok (.iload_n 2, 1) := by decide +kernel
theorem dX2_greatestPlace_34 : decode cX2_greatestPlace 34 = .ok (.ireturn, 1) := by decide +kernel
theorem dX2_breakPlace_0 : decode cX2_breakPlace 0 = .ok (.iconst 0, 1) := by decide +kernel
theorem dX2_breakPlace_1 : decode cX2_breakPlace 1 = .ok (.istore_n 2, 1) := by decide +kernel
theorem dX2_breakPlace_2 : decode cX2_breakPlace 2 = .ok (.iconst 0, 1) := by decide +kernel
theorem dX2_breakPlace_3 : decode cX2_breakPlace 3 = .ok (.istore_n 3, 1) := by decide +kernel
theorem dX2_breakPlace_4 : decode cX2_breakPlace 4 = .ok (.iload_n 3, 1) := by decide +kernel
theorem dX2_breakPlace_5 : decode cX2_breakPlace 5 = .ok (.iload_n 1, 1) := by decide +kernel
theorem dX2_breakPlace_6 : decode cX2_breakPlace 6 = .ok (.if_icmp .ge 61, 3) := by decide +kernel
theorem dX2_breakPlace_9 : decode cX2_breakPlace 9 = .ok (.iload_n 2, 1) := by decide +kernel
theorem dX2_breakPlace_10 : decode cX2_breakPlace 10 = .ok (.ifCond .eq 23, 3) := by decide +kernel
theorem dX2_breakPlace_13 : decode cX2_breakPlace 13 = .ok (.aload_n 0, 1) := by decide +kernel
theorem dX2_breakPlace_14 : decode cX2_breakPlace 14 = .ok (.iload_n 1, 1) := by decide +kernel
theorem dX2_breakPlace_15 : decode cX2_breakPlace 15 = .ok (.iload_n 3, 1) := by decide +kernel
theorem dX2_breakPlace_16 : decode cX2_breakPlace 16 = .ok (.iconst 1, 1) := by decide +kernel
theorem dX2_breakPlace_17 : decode cX2_breakPlace 17 = .ok (.iadd, 1) := by decide +kernel
theorem dX2_breakPlace_18 : decode cX2_breakPlace 18 = .ok (.invokevirtual 75, 3) := by decide +kernel
theorem dX2_breakPlace_21 : decode cX2_breakPlace 21 = .ok (.aload_n 0, 1) := by decide +kernel
theorem dX2_breakPlace_22 : decode cX2_breakPlace 22 = .ok (.iload_n 1, 1) := by decide +kernel
theorem dX2_breakPlace_23 : decode cX2_breakPlace 23 = .ok (.iload_n 3, 1) := by decide +kernel
theorem dX2_breakPlace_24 : decode cX2_breakPlace 24 = .ok (.invokevirtual 75, 3) := by decide +kernel
theorem dX2_breakPlace_27 : decode cX2_breakPlace 27 = .ok (.lcmp, 1) := by decide +kernel
theorem dX2_breakPlace_28 : decode cX2_breakPlace 28 = .ok (.ifCond .le 5, 3) := by decide +kernel
theorem dX2_breakPlace_31 : decode cX2_breakPlace 31 = .ok (.iload_n 3, 1) := by decide +kernel
theorem dX2_breakPlace_32 : decode cX2_breakPlace 32 = .ok (.ireturn, 1) := by decide +kernel
theorem dX2_breakPlace_33 : decode cX2_breakPlace 33 = .ok (.iload_n 2, 1) := by decide +kernel
theorem dX2_breakPlace_34 : decode cX2_breakPlace 34 = .ok (.ifCond .ne 21, 3) := by decide +kernel
theorem dX2_breakPlace_37 : decode cX2_breakPlace 37 = .ok (.aload_n 0, 1) := by decide +kernel
theorem dX2_breakPlace_38 : decode cX2_breakPlace 38 = .ok (.iload_n 1, 1) := by decide +kernel
theorem dX2_breakPlace_39 : decode cX2_breakPlace 39 = .ok (.iload_n 3, 1) := by decide +kernel
theorem dX2_breakPlace_40 : decode cX2_breakPlace 40 = .ok (.iconst 1, 1) := by decide +kernel
theorem dX2_breakPlace_41 : decode cX2_breakPlace 41 = .ok (.iadd, 1) := by decide +kernel
theorem dX2_breakPlace_42 : decode cX2_breakPlace 42 = .ok (.invokevirtual 75, 3) := by decide +kernel
theorem dX2_breakPlace_45 : decode cX2_breakPlace 45 = .ok (.aload_n 0, 1) := by decide +kernel
theorem dX2_breakPlace_46 : decode cX2_breakPlace 46 = .ok (.iload_n 1, 1) := by decide +kernel
theorem dX2_breakPlace_47 : decode cX2_breakPlace 47 = .ok (.iload_n 3, 1) := by decide +kernel
theorem dX2_breakPlace_48 : decode cX2_breakPlace 48 = .ok (.invokevirtual 75, 3) := by decide +kernel
theorem dX2_breakPlace_51 : decode cX2_breakPlace 51 = .ok (.lcmp, 1) := by decide +kernel
theorem dX2_breakPlace_52 : decode cX2_breakPlace 52 = .ok (.ifCond .ge 7, 3) := by decide +kernel
theorem dX2_breakPlace_55 : decode cX2_breakPlace 55 = .ok (.iconst 1, 1) := by decide +kernel
theorem dX2_breakPlace_56 : decode cX2_breakPlace 56 = .ok (.goto 4, 3) := by decide +kernel
theorem dX2_breakPlace_59 : decode cX2_breakPlace 59 = .ok (.iconst 0, 1) := by decide +kernel
theorem dX2_breakPlace_60 : decode cX2_breakPlace 60 = .ok (.istore_n 2, 1) := by decide +kernel
theorem dX2_breakPlace_61 : decode cX2_breakPlace 61 = .ok (.iinc 3 1, 3) := by decide +kernel
theorem dX2_breakPlace_64 : decode cX2_breakPlace 64 = .ok (.goto (-60), 3) := by decide +kernel
theorem dX2_breakPlace_67 : decode cX2_breakPlace 67 = .ok (.bipush (-4), 2) := by decide +kernel
theorem dX2_breakPlace_69 : decode cX2_breakPlace 69 = .ok (.ireturn, 1) := by decide +kernel
theorem dX2_bowedPlace_0 : decode cX2_bowedPlace 0 = .ok (.iconst 1, 1) := by decide +kernel
theorem dX2_bowedPlace_1 : decode cX2_bowedPlace 1 = .ok (.istore_n 2, 1) := by decide +kernel
theorem dX2_bowedPlace_2 : decode cX2_bowedPlace 2 = .ok (.iload_n 2, 1) := by decide +kernel
theorem dX2_bowedPlace_3 : decode cX2_bowedPlace 3 = .ok (.iload_n 1, 1) := by decide +kernel
theorem dX2_bowedPlace_4 : decode cX2_bowedPlace 4 = .ok (.if_icmp .ge 47, 3) := by decide +kernel
theorem dX2_bowedPlace_7 : decode cX2_bowedPlace 7 = .ok (.aload_n 0, 1) := by decide +kernel
theorem dX2_bowedPlace_8 : decode cX2_bowedPlace 8 = .ok (.iload_n 1, 1) := by decide +kernel
theorem dX2_bowedPlace_9 : decode cX2_bowedPlace 9 = .ok (.iload_n 2, 1) := by decide +kernel
theorem dX2_bowedPlace_10 : decode cX2_bowedPlace 10 = .ok (.invokevirtual 75, 3) := by decide +kernel
theorem dX2_bowedPlace_13 : decode cX2_bowedPlace 13 = .ok (.aload_n 0, 1) := by decide +kernel
theorem dX2_bowedPlace_14 : decode cX2_bowedPlace 14 = .ok (.iload_n 1, 1) := by decide +kernel
theorem dX2_bowedPlace_15 : decode cX2_bowedPlace 15 = .ok (.iload_n 2, 1) := by decide +kernel
theorem dX2_bowedPlace_16 : decode cX2_bowedPlace 16 = .ok (.invokevirtual 75, 3) := by decide +kernel
theorem dX2_bowedPlace_19 : decode cX2_bowedPlace 19 = .ok (.lmul, 1) := by decide +kernel
theorem dX2_bowedPlace_20 : decode cX2_bowedPlace 20 = .ok (.lstore_n 3, 1) := by decide +kernel
theorem dX2_bowedPlace_21 : decode cX2_bowedPlace 21 = .ok (.lload_n 3, 1) := by decide +kernel
theorem dX2_bowedPlace_22 : decode cX2_bowedPlace 22 = .ok (.aload_n 0, 1) := by decide +kernel
theorem dX2_bowedPlace_23 : decode cX2_bowedPlace 23 = .ok (.iload_n 1, 1) := by decide +kernel
theorem dX2_bowedPlace_24 : decode cX2_bowedPlace 24 = .ok (.iload_n 2, 1) := by decide +kernel
theorem dX2_bowedPlace_25 : decode cX2_bowedPlace 25 = .ok (.iconst 1, 1) := by decide +kernel
theorem dX2_bowedPlace_26 : decode cX2_bowedPlace 26 = .ok (.isub, 1) := by decide +kernel
theorem dX2_bowedPlace_27 : decode cX2_bowedPlace 27 = .ok (.invokevirtual 75, 3) := by decide +kernel
theorem dX2_bowedPlace_30 : decode cX2_bowedPlace 30 = .ok (.aload_n 0, 1) := by decide +kernel
theorem dX2_bowedPlace_31 : decode cX2_bowedPlace 31 = .ok (.iload_n 1, 1) := by decide +kernel
theorem dX2_bowedPlace_32 : decode cX2_bowedPlace 32 = .ok (.iload_n 2, 1) := by decide +kernel
theorem dX2_bowedPlace_33 : decode cX2_bowedPlace 33 = .ok (.iconst 1, 1) := by decide +kernel
theorem dX2_bowedPlace_34 : decode cX2_bowedPlace 34 = .ok (.iadd, 1) := by decide +kernel
theorem dX2_bowedPlace_35 : decode cX2_bowedPlace 35 = .ok (.invokevirtual 75, 3) := by decide +kernel
theorem dX2_bowedPlace_38 : decode cX2_bowedPlace 38 = .ok (.lmul, 1) := by decide +kernel
theorem dX2_bowedPlace_39 : decode cX2_bowedPlace 39 = .ok (.lcmp, 1) := by decide +kernel
theorem dX2_bowedPlace_40 : decode cX2_bowedPlace 40 = .ok (.ifCond .ge 5, 3) := by decide +kernel
theorem dX2_bowedPlace_43 : decode cX2_bowedPlace 43 = .ok (.iload_n 2, 1) := by decide +kernel
theorem dX2_bowedPlace_44 : decode cX2_bowedPlace 44 = .ok (.ireturn, 1) := by decide +kernel
theorem dX2_bowedPlace_45 : decode cX2_bowedPlace 45 = .ok (.iinc 2 1, 3) := by decide +kernel
theorem dX2_bowedPlace_48 : decode cX2_bowedPlace 48 = .ok (.goto (-46), 3) := by decide +kernel
theorem dX2_bowedPlace_51 : decode cX2_bowedPlace 51 = .ok (.bipush (-4), 2) := by decide +kernel
theorem dX2_bowedPlace_53 : decode cX2_bowedPlace 53 = .ok (.ireturn, 1) := by decide +kernel
theorem dX2_restAt_0 : decode cX2_restAt 0 = .ok (.iload_n 3, 1) := by decide +kernel
theorem dX2_restAt_1 : decode cX2_restAt 1 = .ok (.iconst 1, 1) := by decide +kernel
theorem dX2_restAt_2 : decode cX2_restAt 2 = .ok (.if_icmp .lt 13, 3) := by decide +kernel
theorem dX2_restAt_5 : decode cX2_restAt 5 = .ok (.iload_n 1, 1) := by decide +kernel
theorem dX2_restAt_6 : decode cX2_restAt 6 = .ok (.iload_n 2, 1) := by decide +kernel
theorem dX2_restAt_7 : decode cX2_restAt 7 = .ok (.bipush 60, 2) := by decide +kernel
theorem dX2_restAt_9 : decode cX2_restAt 9 = .ok (.invokestatic 103, 3) := by decide +kernel
theorem dX2_restAt_12 : decode cX2_restAt 12 = .ok (.ifCond .ne 5, 3) := by decide +kernel
theorem dX2_restAt_15 : decode cX2_restAt 15 = .ok (.iconst 0, 1) := by decide +kernel
theorem dX2_restAt_16 : decode cX2_restAt 16 = .ok (.ireturn, 1) := by decide +kernel
theorem dX2_restAt_17 : decode cX2_restAt 17 = .ok (.aload_n 0, 1) := by decide +kernel
theorem dX2_restAt_18 : decode cX2_restAt 18 = .ok (.getfield 25, 3) := by decide +kernel
theorem dX2_restAt_21 : decode cX2_restAt 21 = .ok (.iconst 0, 1) := by decide +kernel
theorem dX2_restAt_22 : decode cX2_restAt 22 = .ok (.invokestatic 35, 3) := by decide +kernel
theorem dX2_restAt_25 : decode cX2_restAt 25 = .ok (.aload_n 0, 1) := by decide +kernel
theorem dX2_restAt_26 : decode cX2_restAt 26 = .ok (.getfield 25, 3) := by decide +kernel
theorem dX2_restAt_29 : decode cX2_restAt 29 = .ok (.iconst 0, 1) := by decide +kernel
theorem dX2_restAt_30 : decode cX2_restAt 30 = .ok (.aload_n 0, 1) := by decide +kernel
theorem dX2_restAt_31 : decode cX2_restAt 31 = .ok (.getfield 28, 3) := by decide +kernel
theorem dX2_restAt_34 : decode cX2_restAt 34 = .ok (.iload_n 3, 1) := by decide +kernel
theorem dX2_restAt_35 : decode cX2_restAt 35 = .ok (.invokestatic 113, 3) := by decide +kernel
theorem dX2_restAt_38 : decode cX2_restAt 38 = .ok (.iastore, 1) := by decide +kernel
theorem dX2_restAt_39 : decode cX2_restAt 39 = .ok (.iconst 1, 1) := by decide +kernel
theorem dX2_restAt_40 : decode cX2_restAt 40 = .ok (.istore 4, 2) := by decide +kernel
theorem dX2_restAt_42 : decode cX2_restAt 42 = .ok (.iload 4, 2) := by decide +kernel
theorem dX2_restAt_44 : decode cX2_restAt 44 = .ok (.iload_n 1, 1) := by decide +kernel
theorem dX2_restAt_45 : decode cX2_restAt 45 = .ok (.if_icmp .gt 111, 3) := by decide +kernel
theorem dX2_restAt_48 : decode cX2_restAt 48 = .ok (.iload 4, 2) := by decide +kernel
theorem dX2_restAt_50 : decode cX2_restAt 50 = .ok (.iload_n 2, 1) := by decide +kernel
theorem dX2_restAt_51 : decode cX2_restAt 51 = .ok (.invokestatic 117, 3) := by decide +kernel
theorem dX2_restAt_54 : decode cX2_restAt 54 = .ok (.istore 5, 2) := by decide +kernel
theorem dX2_restAt_56 : decode cX2_restAt 56 = .ok (.iload 5, 2) := by decide +kernel
theorem dX2_restAt_58 : decode cX2_restAt 58 = .ok (.ifCond .le 65, 3) := by decide +kernel
theorem dX2_restAt_61 : decode cX2_restAt 61 = .ok (.aload_n 0, 1) := by decide +kernel
theorem dX2_restAt_62 : decode cX2_restAt 62 = .ok (.getfield 9, 3) := by decide +kernel
theorem dX2_restAt_65 : decode cX2_restAt 65 = .ok (.iload 4, 2) := by decide +kernel
theorem dX2_restAt_67 : decode cX2_restAt 67 = .ok (.iload 5, 2) := by decide +kernel
theorem dX2_restAt_69 : decode cX2_restAt 69 = .ok (.invokestatic 71, 3) := by decide +kernel
theorem dX2_restAt_72 : decode cX2_restAt 72 = .ok (.aload_n 0, 1) := by decide +kernel
theorem dX2_restAt_73 : decode cX2_restAt 73 = .ok (.getfield 25, 3) := by decide +kernel
theorem dX2_restAt_76 : decode cX2_restAt 76 = .ok (.iload 5, 2) := by decide +kernel
theorem dX2_restAt_78 : decode cX2_restAt 78 = .ok (.iconst 1, 1) := by decide +kernel
theorem dX2_restAt_79 : decode cX2_restAt 79 = .ok (.isub, 1) := by decide +kernel
theorem dX2_restAt_80 : decode cX2_restAt 80 = .ok (.iaload, 1) := by decide +kernel
theorem dX2_restAt_81 : decode cX2_restAt 81 = .ok (.imul, 1) := by decide +kernel
theorem dX2_restAt_82 : decode cX2_restAt 82 = .ok (.aload_n 0, 1) := by decide +kernel
theorem dX2_restAt_83 : decode cX2_restAt 83 = .ok (.getfield 15, 3) := by decide +kernel
theorem dX2_restAt_86 : decode cX2_restAt 86 = .ok (.iload 4, 2) := by decide +kernel
theorem dX2_restAt_88 : decode cX2_restAt 88 = .ok (.iload 5, 2) := by decide +kernel
theorem dX2_restAt_90 : decode cX2_restAt 90 = .ok (.invokestatic 71, 3) := by decide +kernel
theorem dX2_restAt_93 : decode cX2_restAt 93 = .ok (.aload_n 0, 1) := by decide +kernel
theorem dX2_restAt_94 : decode cX2_restAt 94 = .ok (.getfield 25, 3) := by decide +kernel
theorem dX2_restAt_97 : decode cX2_restAt 97 = .ok (.iload 5, 2) := by decide +kernel
theorem dX2_restAt_99 : decode cX2_restAt 99 = .ok (.iaload, 1) := by decide +kernel
theorem dX2_restAt_100 : decode cX2_restAt 100 = .ok (.imul, 1) := by decide +kernel
theorem dX2_restAt_101 : decode cX2_restAt 101 = .ok (.iadd, 1) := by decide +kernel
theorem dX2_restAt_102 : decode cX2_restAt 102 = .ok (.istore 6, 2) := by decide +kernel
theorem dX2_restAt_104 : decode cX2_restAt 104 = .ok (.aload_n 0, 1) := by decide +kernel
theorem dX2_restAt_105 : decode cX2_restAt 105 = .ok (.getfield 25, 3) := by decide +kernel
theorem dX2_restAt_108 : decode cX2_restAt 108 = .ok (.iload 5, 2) := by decide +kernel
theorem dX2_restAt_110 : decode cX2_restAt 110 = .ok (.iload 6, 2) := by decide +kernel
theorem dX2_restAt_112 : decode cX2_restAt 112 = .ok (.iload_n 3, 1) := by decide +kernel
theorem dX2_restAt_113 : decode cX2_restAt 113 = .ok (.invokestatic 113, 3) := by decide +kernel
theorem dX2_restAt_116 : decode cX2_restAt 116 = .ok (.iastore, 1) := by decide +kernel
theorem dX2_restAt_117 : decode cX2_restAt 117 = .ok (.iinc 5 (-1), 3) := by decide +kernel
theorem dX2_restAt_120 : decode cX2_restAt 120 = .ok (.goto (-64), 3) := by decide +kernel
theorem dX2_restAt_123 : decode cX2_restAt 123 = .ok (.aload_n 0, 1) := by decide +kernel
theorem dX2_restAt_124 : decode cX2_restAt 124 = .ok (.getfield 25, 3) := by decide +kernel
theorem dX2_restAt_127 : decode cX2_restAt 127 = .ok (.iconst 0, 1) := by decide +kernel
theorem dX2_restAt_128 : decode cX2_restAt 128 = .ok (.aload_n 0, 1) := by decide +kernel
theorem dX2_restAt_129 : decode cX2_restAt 129 = .ok (.getfield 15, 3) := by decide +kernel
theorem dX2_restAt_132 : decode cX2_restAt 132 = .ok (.iload 4, 2) := by decide +kernel
theorem dX2_restAt_134 : decode cX2_restAt 134 = .ok (.iconst 0, 1) := by decide +kernel
theorem dX2_restAt_135 : decode cX2_restAt 135 = .ok (.invokestatic 71, 3) := by decide +kernel
theorem dX2_restAt_138 : decode cX2_restAt 138 = .ok (.aload_n 0, 1) := by decide +kernel
theorem dX2_restAt_139 : decode cX2_restAt 139 = .ok (.getfield 25, 3) := by decide +kernel
theorem dX2_restAt_142 : decode cX2_restAt 142 = .ok (.iconst 0, 1) := by decide +kernel
theorem dX2_restAt_143 : decode cX2_restAt 143 = .ok (.iaload, 1) := by decide +kernel
theorem dX2_restAt_144 : decode cX2_restAt 144 = .ok (.imul, 1) := by decide +kernel
theorem dX2_restAt_145 : decode cX2_restAt 145 = .ok (.iload_n 3, 1) := by decide +kernel
theorem dX2_restAt_146 : decode cX2_restAt 146 = .ok (.invokestatic 113, 3) := by decide +kernel
theorem dX2_restAt_149 : decode cX2_restAt 149 = .ok (.iastore, 1) := by decide +kernel
theorem dX2_restAt_150 : decode cX2_restAt 150 = .ok (.iinc 4 1, 3) := by decide +kernel
theorem dX2_restAt_153 : decode cX2_restAt 153 = .ok (.goto (-111), 3) := by decide +kernel
theorem dX2_restAt_156 : decode cX2_restAt 156 = .ok (.aload_n 0, 1) := by decide +kernel
theorem dX2_restAt_157 : decode cX2_restAt 157 = .ok (.getfield 25, 3) := by decide +kernel
theorem dX2_restAt_160 : decode cX2_restAt 160 = .ok (.iload_n 2, 1) := by decide +kernel
theorem dX2_restAt_161 : decode cX2_restAt 161 = .ok (.iaload, 1) := by decide +kernel
theorem dX2_restAt_162 : decode cX2_restAt 162 = .ok (.ireturn, 1) := by decide +kernel
theorem dX2_productAt_0 : decode cX2_productAt 0 = .ok (.lconst 0, 1) := by decide +kernel
theorem dX2_productAt_1 : decode cX2_productAt 1 = .ok (.lstore 4, 2) := by decide +kernel
theorem dX2_productAt_3 : decode cX2_productAt 3 = .ok (.iload_n 3, 1) := by decide +kernel
theorem dX2_productAt_4 : decode cX2_productAt 4 = .ok (.istore 6, 2) := by decide +kernel
theorem dX2_productAt_6 : decode cX2_productAt 6 = .ok (.iload 6, 2) := by decide +kernel
theorem dX2_productAt_8 : decode cX2_productAt 8 = .ok (.iload_n 2, 1) := by decide +kernel
theorem dX2_productAt_9 : decode cX2_productAt 9 = .ok (.if_icmp .gt 48, 3) := by decide +kernel
theorem dX2_productAt_12 : decode cX2_productAt 12 = .ok (.aload_n 0, 1) := by decide +kernel
theorem dX2_productAt_13 : decode cX2_productAt 13 = .ok (.iload_n 2, 1) := by decide +kernel
theorem dX2_productAt_14 : decode cX2_productAt 14 = .ok (.iload 6, 2) := by decide +kernel
theorem dX2_productAt_16 : decode cX2_productAt 16 = .ok (.invokevirtual 75, 3) := by decide +kernel
theorem dX2_productAt_19 : decode cX2_productAt 19 = .ok (.aload_n 1, 1) := by decide +kernel
theorem dX2_productAt_20 : decode cX2_productAt 20 = .ok (.iload 6, 2) := by decide +kernel
theorem dX2_productAt_22 : decode cX2_productAt 22 = .ok (.iload_n 3, 1) := by decide +kernel
theorem dX2_productAt_23 : decode cX2_productAt 23 = .ok (.invokevirtual 75, 3) := by decide +kernel
theorem dX2_productAt_26 : decode cX2_productAt 26 = .ok (.invokestatic 88, 3) := by decide +kernel
theorem dX2_productAt_29 : decode cX2_productAt 29 = .ok (.lstore 7, 2) := by decide +kernel
theorem dX2_productAt_31 : decode cX2_productAt 31 = .ok (.lload 7, 2) := by decide +kernel
theorem dX2_productAt_33 : decode cX2_productAt 33 = .ok (.ldc2_w 82, 3) := by decide +kernel
theorem dX2_productAt_36 : decode cX2_productAt 36 = .ok (.lcmp, 1) := by decide +kernel
theorem dX2_productAt_37 : decode cX2_productAt 37 = .ok (.ifCond .ne 7, 3) := by decide +kernel
theorem dX2_productAt_40 : decode cX2_productAt 40 = .ok (.ldc2_w 82, 3) := by decide +kernel
theorem dX2_productAt_43 : decode cX2_productAt 43 = .ok (.lreturn, 1) := by decide +kernel
theorem dX2_productAt_44 : decode cX2_productAt 44 = .ok (.lload 4, 2) := by decide +kernel
theorem dX2_productAt_46 : decode cX2_productAt 46 = .ok (.lload 7, 2) := by decide +kernel
theorem dX2_productAt_48 : decode cX2_productAt 48 = .ok (.ladd, 1) := by decide +kernel
theorem dX2_productAt_49 : decode cX2_productAt 49 = .ok (.lstore 4, 2) := by decide +kernel
theorem dX2_productAt_51 : decode cX2_productAt 51 = .ok (.iinc 6 1, 3) := by decide +kernel
theorem dX2_productAt_54 : decode cX2_productAt 54 = .ok (.goto (-48), 3) := by decide +kernel
theorem dX2_productAt_57 : decode cX2_productAt 57 = .ok (.lload 4, 2) := by decide +kernel
theorem dX2_productAt_59 : decode cX2_productAt 59 = .ok (.lreturn, 1) := by decide +kernel
theorem dX2_firstRowNotUndone_0 : decode cX2_firstRowNotUndone 0 = .ok (.iconst 0, 1) := by decide +kernel
theorem dX2_firstRowNotUndone_1 : decode cX2_firstRowNotUndone 1 = .ok (.istore_n 3, 1) := by decide +kernel
theorem dX2_firstRowNotUndone_2 : decode cX2_firstRowNotUndone 2 = .ok (.iload_n 3, 1) := by decide +kernel
theorem dX2_firstRowNotUndone_3 : decode cX2_firstRowNotUndone 3 = .ok (.iload_n 2, 1) := by decide +kernel
theorem dX2_firstRowNotUndone_4 : decode cX2_firstRowNotUndone 4 = .ok (.if_icmp .gt 66, 3) := by decide +kernel
theorem dX2_firstRowNotUndone_7 : decode cX2_firstRowNotUndone 7 = .ok (.iconst 0, 1) := by decide +kernel
theorem dX2_firstRowNotUndone_8 : decode cX2_firstRowNotUndone 8 = .ok (.istore 4, 2) := by decide +kernel
theorem dX2_firstRowNotUndone_10 : decode cX2_firstRowNotUndone 10 = .ok (.iload 4, 2) := by decide +kernel
theorem dX2_firstRowNotUndone_12 : decode cX2_firstRowNotUndone 12 = .ok (.iload_n 3, 1) := by decide +kernel
theorem dX2_firstRowNotUndone_13 : decode cX2_firstRowNotUndone 13 = .ok (.if_icmp .gt 51, 3) := by decide +kernel
theorem dX2_firstRowNotUndone_16 : decode cX2_firstRowNotUndone 16 = .ok (.aload_n 0, 1) := by decide +kernel
theorem dX2_firstRowNotUndone_17 : decode cX2_firstRowNotUndone 17 = .ok (.aload_n 1, 1) := by decide +kernel
theorem dX2_firstRowNotUndone_18 : decode cX2_firstRowNotUndone 18 = .ok (.iload_n 3, 1) := by decide +kernel
theorem dX2_firstRowNotUndone_19 : decode cX2_firstRowNotUndone 19 = .ok (.iload 4, 2) := by decide +kernel
theorem dX2_firstRowNotUndone_21 : decode cX2_firstRowNotUndone 21 = .ok (.invokevirtual 120, 3) := by decide +kernel
theorem dX2_firstRowNotUndone_24 : decode cX2_firstRowNotUndone 24 = .ok (.lstore 5, 2) := by decide +kernel
theorem dX2_firstRowNotUndone_26 : decode cX2_firstRowNotUndone 26 = .ok (.lload 5, 2) := by decide +kernel
theorem dX2_firstRowNotUndone_28 : decode cX2_firstRowNotUndone 28 = .ok (.ldc2_w 82, 3) := by decide +kernel
theorem dX2_firstRowNotUndone_31 : decode cX2_firstRowNotUndone 31 = .ok (.lcmp, 1) := by decide +kernel
theorem dX2_firstRowNotUndone_32 : decode cX2_firstRowNotUndone 32 = .ok (.ifCond .ne 6, 3) := by decide +kernel
theorem dX2_firstRowNotUndone_35 : decode cX2_firstRowNotUndone 35 = .ok (.bipush (-2), 2) := by decide +kernel
theorem dX2_firstRowNotUndone_37 : decode cX2_firstRowNotUndone 37 = .ok (.ireturn, 1) := by decide +kernel
theorem dX2_firstRowNotUndone_38 : decode cX2_firstRowNotUndone 38 = .ok (.lload 5, 2) := by decide +kernel
theorem dX2_firstRowNotUndone_40 : decode cX2_firstRowNotUndone 40 = .ok (.iload 4, 2) := by decide +kernel
theorem dX2_firstRowNotUndone_42 : decode cX2_firstRowNotUndone 42 = .ok (.iload_n 3, 1) := by decide +kernel
theorem dX2_firstRowNotUndone_43 : decode cX2_firstRowNotUndone 43 = .ok (.if_icmp .ne 7, 3) := by decide +kernel
theorem dX2_firstRowNotUndone_46 : decode cX2_firstRowNotUndone 46 = .ok (.iconst 1, 1) := by decide +kernel
theorem dX2_firstRowNotUndone_47 : decode cX2_firstRowNotUndone 47 = .ok (.goto 4, 3) := by decide +kernel
theorem dX2_firstRowNotUndone_50 : decode cX2_firstRowNotUndone 50 = .ok (.iconst 0, 1) := by decide +kernel
theorem dX2_firstRowNotUndone_51 : decode cX2_firstRowNotUndone 51 = .ok (.i2l, 1) := by decide +kernel
theorem dX2_firstRowNotUndone_52 : decode cX2_firstRowNotUndone 52 = .ok (.lcmp, 1) := by decide +kernel
theorem dX2_firstRowNotUndone_53 : decode cX2_firstRowNotUndone 53 = .ok (.ifCond .eq 5, 3) := by decide +kernel
theorem dX2_firstRowNotUndone_56 : decode cX2_firstRowNotUndone 56 = .ok (.iload_n 3, 1) := by decide +kernel
theorem dX2_firstRowNotUndone_57 : decode cX2_firstRowNotUndone 57 = .ok (.ireturn, 1) := by decide +kernel
theorem dX2_firstRowNotUndone_58 : decode cX2_firstRowNotUndone 58 = .ok (.iinc 4 1, 3) := by decide +kernel
theorem dX2_firstRowNotUndone_61 : decode cX2_firstRowNotUndone 61 = .ok (.goto (-51), 3) := by decide +kernel
theorem dX2_firstRowNotUndone_64 : decode cX2_firstRowNotUndone 64 = .ok (.iinc 3 1, 3) := by decide +kernel
theorem dX2_firstRowNotUndone_67 : decode cX2_firstRowNotUndone 67 = .ok (.goto (-65), 3) := by decide +kernel
theorem dX2_firstRowNotUndone_70 : decode cX2_firstRowNotUndone 70 = .ok (.bipush (-4), 2) := by decide +kernel
theorem dX2_firstRowNotUndone_72 : decode cX2_firstRowNotUndone 72 = .ok (.ireturn, 1) := by decide +kernel
theorem dX2_inverseAt_0 : decode cX2_inverseAt 0 = .ok (.iload_n 1, 1) := by decide +kernel
theorem dX2_inverseAt_1 : decode cX2_inverseAt 1 = .ok (.iload_n 2, 1) := by decide +kernel
theorem dX2_inverseAt_2 : decode cX2_inverseAt 2 = .ok (.bipush 24, 2) := by decide +kernel
theorem dX2_inverseAt_4 : decode cX2_inverseAt 4 = .ok (.invokestatic 103, 3) := by decide +kernel
theorem dX2_inverseAt_7 : decode cX2_inverseAt 7 = .ok (.ifCond .eq 11, 3) := by decide +kernel
theorem dX2_inverseAt_10 : decode cX2_inverseAt 10 = .ok (.aload_n 0, 1) := by decide +kernel
theorem dX2_inverseAt_11 : decode cX2_inverseAt 11 = .ok (.iload_n 1, 1) := by decide +kernel
theorem dX2_inverseAt_12 : decode cX2_inverseAt 12 = .ok (.invokevirtual 124, 3) := by decide +kernel
theorem dX2_inverseAt_15 : decode cX2_inverseAt 15 = .ok (.ifCond .ne 7, 3) := by decide +kernel
theorem dX2_inverseAt_18 : decode cX2_inverseAt 18 = .ok (.ldc2_w 82, 3) := by decide +kernel
theorem dX2_inverseAt_21 : decode cX2_inverseAt 21 = .ok (.lreturn, 1) := by decide +kernel
theorem dX2_inverseAt_22 : decode cX2_inverseAt 22 = .ok (.aload_n 0, 1) := by decide +kernel
theorem dX2_inverseAt_23 : decode cX2_inverseAt 23 = .ok (.getfield 22, 3) := by decide +kernel
theorem dX2_inverseAt_26 : decode cX2_inverseAt 26 = .ok (.iload_n 2, 1) := by decide +kernel
theorem dX2_inverseAt_27 : decode cX2_inverseAt 27 = .ok (.aload_n 0, 1) := by decide +kernel
theorem dX2_inverseAt_28 : decode cX2_inverseAt 28 = .ok (.iload_n 2, 1) := by decide +kernel
theorem dX2_inverseAt_29 : decode cX2_inverseAt 29 = .ok (.iload_n 2, 1) := by decide +kernel
theorem dX2_inverseAt_30 : decode cX2_inverseAt 30 = .ok (.invokevirtual 75, 3) := by decide +kernel
theorem dX2_inverseAt_33 : decode cX2_inverseAt 33 = .ok (.lastore, 1) := by decide +kernel
theorem dX2_inverseAt_34 : decode cX2_inverseAt 34 = .ok (.iload_n 2, 1) := by decide +kernel
theorem dX2_inverseAt_35 : decode cX2_inverseAt 35 = .ok (.iconst 1, 1) := by decide +kernel
theorem dX2_inverseAt_36 : decode cX2_inverseAt 36 = .ok (.iadd, 1) := by decide +kernel
theorem dX2_inverseAt_37 : decode cX2_inverseAt 37 = .ok (.istore_n 3, 1) := by decide +kernel
theorem dX2_inverseAt_38 : decode cX2_inverseAt 38 = .ok (.iload_n 3, 1) := by decide +kernel
theorem dX2_inverseAt_39 : decode cX2_inverseAt 39 = .ok (.iload_n 1, 1) := by decide +kernel
theorem dX2_inverseAt_40 : decode cX2_inverseAt 40 = .ok (.if_icmp .gt 46, 3) := by decide +kernel
theorem dX2_inverseAt_43 : decode cX2_inverseAt 43 = .ok (.aload_n 0, 1) := by decide +kernel
theorem dX2_inverseAt_44 : decode cX2_inverseAt 44 = .ok (.iload_n 3, 1) := by decide +kernel
theorem dX2_inverseAt_45 : decode cX2_inverseAt 45 = .ok (.iload_n 2, 1) := by decide +kernel
theorem dX2_inverseAt_46 : decode cX2_inverseAt 46 = .ok (.invokevirtual 128, 3) := by decide +kernel
theorem dX2_inverseAt_49 : decode cX2_inverseAt 49 = .ok (.lstore 4, 2) := by decide +kernel
theorem dX2_inverseAt_51 : decode cX2_inverseAt 51 = .ok (.lload 4, 2) := by decide +kernel
theorem dX2_inverseAt_53 : decode cX2_inverseAt 53 = .ok (.ldc2_w 82, 3) := by decide +kernel
theorem dX2_inverseAt_56 : decode cX2_inverseAt 56 = .ok (.lcmp, 1) := by decide +kernel
theorem dX2_inverseAt_57 : decode cX2_inverseAt 57 = .ok (.ifCond .ne 7, 3) := by decide +kernel
theorem dX2_inverseAt_60 : decode cX2_inverseAt 60 = .ok (.ldc2_w 82, 3) := by decide +kernel
theorem dX2_inverseAt_63 : decode cX2_inverseAt 63 = .ok (.lreturn, 1) := by decide +kernel
theorem dX2_inverseAt_64 : decode cX2_inverseAt 64 = .ok (.aload_n 0, 1) := by decide +kernel
theorem dX2_inverseAt_65 : decode cX2_inverseAt 65 = .ok (.getfield 22, 3) := by decide +kernel
theorem dX2_inverseAt_68 : decode cX2_inverseAt 68 = .ok (.iload_n 3, 1) := by decide +kernel
theorem dX2_inverseAt_69 : decode cX2_inverseAt 69 = .ok (.aload_n 0, 1) := by decide +kernel
theorem dX2_inverseAt_70 : decode cX2_inverseAt 70 = .ok (.iload_n 3, 1) := by decide +kernel
theorem dX2_inverseAt_71 : decode cX2_inverseAt 71 = .ok (.iload_n 3, 1) := by decide +kernel
theorem dX2_inverseAt_72 : decode cX2_inverseAt 72 = .ok (.invokevirtual 75, 3) := by decide +kernel
theorem dX2_inverseAt_75 : decode cX2_inverseAt 75 = .ok (.lneg, 1) := by decide +kernel
theorem dX2_inverseAt_76 : decode cX2_inverseAt 76 = .ok (.lload 4, 2) := by decide +kernel
theorem dX2_inverseAt_78 : decode cX2_inverseAt 78 = .ok (.lmul, 1) := by decide +kernel
theorem dX2_inverseAt_79 : decode cX2_inverseAt 79 = .ok (.lastore, 1) := by decide +kernel
theorem dX2_inverseAt_80 : decode cX2_inverseAt 80 = .ok (.iinc 3 1, 3) := by decide +kernel
theorem dX2_inverseAt_83 : decode cX2_inverseAt 83 = .ok (.goto (-45), 3) := by decide +kernel
theorem dX2_inverseAt_86 : decode cX2_inverseAt 86 = .ok (.aload_n 0, 1) := by decide +kernel
theorem dX2_inverseAt_87 : decode cX2_inverseAt 87 = .ok (.getfield 22, 3) := by decide +kernel
theorem dX2_inverseAt_90 : decode cX2_inverseAt 90 = .ok (.iload_n 1, 1) := by decide +kernel
theorem dX2_inverseAt_91 : decode cX2_inverseAt 91 = .ok (.laload, 1) := by decide +kernel
theorem dX2_inverseAt_92 : decode cX2_inverseAt 92 = .ok (.lreturn, 1) := by decide +kernel
theorem dX2_columnSum_0 : decode cX2_columnSum 0 = .ok (.lconst 0, 1) := by decide +kernel
theorem dX2_columnSum_1 : decode cX2_columnSum 1 = .ok (.lstore_n 3, 1) := by decide +kernel
theorem dX2_columnSum_2 : decode cX2_columnSum 2 = .ok (.iload_n 2, 1) := by decide +kernel
theorem dX2_columnSum_3 : decode cX2_columnSum 3 = .ok (.istore 5, 2) := by decide +kernel
theorem dX2_columnSum_5 : decode cX2_columnSum 5 = .ok (.iload 5, 2) := by decide +kernel
theorem dX2_columnSum_7 : decode cX2_columnSum 7 = .ok (.iload_n 1, 1) := by decide +kernel
theorem dX2_columnSum_8 : decode cX2_columnSum 8 = .ok (.if_icmp .ge 53, 3) := by decide +kernel
theorem dX2_columnSum_11 : decode cX2_columnSum 11 = .ok (.iload 5, 2) := by decide +kernel
theorem dX2_columnSum_13 : decode cX2_columnSum 13 = .ok (.bipush 24, 2) := by decide +kernel
theorem dX2_columnSum_15 : decode cX2_columnSum 15 = .ok (.if_icmp .gt 46, 3) := by decide +kernel
theorem dX2_columnSum_18 : decode cX2_columnSum 18 = .ok (.aload_n 0, 1) := by decide +kernel
theorem dX2_columnSum_19 : decode cX2_columnSum 19 = .ok (.iload_n 1, 1) := by decide +kernel
theorem dX2_columnSum_20 : decode cX2_columnSum 20 = .ok (.iload 5, 2) := by decide +kernel
theorem dX2_columnSum_22 : decode cX2_columnSum 22 = .ok (.invokevirtual 75, 3) := by decide +kernel
theorem dX2_columnSum_25 : decode cX2_columnSum 25 = .ok (.aload_n 0, 1) := by decide +kernel
theorem dX2_columnSum_26 : decode cX2_columnSum 26 = .ok (.getfield 22, 3) := by decide +kernel
theorem dX2_columnSum_29 : decode cX2_columnSum 29 = .ok (.iload 5, 2) := by decide +kernel
theorem dX2_columnSum_31 : decode cX2_columnSum 31 = .ok (.laload, 1) := by decide +kernel
theorem dX2_columnSum_32 : decode cX2_columnSum 32 = .ok (.invokestatic 88, 3) := by decide +kernel
theorem dX2_columnSum_35 : decode cX2_columnSum 35 = .ok (.lstore 6, 2) := by decide +kernel
theorem dX2_columnSum_37 : decode cX2_columnSum 37 = .ok (.lload 6, 2) := by decide +kernel
theorem dX2_columnSum_39 : decode cX2_columnSum 39 = .ok (.ldc2_w 82, 3) := by decide +kernel
theorem dX2_columnSum_42 : decode cX2_columnSum 42 = .ok (.lcmp, 1) := by decide +kernel
theorem dX2_columnSum_43 : decode cX2_columnSum 43 = .ok (.ifCond .ne 7, 3) := by decide +kernel
theorem dX2_columnSum_46 : decode cX2_columnSum 46 = .ok (.ldc2_w 82, 3) := by decide +kernel
theorem dX2_columnSum_49 : decode cX2_columnSum 49 = .ok (.lreturn, 1) := by decide +kernel
theorem dX2_columnSum_50 : decode cX2_columnSum 50 = .ok (.lload_n 3, 1) := by decide +kernel
theorem dX2_columnSum_51 : decode cX2_columnSum 51 = .ok (.lload 6, 2) := by decide +kernel
theorem dX2_columnSum_53 : decode cX2_columnSum 53 = .ok (.ladd, 1) := by decide +kernel
theorem dX2_columnSum_54 : decode cX2_columnSum 54 = .ok (.lstore_n 3, 1) := by decide +kernel
theorem dX2_columnSum_55 : decode cX2_columnSum 55 = .ok (.iinc 5 1, 3) := by decide +kernel
theorem dX2_columnSum_58 : decode cX2_columnSum 58 = .ok (.goto (-53), 3) := by decide +kernel
theorem dX2_columnSum_61 : decode cX2_columnSum 61 = .ok (.lload_n 3, 1) := by decide +kernel
theorem dX2_columnSum_62 : decode cX2_columnSum 62 = .ok (.invokestatic 84, 3) := by decide +kernel
theorem dX2_columnSum_65 : decode cX2_columnSum 65 = .ok (.lreturn, 1) := by decide +kernel
theorem dX2_endsInOnes_0 : decode cX2_endsInOnes 0 = .ok (.iconst 0, 1) := by decide +kernel
theorem dX2_endsInOnes_1 : decode cX2_endsInOnes 1 = .ok (.istore_n 2, 1) := by decide +kernel
theorem dX2_endsInOnes_2 : decode cX2_endsInOnes 2 = .ok (.iload_n 2, 1) := by decide +kernel
theorem dX2_endsInOnes_3 : decode cX2_endsInOnes 3 = .ok (.iload_n 1, 1) := by decide +kernel
theorem dX2_endsInOnes_4 : decode cX2_endsInOnes 4 = .ok (.if_icmp .gt 35, 3) := by decide +kernel
theorem dX2_endsInOnes_7 : decode cX2_endsInOnes 7 = .ok (.aload_n 0, 1) := by decide +kernel
theorem dX2_endsInOnes_8 : decode cX2_endsInOnes 8 = .ok (.iload_n 2, 1) := by decide +kernel
theorem dX2_endsInOnes_9 : decode cX2_endsInOnes 9 = .ok (.iload_n 2, 1) := by decide +kernel
theorem dX2_endsInOnes_10 : decode cX2_endsInOnes 10 = .ok (.invokevirtual 75, 3) := by decide +kernel
theorem dX2_endsInOnes_13 : decode cX2_endsInOnes 13 = .ok (.lconst 1, 1) := by decide +kernel
theorem dX2_endsInOnes_14 : decode cX2_endsInOnes 14 = .ok (.lcmp, 1) := by decide +kernel
theorem dX2_endsInOnes_15 : decode cX2_endsInOnes 15 = .ok (.ifCond .eq 18, 3) := by decide +kernel
theorem dX2_endsInOnes_18 : decode cX2_endsInOnes 18 = .ok (.aload_n 0, 1) := by decide +kernel
theorem dX2_endsInOnes_19 : decode cX2_endsInOnes 19 = .ok (.iload_n 2, 1) := by decide +kernel
theorem dX2_endsInOnes_20 : decode cX2_endsInOnes 20 = .ok (.iload_n 2, 1) := by decide +kernel
theorem dX2_endsInOnes_21 : decode cX2_endsInOnes 21 = .ok (.invokevirtual 75, 3) := by decide +kernel
theorem dX2_endsInOnes_24 : decode cX2_endsInOnes 24 = .ok (.ldc2_w 131, 3) := by decide +kernel
theorem dX2_endsInOnes_27 : decode cX2_endsInOnes 27 = .ok (.lcmp, 1) := by decide +kernel
theorem dX2_endsInOnes_28 : decode cX2_endsInOnes 28 = .ok (.ifCond .eq 5, 3) := by decide +kernel
theorem dX2_endsInOnes_31 : decode cX2_endsInOnes 31 = .ok (.iconst 0, 1) := by decide +kernel
theorem dX2_endsInOnes_32 : decode cX2_endsInOnes 32 = .ok (.ireturn, 1) := by decide +kernel
theorem dX2_endsInOnes_33 : decode cX2_endsInOnes 33 = .ok (.iinc 2 1, 3) := by decide +kernel
theorem dX2_endsInOnes_36 : decode cX2_endsInOnes 36 = .ok (.goto (-34), 3) := by decide +kernel
theorem dX2_endsInOnes_39 : decode cX2_endsInOnes 39 = .ok (.iconst 1, 1) := by decide +kernel
theorem dX2_endsInOnes_40 : decode cX2_endsInOnes 40 = .ok (.ireturn, 1) := by decide +kernel
theorem dX3_init_0 : decode cX3_init 0 = .ok (.aload_n 0, 1) := by decide +kernel
theorem dX3_init_1 : decode cX3_init 1 = .ok (.invokespecial 3, 3) := by decide +kernel
theorem dX3_init_4 : decode cX3_init 4 = .ok (.aload_n 0, 1) := by decide +kernel
theorem dX3_init_5 : decode cX3_init 5 = .ok (.sipush 261, 3) := by decide +kernel
theorem dX3_init_8 : decode cX3_init 8 = .ok (.newarray .int, 2) := by decide +kernel
theorem dX3_init_10 : decode cX3_init 10 = .ok (.putfield 9, 3) := by decide +kernel
theorem dX3_init_13 : decode cX3_init 13 = .ok (.aload_n 0, 1) := by decide +kernel
theorem dX3_init_14 : decode cX3_init 14 = .ok (.getfield 9, 3) := by decide +kernel
theorem dX3_init_17 : decode cX3_init 17 = .ok (.iconst 0, 1) := by decide +kernel
theorem dX3_init_18 : decode cX3_init 18 = .ok (.iconst 1, 1) := by decide +kernel
theorem dX3_init_19 : decode cX3_init 19 = .ok (.iastore, 1) := by decide +kernel
theorem dX3_init_20 : decode cX3_init 20 = .ok (.iconst 1, 1) := by decide +kernel
theorem dX3_init_21 : decode cX3_init 21 = .ok (.istore_n 1, 1) := by decide +kernel
theorem dX3_init_22 : decode cX3_init 22 = .ok (.iload_n 1, 1) := by decide +kernel
theorem dX3_init_23 : decode cX3_init 23 = .ok (.bipush 9, 2) := by decide +kernel
theorem dX3_init_25 : decode cX3_init 25 = .ok (.if_icmp .ge 40, 3) := by decide +kernel
theorem dX3_init_28 : decode cX3_init 28 = .ok (.iconst 0, 1) := by decide +kernel
theorem dX3_init_29 : decode cX3_init 29 = .ok (.istore_n 2, 1) := by decide +kernel
theorem dX3_init_30 : decode cX3_init 30 = .ok (.iload_n 2, 1) := by decide +kernel
theorem dX3_init_31 : decode cX3_init 31 = .ok (.bipush 28, 2) := by decide +kernel
theorem dX3_init_33 : decode cX3_init 33 = .ok (.if_icmp .gt 26, 3) := by decide +kernel
theorem dX3_init_36 : decode cX3_init 36 = .ok (.aload_n 0, 1) := by decide +kernel
theorem dX3_init_37 : decode cX3_init 37 = .ok (.getfield 9, 3) := by decide +kernel
theorem dX3_init_40 : decode cX3_init 40 = .ok (.iload_n 1, 1) := by decide +kernel
theorem dX3_init_41 : decode cX3_init 41 = .ok (.bipush 29, 2) := by decide +kernel
theorem dX3_init_43 : decode cX3_init 43 = .ok (.imul, 1) := by decide +kernel
theorem dX3_init_44 : decode cX3_init 44 = .ok (.iload_n 2, 1) := by decide +kernel
theorem dX3_init_45 : decode cX3_init 45 = .ok (.iadd, 1) := by decide +kernel
theorem dX3_init_46 : decode cX3_init 46 = .ok (.aload_n 0, 1) := by decide +kernel
theorem dX3_init_47 : decode cX3_init 47 = .ok (.iload_n 1, 1) := by decide +kernel
theorem dX3_init_48 : decode cX3_init 48 = .ok (.iload_n 2, 1) := by decide +kernel
theorem dX3_init_49 : decode cX3_init 49 = .ok (.invokevirtual 15, 3) := by decide +kernel
theorem dX3_init_52 : decode cX3_init 52 = .ok (.iastore, 1) := by decide +kernel
theorem dX3_init_53 : decode cX3_init 53 = .ok (.iinc 2 1, 3) := by decide +kernel
theorem dX3_init_56 : decode cX3_init 56 = .ok (.goto (-26), 3) := by decide +kernel
theorem dX3_init_59 : decode cX3_init 59 = .ok (.iinc 1 1, 3) := by decide +kernel
theorem dX3_init_62 : decode cX3_init 62 = .ok (.goto (-40), 3) := by decide +kernel
theorem dX3_init_65 : decode cX3_init 65 = .ok (.return_, 1) := by decide +kernel
theorem dX3_waysByNext_0 : decode cX3_waysByNext 0 = .ok (.iconst 0, 1) := by decide +kernel
theorem dX3_waysByNext_1 : decode cX3_waysByNext 1 = .ok (.istore_n 3, 1) := by decide +kernel
theorem dX3_waysByNext_2 : decode cX3_waysByNext 2 = .ok (.iconst 0, 1) := by decide +kernel
theorem dX3_waysByNext_3 : decode cX3_waysByNext 3 = .ok (.istore 4, 2) := by decide +kernel
theorem dX3_waysByNext_5 : decode cX3_waysByNext 5 = .ok (.iload 4, 2) := by decide +kernel
theorem dX3_waysByNext_7 : decode cX3_waysByNext 7 = .ok (.iload_n 1, 1) := by decide +kernel
theorem dX3_waysByNext_8 : decode cX3_waysByNext 8 = .ok (.if_icmp .ge 24, 3) := by decide +kernel
theorem dX3_waysByNext_11 : decode cX3_waysByNext 11 = .ok (.iload_n 3, 1) := by decide +kernel
theorem dX3_waysByNext_12 : decode cX3_waysByNext 12 = .ok (.aload_n 0, 1) := by decide +kernel
theorem dX3_waysByNext_13 : decode cX3_waysByNext 13 = .ok (.iconst 0, 1) := by decide +kernel
theorem dX3_waysByNext_14 : decode cX3_waysByNext 14 = .ok (.iload_n 1, 1) := by decide +kernel
theorem dX3_waysByNext_15 : decode cX3_waysByNext 15 = .ok (.iconst 1, 1) := by decide +kernel
theorem dX3_waysByNext_16 : decode cX3_waysByNext 16 = .ok (.isub, 1) := by decide +kernel
theorem dX3_waysByNext_17 : decode cX3_waysByNext 17 = .ok (.iload_n 2, 1) := by decide +kernel
theorem dX3_waysByNext_18 : decode cX3_waysByNext 18 = .ok (.iload 4, 2) := by decide +kernel
theorem dX3_waysByNext_20 : decode cX3_waysByNext 20 = .ok (.isub, 1) := by decide +kernel
theorem dX3_waysByNext_21 : decode cX3_waysByNext 21 = .ok (.invokevirtual 19, 3) := by decide +kernel
theorem dX3_waysByNext_24 : decode cX3_waysByNext 24 = .ok (.iadd, 1) := by decide +kernel
theorem dX3_waysByNext_25 : decode cX3_waysByNext 25 = .ok (.istore_n 3, 1) := by decide +kernel
theorem dX3_waysByNext_26 : decode cX3_waysByNext 26 = .ok (.iinc 4 1, 3) := by decide +kernel
theorem dX3_waysByNext_29 : decode cX3_waysByNext 29 = .ok (.goto (-24), 3) := by decide +kernel
theorem dX3_waysByNext_32 : decode cX3_waysByNext 32 = .ok (.iload_n 3, 1) := by decide +kernel
theorem dX3_waysByNext_33 : decode cX3_waysByNext 33 = .ok (.ireturn, 1) := by decide +kernel
theorem dX3_start_0 : decode cX3_start 0 = .ok (.iconst 0, 1) := by decide +kernel
theorem dX3_start_1 : decode cX3_start 1 = .ok (.ireturn, 1) := by decide +kernel
theorem dX3_growth_0 : decode cX3_growth 0 = .ok (.iload_n 3, 1) := by decide +kernel
theorem dX3_growth_1 : decode cX3_growth 1 = .ok (.ireturn, 1) := by decide +kernel
theorem dX3_next_0 : decode cX3_next 0 = .ok (.iconst 0, 1) := by decide +kernel
theorem dX3_next_1 : decode cX3_next 1 = .ok (.ireturn, 1) := by decide +kernel
theorem dX3_ways_0 : decode cX3_ways 0 = .ok (.iload_n 2, 1) := by decide +kernel
theorem dX3_ways_1 : decode cX3_ways 1 = .ok (.iconst 0, 1) := by decide +kernel
theorem dX3_ways_2 : decode cX3_ways 2 = .ok (.bipush 8, 2) := by decide +kernel
theorem dX3_ways_4 : decode cX3_ways 4 = .ok (.invokestatic 23, 3) := by decide +kernel
theorem dX3_ways_7 : decode cX3_ways 7 = .ok (.ifCond .eq 13, 3) := by decide +kernel
theorem dX3_ways_10 : decode cX3_ways 10 = .ok (.iload_n 3, 1) := by decide +kernel
theorem dX3_ways_11 : decode cX3_ways 11 = .ok (.iconst 0, 1) := by decide +kernel
theorem dX3_ways_12 : decode cX3_ways 12 = .ok (.bipush 28, 2) := by decide +kernel
theorem dX3_ways_14 : decode cX3_ways 14 = .ok (.invokestatic 23, 3) := by decide +kernel
theorem dX3_ways_17 : decode cX3_ways 17 = .ok (.ifCond .ne 5, 3) := by decide +kernel
theorem dX3_ways_20 : decode cX3_ways 20 = .ok (.iconst 0, 1) := by decide +kernel
theorem dX3_ways_21 : decode cX3_ways 21 = .ok (.ireturn, 1) := by decide +kernel
theorem dX3_ways_22 : decode cX3_ways 22 = .ok (.aload_n 0, 1) := by decide +kernel
theorem dX3_ways_23 : decode cX3_ways 23 = .ok (.getfield 9, 3) := by decide +kernel
theorem dX3_ways_26 : decode cX3_ways 26 = .ok (.iload_n 2, 1) := by decide +kernel
theorem dX3_ways_27 : decode cX3_ways 27 = .ok (.bipush 29, 2) := by decide +kernel
theorem dX3_ways_29 : decode cX3_ways 29 = .ok (.imul, 1) := by decide +kernel
theorem dX3_ways_30 : decode cX3_ways 30 = .ok (.iload_n 3, 1) := by decide +kernel
theorem dX3_ways_31 : decode cX3_ways 31 = .ok (.iadd, 1) := by decide +kernel
theorem dX3_ways_32 : decode cX3_ways 32 = .ok (.iaload, 1) := by decide +kernel
theorem dX3_ways_33 : decode cX3_ways 33 = .ok (.ireturn, 1) := by decide +kernel
theorem dX4_init_0 : decode cX4_init 0 = .ok (.aload_n 0, 1) := by decide +kernel
theorem dX4_init_1 : decode cX4_init 1 = .ok (.invokespecial 3, 3) := by decide +kernel
theorem dX4_init_4 : decode cX4_init 4 = .ok (.aload_n 0, 1) := by decide +kernel
theorem dX4_init_5 : decode cX4_init 5 = .ok (.sipush 512, 3) := by decide +kernel
theorem dX4_init_8 : decode cX4_init 8 = .ok (.newarray .int, 2) := by decide +kernel
theorem dX4_init_10 : decode cX4_init 10 = .ok (.putfield 11, 3) := by decide +kernel
theorem dX4_init_13 : decode cX4_init 13 = .ok (.aload_n 0, 1) := by decide +kernel
theorem dX4_init_14 : decode cX4_init 14 = .ok (.iconst 0, 1) := by decide +kernel
theorem dX4_init_15 : decode cX4_init 15 = .ok (.putfield 15, 3) := by decide +kernel
theorem dX4_init_18 : decode cX4_init 18 = .ok (.return_, 1) := by decide +kernel
theorem dX4_start_0 : decode cX4_start 0 = .ok (.iconst 1, 1) := by decide +kernel
theorem dX4_start_1 : decode cX4_start 1 = .ok (.iload_n 1, 1) := by decide +kernel
theorem dX4_start_2 : decode cX4_start 2 = .ok (.ishl, 1) := by decide +kernel
theorem dX4_start_3 : decode cX4_start 3 = .ok (.ireturn, 1) := by decide +kernel
theorem dX4_growth_0 : decode cX4_growth 0 = .ok (.aload_n 0, 1) := by decide +kernel
theorem dX4_growth_1 : decode cX4_growth 1 = .ok (.iload_n 1, 1) := by decide +kernel
theorem dX4_growth_2 : decode cX4_growth 2 = .ok (.iload_n 2, 1) := by decide +kernel
theorem dX4_growth_3 : decode cX4_growth 3 = .ok (.iload_n 3, 1) := by decide +kernel
theorem dX4_growth_4 : decode cX4_growth 4 = .ok (.invokevirtual 19, 3) := by decide +kernel
theorem dX4_growth_7 : decode cX4_growth 7 = .ok (.invokestatic 23, 3) := by decide +kernel
theorem dX4_growth_10 : decode cX4_growth 10 = .ok (.iload_n 1, 1) := by decide +kernel
theorem dX4_growth_11 : decode cX4_growth 11 = .ok (.invokestatic 23, 3) := by decide +kernel
theorem dX4_growth_14 : decode cX4_growth 14 = .ok (.isub, 1) := by decide +kernel
theorem dX4_growth_15 : decode cX4_growth 15 = .ok (.ireturn, 1) := by decide +kernel
theorem dX4_next_0 : decode cX4_next 0 = .ok (.iconst 0, 1) := by decide +kernel
theorem dX4_next_1 : decode cX4_next 1 = .ok (.istore 4, 2) := by decide +kernel
theorem dX4_next_3 : decode cX4_next 3 = .ok (.iconst 0, 1) := by decide +kernel
theorem dX4_next_4 : decode cX4_next 4 = .ok (.istore 5, 2) := by decide +kernel
theorem dX4_next_6 : decode cX4_next 6 = .ok (.iload 5, 2) := by decide +kernel
theorem dX4_next_8 : decode cX4_next 8 = .ok (.bipush 8, 2) := by decide +kernel
theorem dX4_next_10 : decode cX4_next 10 = .ok (.if_icmp .ge 36, 3) := by decide +kernel
theorem dX4_next_13 : decode cX4_next 13 = .ok (.iload_n 1, 1) := by decide +kernel
theorem dX4_next_14 : decode cX4_next 14 = .ok (.iload 5, 2) := by decide +kernel
theorem dX4_next_16 : decode cX4_next 16 = .ok (.iushr, 1) := by decide +kernel
theorem dX4_next_17 : decode cX4_next 17 = .ok (.iconst 1, 1) := by decide +kernel
theorem dX4_next_18 : decode cX4_next 18 = .ok (.iand, 1) := by decide +kernel
theorem dX4_next_19 : decode cX4_next 19 = .ok (.ifCond .ne 21, 3) := by decide +kernel
theorem dX4_next_22 : decode cX4_next 22 = .ok (.iload 4, 2) := by decide +kernel
theorem dX4_next_24 : decode cX4_next 24 = .ok (.iload_n 3, 1) := by decide +kernel
theorem dX4_next_25 : decode cX4_next 25 = .ok (.if_icmp .ne 12, 3) := by decide +kernel
theorem dX4_next_28 : decode cX4_next 28 = .ok (.iload_n 1, 1) := by decide +kernel
theorem dX4_next_29 : decode cX4_next 29 = .ok (.iconst 1, 1) := by decide +kernel
theorem dX4_next_30 : decode cX4_next 30 = .ok (.iload 5, 2) := by decide +kernel
theorem dX4_next_32 : decode cX4_next 32 = .ok (.ishl, 1) := by decide +kernel
theorem dX4_next_33 : decode cX4_next 33 = .ok (.invokestatic 29, 3) := by decide +kernel
theorem dX4_next_36 : decode cX4_next 36 = .ok (.ireturn, 1) := by decide +kernel
theorem dX4_next_37 : decode cX4_next 37 = .ok (.iinc 4 1, 3) := by decide +kernel
theorem dX4_next_40 : decode cX4_next 40 = .ok (.iinc 5 1, 3) := by decide +kernel
theorem dX4_next_43 : decode cX4_next 43 = .ok (.goto (-37), 3) := by decide +kernel
theorem dX4_next_46 : decode cX4_next 46 = .ok (.iload_n 1, 1) := by decide +kernel
theorem dX4_next_47 : decode cX4_next 47 = .ok (.ireturn, 1) := by decide +kernel
theorem dX4_withEnd_0 : decode cX4_withEnd 0 = .ok (.iload_n 0, 1) := by decide +kernel
theorem dX4_withEnd_1 : decode cX4_withEnd 1 = .ok (.iload_n 1, 1) := by decide +kernel
theorem dX4_withEnd_2 : decode cX4_withEnd 2 = .ok (.ior, 1) := by decide +kernel
theorem dX4_withEnd_3 : decode cX4_withEnd 3 = .ok (.istore_n 2, 1) := by decide +kernel
theorem dX4_withEnd_4 : decode cX4_withEnd 4 = .ok (.iload_n 0, 1) := by decide +kernel
theorem dX4_withEnd_5 : decode cX4_withEnd 5 = .ok (.iload_n 1, 1) := by decide +kernel
theorem dX4_withEnd_6 : decode cX4_withEnd 6 = .ok (.iconst 1, 1) := by decide +kernel
theorem dX4_withEnd_7 : decode cX4_withEnd 7 = .ok (.ishl, 1) := by decide +kernel
theorem dX4_withEnd_8 : decode cX4_withEnd 8 = .ok (.ineg, 1) := by decide +kernel
theorem dX4_withEnd_9 : decode cX4_withEnd 9 = .ok (.iand, 1) := by decide +kernel
theorem dX4_withEnd_10 : decode cX4_withEnd 10 = .ok (.istore_n 3, 1) := by decide +kernel
theorem dX4_withEnd_11 : decode cX4_withEnd 11 = .ok (.iload_n 3, 1) := by decide +kernel
theorem dX4_withEnd_12 : decode cX4_withEnd 12 = .ok (.iload_n 3, 1) := by decide +kernel
theorem dX4_withEnd_13 : decode cX4_withEnd 13 = .ok (.ineg, 1) := by decide +kernel
theorem dX4_withEnd_14 : decode cX4_withEnd 14 = .ok (.iand, 1) := by decide +kernel
theorem dX4_withEnd_15 : decode cX4_withEnd 15 = .ok (.istore 4, 2) := by decide +kernel
theorem dX4_withEnd_17 : decode cX4_withEnd 17 = .ok (.iload 4, 2) := by decide +kernel
theorem dX4_withEnd_19 : decode cX4_withEnd 19 = .ok (.iload_n 0, 1) := by decide +kernel
theorem dX4_withEnd_20 : decode cX4_withEnd 20 = .ok (.iconst 1, 1) := by decide +kernel
theorem dX4_withEnd_21 : decode cX4_withEnd 21 = .ok (.iushr, 1) := by decide +kernel
theorem dX4_withEnd_22 : decode cX4_withEnd 22 = .ok (.if_icmp .le 5, 3) := by decide +kernel
theorem dX4_withEnd_25 : decode cX4_withEnd 25 = .ok (.iload_n 2, 1) := by decide +kernel
theorem dX4_withEnd_26 : decode cX4_withEnd 26 = .ok (.ireturn, 1) := by decide +kernel
theorem dX4_withEnd_27 : decode cX4_withEnd 27 = .ok (.iload_n 2, 1) := by decide +kernel
theorem dX4_withEnd_28 : decode cX4_withEnd 28 = .ok (.iconst 1, 1) := by decide +kernel
theorem dX4_withEnd_29 : decode cX4_withEnd 29 = .ok (.iushr, 1) := by decide +kernel
theorem dX4_withEnd_30 : decode cX4_withEnd 30 = .ok (.iload 4, 2) := by decide +kernel
theorem dX4_withEnd_32 : decode cX4_withEnd 32 = .ok (.ineg, 1) := by decide +kernel
theorem dX4_withEnd_33 : decode cX4_withEnd 33 = .ok (.iand, 1) := by decide +kernel
theorem dX4_withEnd_34 : decode cX4_withEnd 34 = .ok (.iload_n 2, 1) := by decide +kernel
theorem dX4_withEnd_35 : decode cX4_withEnd 35 = .ok (.iload 4, 2) := by decide +kernel
theorem dX4_withEnd_37 : decode cX4_withEnd 37 = .ok (.iconst 1, 1) := by decide +kernel
theorem dX4_withEnd_38 : decode cX4_withEnd 38 = .ok (.isub, 1) := by decide +kernel
theorem dX4_withEnd_39 : decode cX4_withEnd 39 = .ok (.iand, 1) := by decide +kernel
theorem dX4_withEnd_40 : decode cX4_withEnd 40 = .ok (.ior, 1) := by decide +kernel
theorem dX4_withEnd_41 : decode cX4_withEnd 41 = .ok (.ireturn, 1) := by decide +kernel
theorem dX4_ways_0 : decode cX4_ways 0 = .ok (.iload_n 1, 1) := by decide +kernel
theorem dX4_ways_1 : decode cX4_ways 1 = .ok (.invokestatic 23, 3) := by decide +kernel
theorem dX4_ways_4 : decode cX4_ways 4 = .ok (.iconst 1, 1) := by decide +kernel
theorem dX4_ways_5 : decode cX4_ways 5 = .ok (.isub, 1) := by decide +kernel
theorem dX4_ways_6 : decode cX4_ways 6 = .ok (.iload_n 3, 1) := by decide +kernel
theorem dX4_ways_7 : decode cX4_ways 7 = .ok (.iadd, 1) := by decide +kernel
theorem dX4_ways_8 : decode cX4_ways 8 = .ok (.istore 4, 2) := by decide +kernel
theorem dX4_ways_10 : decode cX4_ways 10 = .ok (.iload_n 1, 1) := by decide +kernel
theorem dX4_ways_11 : decode cX4_ways 11 = .ok (.iconst 1, 1) := by decide +kernel
theorem dX4_ways_12 : decode cX4_ways 12 = .ok (.sipush 511, 3) := by decide +kernel
theorem dX4_ways_15 : decode cX4_ways 15 = .ok (.invokestatic 33, 3) := by decide +kernel
theorem dX4_ways_18 : decode cX4_ways 18 = .ok (.ifCond .eq 18, 3) := by decide +kernel
theorem dX4_ways_21 : decode cX4_ways 21 = .ok (.iload 4, 2) := by decide +kernel
theorem dX4_ways_23 : decode cX4_ways 23 = .ok (.iconst 1, 1) := by decide +kernel
theorem dX4_ways_24 : decode cX4_ways 24 = .ok (.bipush 8, 2) := by decide +kernel
theorem dX4_ways_26 : decode cX4_ways 26 = .ok (.invokestatic 33, 3) := by decide +kernel
theorem dX4_ways_29 : decode cX4_ways 29 = .ok (.ifCond .eq 7, 3) := by decide +kernel
theorem dX4_ways_32 : decode cX4_ways 32 = .ok (.iload_n 3, 1) := by decide +kernel
theorem dX4_ways_33 : decode cX4_ways 33 = .ok (.ifCond .ge 5, 3) := by decide +kernel
theorem dX4_ways_36 : decode cX4_ways 36 = .ok (.iconst 0, 1) := by decide +kernel
theorem dX4_ways_37 : decode cX4_ways 37 = .ok (.ireturn, 1) := by decide +kernel
theorem dX4_ways_38 : decode cX4_ways 38 = .ok (.iload 4, 2) := by decide +kernel
theorem dX4_ways_40 : decode cX4_ways 40 = .ok (.aload_n 0, 1) := by decide +kernel
theorem dX4_ways_41 : decode cX4_ways 41 = .ok (.getfield 15, 3) := by decide +kernel
theorem dX4_ways_44 : decode cX4_ways 44 = .ok (.if_icmp .eq 13, 3) := by decide +kernel
theorem dX4_ways_47 : decode cX4_ways 47 = .ok (.aload_n 0, 1) := by decide +kernel
theorem dX4_ways_48 : decode cX4_ways 48 = .ok (.iload 4, 2) := by decide +kernel
theorem dX4_ways_50 : decode cX4_ways 50 = .ok (.putfield 15, 3) := by decide +kernel
theorem dX4_ways_53 : decode cX4_ways 53 = .ok (.aload_n 0, 1) := by decide +kernel
theorem dX4_ways_54 : decode cX4_ways 54 = .ok (.invokevirtual 37, 3) := by decide +kernel
theorem dX4_ways_57 : decode cX4_ways 57 = .ok (.aload_n 0, 1) := by decide +kernel
theorem dX4_ways_58 : decode cX4_ways 58 = .ok (.getfield 11, 3) := by decide +kernel
theorem dX4_ways_61 : decode cX4_ways 61 = .ok (.iload_n 1, 1) := by decide +kernel
theorem dX4_ways_62 : decode cX4_ways 62 = .ok (.iaload, 1) := by decide +kernel
theorem dX4_ways_63 : decode cX4_ways 63 = .ok (.ireturn, 1) := by decide +kernel
theorem dX4_fillTable_0 : decode cX4_fillTable 0 = .ok (.iconst 0, 1) := by decide +kernel
theorem dX4_fillTable_1 : decode cX4_fillTable 1 = .ok (.istore_n 1, 1) := by decide +kernel
theorem dX4_fillTable_2 : decode cX4_fillTable 2 = .ok (.iload_n 1, 1) := by decide +kernel
theorem dX4_fillTable_3 : decode cX4_fillTable 3 = .ok (.bipush 8, 2) := by decide +kernel
theorem dX4_fillTable_5 : decode cX4_fillTable 5 = .ok (.if_icmp .gt 63, 3) := by decide +kernel
theorem dX4_fillTable_8 : decode cX4_fillTable 8 = .ok (.iconst 2, 1) := by decide +kernel
theorem dX4_fillTable_9 : decode cX4_fillTable 9 = .ok (.iload_n 1, 1) := by decide +kernel
theorem dX4_fillTable_10 : decode cX4_fillTable 10 = .ok (.ishl, 1) := by decide +kernel
theorem dX4_fillTable_11 : decode cX4_fillTable 11 = .ok (.iconst 1, 1) := by decide +kernel
theorem dX4_fillTable_12 : decode cX4_fillTable 12 = .ok (.isub, 1) := by decide +kernel
theorem dX4_fillTable_13 : decode cX4_fillTable 13 = .ok (.istore_n 2, 1) := by decide +kernel
theorem dX4_fillTable_14 : decode cX4_fillTable 14 = .ok (.aload_n 0, 1) := by decide +kernel
theorem dX4_fillTable_15 : decode cX4_fillTable 15 = .ok (.getfield 11, 3) := by decide +kernel
theorem dX4_fillTable_18 : decode cX4_fillTable 18 = .ok (.iload_n 2, 1) := by decide +kernel
theorem dX4_fillTable_19 : decode cX4_fillTable 19 = .ok (.iload_n 1, 1) := by decide +kernel
theorem dX4_fillTable_20 : decode cX4_fillTable 20 = .ok (.aload_n 0, 1) := by decide +kernel
theorem dX4_fillTable_21 : decode cX4_fillTable 21 = .ok (.getfield 15, 3) := by decide +kernel
theorem dX4_fillTable_24 : decode cX4_fillTable 24 = .ok (.if_icmp .ne 7, 3) := by decide +kernel
theorem dX4_fillTable_27 : decode cX4_fillTable 27 = .ok (.iconst 1, 1) := by decide +kernel
theorem dX4_fillTable_28 : decode cX4_fillTable 28 = .ok (.goto 4, 3) := by decide +kernel
theorem dX4_fillTable_31 : decode cX4_fillTable 31 = .ok (.iconst 0, 1) := by decide +kernel
theorem dX4_fillTable_32 : decode cX4_fillTable 32 = .ok (.iastore, 1) := by decide +kernel
theorem dX4_fillTable_33 : decode cX4_fillTable 33 = .ok (.iload_n 2, 1) := by decide +kernel
theorem dX4_fillTable_34 : decode cX4_fillTable 34 = .ok (.iconst 1, 1) := by decide +kernel
theorem dX4_fillTable_35 : decode cX4_fillTable 35 = .ok (.isub, 1) := by decide +kernel
theorem dX4_fillTable_36 : decode cX4_fillTable 36 = .ok (.istore_n 3, 1) := by decide +kernel
theorem dX4_fillTable_37 : decode cX4_fillTable 37 = .ok (.iload_n 3, 1) := by decide +kernel
theorem dX4_fillTable_38 : decode cX4_fillTable 38 = .ok (.iconst 1, 1) := by decide +kernel
theorem dX4_fillTable_39 : decode cX4_fillTable 39 = .ok (.iload_n 1, 1) := by decide +kernel
theorem dX4_fillTable_40 : decode cX4_fillTable 40 = .ok (.ishl, 1) := by decide +kernel
theorem dX4_fillTable_41 : decode cX4_fillTable 41 = .ok (.if_icmp .lt 21, 3) := by decide +kernel
theorem dX4_fillTable_44 : decode cX4_fillTable 44 = .ok (.aload_n 0, 1) := by decide +kernel
theorem dX4_fillTable_45 : decode cX4_fillTable 45 = .ok (.getfield 11, 3) := by decide +kernel
theorem dX4_fillTable_48 : decode cX4_fillTable 48 = .ok (.iload_n 3, 1) := by decide +kernel
theorem dX4_fillTable_49 : decode cX4_fillTable 49 = .ok (.aload_n 0, 1) := by decide +kernel
theorem dX4_fillTable_50 : decode cX4_fillTable 50 = .ok (.iload_n 3, 1) := by decide +kernel
theorem dX4_fillTable_51 : decode cX4_fillTable 51 = .ok (.iload_n 1, 1) := by decide +kernel
theorem dX4_fillTable_52 : decode cX4_fillTable 52 = .ok (.invokevirtual 40, 3) := by decide +kernel
theorem dX4_fillTable_55 : decode cX4_fillTable 55 = .ok (.iastore, 1) := by decide +kernel
theorem dX4_fillTable_56 : decode cX4_fillTable 56 = .ok (.iinc 3 (-1), 3) := by decide +kernel
theorem dX4_fillTable_59 : decode cX4_fillTable 59 = .ok (.goto (-22), 3) := by decide +kernel
theorem dX4_fillTable_62 : decode cX4_fillTable 62 = .ok (.iinc 1 1, 3) := by decide +kernel
theorem dX4_fillTable_65 : decode cX4_fillTable 65 = .ok (.goto (-63), 3) := by decide +kernel
theorem dX4_fillTable_68 : decode cX4_fillTable 68 = .ok (.return_, 1) := by decide +kernel
theorem dX4_waysByNext_0 : decode cX4_waysByNext 0 = .ok (.iconst 0, 1) := by decide +kernel
theorem dX4_waysByNext_1 : decode cX4_waysByNext 1 = .ok (.istore_n 3, 1) := by decide +kernel
theorem dX4_waysByNext_2 : decode cX4_waysByNext 2 = .ok (.iconst 0, 1) := by decide +kernel
theorem dX4_waysByNext_3 : decode cX4_waysByNext 3 = .ok (.istore 4, 2) := by decide +kernel
theorem dX4_waysByNext_5 : decode cX4_waysByNext 5 = .ok (.iload 4, 2) := by decide +kernel
theorem dX4_waysByNext_7 : decode cX4_waysByNext 7 = .ok (.iload_n 2, 1) := by decide +kernel
theorem dX4_waysByNext_8 : decode cX4_waysByNext 8 = .ok (.if_icmp .ge 54, 3) := by decide +kernel
theorem dX4_waysByNext_11 : decode cX4_waysByNext 11 = .ok (.iload_n 1, 1) := by decide +kernel
theorem dX4_waysByNext_12 : decode cX4_waysByNext 12 = .ok (.iload 4, 2) := by decide +kernel
theorem dX4_waysByNext_14 : decode cX4_waysByNext 14 = .ok (.iushr, 1) := by decide +kernel
theorem dX4_waysByNext_15 : decode cX4_waysByNext 15 = .ok (.iconst 1, 1) := by decide +kernel
theorem dX4_waysByNext_16 : decode cX4_waysByNext 16 = .ok (.iand, 1) := by decide +kernel
theorem dX4_waysByNext_17 : decode cX4_waysByNext 17 = .ok (.ifCond .ne 39, 3) := by decide +kernel
theorem dX4_waysByNext_20 : decode cX4_waysByNext 20 = .ok (.iload_n 1, 1) := by decide +kernel
theorem dX4_waysByNext_21 : decode cX4_waysByNext 21 = .ok (.iconst 1, 1) := by decide +kernel
theorem dX4_waysByNext_22 : decode cX4_waysByNext 22 = .ok (.iload 4, 2) := by decide +kernel
theorem dX4_waysByNext_24 : decode cX4_waysByNext 24 = .ok (.ishl, 1) := by decide +kernel
theorem dX4_waysByNext_25 : decode cX4_waysByNext 25 = .ok (.invokestatic 29, 3) := by decide +kernel
theorem dX4_waysByNext_28 : decode cX4_waysByNext 28 = .ok (.istore 5, 2) := by decide +kernel
theorem dX4_waysByNext_30 : decode cX4_waysByNext 30 = .ok (.iload_n 3, 1) := by decide +kernel
theorem dX4_waysByNext_31 : decode cX4_waysByNext 31 = .ok (.iload 5, 2) := by decide +kernel
theorem dX4_waysByNext_33 : decode cX4_waysByNext 33 = .ok (.iconst 0, 1) := by decide +kernel
theorem dX4_waysByNext_34 : decode cX4_waysByNext 34 = .ok (.sipush 511, 3) := by decide +kernel
theorem dX4_waysByNext_37 : decode cX4_waysByNext 37 = .ok (.invokestatic 33, 3) := by decide +kernel
theorem dX4_waysByNext_40 : decode cX4_waysByNext 40 = .ok (.ifCond .eq 13, 3) := by decide +kernel
theorem dX4_waysByNext_43 : decode cX4_waysByNext 43 = .ok (.aload_n 0, 1) := by decide +kernel
theorem dX4_waysByNext_44 : decode cX4_waysByNext 44 = .ok (.getfield 11, 3) := by decide +kernel
theorem dX4_waysByNext_47 : decode cX4_waysByNext 47 = .ok (.iload 5, 2) := by decide +kernel
theorem dX4_waysByNext_49 : decode cX4_waysByNext 49 = .ok (.iaload, 1) := by decide +kernel
theorem dX4_waysByNext_50 : decode cX4_waysByNext 50 = .ok (.goto 4, 3) := by decide +kernel
theorem dX4_waysByNext_53 : decode cX4_waysByNext 53 = .ok (.iconst 0, 1) := by decide +kernel
theorem dX4_waysByNext_54 : decode cX4_waysByNext 54 = .ok (.iadd, 1) := by decide +kernel
theorem dX4_waysByNext_55 : decode cX4_waysByNext 55 = .ok (.istore_n 3, 1) := by decide +kernel
theorem dX4_waysByNext_56 : decode cX4_waysByNext 56 = .ok (.iinc 4 1, 3) := by decide +kernel
theorem dX4_waysByNext_59 : decode cX4_waysByNext 59 = .ok (.goto (-54), 3) := by decide +kernel
theorem dX4_waysByNext_62 : decode cX4_waysByNext 62 = .ok (.iload_n 3, 1) := by decide +kernel
theorem dX4_waysByNext_63 : decode cX4_waysByNext 63 = .ok (.ireturn, 1) := by decide +kernel
theorem dX5_init_0 : decode cX5_init 0 = .ok (.aload_n 0, 1) := by decide +kernel
theorem dX5_init_1 : decode cX5_init 1 = .ok (.invokespecial 1, 3) := by decide +kernel
theorem dX5_init_4 : decode cX5_init 4 = .ok (.return_, 1) := by decide +kernel
theorem dX6_init_0 : decode cX6_init 0 = .ok (.aload_n 0, 1) := by decide +kernel
theorem dX6_init_1 : decode cX6_init 1 = .ok (.invokespecial 3, 3) := by decide +kernel
theorem dX6_init_4 : decode cX6_init 4 = .ok (.aload_n 0, 1) := by decide +kernel
theorem dX6_init_5 : decode cX6_init 5 = .ok (.bipush 8, 2) := by decide +kernel
theorem dX6_init_7 : decode cX6_init 7 = .ok (.newarray .int, 2) := by decide +kernel
theorem dX6_init_9 : decode cX6_init 9 = .ok (.putfield 9, 3) := by decide +kernel
theorem dX6_init_12 : decode cX6_init 12 = .ok (.aload_n 0, 1) := by decide +kernel
theorem dX6_init_13 : decode cX6_init 13 = .ok (.bipush 8, 2) := by decide +kernel
theorem dX6_init_15 : decode cX6_init 15 = .ok (.newarray .int, 2) := by decide +kernel
theorem dX6_init_17 : decode cX6_init 17 = .ok (.putfield 15, 3) := by decide +kernel
theorem dX6_init_20 : decode cX6_init 20 = .ok (.aload_n 0, 1) := by decide +kernel
theorem dX6_init_21 : decode cX6_init 21 = .ok (.iconst 5, 1) := by decide +kernel
theorem dX6_init_22 : decode cX6_init 22 = .ok (.anewarray 18, 3) := by decide +kernel
theorem dX6_init_25 : decode cX6_init 25 = .ok (.putfield 20, 3) := by decide +kernel
theorem dX6_init_28 : decode cX6_init 28 = .ok (.new 24, 3) := by decide +kernel
theorem dX6_init_31 : decode cX6_init 31 = .ok (.dup, 1) := by decide +kernel
theorem dX6_init_32 : decode cX6_init 32 = .ok (.invokespecial 26, 3) := by decide +kernel
theorem dX6_init_35 : decode cX6_init 35 = .ok (.astore_n 1, 1) := by decide +kernel
theorem dX6_init_36 : decode cX6_init 36 = .ok (.aload_n 0, 1) := by decide +kernel
theorem dX6_init_37 : decode cX6_init 37 = .ok (.getfield 20, 3) := by decide +kernel
theorem dX6_init_40 : decode cX6_init 40 = .ok (.iconst 0, 1) := by decide +kernel
theorem dX6_init_41 : decode cX6_init 41 = .ok (.aload_n 1, 1) := by decide +kernel
theorem dX6_init_42 : decode cX6_init 42 = .ok (.aastore, 1) := by decide +kernel
theorem dX6_init_43 : decode cX6_init 43 = .ok (.aload_n 0, 1) := by decide +kernel
theorem dX6_init_44 : decode cX6_init 44 = .ok (.getfield 20, 3) := by decide +kernel
theorem dX6_init_47 : decode cX6_init 47 = .ok (.iconst 1, 1) := by decide +kernel
theorem dX6_init_48 : decode cX6_init 48 = .ok (.new 27, 3) := by decide +kernel
theorem dX6_init_51 : decode cX6_init 51 = .ok (.dup, 1) := by decide +kernel
theorem dX6_init_52 : decode cX6_init 52 = .ok (.invokespecial 29, 3) := by decide +kernel
theorem dX6_init_55 : decode cX6_init 55 = .ok (.aastore, 1) := by decide +kernel
theorem dX6_init_56 : decode cX6_init 56 = .ok (.aload_n 0, 1) := by decide +kernel
theorem dX6_init_57 : decode cX6_init 57 = .ok (.getfield 20, 3) := by decide +kernel
theorem dX6_init_60 : decode cX6_init 60 = .ok (.iconst 2, 1) := by decide +kernel
theorem dX6_init_61 : decode cX6_init 61 = .ok (.new 30, 3) := by decide +kernel
theorem dX6_init_64 : decode cX6_init 64 = .ok (.dup, 1) := by decide +kernel
theorem dX6_init_65 : decode cX6_init 65 = .ok (.invokespecial 32, 3) := by decide +kernel
theorem dX6_init_68 : decode cX6_init 68 = .ok (.aastore, 1) := by decide +kernel
theorem dX6_init_69 : decode cX6_init 69 = .ok (.aload_n 0, 1) := by decide +kernel
theorem dX6_init_70 : decode cX6_init 70 = .ok (.getfield 20, 3) := by decide +kernel
theorem dX6_init_73 : decode cX6_init 73 = .ok (.iconst 3, 1) := by decide +kernel
theorem dX6_init_74 : decode cX6_init 74 = .ok (.new 33, 3) := by decide +kernel
theorem dX6_init_77 : decode cX6_init 77 = .ok (.dup, 1) := by decide +kernel
