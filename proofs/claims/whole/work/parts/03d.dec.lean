theorem dX7_why_2 : decode cX7_why 2 = .ok (.invokevirtual 129, 3) := by decide +kernel
theorem dX7_why_5 : decode cX7_why 5 = .ok (.ifCond .eq 20, 3) := by decide +kernel
theorem dX7_why_8 : decode cX7_why 8 = .ok (.aload_n 0, 1) := by decide +kernel
theorem dX7_why_9 : decode cX7_why 9 = .ok (.iload_n 2, 1) := by decide +kernel
theorem dX7_why_10 : decode cX7_why 10 = .ok (.invokevirtual 98, 3) := by decide +kernel
theorem dX7_why_13 : decode cX7_why 13 = .ok (.ifCond .eq 12, 3) := by decide +kernel
theorem dX7_why_16 : decode cX7_why 16 = .ok (.aload_n 0, 1) := by decide +kernel
theorem dX7_why_17 : decode cX7_why 17 = .ok (.iload_n 1, 1) := by decide +kernel
theorem dX7_why_18 : decode cX7_why 18 = .ok (.iload_n 2, 1) := by decide +kernel
theorem dX7_why_19 : decode cX7_why 19 = .ok (.invokevirtual 148, 3) := by decide +kernel
theorem dX7_why_22 : decode cX7_why 22 = .ok (.goto 9, 3) := by decide +kernel
theorem dX7_why_25 : decode cX7_why 25 = .ok (.aload_n 0, 1) := by decide +kernel
theorem dX7_why_26 : decode cX7_why 26 = .ok (.bipush (-3), 2) := by decide +kernel
theorem dX7_why_28 : decode cX7_why 28 = .ok (.invokevirtual 94, 3) := by decide +kernel
theorem dX7_why_31 : decode cX7_why 31 = .ok (.ireturn, 1) := by decide +kernel
theorem dX7_many_0 : decode cX7_many 0 = .ok (.iconst 0, 1) := by decide +kernel
theorem dX7_many_1 : decode cX7_many 1 = .ok (.istore_n 2, 1) := by decide +kernel
theorem dX7_many_2 : decode cX7_many 2 = .ok (.iconst 0, 1) := by decide +kernel
theorem dX7_many_3 : decode cX7_many 3 = .ok (.istore_n 3, 1) := by decide +kernel
theorem dX7_many_4 : decode cX7_many 4 = .ok (.iload_n 3, 1) := by decide +kernel
theorem dX7_many_5 : decode cX7_many 5 = .ok (.aload_n 0, 1) := by decide +kernel
theorem dX7_many_6 : decode cX7_many 6 = .ok (.getfield 91, 3) := by decide +kernel
theorem dX7_many_9 : decode cX7_many 9 = .ok (.if_icmp .ge 27, 3) := by decide +kernel
theorem dX7_many_12 : decode cX7_many 12 = .ok (.iload_n 2, 1) := by decide +kernel
theorem dX7_many_13 : decode cX7_many 13 = .ok (.aload_n 0, 1) := by decide +kernel
theorem dX7_many_14 : decode cX7_many 14 = .ok (.getfield 56, 3) := by decide +kernel
theorem dX7_many_17 : decode cX7_many 17 = .ok (.iload_n 3, 1) := by decide +kernel
theorem dX7_many_18 : decode cX7_many 18 = .ok (.iaload, 1) := by decide +kernel
theorem dX7_many_19 : decode cX7_many 19 = .ok (.iload_n 1, 1) := by decide +kernel
theorem dX7_many_20 : decode cX7_many 20 = .ok (.if_icmp .ne 7, 3) := by decide +kernel
theorem dX7_many_23 : decode cX7_many 23 = .ok (.iconst 1, 1) := by decide +kernel
theorem dX7_many_24 : decode cX7_many 24 = .ok (.goto 4, 3) := by decide +kernel
theorem dX7_many_27 : decode cX7_many 27 = .ok (.iconst 0, 1) := by decide +kernel
theorem dX7_many_28 : decode cX7_many 28 = .ok (.iadd, 1) := by decide +kernel
theorem dX7_many_29 : decode cX7_many 29 = .ok (.istore_n 2, 1) := by decide +kernel
theorem dX7_many_30 : decode cX7_many 30 = .ok (.iinc 3 1, 3) := by decide +kernel
theorem dX7_many_33 : decode cX7_many 33 = .ok (.goto (-29), 3) := by decide +kernel
theorem dX7_many_36 : decode cX7_many 36 = .ok (.iload_n 2, 1) := by decide +kernel
theorem dX7_many_37 : decode cX7_many 37 = .ok (.ireturn, 1) := by decide +kernel
theorem dX7_turn_0 : decode cX7_turn 0 = .ok (.aload_n 0, 1) := by decide +kernel
theorem dX7_turn_1 : decode cX7_turn 1 = .ok (.iload_n 1, 1) := by decide +kernel
theorem dX7_turn_2 : decode cX7_turn 2 = .ok (.invokevirtual 129, 3) := by decide +kernel
theorem dX7_turn_5 : decode cX7_turn 5 = .ok (.ifCond .ne 10, 3) := by decide +kernel
theorem dX7_turn_8 : decode cX7_turn 8 = .ok (.aload_n 0, 1) := by decide +kernel
theorem dX7_turn_9 : decode cX7_turn 9 = .ok (.bipush (-3), 2) := by decide +kernel
theorem dX7_turn_11 : decode cX7_turn 11 = .ok (.invokevirtual 94, 3) := by decide +kernel
theorem dX7_turn_14 : decode cX7_turn 14 = .ok (.ireturn, 1) := by decide +kernel
theorem dX7_turn_15 : decode cX7_turn 15 = .ok (.aload_n 0, 1) := by decide +kernel
theorem dX7_turn_16 : decode cX7_turn 16 = .ok (.getfield 56, 3) := by decide +kernel
theorem dX7_turn_19 : decode cX7_turn 19 = .ok (.iload_n 1, 1) := by decide +kernel
theorem dX7_turn_20 : decode cX7_turn 20 = .ok (.iaload, 1) := by decide +kernel
theorem dX7_turn_21 : decode cX7_turn 21 = .ok (.ifCond .eq 10, 3) := by decide +kernel
theorem dX7_turn_24 : decode cX7_turn 24 = .ok (.aload_n 0, 1) := by decide +kernel
theorem dX7_turn_25 : decode cX7_turn 25 = .ok (.bipush (-7), 2) := by decide +kernel
theorem dX7_turn_27 : decode cX7_turn 27 = .ok (.invokevirtual 94, 3) := by decide +kernel
theorem dX7_turn_30 : decode cX7_turn 30 = .ok (.ireturn, 1) := by decide +kernel
theorem dX7_turn_31 : decode cX7_turn 31 = .ok (.aload_n 0, 1) := by decide +kernel
theorem dX7_turn_32 : decode cX7_turn 32 = .ok (.getfield 56, 3) := by decide +kernel
theorem dX7_turn_35 : decode cX7_turn 35 = .ok (.iload_n 1, 1) := by decide +kernel
theorem dX7_turn_36 : decode cX7_turn 36 = .ok (.iconst 4, 1) := by decide +kernel
theorem dX7_turn_37 : decode cX7_turn 37 = .ok (.iastore, 1) := by decide +kernel
theorem dX7_turn_38 : decode cX7_turn 38 = .ok (.aload_n 0, 1) := by decide +kernel
theorem dX7_turn_39 : decode cX7_turn 39 = .ok (.iconst 0, 1) := by decide +kernel
theorem dX7_turn_40 : decode cX7_turn 40 = .ok (.invokevirtual 151, 3) := by decide +kernel
theorem dX7_turn_43 : decode cX7_turn 43 = .ok (.ireturn, 1) := by decide +kernel
theorem dX7_can_0 : decode cX7_can 0 = .ok (.aload_n 0, 1) := by decide +kernel
theorem dX7_can_1 : decode cX7_can 1 = .ok (.iload_n 1, 1) := by decide +kernel
theorem dX7_can_2 : decode cX7_can 2 = .ok (.iload_n 2, 1) := by decide +kernel
theorem dX7_can_3 : decode cX7_can 3 = .ok (.invokevirtual 148, 3) := by decide +kernel
theorem dX7_can_6 : decode cX7_can 6 = .ok (.ifCond .eq 5, 3) := by decide +kernel
theorem dX7_can_9 : decode cX7_can 9 = .ok (.iconst 0, 1) := by decide +kernel
theorem dX7_can_10 : decode cX7_can 10 = .ok (.ireturn, 1) := by decide +kernel
theorem dX7_can_11 : decode cX7_can 11 = .ok (.iconst 0, 1) := by decide +kernel
theorem dX7_can_12 : decode cX7_can 12 = .ok (.istore_n 3, 1) := by decide +kernel
theorem dX7_can_13 : decode cX7_can 13 = .ok (.iload_n 3, 1) := by decide +kernel
theorem dX7_can_14 : decode cX7_can 14 = .ok (.aload_n 0, 1) := by decide +kernel
theorem dX7_can_15 : decode cX7_can 15 = .ok (.getfield 91, 3) := by decide +kernel
theorem dX7_can_18 : decode cX7_can 18 = .ok (.if_icmp .ge 57, 3) := by decide +kernel
theorem dX7_can_21 : decode cX7_can 21 = .ok (.aload_n 0, 1) := by decide +kernel
theorem dX7_can_22 : decode cX7_can 22 = .ok (.getfield 56, 3) := by decide +kernel
theorem dX7_can_25 : decode cX7_can 25 = .ok (.iload_n 3, 1) := by decide +kernel
theorem dX7_can_26 : decode cX7_can 26 = .ok (.iaload, 1) := by decide +kernel
theorem dX7_can_27 : decode cX7_can 27 = .ok (.iconst 1, 1) := by decide +kernel
theorem dX7_can_28 : decode cX7_can 28 = .ok (.if_icmp .ne 41, 3) := by decide +kernel
theorem dX7_can_31 : decode cX7_can 31 = .ok (.aload_n 0, 1) := by decide +kernel
theorem dX7_can_32 : decode cX7_can 32 = .ok (.getfield 59, 3) := by decide +kernel
theorem dX7_can_35 : decode cX7_can 35 = .ok (.iload_n 3, 1) := by decide +kernel
theorem dX7_can_36 : decode cX7_can 36 = .ok (.iaload, 1) := by decide +kernel
theorem dX7_can_37 : decode cX7_can 37 = .ok (.iload_n 2, 1) := by decide +kernel
theorem dX7_can_38 : decode cX7_can 38 = .ok (.if_icmp .ne 31, 3) := by decide +kernel
theorem dX7_can_41 : decode cX7_can 41 = .ok (.aload_n 0, 1) := by decide +kernel
theorem dX7_can_42 : decode cX7_can 42 = .ok (.getfield 53, 3) := by decide +kernel
theorem dX7_can_45 : decode cX7_can 45 = .ok (.iload_n 3, 1) := by decide +kernel
theorem dX7_can_46 : decode cX7_can 46 = .ok (.iaload, 1) := by decide +kernel
theorem dX7_can_47 : decode cX7_can 47 = .ok (.aload_n 0, 1) := by decide +kernel
theorem dX7_can_48 : decode cX7_can 48 = .ok (.getfield 53, 3) := by decide +kernel
theorem dX7_can_51 : decode cX7_can 51 = .ok (.iload_n 1, 1) := by decide +kernel
theorem dX7_can_52 : decode cX7_can 52 = .ok (.iaload, 1) := by decide +kernel
theorem dX7_can_53 : decode cX7_can 53 = .ok (.if_icmp .eq 14, 3) := by decide +kernel
theorem dX7_can_56 : decode cX7_can 56 = .ok (.aload_n 0, 1) := by decide +kernel
theorem dX7_can_57 : decode cX7_can 57 = .ok (.getfield 26, 3) := by decide +kernel
theorem dX7_can_60 : decode cX7_can 60 = .ok (.iload_n 2, 1) := by decide +kernel
theorem dX7_can_61 : decode cX7_can 61 = .ok (.iaload, 1) := by decide +kernel
theorem dX7_can_62 : decode cX7_can 62 = .ok (.bipush 10, 2) := by decide +kernel
theorem dX7_can_64 : decode cX7_can 64 = .ok (.if_icmp .ge 5, 3) := by decide +kernel
theorem dX7_can_67 : decode cX7_can 67 = .ok (.iconst 0, 1) := by decide +kernel
theorem dX7_can_68 : decode cX7_can 68 = .ok (.ireturn, 1) := by decide +kernel
theorem dX7_can_69 : decode cX7_can 69 = .ok (.iinc 3 1, 3) := by decide +kernel
theorem dX7_can_72 : decode cX7_can 72 = .ok (.goto (-59), 3) := by decide +kernel
theorem dX7_can_75 : decode cX7_can 75 = .ok (.iconst 1, 1) := by decide +kernel
theorem dX7_can_76 : decode cX7_can 76 = .ok (.ireturn, 1) := by decide +kernel
theorem dX7_cracks_0 : decode cX7_cracks 0 = .ok (.aload_n 0, 1) := by decide +kernel
theorem dX7_cracks_1 : decode cX7_cracks 1 = .ok (.iload_n 1, 1) := by decide +kernel
theorem dX7_cracks_2 : decode cX7_cracks 2 = .ok (.iconst 3, 1) := by decide +kernel
theorem dX7_cracks_3 : decode cX7_cracks 3 = .ok (.invokevirtual 125, 3) := by decide +kernel
theorem dX7_cracks_6 : decode cX7_cracks 6 = .ok (.aload_n 0, 1) := by decide +kernel
theorem dX7_cracks_7 : decode cX7_cracks 7 = .ok (.getfield 32, 3) := by decide +kernel
theorem dX7_cracks_10 : decode cX7_cracks 10 = .ok (.iload_n 1, 1) := by decide +kernel
theorem dX7_cracks_11 : decode cX7_cracks 11 = .ok (.iconst 0, 1) := by decide +kernel
theorem dX7_cracks_12 : decode cX7_cracks 12 = .ok (.iastore, 1) := by decide +kernel
theorem dX7_cracks_13 : decode cX7_cracks 13 = .ok (.aload_n 0, 1) := by decide +kernel
theorem dX7_cracks_14 : decode cX7_cracks 14 = .ok (.getfield 35, 3) := by decide +kernel
theorem dX7_cracks_17 : decode cX7_cracks 17 = .ok (.iload_n 1, 1) := by decide +kernel
theorem dX7_cracks_18 : decode cX7_cracks 18 = .ok (.iconst 0, 1) := by decide +kernel
theorem dX7_cracks_19 : decode cX7_cracks 19 = .ok (.iastore, 1) := by decide +kernel
theorem dX7_cracks_20 : decode cX7_cracks 20 = .ok (.return_, 1) := by decide +kernel
theorem dX7_comes_0 : decode cX7_comes 0 = .ok (.aload_n 0, 1) := by decide +kernel
theorem dX7_comes_1 : decode cX7_comes 1 = .ok (.getfield 41, 3) := by decide +kernel
theorem dX7_comes_4 : decode cX7_comes 4 = .ok (.iconst 2, 1) := by decide +kernel
theorem dX7_comes_5 : decode cX7_comes 5 = .ok (.iload_n 2, 1) := by decide +kernel
theorem dX7_comes_6 : decode cX7_comes 6 = .ok (.imul, 1) := by decide +kernel
theorem dX7_comes_7 : decode cX7_comes 7 = .ok (.aload_n 0, 1) := by decide +kernel
theorem dX7_comes_8 : decode cX7_comes 8 = .ok (.getfield 53, 3) := by decide +kernel
theorem dX7_comes_11 : decode cX7_comes 11 = .ok (.iload_n 1, 1) := by decide +kernel
theorem dX7_comes_12 : decode cX7_comes 12 = .ok (.iaload, 1) := by decide +kernel
theorem dX7_comes_13 : decode cX7_comes 13 = .ok (.iadd, 1) := by decide +kernel
theorem dX7_comes_14 : decode cX7_comes 14 = .ok (.aload_n 0, 1) := by decide +kernel
theorem dX7_comes_15 : decode cX7_comes 15 = .ok (.getfield 132, 3) := by decide +kernel
theorem dX7_comes_18 : decode cX7_comes 18 = .ok (.iastore, 1) := by decide +kernel
theorem dX7_comes_19 : decode cX7_comes 19 = .ok (.aload_n 0, 1) := by decide +kernel
theorem dX7_comes_20 : decode cX7_comes 20 = .ok (.iload_n 2, 1) := by decide +kernel
theorem dX7_comes_21 : decode cX7_comes 21 = .ok (.aload_n 0, 1) := by decide +kernel
theorem dX7_comes_22 : decode cX7_comes 22 = .ok (.getfield 47, 3) := by decide +kernel
theorem dX7_comes_25 : decode cX7_comes 25 = .ok (.iload_n 1, 1) := by decide +kernel
theorem dX7_comes_26 : decode cX7_comes 26 = .ok (.iaload, 1) := by decide +kernel
theorem dX7_comes_27 : decode cX7_comes 27 = .ok (.invokevirtual 115, 3) := by decide +kernel
theorem dX7_comes_30 : decode cX7_comes 30 = .ok (.ifCond .ne 26, 3) := by decide +kernel
theorem dX7_comes_33 : decode cX7_comes 33 = .ok (.aload_n 0, 1) := by decide +kernel
theorem dX7_comes_34 : decode cX7_comes 34 = .ok (.getfield 56, 3) := by decide +kernel
theorem dX7_comes_37 : decode cX7_comes 37 = .ok (.iload_n 1, 1) := by decide +kernel
theorem dX7_comes_38 : decode cX7_comes 38 = .ok (.iconst 3, 1) := by decide +kernel
theorem dX7_comes_39 : decode cX7_comes 39 = .ok (.iastore, 1) := by decide +kernel
theorem dX7_comes_40 : decode cX7_comes 40 = .ok (.aload_n 0, 1) := by decide +kernel
theorem dX7_comes_41 : decode cX7_comes 41 = .ok (.getfield 65, 3) := by decide +kernel
theorem dX7_comes_44 : decode cX7_comes 44 = .ok (.iload_n 1, 1) := by decide +kernel
theorem dX7_comes_45 : decode cX7_comes 45 = .ok (.aload_n 0, 1) := by decide +kernel
theorem dX7_comes_46 : decode cX7_comes 46 = .ok (.getfield 132, 3) := by decide +kernel
theorem dX7_comes_49 : decode cX7_comes 49 = .ok (.iastore, 1) := by decide +kernel
theorem dX7_comes_50 : decode cX7_comes 50 = .ok (.aload_n 0, 1) := by decide +kernel
theorem dX7_comes_51 : decode cX7_comes 51 = .ok (.iload_n 2, 1) := by decide +kernel
theorem dX7_comes_52 : decode cX7_comes 52 = .ok (.invokevirtual 154, 3) := by decide +kernel
theorem dX7_comes_55 : decode cX7_comes 55 = .ok (.return_, 1) := by decide +kernel
theorem dX7_comes_56 : decode cX7_comes 56 = .ok (.aload_n 0, 1) := by decide +kernel
theorem dX7_comes_57 : decode cX7_comes 57 = .ok (.getfield 56, 3) := by decide +kernel
theorem dX7_comes_60 : decode cX7_comes 60 = .ok (.iload_n 1, 1) := by decide +kernel
theorem dX7_comes_61 : decode cX7_comes 61 = .ok (.iconst 1, 1) := by decide +kernel
theorem dX7_comes_62 : decode cX7_comes 62 = .ok (.iastore, 1) := by decide +kernel
theorem dX7_comes_63 : decode cX7_comes 63 = .ok (.aload_n 0, 1) := by decide +kernel
theorem dX7_comes_64 : decode cX7_comes 64 = .ok (.getfield 59, 3) := by decide +kernel
theorem dX7_comes_67 : decode cX7_comes 67 = .ok (.iload_n 1, 1) := by decide +kernel
theorem dX7_comes_68 : decode cX7_comes 68 = .ok (.iload_n 2, 1) := by decide +kernel
theorem dX7_comes_69 : decode cX7_comes 69 = .ok (.iastore, 1) := by decide +kernel
theorem dX7_comes_70 : decode cX7_comes 70 = .ok (.aload_n 0, 1) := by decide +kernel
theorem dX7_comes_71 : decode cX7_comes 71 = .ok (.getfield 62, 3) := by decide +kernel
theorem dX7_comes_74 : decode cX7_comes 74 = .ok (.iload_n 1, 1) := by decide +kernel
theorem dX7_comes_75 : decode cX7_comes 75 = .ok (.iconst 0, 1) := by decide +kernel
theorem dX7_comes_76 : decode cX7_comes 76 = .ok (.iastore, 1) := by decide +kernel
theorem dX7_comes_77 : decode cX7_comes 77 = .ok (.aload_n 0, 1) := by decide +kernel
theorem dX7_comes_78 : decode cX7_comes 78 = .ok (.getfield 32, 3) := by decide +kernel
theorem dX7_comes_81 : decode cX7_comes 81 = .ok (.iload_n 2, 1) := by decide +kernel
theorem dX7_comes_82 : decode cX7_comes 82 = .ok (.dup2, 1) := by decide +kernel
theorem dX7_comes_83 : decode cX7_comes 83 = .ok (.iaload, 1) := by decide +kernel
theorem dX7_comes_84 : decode cX7_comes 84 = .ok (.aload_n 0, 1) := by decide +kernel
theorem dX7_comes_85 : decode cX7_comes 85 = .ok (.getfield 47, 3) := by decide +kernel
theorem dX7_comes_88 : decode cX7_comes 88 = .ok (.iload_n 1, 1) := by decide +kernel
theorem dX7_comes_89 : decode cX7_comes 89 = .ok (.iaload, 1) := by decide +kernel
theorem dX7_comes_90 : decode cX7_comes 90 = .ok (.iadd, 1) := by decide +kernel
theorem dX7_comes_91 : decode cX7_comes 91 = .ok (.iastore, 1) := by decide +kernel
theorem dX7_comes_92 : decode cX7_comes 92 = .ok (.aload_n 0, 1) := by decide +kernel
theorem dX7_comes_93 : decode cX7_comes 93 = .ok (.getfield 17, 3) := by decide +kernel
theorem dX7_comes_96 : decode cX7_comes 96 = .ok (.iload_n 2, 1) := by decide +kernel
theorem dX7_comes_97 : decode cX7_comes 97 = .ok (.iaload, 1) := by decide +kernel
theorem dX7_comes_98 : decode cX7_comes 98 = .ok (.iconst 4, 1) := by decide +kernel
theorem dX7_comes_99 : decode cX7_comes 99 = .ok (.if_icmp .eq 23, 3) := by decide +kernel
theorem dX7_comes_102 : decode cX7_comes 102 = .ok (.aload_n 0, 1) := by decide +kernel
theorem dX7_comes_103 : decode cX7_comes 103 = .ok (.getfield 32, 3) := by decide +kernel
theorem dX7_comes_106 : decode cX7_comes 106 = .ok (.iload_n 2, 1) := by decide +kernel
theorem dX7_comes_107 : decode cX7_comes 107 = .ok (.iaload, 1) := by decide +kernel
theorem dX7_comes_108 : decode cX7_comes 108 = .ok (.aload_n 0, 1) := by decide +kernel
theorem dX7_comes_109 : decode cX7_comes 109 = .ok (.getfield 20, 3) := by decide +kernel
theorem dX7_comes_112 : decode cX7_comes 112 = .ok (.iload_n 2, 1) := by decide +kernel
theorem dX7_comes_113 : decode cX7_comes 113 = .ok (.iaload, 1) := by decide +kernel
theorem dX7_comes_114 : decode cX7_comes 114 = .ok (.if_icmp .lt 8, 3) := by decide +kernel
theorem dX7_comes_117 : decode cX7_comes 117 = .ok (.aload_n 0, 1) := by decide +kernel
theorem dX7_comes_118 : decode cX7_comes 118 = .ok (.iload_n 2, 1) := by decide +kernel
theorem dX7_comes_119 : decode cX7_comes 119 = .ok (.invokevirtual 154, 3) := by decide +kernel
theorem dX7_comes_122 : decode cX7_comes 122 = .ok (.return_, 1) := by decide +kernel
theorem dX7_next_0 : decode cX7_next 0 = .ok (.iconst (-1), 1) := by decide +kernel
theorem dX7_next_1 : decode cX7_next 1 = .ok (.istore_n 2, 1) := by decide +kernel
theorem dX7_next_2 : decode cX7_next 2 = .ok (.iconst 0, 1) := by decide +kernel
theorem dX7_next_3 : decode cX7_next 3 = .ok (.istore_n 3, 1) := by decide +kernel
theorem dX7_next_4 : decode cX7_next 4 = .ok (.iload_n 3, 1) := by decide +kernel
theorem dX7_next_5 : decode cX7_next 5 = .ok (.aload_n 0, 1) := by decide +kernel
theorem dX7_next_6 : decode cX7_next 6 = .ok (.getfield 91, 3) := by decide +kernel
theorem dX7_next_9 : decode cX7_next 9 = .ok (.if_icmp .ge 50, 3) := by decide +kernel
theorem dX7_next_12 : decode cX7_next 12 = .ok (.aload_n 0, 1) := by decide +kernel
theorem dX7_next_13 : decode cX7_next 13 = .ok (.getfield 71, 3) := by decide +kernel
theorem dX7_next_16 : decode cX7_next 16 = .ok (.iload_n 3, 1) := by decide +kernel
theorem dX7_next_17 : decode cX7_next 17 = .ok (.baload, 1) := by decide +kernel
theorem dX7_next_18 : decode cX7_next 18 = .ok (.ifCond .ne 35, 3) := by decide +kernel
theorem dX7_next_21 : decode cX7_next 21 = .ok (.aload_n 0, 1) := by decide +kernel
theorem dX7_next_22 : decode cX7_next 22 = .ok (.getfield 56, 3) := by decide +kernel
theorem dX7_next_25 : decode cX7_next 25 = .ok (.iload_n 3, 1) := by decide +kernel
theorem dX7_next_26 : decode cX7_next 26 = .ok (.iaload, 1) := by decide +kernel
theorem dX7_next_27 : decode cX7_next 27 = .ok (.iload_n 1, 1) := by decide +kernel
theorem dX7_next_28 : decode cX7_next 28 = .ok (.if_icmp .ne 25, 3) := by decide +kernel
theorem dX7_next_31 : decode cX7_next 31 = .ok (.iload_n 2, 1) := by decide +kernel
theorem dX7_next_32 : decode cX7_next 32 = .ok (.iconst (-1), 1) := by decide +kernel
theorem dX7_next_33 : decode cX7_next 33 = .ok (.if_icmp .eq 18, 3) := by decide +kernel
theorem dX7_next_36 : decode cX7_next 36 = .ok (.aload_n 0, 1) := by decide +kernel
theorem dX7_next_37 : decode cX7_next 37 = .ok (.getfield 50, 3) := by decide +kernel
theorem dX7_next_40 : decode cX7_next 40 = .ok (.iload_n 3, 1) := by decide +kernel
theorem dX7_next_41 : decode cX7_next 41 = .ok (.iaload, 1) := by decide +kernel
theorem dX7_next_42 : decode cX7_next 42 = .ok (.aload_n 0, 1) := by decide +kernel
theorem dX7_next_43 : decode cX7_next 43 = .ok (.getfield 50, 3) := by decide +kernel
theorem dX7_next_46 : decode cX7_next 46 = .ok (.iload_n 2, 1) := by decide +kernel
theorem dX7_next_47 : decode cX7_next 47 = .ok (.iaload, 1) := by decide +kernel
theorem dX7_next_48 : decode cX7_next 48 = .ok (.if_icmp .le 5, 3) := by decide +kernel
theorem dX7_next_51 : decode cX7_next 51 = .ok (.iload_n 3, 1) := by decide +kernel
theorem dX7_next_52 : decode cX7_next 52 = .ok (.istore_n 2, 1) := by decide +kernel
theorem dX7_next_53 : decode cX7_next 53 = .ok (.iinc 3 1, 3) := by decide +kernel
theorem dX7_next_56 : decode cX7_next 56 = .ok (.goto (-52), 3) := by decide +kernel
theorem dX7_next_59 : decode cX7_next 59 = .ok (.iload_n 2, 1) := by decide +kernel
theorem dX7_next_60 : decode cX7_next 60 = .ok (.ireturn, 1) := by decide +kernel
theorem dX7_goesOn_0 : decode cX7_goesOn 0 = .ok (.aload_n 0, 1) := by decide +kernel
theorem dX7_goesOn_1 : decode cX7_goesOn 1 = .ok (.getfield 59, 3) := by decide +kernel
theorem dX7_goesOn_4 : decode cX7_goesOn 4 = .ok (.iload_n 1, 1) := by decide +kernel
theorem dX7_goesOn_5 : decode cX7_goesOn 5 = .ok (.iaload, 1) := by decide +kernel
theorem dX7_goesOn_6 : decode cX7_goesOn 6 = .ok (.istore_n 2, 1) := by decide +kernel
theorem dX7_goesOn_7 : decode cX7_goesOn 7 = .ok (.aload_n 0, 1) := by decide +kernel
theorem dX7_goesOn_8 : decode cX7_goesOn 8 = .ok (.getfield 62, 3) := by decide +kernel
theorem dX7_goesOn_11 : decode cX7_goesOn 11 = .ok (.iload_n 1, 1) := by decide +kernel
theorem dX7_goesOn_12 : decode cX7_goesOn 12 = .ok (.iaload, 1) := by decide +kernel
theorem dX7_goesOn_13 : decode cX7_goesOn 13 = .ok (.aload_n 0, 1) := by decide +kernel
theorem dX7_goesOn_14 : decode cX7_goesOn 14 = .ok (.getfield 29, 3) := by decide +kernel
theorem dX7_goesOn_17 : decode cX7_goesOn 17 = .ok (.iload_n 2, 1) := by decide +kernel
theorem dX7_goesOn_18 : decode cX7_goesOn 18 = .ok (.iaload, 1) := by decide +kernel
theorem dX7_goesOn_19 : decode cX7_goesOn 19 = .ok (.if_icmp .ge 4, 3) := by decide +kernel
theorem dX7_goesOn_22 : decode cX7_goesOn 22 = .ok (.return_, 1) := by decide +kernel
theorem dX7_goesOn_23 : decode cX7_goesOn 23 = .ok (.aload_n 0, 1) := by decide +kernel
theorem dX7_goesOn_24 : decode cX7_goesOn 24 = .ok (.getfield 53, 3) := by decide +kernel
theorem dX7_goesOn_27 : decode cX7_goesOn 27 = .ok (.iload_n 1, 1) := by decide +kernel
theorem dX7_goesOn_28 : decode cX7_goesOn 28 = .ok (.iaload, 1) := by decide +kernel
theorem dX7_goesOn_29 : decode cX7_goesOn 29 = .ok (.ifCond .ne 12, 3) := by decide +kernel
theorem dX7_goesOn_32 : decode cX7_goesOn 32 = .ok (.aload_n 0, 1) := by decide +kernel
theorem dX7_goesOn_33 : decode cX7_goesOn 33 = .ok (.getfield 13, 3) := by decide +kernel
theorem dX7_goesOn_36 : decode cX7_goesOn 36 = .ok (.iconst 1, 1) := by decide +kernel
theorem dX7_goesOn_37 : decode cX7_goesOn 37 = .ok (.isub, 1) := by decide +kernel
theorem dX7_goesOn_38 : decode cX7_goesOn 38 = .ok (.goto 4, 3) := by decide +kernel
theorem dX7_goesOn_41 : decode cX7_goesOn 41 = .ok (.iconst 0, 1) := by decide +kernel
theorem dX7_goesOn_42 : decode cX7_goesOn 42 = .ok (.istore_n 3, 1) := by decide +kernel
theorem dX7_goesOn_43 : decode cX7_goesOn 43 = .ok (.iload_n 2, 1) := by decide +kernel
theorem dX7_goesOn_44 : decode cX7_goesOn 44 = .ok (.iload_n 3, 1) := by decide +kernel
theorem dX7_goesOn_45 : decode cX7_goesOn 45 = .ok (.if_icmp .ne 38, 3) := by decide +kernel
theorem dX7_goesOn_48 : decode cX7_goesOn 48 = .ok (.aload_n 0, 1) := by decide +kernel
theorem dX7_goesOn_49 : decode cX7_goesOn 49 = .ok (.getfield 56, 3) := by decide +kernel
theorem dX7_goesOn_52 : decode cX7_goesOn 52 = .ok (.iload_n 1, 1) := by decide +kernel
theorem dX7_goesOn_53 : decode cX7_goesOn 53 = .ok (.iconst 2, 1) := by decide +kernel
theorem dX7_goesOn_54 : decode cX7_goesOn 54 = .ok (.iastore, 1) := by decide +kernel
theorem dX7_goesOn_55 : decode cX7_goesOn 55 = .ok (.aload_n 0, 1) := by decide +kernel
theorem dX7_goesOn_56 : decode cX7_goesOn 56 = .ok (.getfield 65, 3) := by decide +kernel
theorem dX7_goesOn_59 : decode cX7_goesOn 59 = .ok (.iload_n 1, 1) := by decide +kernel
theorem dX7_goesOn_60 : decode cX7_goesOn 60 = .ok (.aload_n 0, 1) := by decide +kernel
theorem dX7_goesOn_61 : decode cX7_goesOn 61 = .ok (.getfield 132, 3) := by decide +kernel
theorem dX7_goesOn_64 : decode cX7_goesOn 64 = .ok (.iastore, 1) := by decide +kernel
theorem dX7_goesOn_65 : decode cX7_goesOn 65 = .ok (.aload_n 0, 1) := by decide +kernel
theorem dX7_goesOn_66 : decode cX7_goesOn 66 = .ok (.dup, 1) := by decide +kernel
theorem dX7_goesOn_67 : decode cX7_goesOn 67 = .ok (.getfield 158, 3) := by decide +kernel
theorem dX7_goesOn_70 : decode cX7_goesOn 70 = .ok (.aload_n 0, 1) := by decide +kernel
theorem dX7_goesOn_71 : decode cX7_goesOn 71 = .ok (.getfield 47, 3) := by decide +kernel
theorem dX7_goesOn_74 : decode cX7_goesOn 74 = .ok (.iload_n 1, 1) := by decide +kernel
theorem dX7_goesOn_75 : decode cX7_goesOn 75 = .ok (.iaload, 1) := by decide +kernel
theorem dX7_goesOn_76 : decode cX7_goesOn 76 = .ok (.iadd, 1) := by decide +kernel
theorem dX7_goesOn_77 : decode cX7_goesOn 77 = .ok (.putfield 158, 3) := by decide +kernel
theorem dX7_goesOn_80 : decode cX7_goesOn 80 = .ok (.goto 52, 3) := by decide +kernel
theorem dX7_goesOn_83 : decode cX7_goesOn 83 = .ok (.aload_n 0, 1) := by decide +kernel
theorem dX7_goesOn_84 : decode cX7_goesOn 84 = .ok (.iload_n 1, 1) := by decide +kernel
theorem dX7_goesOn_85 : decode cX7_goesOn 85 = .ok (.aload_n 0, 1) := by decide +kernel
theorem dX7_goesOn_86 : decode cX7_goesOn 86 = .ok (.getfield 53, 3) := by decide +kernel
theorem dX7_goesOn_89 : decode cX7_goesOn 89 = .ok (.iload_n 1, 1) := by decide +kernel
theorem dX7_goesOn_90 : decode cX7_goesOn 90 = .ok (.iaload, 1) := by decide +kernel
theorem dX7_goesOn_91 : decode cX7_goesOn 91 = .ok (.ifCond .ne 9, 3) := by decide +kernel
theorem dX7_goesOn_94 : decode cX7_goesOn 94 = .ok (.iload_n 2, 1) := by decide +kernel
theorem dX7_goesOn_95 : decode cX7_goesOn 95 = .ok (.iconst 1, 1) := by decide +kernel
theorem dX7_goesOn_96 : decode cX7_goesOn 96 = .ok (.iadd, 1) := by decide +kernel
theorem dX7_goesOn_97 : decode cX7_goesOn 97 = .ok (.goto 6, 3) := by decide +kernel
theorem dX7_goesOn_100 : decode cX7_goesOn 100 = .ok (.iload_n 2, 1) := by decide +kernel
theorem dX7_goesOn_101 : decode cX7_goesOn 101 = .ok (.iconst 1, 1) := by decide +kernel
theorem dX7_goesOn_102 : decode cX7_goesOn 102 = .ok (.isub, 1) := by decide +kernel
theorem dX7_goesOn_103 : decode cX7_goesOn 103 = .ok (.invokevirtual 161, 3) := by decide +kernel
theorem dX7_goesOn_106 : decode cX7_goesOn 106 = .ok (.ifCond .eq 26, 3) := by decide +kernel
theorem dX7_goesOn_109 : decode cX7_goesOn 109 = .ok (.aload_n 0, 1) := by decide +kernel
theorem dX7_goesOn_110 : decode cX7_goesOn 110 = .ok (.iload_n 1, 1) := by decide +kernel
theorem dX7_goesOn_111 : decode cX7_goesOn 111 = .ok (.aload_n 0, 1) := by decide +kernel
theorem dX7_goesOn_112 : decode cX7_goesOn 112 = .ok (.getfield 53, 3) := by decide +kernel
theorem dX7_goesOn_115 : decode cX7_goesOn 115 = .ok (.iload_n 1, 1) := by decide +kernel
theorem dX7_goesOn_116 : decode cX7_goesOn 116 = .ok (.iaload, 1) := by decide +kernel
theorem dX7_goesOn_117 : decode cX7_goesOn 117 = .ok (.ifCond .ne 9, 3) := by decide +kernel
theorem dX7_goesOn_120 : decode cX7_goesOn 120 = .ok (.iload_n 2, 1) := by decide +kernel
theorem dX7_goesOn_121 : decode cX7_goesOn 121 = .ok (.iconst 1, 1) := by decide +kernel
theorem dX7_goesOn_122 : decode cX7_goesOn 122 = .ok (.iadd, 1) := by decide +kernel
theorem dX7_goesOn_123 : decode cX7_goesOn 123 = .ok (.goto 6, 3) := by decide +kernel
theorem dX7_goesOn_126 : decode cX7_goesOn 126 = .ok (.iload_n 2, 1) := by decide +kernel
theorem dX7_goesOn_127 : decode cX7_goesOn 127 = .ok (.iconst 1, 1) := by decide +kernel
theorem dX7_goesOn_128 : decode cX7_goesOn 128 = .ok (.isub, 1) := by decide +kernel
theorem dX7_goesOn_129 : decode cX7_goesOn 129 = .ok (.invokevirtual 164, 3) := by decide +kernel
theorem dX7_goesOn_132 : decode cX7_goesOn 132 = .ok (.return_, 1) := by decide +kernel
theorem dX7_goesBy_0 : decode cX7_goesBy 0 = .ok (.aload_n 0, 1) := by decide +kernel
theorem dX7_goesBy_1 : decode cX7_goesBy 1 = .ok (.aload_n 0, 1) := by decide +kernel
theorem dX7_goesBy_2 : decode cX7_goesBy 2 = .ok (.getfield 132, 3) := by decide +kernel
theorem dX7_goesBy_5 : decode cX7_goesBy 5 = .ok (.invokevirtual 122, 3) := by decide +kernel
theorem dX7_goesBy_8 : decode cX7_goesBy 8 = .ok (.istore_n 1, 1) := by decide +kernel
theorem dX7_goesBy_9 : decode cX7_goesBy 9 = .ok (.iconst 0, 1) := by decide +kernel
theorem dX7_goesBy_10 : decode cX7_goesBy 10 = .ok (.istore_n 2, 1) := by decide +kernel
theorem dX7_goesBy_11 : decode cX7_goesBy 11 = .ok (.iload_n 2, 1) := by decide +kernel
theorem dX7_goesBy_12 : decode cX7_goesBy 12 = .ok (.aload_n 0, 1) := by decide +kernel
theorem dX7_goesBy_13 : decode cX7_goesBy 13 = .ok (.getfield 13, 3) := by decide +kernel
theorem dX7_goesBy_16 : decode cX7_goesBy 16 = .ok (.if_icmp .ge 15, 3) := by decide +kernel
theorem dX7_goesBy_19 : decode cX7_goesBy 19 = .ok (.aload_n 0, 1) := by decide +kernel
theorem dX7_goesBy_20 : decode cX7_goesBy 20 = .ok (.iload_n 2, 1) := by decide +kernel
theorem dX7_goesBy_21 : decode cX7_goesBy 21 = .ok (.iload_n 1, 1) := by decide +kernel
theorem dX7_goesBy_22 : decode cX7_goesBy 22 = .ok (.invokevirtual 167, 3) := by decide +kernel
theorem dX7_goesBy_25 : decode cX7_goesBy 25 = .ok (.iinc 2 1, 3) := by decide +kernel
theorem dX7_goesBy_28 : decode cX7_goesBy 28 = .ok (.goto (-17), 3) := by decide +kernel
theorem dX7_goesBy_31 : decode cX7_goesBy 31 = .ok (.iconst 0, 1) := by decide +kernel
theorem dX7_goesBy_32 : decode cX7_goesBy 32 = .ok (.istore_n 2, 1) := by decide +kernel
theorem dX7_goesBy_33 : decode cX7_goesBy 33 = .ok (.iload_n 2, 1) := by decide +kernel
theorem dX7_goesBy_34 : decode cX7_goesBy 34 = .ok (.aload_n 0, 1) := by decide +kernel
theorem dX7_goesBy_35 : decode cX7_goesBy 35 = .ok (.getfield 91, 3) := by decide +kernel
theorem dX7_goesBy_38 : decode cX7_goesBy 38 = .ok (.if_icmp .ge 40, 3) := by decide +kernel
theorem dX7_goesBy_41 : decode cX7_goesBy 41 = .ok (.aload_n 0, 1) := by decide +kernel
theorem dX7_goesBy_42 : decode cX7_goesBy 42 = .ok (.getfield 62, 3) := by decide +kernel
theorem dX7_goesBy_45 : decode cX7_goesBy 45 = .ok (.iload_n 2, 1) := by decide +kernel
theorem dX7_goesBy_46 : decode cX7_goesBy 46 = .ok (.dup2, 1) := by decide +kernel
theorem dX7_goesBy_47 : decode cX7_goesBy 47 = .ok (.iaload, 1) := by decide +kernel
theorem dX7_goesBy_48 : decode cX7_goesBy 48 = .ok (.aload_n 0, 1) := by decide +kernel
theorem dX7_goesBy_49 : decode cX7_goesBy 49 = .ok (.getfield 56, 3) := by decide +kernel
theorem dX7_goesBy_52 : decode cX7_goesBy 52 = .ok (.iload_n 2, 1) := by decide +kernel
theorem dX7_goesBy_53 : decode cX7_goesBy 53 = .ok (.iaload, 1) := by decide +kernel
theorem dX7_goesBy_54 : decode cX7_goesBy 54 = .ok (.iconst 1, 1) := by decide +kernel
theorem dX7_goesBy_55 : decode cX7_goesBy 55 = .ok (.if_icmp .ne 7, 3) := by decide +kernel
theorem dX7_goesBy_58 : decode cX7_goesBy 58 = .ok (.iconst 1, 1) := by decide +kernel
theorem dX7_goesBy_59 : decode cX7_goesBy 59 = .ok (.goto 4, 3) := by decide +kernel
theorem dX7_goesBy_62 : decode cX7_goesBy 62 = .ok (.iconst 0, 1) := by decide +kernel
theorem dX7_goesBy_63 : decode cX7_goesBy 63 = .ok (.iadd, 1) := by decide +kernel
theorem dX7_goesBy_64 : decode cX7_goesBy 64 = .ok (.iastore, 1) := by decide +kernel
theorem dX7_goesBy_65 : decode cX7_goesBy 65 = .ok (.aload_n 0, 1) := by decide +kernel
theorem dX7_goesBy_66 : decode cX7_goesBy 66 = .ok (.getfield 71, 3) := by decide +kernel
theorem dX7_goesBy_69 : decode cX7_goesBy 69 = .ok (.iload_n 2, 1) := by decide +kernel
theorem dX7_goesBy_70 : decode cX7_goesBy 70 = .ok (.iconst 0, 1) := by decide +kernel
theorem dX7_goesBy_71 : decode cX7_goesBy 71 = .ok (.bastore, 1) := by decide +kernel
theorem dX7_goesBy_72 : decode cX7_goesBy 72 = .ok (.iinc 2 1, 3) := by decide +kernel
theorem dX7_goesBy_75 : decode cX7_goesBy 75 = .ok (.goto (-42), 3) := by decide +kernel
theorem dX7_goesBy_78 : decode cX7_goesBy 78 = .ok (.aload_n 0, 1) := by decide +kernel
theorem dX7_goesBy_79 : decode cX7_goesBy 79 = .ok (.iconst 1, 1) := by decide +kernel
theorem dX7_goesBy_80 : decode cX7_goesBy 80 = .ok (.invokevirtual 170, 3) := by decide +kernel
theorem dX7_goesBy_83 : decode cX7_goesBy 83 = .ok (.istore_n 2, 1) := by decide +kernel
theorem dX7_goesBy_84 : decode cX7_goesBy 84 = .ok (.iload_n 2, 1) := by decide +kernel
theorem dX7_goesBy_85 : decode cX7_goesBy 85 = .ok (.iconst (-1), 1) := by decide +kernel
theorem dX7_goesBy_86 : decode cX7_goesBy 86 = .ok (.if_icmp .eq 24, 3) := by decide +kernel
theorem dX7_goesBy_89 : decode cX7_goesBy 89 = .ok (.aload_n 0, 1) := by decide +kernel
theorem dX7_goesBy_90 : decode cX7_goesBy 90 = .ok (.getfield 71, 3) := by decide +kernel
theorem dX7_goesBy_93 : decode cX7_goesBy 93 = .ok (.iload_n 2, 1) := by decide +kernel
theorem dX7_goesBy_94 : decode cX7_goesBy 94 = .ok (.iconst 1, 1) := by decide +kernel
theorem dX7_goesBy_95 : decode cX7_goesBy 95 = .ok (.bastore, 1) := by decide +kernel
theorem dX7_goesBy_96 : decode cX7_goesBy 96 = .ok (.aload_n 0, 1) := by decide +kernel
theorem dX7_goesBy_97 : decode cX7_goesBy 97 = .ok (.iload_n 2, 1) := by decide +kernel
theorem dX7_goesBy_98 : decode cX7_goesBy 98 = .ok (.invokevirtual 173, 3) := by decide +kernel
theorem dX7_goesBy_101 : decode cX7_goesBy 101 = .ok (.aload_n 0, 1) := by decide +kernel
theorem dX7_goesBy_102 : decode cX7_goesBy 102 = .ok (.iconst 1, 1) := by decide +kernel
theorem dX7_goesBy_103 : decode cX7_goesBy 103 = .ok (.invokevirtual 170, 3) := by decide +kernel
theorem dX7_goesBy_106 : decode cX7_goesBy 106 = .ok (.istore_n 2, 1) := by decide +kernel
theorem dX7_goesBy_107 : decode cX7_goesBy 107 = .ok (.goto (-23), 3) := by decide +kernel
theorem dX7_goesBy_110 : decode cX7_goesBy 110 = .ok (.aload_n 0, 1) := by decide +kernel
theorem dX7_goesBy_111 : decode cX7_goesBy 111 = .ok (.iconst 0, 1) := by decide +kernel
theorem dX7_goesBy_112 : decode cX7_goesBy 112 = .ok (.invokevirtual 170, 3) := by decide +kernel
theorem dX7_goesBy_115 : decode cX7_goesBy 115 = .ok (.istore_n 2, 1) := by decide +kernel
theorem dX7_goesBy_116 : decode cX7_goesBy 116 = .ok (.iload_n 2, 1) := by decide +kernel
theorem dX7_goesBy_117 : decode cX7_goesBy 117 = .ok (.iconst (-1), 1) := by decide +kernel
theorem dX7_goesBy_118 : decode cX7_goesBy 118 = .ok (.if_icmp .eq 54, 3) := by decide +kernel
theorem dX7_goesBy_121 : decode cX7_goesBy 121 = .ok (.aload_n 0, 1) := by decide +kernel
theorem dX7_goesBy_122 : decode cX7_goesBy 122 = .ok (.getfield 71, 3) := by decide +kernel
theorem dX7_goesBy_125 : decode cX7_goesBy 125 = .ok (.iload_n 2, 1) := by decide +kernel
theorem dX7_goesBy_126 : decode cX7_goesBy 126 = .ok (.iconst 1, 1) := by decide +kernel
theorem dX7_goesBy_127 : decode cX7_goesBy 127 = .ok (.bastore, 1) := by decide +kernel
theorem dX7_goesBy_128 : decode cX7_goesBy 128 = .ok (.aload_n 0, 1) := by decide +kernel
theorem dX7_goesBy_129 : decode cX7_goesBy 129 = .ok (.getfield 53, 3) := by decide +kernel
theorem dX7_goesBy_132 : decode cX7_goesBy 132 = .ok (.iload_n 2, 1) := by decide +kernel
theorem dX7_goesBy_133 : decode cX7_goesBy 133 = .ok (.iaload, 1) := by decide +kernel
theorem dX7_goesBy_134 : decode cX7_goesBy 134 = .ok (.ifCond .ne 7, 3) := by decide +kernel
theorem dX7_goesBy_137 : decode cX7_goesBy 137 = .ok (.iconst 0, 1) := by decide +kernel
theorem dX7_goesBy_138 : decode cX7_goesBy 138 = .ok (.goto 9, 3) := by decide +kernel
theorem dX7_goesBy_141 : decode cX7_goesBy 141 = .ok (.aload_n 0, 1) := by decide +kernel
theorem dX7_goesBy_142 : decode cX7_goesBy 142 = .ok (.getfield 13, 3) := by decide +kernel
theorem dX7_goesBy_145 : decode cX7_goesBy 145 = .ok (.iconst 1, 1) := by decide +kernel
theorem dX7_goesBy_146 : decode cX7_goesBy 146 = .ok (.isub, 1) := by decide +kernel
theorem dX7_goesBy_147 : decode cX7_goesBy 147 = .ok (.istore_n 3, 1) := by decide +kernel
theorem dX7_goesBy_148 : decode cX7_goesBy 148 = .ok (.aload_n 0, 1) := by decide +kernel
theorem dX7_goesBy_149 : decode cX7_goesBy 149 = .ok (.iload_n 2, 1) := by decide +kernel
theorem dX7_goesBy_150 : decode cX7_goesBy 150 = .ok (.iload_n 3, 1) := by decide +kernel
theorem dX7_goesBy_151 : decode cX7_goesBy 151 = .ok (.invokevirtual 161, 3) := by decide +kernel
theorem dX7_goesBy_154 : decode cX7_goesBy 154 = .ok (.ifCond .eq 9, 3) := by decide +kernel
theorem dX7_goesBy_157 : decode cX7_goesBy 157 = .ok (.aload_n 0, 1) := by decide +kernel
theorem dX7_goesBy_158 : decode cX7_goesBy 158 = .ok (.iload_n 2, 1) := by decide +kernel
theorem dX7_goesBy_159 : decode cX7_goesBy 159 = .ok (.iload_n 3, 1) := by decide +kernel
theorem dX7_goesBy_160 : decode cX7_goesBy 160 = .ok (.invokevirtual 164, 3) := by decide +kernel
theorem dX7_goesBy_163 : decode cX7_goesBy 163 = .ok (.aload_n 0, 1) := by decide +kernel
theorem dX7_goesBy_164 : decode cX7_goesBy 164 = .ok (.iconst 0, 1) := by decide +kernel
theorem dX7_goesBy_165 : decode cX7_goesBy 165 = .ok (.invokevirtual 170, 3) := by decide +kernel
theorem dX7_goesBy_168 : decode cX7_goesBy 168 = .ok (.istore_n 2, 1) := by decide +kernel
theorem dX7_goesBy_169 : decode cX7_goesBy 169 = .ok (.goto (-53), 3) := by decide +kernel
theorem dX7_goesBy_172 : decode cX7_goesBy 172 = .ok (.aload_n 0, 1) := by decide +kernel
theorem dX7_goesBy_173 : decode cX7_goesBy 173 = .ok (.dup, 1) := by decide +kernel
theorem dX7_goesBy_174 : decode cX7_goesBy 174 = .ok (.getfield 132, 3) := by decide +kernel
theorem dX7_goesBy_177 : decode cX7_goesBy 177 = .ok (.iconst 1, 1) := by decide +kernel
theorem dX7_goesBy_178 : decode cX7_goesBy 178 = .ok (.iadd, 1) := by decide +kernel
theorem dX7_goesBy_179 : decode cX7_goesBy 179 = .ok (.putfield 132, 3) := by decide +kernel
theorem dX7_goesBy_182 : decode cX7_goesBy 182 = .ok (.return_, 1) := by decide +kernel
theorem dX7_run_0 : decode cX7_run 0 = .ok (.iload_n 1, 1) := by decide +kernel
theorem dX7_run_1 : decode cX7_run 1 = .ok (.ifCond .ge 10, 3) := by decide +kernel
theorem dX7_run_4 : decode cX7_run 4 = .ok (.aload_n 0, 1) := by decide +kernel
theorem dX7_run_5 : decode cX7_run 5 = .ok (.bipush (-4), 2) := by decide +kernel
theorem dX7_run_7 : decode cX7_run 7 = .ok (.invokevirtual 94, 3) := by decide +kernel
theorem dX7_run_10 : decode cX7_run 10 = .ok (.ireturn, 1) := by decide +kernel
theorem dX7_run_11 : decode cX7_run 11 = .ok (.iload_n 1, 1) := by decide +kernel
theorem dX7_run_12 : decode cX7_run 12 = .ok (.iconst 1, 1) := by decide +kernel
theorem dX7_run_13 : decode cX7_run 13 = .ok (.sipush 200, 3) := by decide +kernel
theorem dX7_run_16 : decode cX7_run 16 = .ok (.invokestatic 87, 3) := by decide +kernel
theorem dX7_run_19 : decode cX7_run 19 = .ok (.ifCond .ne 10, 3) := by decide +kernel
theorem dX7_run_22 : decode cX7_run 22 = .ok (.aload_n 0, 1) := by decide +kernel
theorem dX7_run_23 : decode cX7_run 23 = .ok (.bipush (-7), 2) := by decide +kernel
theorem dX7_run_25 : decode cX7_run 25 = .ok (.invokevirtual 94, 3) := by decide +kernel
theorem dX7_run_28 : decode cX7_run 28 = .ok (.ireturn, 1) := by decide +kernel
theorem dX7_run_29 : decode cX7_run 29 = .ok (.aload_n 0, 1) := by decide +kernel
theorem dX7_run_30 : decode cX7_run 30 = .ok (.iconst 2, 1) := by decide +kernel
theorem dX7_run_31 : decode cX7_run 31 = .ok (.invokevirtual 151, 3) := by decide +kernel
theorem dX7_run_34 : decode cX7_run 34 = .ok (.istore_n 2, 1) := by decide +kernel
theorem dX7_run_35 : decode cX7_run 35 = .ok (.iconst 0, 1) := by decide +kernel
theorem dX7_run_36 : decode cX7_run 36 = .ok (.istore_n 3, 1) := by decide +kernel
theorem dX7_run_37 : decode cX7_run 37 = .ok (.iload_n 3, 1) := by decide +kernel
theorem dX7_run_38 : decode cX7_run 38 = .ok (.iload_n 1, 1) := by decide +kernel
theorem dX7_run_39 : decode cX7_run 39 = .ok (.if_icmp .ge 13, 3) := by decide +kernel
theorem dX7_run_42 : decode cX7_run 42 = .ok (.aload_n 0, 1) := by decide +kernel
theorem dX7_run_43 : decode cX7_run 43 = .ok (.invokevirtual 176, 3) := by decide +kernel
theorem dX7_run_46 : decode cX7_run 46 = .ok (.iinc 3 1, 3) := by decide +kernel
theorem dX7_run_49 : decode cX7_run 49 = .ok (.goto (-12), 3) := by decide +kernel
theorem dX7_run_52 : decode cX7_run 52 = .ok (.aload_n 0, 1) := by decide +kernel
theorem dX7_run_53 : decode cX7_run 53 = .ok (.iconst 2, 1) := by decide +kernel
theorem dX7_run_54 : decode cX7_run 54 = .ok (.invokevirtual 151, 3) := by decide +kernel
theorem dX7_run_57 : decode cX7_run 57 = .ok (.iload_n 2, 1) := by decide +kernel
theorem dX7_run_58 : decode cX7_run 58 = .ok (.isub, 1) := by decide +kernel
theorem dX7_run_59 : decode cX7_run 59 = .ok (.ireturn, 1) := by decide +kernel
theorem dX7_allBear_0 : decode cX7_allBear 0 = .ok (.iconst 0, 1) := by decide +kernel
theorem dX7_allBear_1 : decode cX7_allBear 1 = .ok (.istore_n 2, 1) := by decide +kernel
theorem dX7_allBear_2 : decode cX7_allBear 2 = .ok (.iload_n 2, 1) := by decide +kernel
theorem dX7_allBear_3 : decode cX7_allBear 3 = .ok (.aload_n 0, 1) := by decide +kernel
theorem dX7_allBear_4 : decode cX7_allBear 4 = .ok (.getfield 13, 3) := by decide +kernel
theorem dX7_allBear_7 : decode cX7_allBear 7 = .ok (.if_icmp .ge 20, 3) := by decide +kernel
theorem dX7_allBear_10 : decode cX7_allBear 10 = .ok (.aload_n 0, 1) := by decide +kernel
theorem dX7_allBear_11 : decode cX7_allBear 11 = .ok (.iload_n 2, 1) := by decide +kernel
theorem dX7_allBear_12 : decode cX7_allBear 12 = .ok (.iload_n 1, 1) := by decide +kernel
theorem dX7_allBear_13 : decode cX7_allBear 13 = .ok (.invokevirtual 115, 3) := by decide +kernel
theorem dX7_allBear_16 : decode cX7_allBear 16 = .ok (.ifCond .ne 5, 3) := by decide +kernel
theorem dX7_allBear_19 : decode cX7_allBear 19 = .ok (.iconst 0, 1) := by decide +kernel
theorem dX7_allBear_20 : decode cX7_allBear 20 = .ok (.ireturn, 1) := by decide +kernel
theorem dX7_allBear_21 : decode cX7_allBear 21 = .ok (.iinc 2 1, 3) := by decide +kernel
theorem dX7_allBear_24 : decode cX7_allBear 24 = .ok (.goto (-22), 3) := by decide +kernel
theorem dX7_allBear_27 : decode cX7_allBear 27 = .ok (.iconst 1, 1) := by decide +kernel
theorem dX7_allBear_28 : decode cX7_allBear 28 = .ok (.ireturn, 1) := by decide +kernel
theorem dX7_thaw_0 : decode cX7_thaw 0 = .ok (.iload_n 1, 1) := by decide +kernel
theorem dX7_thaw_1 : decode cX7_thaw 1 = .ok (.iconst 1, 1) := by decide +kernel
theorem dX7_thaw_2 : decode cX7_thaw 2 = .ok (.bipush 99, 2) := by decide +kernel
theorem dX7_thaw_4 : decode cX7_thaw 4 = .ok (.invokestatic 87, 3) := by decide +kernel
theorem dX7_thaw_7 : decode cX7_thaw 7 = .ok (.ifCond .eq 16, 3) := by decide +kernel
theorem dX7_thaw_10 : decode cX7_thaw 10 = .ok (.iload_n 2, 1) := by decide +kernel
theorem dX7_thaw_11 : decode cX7_thaw 11 = .ok (.sipush (-600), 3) := by decide +kernel
theorem dX7_thaw_14 : decode cX7_thaw 14 = .ok (.sipush 300, 3) := by decide +kernel
theorem dX7_thaw_17 : decode cX7_thaw 17 = .ok (.invokestatic 87, 3) := by decide +kernel
theorem dX7_thaw_20 : decode cX7_thaw 20 = .ok (.ifCond .ne 10, 3) := by decide +kernel
theorem dX7_thaw_23 : decode cX7_thaw 23 = .ok (.aload_n 0, 1) := by decide +kernel
theorem dX7_thaw_24 : decode cX7_thaw 24 = .ok (.bipush (-7), 2) := by decide +kernel
theorem dX7_thaw_26 : decode cX7_thaw 26 = .ok (.invokevirtual 94, 3) := by decide +kernel
theorem dX7_thaw_29 : decode cX7_thaw 29 = .ok (.ireturn, 1) := by decide +kernel
theorem dX7_thaw_30 : decode cX7_thaw 30 = .ok (.iconst 0, 1) := by decide +kernel
theorem dX7_thaw_31 : decode cX7_thaw 31 = .ok (.istore_n 3, 1) := by decide +kernel
theorem dX7_thaw_32 : decode cX7_thaw 32 = .ok (.iload_n 3, 1) := by decide +kernel
theorem dX7_thaw_33 : decode cX7_thaw 33 = .ok (.bipush 10, 2) := by decide +kernel
theorem dX7_thaw_35 : decode cX7_thaw 35 = .ok (.if_icmp .ge 87, 3) := by decide +kernel
theorem dX7_thaw_38 : decode cX7_thaw 38 = .ok (.aload_n 0, 1) := by decide +kernel
theorem dX7_thaw_39 : decode cX7_thaw 39 = .ok (.getfield 75, 3) := by decide +kernel
theorem dX7_thaw_42 : decode cX7_thaw 42 = .ok (.iconst 5, 1) := by decide +kernel
theorem dX7_thaw_43 : decode cX7_thaw 43 = .ok (.iload_n 3, 1) := by decide +kernel
theorem dX7_thaw_44 : decode cX7_thaw 44 = .ok (.imul, 1) := by decide +kernel
theorem dX7_thaw_45 : decode cX7_thaw 45 = .ok (.aload_n 0, 1) := by decide +kernel
theorem dX7_thaw_46 : decode cX7_thaw 46 = .ok (.getfield 17, 3) := by decide +kernel
theorem dX7_thaw_49 : decode cX7_thaw 49 = .ok (.iload_n 3, 1) := by decide +kernel
theorem dX7_thaw_50 : decode cX7_thaw 50 = .ok (.iaload, 1) := by decide +kernel
theorem dX7_thaw_51 : decode cX7_thaw 51 = .ok (.iastore, 1) := by decide +kernel
theorem dX7_thaw_52 : decode cX7_thaw 52 = .ok (.aload_n 0, 1) := by decide +kernel
theorem dX7_thaw_53 : decode cX7_thaw 53 = .ok (.getfield 75, 3) := by decide +kernel
theorem dX7_thaw_56 : decode cX7_thaw 56 = .ok (.iconst 5, 1) := by decide +kernel
theorem dX7_thaw_57 : decode cX7_thaw 57 = .ok (.iload_n 3, 1) := by decide +kernel
theorem dX7_thaw_58 : decode cX7_thaw 58 = .ok (.imul, 1) := by decide +kernel
theorem dX7_thaw_59 : decode cX7_thaw 59 = .ok (.iconst 1, 1) := by decide +kernel
theorem dX7_thaw_60 : decode cX7_thaw 60 = .ok (.iadd, 1) := by decide +kernel
theorem dX7_thaw_61 : decode cX7_thaw 61 = .ok (.aload_n 0, 1) := by decide +kernel
theorem dX7_thaw_62 : decode cX7_thaw 62 = .ok (.getfield 20, 3) := by decide +kernel
theorem dX7_thaw_65 : decode cX7_thaw 65 = .ok (.iload_n 3, 1) := by decide +kernel
theorem dX7_thaw_66 : decode cX7_thaw 66 = .ok (.iaload, 1) := by decide +kernel
theorem dX7_thaw_67 : decode cX7_thaw 67 = .ok (.iastore, 1) := by decide +kernel
theorem dX7_thaw_68 : decode cX7_thaw 68 = .ok (.aload_n 0, 1) := by decide +kernel
theorem dX7_thaw_69 : decode cX7_thaw 69 = .ok (.getfield 75, 3) := by decide +kernel
theorem dX7_thaw_72 : decode cX7_thaw 72 = .ok (.iconst 5, 1) := by decide +kernel
theorem dX7_thaw_73 : decode cX7_thaw 73 = .ok (.iload_n 3, 1) := by decide +kernel
theorem dX7_thaw_74 : decode cX7_thaw 74 = .ok (.imul, 1) := by decide +kernel
theorem dX7_thaw_75 : decode cX7_thaw 75 = .ok (.iconst 2, 1) := by decide +kernel
theorem dX7_thaw_76 : decode cX7_thaw 76 = .ok (.iadd, 1) := by decide +kernel
theorem dX7_thaw_77 : decode cX7_thaw 77 = .ok (.aload_n 0, 1) := by decide +kernel
theorem dX7_thaw_78 : decode cX7_thaw 78 = .ok (.getfield 32, 3) := by decide +kernel
theorem dX7_thaw_81 : decode cX7_thaw 81 = .ok (.iload_n 3, 1) := by decide +kernel
theorem dX7_thaw_82 : decode cX7_thaw 82 = .ok (.iaload, 1) := by decide +kernel
theorem dX7_thaw_83 : decode cX7_thaw 83 = .ok (.iastore, 1) := by decide +kernel
theorem dX7_thaw_84 : decode cX7_thaw 84 = .ok (.aload_n 0, 1) := by decide +kernel
theorem dX7_thaw_85 : decode cX7_thaw 85 = .ok (.getfield 75, 3) := by decide +kernel
theorem dX7_thaw_88 : decode cX7_thaw 88 = .ok (.iconst 5, 1) := by decide +kernel
theorem dX7_thaw_89 : decode cX7_thaw 89 = .ok (.iload_n 3, 1) := by decide +kernel
theorem dX7_thaw_90 : decode cX7_thaw 90 = .ok (.imul, 1) := by decide +kernel
theorem dX7_thaw_91 : decode cX7_thaw 91 = .ok (.iconst 3, 1) := by decide +kernel
theorem dX7_thaw_92 : decode cX7_thaw 92 = .ok (.iadd, 1) := by decide +kernel
theorem dX7_thaw_93 : decode cX7_thaw 93 = .ok (.aload_n 0, 1) := by decide +kernel
theorem dX7_thaw_94 : decode cX7_thaw 94 = .ok (.getfield 35, 3) := by decide +kernel
theorem dX7_thaw_97 : decode cX7_thaw 97 = .ok (.iload_n 3, 1) := by decide +kernel
theorem dX7_thaw_98 : decode cX7_thaw 98 = .ok (.iaload, 1) := by decide +kernel
theorem dX7_thaw_99 : decode cX7_thaw 99 = .ok (.iastore, 1) := by decide +kernel
theorem dX7_thaw_100 : decode cX7_thaw 100 = .ok (.aload_n 0, 1) := by decide +kernel
theorem dX7_thaw_101 : decode cX7_thaw 101 = .ok (.getfield 75, 3) := by decide +kernel
theorem dX7_thaw_104 : decode cX7_thaw 104 = .ok (.iconst 5, 1) := by decide +kernel
theorem dX7_thaw_105 : decode cX7_thaw 105 = .ok (.iload_n 3, 1) := by decide +kernel
theorem dX7_thaw_106 : decode cX7_thaw 106 = .ok (.imul, 1) := by decide +kernel
theorem dX7_thaw_107 : decode cX7_thaw 107 = .ok (.iconst 4, 1) := by decide +kernel
theorem dX7_thaw_108 : decode cX7_thaw 108 = .ok (.iadd, 1) := by decide +kernel
theorem dX7_thaw_109 : decode cX7_thaw 109 = .ok (.aload_n 0, 1) := by decide +kernel
theorem dX7_thaw_110 : decode cX7_thaw 110 = .ok (.getfield 38, 3) := by decide +kernel
theorem dX7_thaw_113 : decode cX7_thaw 113 = .ok (.iload_n 3, 1) := by decide +kernel
theorem dX7_thaw_114 : decode cX7_thaw 114 = .ok (.iaload, 1) := by decide +kernel
theorem dX7_thaw_115 : decode cX7_thaw 115 = .ok (.iastore, 1) := by decide +kernel
theorem dX7_thaw_116 : decode cX7_thaw 116 = .ok (.iinc 3 1, 3) := by decide +kernel
theorem dX7_thaw_119 : decode cX7_thaw 119 = .ok (.goto (-87), 3) := by decide +kernel
theorem dX7_thaw_122 : decode cX7_thaw 122 = .ok (.iconst 0, 1) := by decide +kernel
theorem dX7_thaw_123 : decode cX7_thaw 123 = .ok (.istore_n 3, 1) := by decide +kernel
theorem dX7_thaw_124 : decode cX7_thaw 124 = .ok (.aload_n 0, 1) := by decide +kernel
theorem dX7_thaw_125 : decode cX7_thaw 125 = .ok (.iload_n 1, 1) := by decide +kernel
theorem dX7_thaw_126 : decode cX7_thaw 126 = .ok (.invokevirtual 179, 3) := by decide +kernel
theorem dX7_thaw_129 : decode cX7_thaw 129 = .ok (.istore 4, 2) := by decide +kernel
theorem dX7_thaw_131 : decode cX7_thaw 131 = .ok (.iload 4, 2) := by decide +kernel
theorem dX7_thaw_133 : decode cX7_thaw 133 = .ok (.ifCond .eq 58, 3) := by decide +kernel
theorem dX7_thaw_136 : decode cX7_thaw 136 = .ok (.iload_n 3, 1) := by decide +kernel
theorem dX7_thaw_137 : decode cX7_thaw 137 = .ok (.sipush 500, 3) := by decide +kernel
theorem dX7_thaw_140 : decode cX7_thaw 140 = .ok (.if_icmp .ge 51, 3) := by decide +kernel
theorem dX7_thaw_143 : decode cX7_thaw 143 = .ok (.iconst 0, 1) := by decide +kernel
theorem dX7_thaw_144 : decode cX7_thaw 144 = .ok (.istore 5, 2) := by decide +kernel
theorem dX7_thaw_146 : decode cX7_thaw 146 = .ok (.iload 5, 2) := by decide +kernel
theorem dX7_thaw_148 : decode cX7_thaw 148 = .ok (.aload_n 0, 1) := by decide +kernel
theorem dX7_thaw_149 : decode cX7_thaw 149 = .ok (.getfield 13, 3) := by decide +kernel
theorem dX7_thaw_152 : decode cX7_thaw 152 = .ok (.if_icmp .ge 16, 3) := by decide +kernel
theorem dX7_thaw_155 : decode cX7_thaw 155 = .ok (.aload_n 0, 1) := by decide +kernel
theorem dX7_thaw_156 : decode cX7_thaw 156 = .ok (.iload 5, 2) := by decide +kernel
theorem dX7_thaw_158 : decode cX7_thaw 158 = .ok (.iload_n 2, 1) := by decide +kernel
theorem dX7_thaw_159 : decode cX7_thaw 159 = .ok (.invokevirtual 167, 3) := by decide +kernel
theorem dX7_thaw_162 : decode cX7_thaw 162 = .ok (.iinc 5 1, 3) := by decide +kernel
theorem dX7_thaw_165 : decode cX7_thaw 165 = .ok (.goto (-19), 3) := by decide +kernel
theorem dX7_thaw_168 : decode cX7_thaw 168 = .ok (.aload_n 0, 1) := by decide +kernel
theorem dX7_thaw_169 : decode cX7_thaw 169 = .ok (.iload_n 1, 1) := by decide +kernel
theorem dX7_thaw_170 : decode cX7_thaw 170 = .ok (.invokevirtual 179, 3) := by decide +kernel
theorem dX7_thaw_173 : decode cX7_thaw 173 = .ok (.istore 4, 2) := by decide +kernel
theorem dX7_thaw_175 : decode cX7_thaw 175 = .ok (.iload_n 3, 1) := by decide +kernel
theorem dX7_thaw_176 : decode cX7_thaw 176 = .ok (.iload 4, 2) := by decide +kernel
theorem dX7_thaw_178 : decode cX7_thaw 178 = .ok (.ifCond .eq 7, 3) := by decide +kernel
theorem dX7_thaw_181 : decode cX7_thaw 181 = .ok (.iconst 1, 1) := by decide +kernel
theorem dX7_thaw_182 : decode cX7_thaw 182 = .ok (.goto 4, 3) := by decide +kernel
theorem dX7_thaw_185 : decode cX7_thaw 185 = .ok (.iconst 0, 1) := by decide +kernel
theorem dX7_thaw_186 : decode cX7_thaw 186 = .ok (.iadd, 1) := by decide +kernel
theorem dX7_thaw_187 : decode cX7_thaw 187 = .ok (.istore_n 3, 1) := by decide +kernel
theorem dX7_thaw_188 : decode cX7_thaw 188 = .ok (.goto (-57), 3) := by decide +kernel
theorem dX7_thaw_191 : decode cX7_thaw 191 = .ok (.iconst 0, 1) := by decide +kernel
theorem dX7_thaw_192 : decode cX7_thaw 192 = .ok (.istore 5, 2) := by decide +kernel
theorem dX7_thaw_194 : decode cX7_thaw 194 = .ok (.iload 5, 2) := by decide +kernel
theorem dX7_thaw_196 : decode cX7_thaw 196 = .ok (.bipush 10, 2) := by decide +kernel
theorem dX7_thaw_198 : decode cX7_thaw 198 = .ok (.if_icmp .ge 97, 3) := by decide +kernel
theorem dX7_thaw_201 : decode cX7_thaw 201 = .ok (.aload_n 0, 1) := by decide +kernel
theorem dX7_thaw_202 : decode cX7_thaw 202 = .ok (.getfield 17, 3) := by decide +kernel
theorem dX7_thaw_205 : decode cX7_thaw 205 = .ok (.iload 5, 2) := by decide +kernel
theorem dX7_thaw_207 : decode cX7_thaw 207 = .ok (.aload_n 0, 1) := by decide +kernel
theorem dX7_thaw_208 : decode cX7_thaw 208 = .ok (.getfield 75, 3) := by decide +kernel
theorem dX7_thaw_211 : decode cX7_thaw 211 = .ok (.iconst 5, 1) := by decide +kernel
theorem dX7_thaw_212 : decode cX7_thaw 212 = .ok (.iload 5, 2) := by decide +kernel
theorem dX7_thaw_214 : decode cX7_thaw 214 = .ok (.imul, 1) := by decide +kernel
theorem dX7_thaw_215 : decode cX7_thaw 215 = .ok (.iaload, 1) := by decide +kernel
theorem dX7_thaw_216 : decode cX7_thaw 216 = .ok (.iastore, 1) := by decide +kernel
theorem dX7_thaw_217 : decode cX7_thaw 217 = .ok (.aload_n 0, 1) := by decide +kernel
theorem dX7_thaw_218 : decode cX7_thaw 218 = .ok (.getfield 20, 3) := by decide +kernel
theorem dX7_thaw_221 : decode cX7_thaw 221 = .ok (.iload 5, 2) := by decide +kernel
theorem dX7_thaw_223 : decode cX7_thaw 223 = .ok (.aload_n 0, 1) := by decide +kernel
theorem dX7_thaw_224 : decode cX7_thaw 224 = .ok (.getfield 75, 3) := by decide +kernel
theorem dX7_thaw_227 : decode cX7_thaw 227 = .ok (.iconst 5, 1) := by decide +kernel
theorem dX7_thaw_228 : decode cX7_thaw 228 = .ok (.iload 5, 2) := by decide +kernel
theorem dX7_thaw_230 : decode cX7_thaw 230 = .ok (.imul, 1) := by decide +kernel
theorem dX7_thaw_231 : decode cX7_thaw 231 = .ok (.iconst 1, 1) := by decide +kernel
theorem dX7_thaw_232 : decode cX7_thaw 232 = .ok (.iadd, 1) := by decide +kernel
theorem dX7_thaw_233 : decode cX7_thaw 233 = .ok (.iaload, 1) := by decide +kernel
theorem dX7_thaw_234 : decode cX7_thaw 234 = .ok (.iastore, 1) := by decide +kernel
theorem dX7_thaw_235 : decode cX7_thaw 235 = .ok (.aload_n 0, 1) := by decide +kernel
theorem dX7_thaw_236 : decode cX7_thaw 236 = .ok (.getfield 32, 3) := by decide +kernel
theorem dX7_thaw_239 : decode cX7_thaw 239 = .ok (.iload 5, 2) := by decide +kernel
theorem dX7_thaw_241 : decode cX7_thaw 241 = .ok (.aload_n 0, 1) := by decide +kernel
theorem dX7_thaw_242 : decode cX7_thaw 242 = .ok (.getfield 75, 3) := by decide +kernel
theorem dX7_thaw_245 : decode cX7_thaw 245 = .ok (.iconst 5, 1) := by decide +kernel
theorem dX7_thaw_246 : decode cX7_thaw 246 = .ok (.iload 5, 2) := by decide +kernel
theorem dX7_thaw_248 : decode cX7_thaw 248 = .ok (.imul, 1) := by decide +kernel
theorem dX7_thaw_249 : decode cX7_thaw 249 = .ok (.iconst 2, 1) := by decide +kernel
theorem dX7_thaw_250 : decode cX7_thaw 250 = .ok (.iadd, 1) := by decide +kernel
theorem dX7_thaw_251 : decode cX7_thaw 251 = .ok (.iaload, 1) := by decide +kernel
theorem dX7_thaw_252 : decode cX7_thaw 252 = .ok (.iastore, 1) := by decide +kernel
theorem dX7_thaw_253 : decode cX7_thaw 253 = .ok (.aload_n 0, 1) := by decide +kernel
theorem dX7_thaw_254 : decode cX7_thaw 254 = .ok (.getfield 35, 3) := by decide +kernel
theorem dX7_thaw_257 : decode cX7_thaw 257 = .ok (.iload 5, 2) := by decide +kernel
theorem dX7_thaw_259 : decode cX7_thaw 259 = .ok (.aload_n 0, 1) := by decide +kernel
theorem dX7_thaw_260 : decode cX7_thaw 260 = .ok (.getfield 75, 3) := by decide +kernel
theorem dX7_thaw_263 : decode cX7_thaw 263 = .ok (.iconst 5, 1) := by decide +kernel
theorem dX7_thaw_264 : decode cX7_thaw 264 = .ok (.iload 5, 2) := by decide +kernel
theorem dX7_thaw_266 : decode cX7_thaw 266 = .ok (.imul, 1) := by decide +kernel
theorem dX7_thaw_267 : decode cX7_thaw 267 = .ok (.iconst 3, 1) := by decide +kernel
theorem dX7_thaw_268 : decode cX7_thaw 268 = .ok (.iadd, 1) := by decide +kernel
theorem dX7_thaw_269 : decode cX7_thaw 269 = .ok (.iaload, 1) := by decide +kernel
theorem dX7_thaw_270 : decode cX7_thaw 270 = .ok (.iastore, 1) := by decide +kernel
theorem dX7_thaw_271 : decode cX7_thaw 271 = .ok (.aload_n 0, 1) := by decide +kernel
theorem dX7_thaw_272 : decode cX7_thaw 272 = .ok (.getfield 38, 3) := by decide +kernel
theorem dX7_thaw_275 : decode cX7_thaw 275 = .ok (.iload 5, 2) := by decide +kernel
theorem dX7_thaw_277 : decode cX7_thaw 277 = .ok (.aload_n 0, 1) := by decide +kernel
theorem dX7_thaw_278 : decode cX7_thaw 278 = .ok (.getfield 75, 3) := by decide +kernel
theorem dX7_thaw_281 : decode cX7_thaw 281 = .ok (.iconst 5, 1) := by decide +kernel
theorem dX7_thaw_282 : decode cX7_thaw 282 = .ok (.iload 5, 2) := by decide +kernel
theorem dX7_thaw_284 : decode cX7_thaw 284 = .ok (.imul, 1) := by decide +kernel
theorem dX7_thaw_285 : decode cX7_thaw 285 = .ok (.iconst 4, 1) := by decide +kernel
theorem dX7_thaw_286 : decode cX7_thaw 286 = .ok (.iadd, 1) := by decide +kernel
theorem dX7_thaw_287 : decode cX7_thaw 287 = .ok (.iaload, 1) := by decide +kernel
theorem dX7_thaw_288 : decode cX7_thaw 288 = .ok (.iastore, 1) := by decide +kernel
theorem dX7_thaw_289 : decode cX7_thaw 289 = .ok (.iinc 5 1, 3) := by decide +kernel
theorem dX7_thaw_292 : decode cX7_thaw 292 = .ok (.goto (-98), 3) := by decide +kernel
theorem dX7_thaw_295 : decode cX7_thaw 295 = .ok (.iload_n 3, 1) := by decide +kernel
theorem dX7_thaw_296 : decode cX7_thaw 296 = .ok (.ireturn, 1) := by decide +kernel
theorem dX7_feed_0 : decode cX7_feed 0 = .ok (.iload_n 2, 1) := by decide +kernel
theorem dX7_feed_1 : decode cX7_feed 1 = .ok (.ifCond .ge 10, 3) := by decide +kernel
theorem dX7_feed_4 : decode cX7_feed 4 = .ok (.aload_n 0, 1) := by decide +kernel
theorem dX7_feed_5 : decode cX7_feed 5 = .ok (.bipush (-4), 2) := by decide +kernel
theorem dX7_feed_7 : decode cX7_feed 7 = .ok (.invokevirtual 94, 3) := by decide +kernel
theorem dX7_feed_10 : decode cX7_feed 10 = .ok (.ireturn, 1) := by decide +kernel
theorem dX7_feed_11 : decode cX7_feed 11 = .ok (.iload_n 2, 1) := by decide +kernel
theorem dX7_feed_12 : decode cX7_feed 12 = .ok (.iconst 4, 1) := by decide +kernel
theorem dX7_feed_13 : decode cX7_feed 13 = .ok (.if_icmp .le 10, 3) := by decide +kernel
theorem dX7_feed_16 : decode cX7_feed 16 = .ok (.aload_n 0, 1) := by decide +kernel
theorem dX7_feed_17 : decode cX7_feed 17 = .ok (.bipush (-7), 2) := by decide +kernel
theorem dX7_feed_19 : decode cX7_feed 19 = .ok (.invokevirtual 94, 3) := by decide +kernel
theorem dX7_feed_22 : decode cX7_feed 22 = .ok (.ireturn, 1) := by decide +kernel
theorem dX7_feed_23 : decode cX7_feed 23 = .ok (.aload_n 0, 1) := by decide +kernel
theorem dX7_feed_24 : decode cX7_feed 24 = .ok (.getfield 182, 3) := by decide +kernel
theorem dX7_feed_27 : decode cX7_feed 27 = .ok (.iload_n 2, 1) := by decide +kernel
theorem dX7_feed_28 : decode cX7_feed 28 = .ok (.iadd, 1) := by decide +kernel
theorem dX7_feed_29 : decode cX7_feed 29 = .ok (.bipush 80, 2) := by decide +kernel
theorem dX7_feed_31 : decode cX7_feed 31 = .ok (.if_icmp .le 10, 3) := by decide +kernel
theorem dX7_feed_34 : decode cX7_feed 34 = .ok (.aload_n 0, 1) := by decide +kernel
theorem dX7_feed_35 : decode cX7_feed 35 = .ok (.bipush (-8), 2) := by decide +kernel
theorem dX7_feed_37 : decode cX7_feed 37 = .ok (.invokevirtual 94, 3) := by decide +kernel
theorem dX7_feed_40 : decode cX7_feed 40 = .ok (.ireturn, 1) := by decide +kernel
theorem dX7_feed_41 : decode cX7_feed 41 = .ok (.iload_n 2, 1) := by decide +kernel
theorem dX7_feed_42 : decode cX7_feed 42 = .ok (.iconst 1, 1) := by decide +kernel
theorem dX7_feed_43 : decode cX7_feed 43 = .ok (.isub, 1) := by decide +kernel
theorem dX7_feed_44 : decode cX7_feed 44 = .ok (.istore_n 3, 1) := by decide +kernel
theorem dX7_feed_45 : decode cX7_feed 45 = .ok (.iload_n 3, 1) := by decide +kernel
theorem dX7_feed_46 : decode cX7_feed 46 = .ok (.ifCond .lt 38, 3) := by decide +kernel
theorem dX7_feed_49 : decode cX7_feed 49 = .ok (.aload_n 0, 1) := by decide +kernel
theorem dX7_feed_50 : decode cX7_feed 50 = .ok (.getfield 78, 3) := by decide +kernel
theorem dX7_feed_53 : decode cX7_feed 53 = .ok (.aload_n 0, 1) := by decide +kernel
theorem dX7_feed_54 : decode cX7_feed 54 = .ok (.getfield 182, 3) := by decide +kernel
theorem dX7_feed_57 : decode cX7_feed 57 = .ok (.iload_n 1, 1) := by decide +kernel
theorem dX7_feed_58 : decode cX7_feed 58 = .ok (.bipush 8, 2) := by decide +kernel
theorem dX7_feed_60 : decode cX7_feed 60 = .ok (.iload_n 3, 1) := by decide +kernel
theorem dX7_feed_61 : decode cX7_feed 61 = .ok (.imul, 1) := by decide +kernel
theorem dX7_feed_62 : decode cX7_feed 62 = .ok (.ishr, 1) := by decide +kernel
theorem dX7_feed_63 : decode cX7_feed 63 = .ok (.sipush 255, 3) := by decide +kernel
theorem dX7_feed_66 : decode cX7_feed 66 = .ok (.iand, 1) := by decide +kernel
theorem dX7_feed_67 : decode cX7_feed 67 = .ok (.iastore, 1) := by decide +kernel
theorem dX7_feed_68 : decode cX7_feed 68 = .ok (.aload_n 0, 1) := by decide +kernel
theorem dX7_feed_69 : decode cX7_feed 69 = .ok (.dup, 1) := by decide +kernel
theorem dX7_feed_70 : decode cX7_feed 70 = .ok (.getfield 182, 3) := by decide +kernel
theorem dX7_feed_73 : decode cX7_feed 73 = .ok (.iconst 1, 1) := by decide +kernel
theorem dX7_feed_74 : decode cX7_feed 74 = .ok (.iadd, 1) := by decide +kernel
theorem dX7_feed_75 : decode cX7_feed 75 = .ok (.putfield 182, 3) := by decide +kernel
theorem dX7_feed_78 : decode cX7_feed 78 = .ok (.iinc 3 (-1), 3) := by decide +kernel
theorem dX7_feed_81 : decode cX7_feed 81 = .ok (.goto (-36), 3) := by decide +kernel
theorem dX7_feed_84 : decode cX7_feed 84 = .ok (.aload_n 0, 1) := by decide +kernel
theorem dX7_feed_85 : decode cX7_feed 85 = .ok (.getfield 182, 3) := by decide +kernel
theorem dX7_feed_88 : decode cX7_feed 88 = .ok (.ireturn, 1) := by decide +kernel
theorem dX7_wipe_0 : decode cX7_wipe 0 = .ok (.aload_n 0, 1) := by decide +kernel
theorem dX7_wipe_1 : decode cX7_wipe 1 = .ok (.getfield 182, 3) := by decide +kernel
theorem dX7_wipe_4 : decode cX7_wipe 4 = .ok (.istore_n 1, 1) := by decide +kernel
theorem dX7_wipe_5 : decode cX7_wipe 5 = .ok (.aload_n 0, 1) := by decide +kernel
theorem dX7_wipe_6 : decode cX7_wipe 6 = .ok (.iconst 0, 1) := by decide +kernel
theorem dX7_wipe_7 : decode cX7_wipe 7 = .ok (.putfield 182, 3) := by decide +kernel
theorem dX7_wipe_10 : decode cX7_wipe 10 = .ok (.iload_n 1, 1) := by decide +kernel
theorem dX7_wipe_11 : decode cX7_wipe 11 = .ok (.ireturn, 1) := by decide +kernel
theorem dX7_here_0 : decode cX7_here 0 = .ok (.aload_n 0, 1) := by decide +kernel
theorem dX7_here_1 : decode cX7_here 1 = .ok (.getfield 185, 3) := by decide +kernel
theorem dX7_here_4 : decode cX7_here 4 = .ok (.aload_n 0, 1) := by decide +kernel
theorem dX7_here_5 : decode cX7_here 5 = .ok (.getfield 182, 3) := by decide +kernel
theorem dX7_here_8 : decode cX7_here 8 = .ok (.if_icmp .ge 15, 3) := by decide +kernel
theorem dX7_here_11 : decode cX7_here 11 = .ok (.aload_n 0, 1) := by decide +kernel
theorem dX7_here_12 : decode cX7_here 12 = .ok (.getfield 78, 3) := by decide +kernel
theorem dX7_here_15 : decode cX7_here 15 = .ok (.aload_n 0, 1) := by decide +kernel
theorem dX7_here_16 : decode cX7_here 16 = .ok (.getfield 185, 3) := by decide +kernel
theorem dX7_here_19 : decode cX7_here 19 = .ok (.iaload, 1) := by decide +kernel
theorem dX7_here_20 : decode cX7_here 20 = .ok (.goto 4, 3) := by decide +kernel
theorem dX7_here_23 : decode cX7_here 23 = .ok (.iconst (-1), 1) := by decide +kernel
theorem dX7_here_24 : decode cX7_here 24 = .ok (.ireturn, 1) := by decide +kernel
theorem dX7_eats_0 : decode cX7_eats 0 = .ok (.aload_n 0, 1) := by decide +kernel
theorem dX7_eats_1 : decode cX7_eats 1 = .ok (.getfield 188, 3) := by decide +kernel
theorem dX7_eats_4 : decode cX7_eats 4 = .ok (.ifCond .ne 24, 3) := by decide +kernel
theorem dX7_eats_7 : decode cX7_eats 7 = .ok (.aload_n 0, 1) := by decide +kernel
theorem dX7_eats_8 : decode cX7_eats 8 = .ok (.invokevirtual 192, 3) := by decide +kernel
theorem dX7_eats_11 : decode cX7_eats 11 = .ok (.iload_n 1, 1) := by decide +kernel
theorem dX7_eats_12 : decode cX7_eats 12 = .ok (.if_icmp .ne 16, 3) := by decide +kernel
theorem dX7_eats_15 : decode cX7_eats 15 = .ok (.aload_n 0, 1) := by decide +kernel
theorem dX7_eats_16 : decode cX7_eats 16 = .ok (.dup, 1) := by decide +kernel
theorem dX7_eats_17 : decode cX7_eats 17 = .ok (.getfield 185, 3) := by decide +kernel
theorem dX7_eats_20 : decode cX7_eats 20 = .ok (.iconst 1, 1) := by decide +kernel
theorem dX7_eats_21 : decode cX7_eats 21 = .ok (.iadd, 1) := by decide +kernel
theorem dX7_eats_22 : decode cX7_eats 22 = .ok (.putfield 185, 3) := by decide +kernel
theorem dX7_eats_25 : decode cX7_eats 25 = .ok (.goto 8, 3) := by decide +kernel
theorem dX7_eats_28 : decode cX7_eats 28 = .ok (.aload_n 0, 1) := by decide +kernel
theorem dX7_eats_29 : decode cX7_eats 29 = .ok (.iconst 1, 1) := by decide +kernel
theorem dX7_eats_30 : decode cX7_eats 30 = .ok (.putfield 188, 3) := by decide +kernel
theorem dX7_eats_33 : decode cX7_eats 33 = .ok (.return_, 1) := by decide +kernel
theorem dX7_eats3_0 : decode cX7_eats3 0 = .ok (.aload_n 0, 1) := by decide +kernel
theorem dX7_eats3_1 : decode cX7_eats3 1 = .ok (.iload_n 1, 1) := by decide +kernel
theorem dX7_eats3_2 : decode cX7_eats3 2 = .ok (.invokevirtual 196, 3) := by decide +kernel
theorem dX7_eats3_5 : decode cX7_eats3 5 = .ok (.aload_n 0, 1) := by decide +kernel
theorem dX7_eats3_6 : decode cX7_eats3 6 = .ok (.iload_n 2, 1) := by decide +kernel
theorem dX7_eats3_7 : decode cX7_eats3 7 = .ok (.invokevirtual 196, 3) := by decide +kernel
theorem dX7_eats3_10 : decode cX7_eats3 10 = .ok (.aload_n 0, 1) := by decide +kernel
theorem dX7_eats3_11 : decode cX7_eats3 11 = .ok (.iload_n 3, 1) := by decide +kernel
theorem dX7_eats3_12 : decode cX7_eats3 12 = .ok (.invokevirtual 196, 3) := by decide +kernel
theorem dX7_eats3_15 : decode cX7_eats3 15 = .ok (.return_, 1) := by decide +kernel
theorem dX7_digits_0 : decode cX7_digits 0 = .ok (.aload_n 0, 1) := by decide +kernel
theorem dX7_digits_1 : decode cX7_digits 1 = .ok (.iconst 0, 1) := by decide +kernel
theorem dX7_digits_2 : decode cX7_digits 2 = .ok (.putfield 199, 3) := by decide +kernel
theorem dX7_digits_5 : decode cX7_digits 5 = .ok (.iconst 0, 1) := by decide +kernel
theorem dX7_digits_6 : decode cX7_digits 6 = .ok (.istore_n 1, 1) := by decide +kernel
theorem dX7_digits_7 : decode cX7_digits 7 = .ok (.aload_n 0, 1) := by decide +kernel
theorem dX7_digits_8 : decode cX7_digits 8 = .ok (.getfield 188, 3) := by decide +kernel
theorem dX7_digits_11 : decode cX7_digits 11 = .ok (.ifCond .ne 57, 3) := by decide +kernel
theorem dX7_digits_14 : decode cX7_digits 14 = .ok (.iload_n 1, 1) := by decide +kernel
theorem dX7_digits_15 : decode cX7_digits 15 = .ok (.iconst 4, 1) := by decide +kernel
theorem dX7_digits_16 : decode cX7_digits 16 = .ok (.if_icmp .ge 52, 3) := by decide +kernel
theorem dX7_digits_19 : decode cX7_digits 19 = .ok (.aload_n 0, 1) := by decide +kernel
theorem dX7_digits_20 : decode cX7_digits 20 = .ok (.invokevirtual 192, 3) := by decide +kernel
theorem dX7_digits_23 : decode cX7_digits 23 = .ok (.bipush 48, 2) := by decide +kernel
theorem dX7_digits_25 : decode cX7_digits 25 = .ok (.bipush 57, 2) := by decide +kernel
theorem dX7_digits_27 : decode cX7_digits 27 = .ok (.invokestatic 87, 3) := by decide +kernel
theorem dX7_digits_30 : decode cX7_digits 30 = .ok (.ifCond .eq 38, 3) := by decide +kernel
theorem dX7_digits_33 : decode cX7_digits 33 = .ok (.aload_n 0, 1) := by decide +kernel
theorem dX7_digits_34 : decode cX7_digits 34 = .ok (.bipush 10, 2) := by decide +kernel
theorem dX7_digits_36 : decode cX7_digits 36 = .ok (.aload_n 0, 1) := by decide +kernel
theorem dX7_digits_37 : decode cX7_digits 37 = .ok (.getfield 199, 3) := by decide +kernel
theorem dX7_digits_40 : decode cX7_digits 40 = .ok (.imul, 1) := by decide +kernel
theorem dX7_digits_41 : decode cX7_digits 41 = .ok (.aload_n 0, 1) := by decide +kernel
theorem dX7_digits_42 : decode cX7_digits 42 = .ok (.invokevirtual 192, 3) := by decide +kernel
theorem dX7_digits_45 : decode cX7_digits 45 = .ok (.iadd, 1) := by decide +kernel
theorem dX7_digits_46 : decode cX7_digits 46 = .ok (.bipush 48, 2) := by decide +kernel
theorem dX7_digits_48 : decode cX7_digits 48 = .ok (.isub, 1) := by decide +kernel
theorem dX7_digits_49 : decode cX7_digits 49 = .ok (.putfield 199, 3) := by decide +kernel
theorem dX7_digits_52 : decode cX7_digits 52 = .ok (.aload_n 0, 1) := by decide +kernel
theorem dX7_digits_53 : decode cX7_digits 53 = .ok (.dup, 1) := by decide +kernel
theorem dX7_digits_54 : decode cX7_digits 54 = .ok (.getfield 185, 3) := by decide +kernel
theorem dX7_digits_57 : decode cX7_digits 57 = .ok (.iconst 1, 1) := by decide +kernel
theorem dX7_digits_58 : decode cX7_digits 58 = .ok (.iadd, 1) := by decide +kernel
theorem dX7_digits_59 : decode cX7_digits 59 = .ok (.putfield 185, 3) := by decide +kernel
theorem dX7_digits_62 : decode cX7_digits 62 = .ok (.iinc 1 1, 3) := by decide +kernel
theorem dX7_digits_65 : decode cX7_digits 65 = .ok (.goto (-58), 3) := by decide +kernel
theorem dX7_digits_68 : decode cX7_digits 68 = .ok (.aload_n 0, 1) := by decide +kernel
theorem dX7_digits_69 : decode cX7_digits 69 = .ok (.aload_n 0, 1) := by decide +kernel
theorem dX7_digits_70 : decode cX7_digits 70 = .ok (.getfield 188, 3) := by decide +kernel
theorem dX7_digits_73 : decode cX7_digits 73 = .ok (.ifCond .ne 7, 3) := by decide +kernel
theorem dX7_digits_76 : decode cX7_digits 76 = .ok (.iload_n 1, 1) := by decide +kernel
theorem dX7_digits_77 : decode cX7_digits 77 = .ok (.ifCond .ne 7, 3) := by decide +kernel
theorem dX7_digits_80 : decode cX7_digits 80 = .ok (.iconst 1, 1) := by decide +kernel
theorem dX7_digits_81 : decode cX7_digits 81 = .ok (.goto 4, 3) := by decide +kernel
theorem dX7_digits_84 : decode cX7_digits 84 = .ok (.iconst 0, 1) := by decide +kernel
theorem dX7_digits_85 : decode cX7_digits 85 = .ok (.putfield 188, 3) := by decide +kernel
theorem dX7_digits_88 : decode cX7_digits 88 = .ok (.return_, 1) := by decide +kernel
theorem dX7_key_0 : decode cX7_key 0 = .ok (.aload_n 0, 1) := by decide +kernel
theorem dX7_key_1 : decode cX7_key 1 = .ok (.invokevirtual 192, 3) := by decide +kernel
theorem dX7_key_4 : decode cX7_key 4 = .ok (.istore_n 1, 1) := by decide +kernel
theorem dX7_key_5 : decode cX7_key 5 = .ok (.iload_n 1, 1) := by decide +kernel
theorem dX7_key_6 : decode cX7_key 6 = .ok (.bipush 116, 2) := by decide +kernel
theorem dX7_key_8 : decode cX7_key 8 = .ok (.if_icmp .ne 27, 3) := by decide +kernel
theorem dX7_key_11 : decode cX7_key 11 = .ok (.aload_n 0, 1) := by decide +kernel
theorem dX7_key_12 : decode cX7_key 12 = .ok (.bipush 116, 2) := by decide +kernel
theorem dX7_key_14 : decode cX7_key 14 = .ok (.bipush 104, 2) := by decide +kernel
theorem dX7_key_16 : decode cX7_key 16 = .ok (.bipush 105, 2) := by decide +kernel
theorem dX7_key_18 : decode cX7_key 18 = .ok (.invokevirtual 202, 3) := by decide +kernel
theorem dX7_key_21 : decode cX7_key 21 = .ok (.aload_n 0, 1) := by decide +kernel
theorem dX7_key_22 : decode cX7_key 22 = .ok (.bipush 99, 2) := by decide +kernel
theorem dX7_key_24 : decode cX7_key 24 = .ok (.invokevirtual 196, 3) := by decide +kernel
theorem dX7_key_27 : decode cX7_key 27 = .ok (.aload_n 0, 1) := by decide +kernel
theorem dX7_key_28 : decode cX7_key 28 = .ok (.bipush 107, 2) := by decide +kernel
theorem dX7_key_30 : decode cX7_key 30 = .ok (.invokevirtual 196, 3) := by decide +kernel
theorem dX7_key_33 : decode cX7_key 33 = .ok (.iconst 0, 1) := by decide +kernel
theorem dX7_key_34 : decode cX7_key 34 = .ok (.ireturn, 1) := by decide +kernel
theorem dX7_key_35 : decode cX7_key 35 = .ok (.iload_n 1, 1) := by decide +kernel
theorem dX7_key_36 : decode cX7_key 36 = .ok (.bipush 103, 2) := by decide +kernel
theorem dX7_key_38 : decode cX7_key 38 = .ok (.if_icmp .ne 15, 3) := by decide +kernel
theorem dX7_key_41 : decode cX7_key 41 = .ok (.aload_n 0, 1) := by decide +kernel
theorem dX7_key_42 : decode cX7_key 42 = .ok (.bipush 103, 2) := by decide +kernel
theorem dX7_key_44 : decode cX7_key 44 = .ok (.bipush 97, 2) := by decide +kernel
theorem dX7_key_46 : decode cX7_key 46 = .ok (.bipush 112, 2) := by decide +kernel
theorem dX7_key_48 : decode cX7_key 48 = .ok (.invokevirtual 202, 3) := by decide +kernel
theorem dX7_key_51 : decode cX7_key 51 = .ok (.iconst 1, 1) := by decide +kernel
theorem dX7_key_52 : decode cX7_key 52 = .ok (.ireturn, 1) := by decide +kernel
theorem dX7_key_53 : decode cX7_key 53 = .ok (.aload_n 0, 1) := by decide +kernel
theorem dX7_key_54 : decode cX7_key 54 = .ok (.bipush 115, 2) := by decide +kernel
theorem dX7_key_56 : decode cX7_key 56 = .ok (.bipush 116, 2) := by decide +kernel
theorem dX7_key_58 : decode cX7_key 58 = .ok (.bipush 111, 2) := by decide +kernel
theorem dX7_key_60 : decode cX7_key 60 = .ok (.invokevirtual 202, 3) := by decide +kernel
theorem dX7_key_63 : decode cX7_key 63 = .ok (.aload_n 0, 1) := by decide +kernel
theorem dX7_key_64 : decode cX7_key 64 = .ok (.bipush 112, 2) := by decide +kernel
theorem dX7_key_66 : decode cX7_key 66 = .ok (.invokevirtual 196, 3) := by decide +kernel
theorem dX7_key_69 : decode cX7_key 69 = .ok (.iconst 2, 1) := by decide +kernel
theorem dX7_key_70 : decode cX7_key 70 = .ok (.ireturn, 1) := by decide +kernel
theorem dX7_fieldRead_0 : decode cX7_fieldRead 0 = .ok (.aload_n 0, 1) := by decide +kernel
theorem dX7_fieldRead_1 : decode cX7_fieldRead 1 = .ok (.invokevirtual 192, 3) := by decide +kernel
theorem dX7_fieldRead_4 : decode cX7_fieldRead 4 = .ok (.istore_n 1, 1) := by decide +kernel
theorem dX7_fieldRead_5 : decode cX7_fieldRead 5 = .ok (.iload_n 1, 1) := by decide +kernel
theorem dX7_fieldRead_6 : decode cX7_fieldRead 6 = .ok (.lookupswitch 118 #[(99, 82), (104, 100), (114, 64), (119, 42)], 42) := by decide +kernel
theorem dX7_fieldRead_48 : decode cX7_fieldRead 48 = .ok (.aload_n 0, 1) := by decide +kernel
theorem dX7_fieldRead_49 : decode cX7_fieldRead 49 = .ok (.bipush 119, 2) := by decide +kernel
theorem dX7_fieldRead_51 : decode cX7_fieldRead 51 = .ok (.bipush 101, 2) := by decide +kernel
theorem dX7_fieldRead_53 : decode cX7_fieldRead 53 = .ok (.bipush 105, 2) := by decide +kernel
theorem dX7_fieldRead_55 : decode cX7_fieldRead 55 = .ok (.invokevirtual 202, 3) := by decide +kernel
theorem dX7_fieldRead_58 : decode cX7_fieldRead 58 = .ok (.aload_n 0, 1) := by decide +kernel
theorem dX7_fieldRead_59 : decode cX7_fieldRead 59 = .ok (.bipush 103, 2) := by decide +kernel
theorem dX7_fieldRead_61 : decode cX7_fieldRead 61 = .ok (.bipush 104, 2) := by decide +kernel
theorem dX7_fieldRead_63 : decode cX7_fieldRead 63 = .ok (.bipush 116, 2) := by decide +kernel
theorem dX7_fieldRead_65 : decode cX7_fieldRead 65 = .ok (.invokevirtual 202, 3) := by decide +kernel
theorem dX7_fieldRead_68 : decode cX7_fieldRead 68 = .ok (.iconst 0, 1) := by decide +kernel
theorem dX7_fieldRead_69 : decode cX7_fieldRead 69 = .ok (.ireturn, 1) := by decide +kernel
theorem dX7_fieldRead_70 : decode cX7_fieldRead 70 = .ok (.aload_n 0, 1) := by decide +kernel
theorem dX7_fieldRead_71 : decode cX7_fieldRead 71 = .ok (.bipush 114, 2) := by decide +kernel
theorem dX7_fieldRead_73 : decode cX7_fieldRead 73 = .ok (.bipush 97, 2) := by decide +kernel
theorem dX7_fieldRead_75 : decode cX7_fieldRead 75 = .ok (.bipush 110, 2) := by decide +kernel
theorem dX7_fieldRead_77 : decode cX7_fieldRead 77 = .ok (.invokevirtual 202, 3) := by decide +kernel
theorem dX7_fieldRead_80 : decode cX7_fieldRead 80 = .ok (.aload_n 0, 1) := by decide +kernel
theorem dX7_fieldRead_81 : decode cX7_fieldRead 81 = .ok (.bipush 107, 2) := by decide +kernel
theorem dX7_fieldRead_83 : decode cX7_fieldRead 83 = .ok (.invokevirtual 196, 3) := by decide +kernel
theorem dX7_fieldRead_86 : decode cX7_fieldRead 86 = .ok (.iconst 1, 1) := by decide +kernel
theorem dX7_fieldRead_87 : decode cX7_fieldRead 87 = .ok (.ireturn, 1) := by decide +kernel
theorem dX7_fieldRead_88 : decode cX7_fieldRead 88 = .ok (.aload_n 0, 1) := by decide +kernel
theorem dX7_fieldRead_89 : decode cX7_fieldRead 89 = .ok (.bipush 99, 2) := by decide +kernel
theorem dX7_fieldRead_91 : decode cX7_fieldRead 91 = .ok (.bipush 101, 2) := by decide +kernel
theorem dX7_fieldRead_93 : decode cX7_fieldRead 93 = .ok (.bipush 108, 2) := by decide +kernel
theorem dX7_fieldRead_95 : decode cX7_fieldRead 95 = .ok (.invokevirtual 202, 3) := by decide +kernel
theorem dX7_fieldRead_98 : decode cX7_fieldRead 98 = .ok (.aload_n 0, 1) := by decide +kernel
theorem dX7_fieldRead_99 : decode cX7_fieldRead 99 = .ok (.bipush 108, 2) := by decide +kernel
theorem dX7_fieldRead_101 : decode cX7_fieldRead 101 = .ok (.invokevirtual 196, 3) := by decide +kernel
theorem dX7_fieldRead_104 : decode cX7_fieldRead 104 = .ok (.iconst 2, 1) := by decide +kernel
theorem dX7_fieldRead_105 : decode cX7_fieldRead 105 = .ok (.ireturn, 1) := by decide +kernel
theorem dX7_fieldRead_106 : decode cX7_fieldRead 106 = .ok (.aload_n 0, 1) := by decide +kernel
theorem dX7_fieldRead_107 : decode cX7_fieldRead 107 = .ok (.bipush 104, 2) := by decide +kernel
theorem dX7_fieldRead_109 : decode cX7_fieldRead 109 = .ok (.bipush 101, 2) := by decide +kernel
theorem dX7_fieldRead_111 : decode cX7_fieldRead 111 = .ok (.bipush 97, 2) := by decide +kernel
theorem dX7_fieldRead_113 : decode cX7_fieldRead 113 = .ok (.invokevirtual 202, 3) := by decide +kernel
theorem dX7_fieldRead_116 : decode cX7_fieldRead 116 = .ok (.aload_n 0, 1) := by decide +kernel
theorem dX7_fieldRead_117 : decode cX7_fieldRead 117 = .ok (.bipush 116, 2) := by decide +kernel
theorem dX7_fieldRead_119 : decode cX7_fieldRead 119 = .ok (.invokevirtual 196, 3) := by decide +kernel
theorem dX7_fieldRead_122 : decode cX7_fieldRead 122 = .ok (.iconst 3, 1) := by decide +kernel
theorem dX7_fieldRead_123 : decode cX7_fieldRead 123 = .ok (.ireturn, 1) := by decide +kernel
theorem dX7_fieldRead_124 : decode cX7_fieldRead 124 = .ok (.aload_n 0, 1) := by decide +kernel
theorem dX7_fieldRead_125 : decode cX7_fieldRead 125 = .ok (.bipush 115, 2) := by decide +kernel
theorem dX7_fieldRead_127 : decode cX7_fieldRead 127 = .ok (.bipush 110, 2) := by decide +kernel
theorem dX7_fieldRead_129 : decode cX7_fieldRead 129 = .ok (.bipush 111, 2) := by decide +kernel
theorem dX7_fieldRead_131 : decode cX7_fieldRead 131 = .ok (.invokevirtual 202, 3) := by decide +kernel
theorem dX7_fieldRead_134 : decode cX7_fieldRead 134 = .ok (.aload_n 0, 1) := by decide +kernel
theorem dX7_fieldRead_135 : decode cX7_fieldRead 135 = .ok (.bipush 119, 2) := by decide +kernel
theorem dX7_fieldRead_137 : decode cX7_fieldRead 137 = .ok (.invokevirtual 196, 3) := by decide +kernel
theorem dX7_fieldRead_140 : decode cX7_fieldRead 140 = .ok (.iconst 4, 1) := by decide +kernel
theorem dX7_fieldRead_141 : decode cX7_fieldRead 141 = .ok (.ireturn, 1) := by decide +kernel
theorem dX7_test_0 : decode cX7_test 0 = .ok (.aload_n 0, 1) := by decide +kernel
theorem dX7_test_1 : decode cX7_test 1 = .ok (.getfield 68, 3) := by decide +kernel
theorem dX7_test_4 : decode cX7_test 4 = .ok (.iload_n 1, 1) := by decide +kernel
theorem dX7_test_5 : decode cX7_test 5 = .ok (.aload_n 0, 1) := by decide +kernel
theorem dX7_test_6 : decode cX7_test 6 = .ok (.getfield 188, 3) := by decide +kernel
theorem dX7_test_9 : decode cX7_test 9 = .ok (.ifCond .eq 7, 3) := by decide +kernel
theorem dX7_test_12 : decode cX7_test 12 = .ok (.iconst 0, 1) := by decide +kernel
theorem dX7_test_13 : decode cX7_test 13 = .ok (.goto 7, 3) := by decide +kernel
theorem dX7_test_16 : decode cX7_test 16 = .ok (.aload_n 0, 1) := by decide +kernel
theorem dX7_test_17 : decode cX7_test 17 = .ok (.invokevirtual 206, 3) := by decide +kernel
theorem dX7_test_20 : decode cX7_test 20 = .ok (.iastore, 1) := by decide +kernel
theorem dX7_test_21 : decode cX7_test 21 = .ok (.aload_n 0, 1) := by decide +kernel
theorem dX7_test_22 : decode cX7_test 22 = .ok (.invokevirtual 192, 3) := by decide +kernel
theorem dX7_test_25 : decode cX7_test 25 = .ok (.istore_n 2, 1) := by decide +kernel
theorem dX7_test_26 : decode cX7_test 26 = .ok (.aload_n 0, 1) := by decide +kernel
theorem dX7_test_27 : decode cX7_test 27 = .ok (.getfield 188, 3) := by decide +kernel
theorem dX7_test_30 : decode cX7_test 30 = .ok (.ifCond .ne 34, 3) := by decide +kernel
theorem dX7_test_33 : decode cX7_test 33 = .ok (.iload_n 2, 1) := by decide +kernel
theorem dX7_test_34 : decode cX7_test 34 = .ok (.bipush 61, 2) := by decide +kernel
theorem dX7_test_36 : decode cX7_test 36 = .ok (.if_icmp .eq 15, 3) := by decide +kernel
theorem dX7_test_39 : decode cX7_test 39 = .ok (.iload_n 2, 1) := by decide +kernel
theorem dX7_test_40 : decode cX7_test 40 = .ok (.bipush 60, 2) := by decide +kernel
theorem dX7_test_42 : decode cX7_test 42 = .ok (.if_icmp .eq 9, 3) := by decide +kernel
theorem dX7_test_45 : decode cX7_test 45 = .ok (.iload_n 2, 1) := by decide +kernel
theorem dX7_test_46 : decode cX7_test 46 = .ok (.bipush 62, 2) := by decide +kernel
theorem dX7_test_48 : decode cX7_test 48 = .ok (.if_icmp .ne 16, 3) := by decide +kernel
theorem dX7_test_51 : decode cX7_test 51 = .ok (.aload_n 0, 1) := by decide +kernel
theorem dX7_test_52 : decode cX7_test 52 = .ok (.dup, 1) := by decide +kernel
theorem dX7_test_53 : decode cX7_test 53 = .ok (.getfield 185, 3) := by decide +kernel
theorem dX7_test_56 : decode cX7_test 56 = .ok (.iconst 1, 1) := by decide +kernel
theorem dX7_test_57 : decode cX7_test 57 = .ok (.iadd, 1) := by decide +kernel
theorem dX7_test_58 : decode cX7_test 58 = .ok (.putfield 185, 3) := by decide +kernel
theorem dX7_test_61 : decode cX7_test 61 = .ok (.goto 8, 3) := by decide +kernel
theorem dX7_test_64 : decode cX7_test 64 = .ok (.aload_n 0, 1) := by decide +kernel
theorem dX7_test_65 : decode cX7_test 65 = .ok (.iconst 1, 1) := by decide +kernel
theorem dX7_test_66 : decode cX7_test 66 = .ok (.putfield 188, 3) := by decide +kernel
theorem dX7_test_69 : decode cX7_test 69 = .ok (.aload_n 0, 1) := by decide +kernel
theorem dX7_test_70 : decode cX7_test 70 = .ok (.getfield 188, 3) := by decide +kernel
theorem dX7_test_73 : decode cX7_test 73 = .ok (.ifCond .ne 16, 3) := by decide +kernel
theorem dX7_test_76 : decode cX7_test 76 = .ok (.aload_n 0, 1) := by decide +kernel
theorem dX7_test_77 : decode cX7_test 77 = .ok (.invokevirtual 192, 3) := by decide +kernel
theorem dX7_test_80 : decode cX7_test 80 = .ok (.bipush 45, 2) := by decide +kernel
theorem dX7_test_82 : decode cX7_test 82 = .ok (.if_icmp .ne 7, 3) := by decide +kernel
theorem dX7_test_85 : decode cX7_test 85 = .ok (.iconst 1, 1) := by decide +kernel
theorem dX7_test_86 : decode cX7_test 86 = .ok (.goto 4, 3) := by decide +kernel
theorem dX7_test_89 : decode cX7_test 89 = .ok (.iconst 0, 1) := by decide +kernel
theorem dX7_test_90 : decode cX7_test 90 = .ok (.istore_n 3, 1) := by decide +kernel
theorem dX7_test_91 : decode cX7_test 91 = .ok (.iload_n 3, 1) := by decide +kernel
theorem dX7_test_92 : decode cX7_test 92 = .ok (.ifCond .eq 13, 3) := by decide +kernel
theorem dX7_test_95 : decode cX7_test 95 = .ok (.aload_n 0, 1) := by decide +kernel
theorem dX7_test_96 : decode cX7_test 96 = .ok (.dup, 1) := by decide +kernel
theorem dX7_test_97 : decode cX7_test 97 = .ok (.getfield 185, 3) := by decide +kernel
theorem dX7_test_100 : decode cX7_test 100 = .ok (.iconst 1, 1) := by decide +kernel
theorem dX7_test_101 : decode cX7_test 101 = .ok (.iadd, 1) := by decide +kernel
theorem dX7_test_102 : decode cX7_test 102 = .ok (.putfield 185, 3) := by decide +kernel
theorem dX7_test_105 : decode cX7_test 105 = .ok (.aload_n 0, 1) := by decide +kernel
theorem dX7_test_106 : decode cX7_test 106 = .ok (.invokevirtual 209, 3) := by decide +kernel
theorem dX7_test_109 : decode cX7_test 109 = .ok (.aload_n 0, 1) := by decide +kernel
theorem dX7_test_110 : decode cX7_test 110 = .ok (.getfield 68, 3) := by decide +kernel
theorem dX7_test_113 : decode cX7_test 113 = .ok (.iload_n 1, 1) := by decide +kernel
theorem dX7_test_114 : decode cX7_test 114 = .ok (.iconst 1, 1) := by decide +kernel
theorem dX7_test_115 : decode cX7_test 115 = .ok (.iadd, 1) := by decide +kernel
theorem dX7_test_116 : decode cX7_test 116 = .ok (.iload_n 2, 1) := by decide +kernel
theorem dX7_test_117 : decode cX7_test 117 = .ok (.iastore, 1) := by decide +kernel
theorem dX7_test_118 : decode cX7_test 118 = .ok (.aload_n 0, 1) := by decide +kernel
theorem dX7_test_119 : decode cX7_test 119 = .ok (.getfield 68, 3) := by decide +kernel
theorem dX7_test_122 : decode cX7_test 122 = .ok (.iload_n 1, 1) := by decide +kernel
theorem dX7_test_123 : decode cX7_test 123 = .ok (.iconst 2, 1) := by decide +kernel
theorem dX7_test_124 : decode cX7_test 124 = .ok (.iadd, 1) := by decide +kernel
theorem dX7_test_125 : decode cX7_test 125 = .ok (.iload_n 3, 1) := by decide +kernel
theorem dX7_test_126 : decode cX7_test 126 = .ok (.ifCond .eq 11, 3) := by decide +kernel
theorem dX7_test_129 : decode cX7_test 129 = .ok (.aload_n 0, 1) := by decide +kernel
theorem dX7_test_130 : decode cX7_test 130 = .ok (.getfield 199, 3) := by decide +kernel
theorem dX7_test_133 : decode cX7_test 133 = .ok (.ineg, 1) := by decide +kernel
theorem dX7_test_134 : decode cX7_test 134 = .ok (.goto 7, 3) := by decide +kernel
theorem dX7_test_137 : decode cX7_test 137 = .ok (.aload_n 0, 1) := by decide +kernel
theorem dX7_test_138 : decode cX7_test 138 = .ok (.getfield 199, 3) := by decide +kernel
theorem dX7_test_141 : decode cX7_test 141 = .ok (.iastore, 1) := by decide +kernel
theorem dX7_test_142 : decode cX7_test 142 = .ok (.return_, 1) := by decide +kernel
theorem dX7_reads_0 : decode cX7_reads 0 = .ok (.bipush 15, 2) := by decide +kernel
theorem dX7_reads_2 : decode cX7_reads 2 = .ok (.aload_n 0, 1) := by decide +kernel
theorem dX7_reads_3 : decode cX7_reads 3 = .ok (.getfield 139, 3) := by decide +kernel
theorem dX7_reads_6 : decode cX7_reads 6 = .ok (.imul, 1) := by decide +kernel
theorem dX7_reads_7 : decode cX7_reads 7 = .ok (.istore_n 1, 1) := by decide +kernel
theorem dX7_reads_8 : decode cX7_reads 8 = .ok (.aload_n 0, 1) := by decide +kernel
theorem dX7_reads_9 : decode cX7_reads 9 = .ok (.iconst 0, 1) := by decide +kernel
theorem dX7_reads_10 : decode cX7_reads 10 = .ok (.putfield 185, 3) := by decide +kernel
theorem dX7_reads_13 : decode cX7_reads 13 = .ok (.aload_n 0, 1) := by decide +kernel
theorem dX7_reads_14 : decode cX7_reads 14 = .ok (.iconst 0, 1) := by decide +kernel
theorem dX7_reads_15 : decode cX7_reads 15 = .ok (.putfield 188, 3) := by decide +kernel
theorem dX7_reads_18 : decode cX7_reads 18 = .ok (.aload_n 0, 1) := by decide +kernel
theorem dX7_reads_19 : decode cX7_reads 19 = .ok (.getfield 68, 3) := by decide +kernel
theorem dX7_reads_22 : decode cX7_reads 22 = .ok (.iload_n 1, 1) := by decide +kernel
theorem dX7_reads_23 : decode cX7_reads 23 = .ok (.iconst 2, 1) := by decide +kernel
theorem dX7_reads_24 : decode cX7_reads 24 = .ok (.iadd, 1) := by decide +kernel
theorem dX7_reads_25 : decode cX7_reads 25 = .ok (.aload_n 0, 1) := by decide +kernel
theorem dX7_reads_26 : decode cX7_reads 26 = .ok (.invokevirtual 212, 3) := by decide +kernel
theorem dX7_reads_29 : decode cX7_reads 29 = .ok (.iastore, 1) := by decide +kernel
theorem dX7_reads_30 : decode cX7_reads 30 = .ok (.aload_n 0, 1) := by decide +kernel
theorem dX7_reads_31 : decode cX7_reads 31 = .ok (.bipush 32, 2) := by decide +kernel
theorem dX7_reads_33 : decode cX7_reads 33 = .ok (.invokevirtual 196, 3) := by decide +kernel
theorem dX7_reads_36 : decode cX7_reads 36 = .ok (.aload_n 0, 1) := by decide +kernel
theorem dX7_reads_37 : decode cX7_reads 37 = .ok (.invokevirtual 209, 3) := by decide +kernel
theorem dX7_reads_40 : decode cX7_reads 40 = .ok (.aload_n 0, 1) := by decide +kernel
theorem dX7_reads_41 : decode cX7_reads 41 = .ok (.getfield 68, 3) := by decide +kernel
theorem dX7_reads_44 : decode cX7_reads 44 = .ok (.iload_n 1, 1) := by decide +kernel
theorem dX7_reads_45 : decode cX7_reads 45 = .ok (.iconst 3, 1) := by decide +kernel
theorem dX7_reads_46 : decode cX7_reads 46 = .ok (.iadd, 1) := by decide +kernel
theorem dX7_reads_47 : decode cX7_reads 47 = .ok (.aload_n 0, 1) := by decide +kernel
theorem dX7_reads_48 : decode cX7_reads 48 = .ok (.getfield 199, 3) := by decide +kernel
theorem dX7_reads_51 : decode cX7_reads 51 = .ok (.iastore, 1) := by decide +kernel
theorem dX7_reads_52 : decode cX7_reads 52 = .ok (.aload_n 0, 1) := by decide +kernel
theorem dX7_reads_53 : decode cX7_reads 53 = .ok (.getfield 68, 3) := by decide +kernel
theorem dX7_reads_56 : decode cX7_reads 56 = .ok (.iload_n 1, 1) := by decide +kernel
theorem dX7_reads_57 : decode cX7_reads 57 = .ok (.iconst 4, 1) := by decide +kernel
theorem dX7_reads_58 : decode cX7_reads 58 = .ok (.iadd, 1) := by decide +kernel
theorem dX7_reads_59 : decode cX7_reads 59 = .ok (.iconst 0, 1) := by decide +kernel
theorem dX7_reads_60 : decode cX7_reads 60 = .ok (.iastore, 1) := by decide +kernel
theorem dX7_reads_61 : decode cX7_reads 61 = .ok (.aload_n 0, 1) := by decide +kernel
theorem dX7_reads_62 : decode cX7_reads 62 = .ok (.getfield 68, 3) := by decide +kernel
theorem dX7_reads_65 : decode cX7_reads 65 = .ok (.iload_n 1, 1) := by decide +kernel
theorem dX7_reads_66 : decode cX7_reads 66 = .ok (.iconst 5, 1) := by decide +kernel
theorem dX7_reads_67 : decode cX7_reads 67 = .ok (.iadd, 1) := by decide +kernel
theorem dX7_reads_68 : decode cX7_reads 68 = .ok (.iconst 0, 1) := by decide +kernel
theorem dX7_reads_69 : decode cX7_reads 69 = .ok (.iastore, 1) := by decide +kernel
theorem dX7_reads_70 : decode cX7_reads 70 = .ok (.aload_n 0, 1) := by decide +kernel
theorem dX7_reads_71 : decode cX7_reads 71 = .ok (.getfield 188, 3) := by decide +kernel
theorem dX7_reads_74 : decode cX7_reads 74 = .ok (.ifCond .ne 162, 3) := by decide +kernel
theorem dX7_reads_77 : decode cX7_reads 77 = .ok (.aload_n 0, 1) := by decide +kernel
theorem dX7_reads_78 : decode cX7_reads 78 = .ok (.getfield 185, 3) := by decide +kernel
theorem dX7_reads_81 : decode cX7_reads 81 = .ok (.aload_n 0, 1) := by decide +kernel
theorem dX7_reads_82 : decode cX7_reads 82 = .ok (.getfield 182, 3) := by decide +kernel
theorem dX7_reads_85 : decode cX7_reads 85 = .ok (.if_icmp .ge 151, 3) := by decide +kernel
theorem dX7_reads_88 : decode cX7_reads 88 = .ok (.aload_n 0, 1) := by decide +kernel
theorem dX7_reads_89 : decode cX7_reads 89 = .ok (.getfield 68, 3) := by decide +kernel
theorem dX7_reads_92 : decode cX7_reads 92 = .ok (.iload_n 1, 1) := by decide +kernel
theorem dX7_reads_93 : decode cX7_reads 93 = .ok (.iconst 4, 1) := by decide +kernel
theorem dX7_reads_94 : decode cX7_reads 94 = .ok (.iadd, 1) := by decide +kernel
theorem dX7_reads_95 : decode cX7_reads 95 = .ok (.iaload, 1) := by decide +kernel
theorem dX7_reads_96 : decode cX7_reads 96 = .ok (.istore_n 2, 1) := by decide +kernel
theorem dX7_reads_97 : decode cX7_reads 97 = .ok (.iload_n 2, 1) := by decide +kernel
theorem dX7_reads_98 : decode cX7_reads 98 = .ok (.iconst 3, 1) := by decide +kernel
theorem dX7_reads_99 : decode cX7_reads 99 = .ok (.if_icmp .ne 9, 3) := by decide +kernel
theorem dX7_reads_102 : decode cX7_reads 102 = .ok (.aload_n 0, 1) := by decide +kernel
theorem dX7_reads_103 : decode cX7_reads 103 = .ok (.iconst 1, 1) := by decide +kernel
theorem dX7_reads_104 : decode cX7_reads 104 = .ok (.putfield 188, 3) := by decide +kernel
theorem dX7_reads_107 : decode cX7_reads 107 = .ok (.return_, 1) := by decide +kernel
theorem dX7_reads_108 : decode cX7_reads 108 = .ok (.aload_n 0, 1) := by decide +kernel
theorem dX7_reads_109 : decode cX7_reads 109 = .ok (.bipush 32, 2) := by decide +kernel
theorem dX7_reads_111 : decode cX7_reads 111 = .ok (.invokevirtual 196, 3) := by decide +kernel
theorem dX7_reads_114 : decode cX7_reads 114 = .ok (.iload_n 2, 1) := by decide +kernel
theorem dX7_reads_115 : decode cX7_reads 115 = .ok (.ifCond .ne 18, 3) := by decide +kernel
theorem dX7_reads_118 : decode cX7_reads 118 = .ok (.aload_n 0, 1) := by decide +kernel
theorem dX7_reads_119 : decode cX7_reads 119 = .ok (.bipush 105, 2) := by decide +kernel
theorem dX7_reads_121 : decode cX7_reads 121 = .ok (.invokevirtual 196, 3) := by decide +kernel
theorem dX7_reads_124 : decode cX7_reads 124 = .ok (.aload_n 0, 1) := by decide +kernel
theorem dX7_reads_125 : decode cX7_reads 125 = .ok (.bipush 102, 2) := by decide +kernel
theorem dX7_reads_127 : decode cX7_reads 127 = .ok (.invokevirtual 196, 3) := by decide +kernel
theorem dX7_reads_130 : decode cX7_reads 130 = .ok (.goto 73, 3) := by decide +kernel
theorem dX7_reads_133 : decode cX7_reads 133 = .ok (.aload_n 0, 1) := by decide +kernel
theorem dX7_reads_134 : decode cX7_reads 134 = .ok (.getfield 188, 3) := by decide +kernel
theorem dX7_reads_137 : decode cX7_reads 137 = .ok (.ifCond .ne 56, 3) := by decide +kernel
theorem dX7_reads_140 : decode cX7_reads 140 = .ok (.iload_n 2, 1) := by decide +kernel
theorem dX7_reads_141 : decode cX7_reads 141 = .ok (.iconst 1, 1) := by decide +kernel
theorem dX7_reads_142 : decode cX7_reads 142 = .ok (.if_icmp .ne 15, 3) := by decide +kernel
theorem dX7_reads_145 : decode cX7_reads 145 = .ok (.aload_n 0, 1) := by decide +kernel
theorem dX7_reads_146 : decode cX7_reads 146 = .ok (.invokevirtual 192, 3) := by decide +kernel
theorem dX7_reads_149 : decode cX7_reads 149 = .ok (.bipush 111, 2) := by decide +kernel
theorem dX7_reads_151 : decode cX7_reads 151 = .ok (.if_icmp .ne 42, 3) := by decide +kernel
theorem dX7_reads_154 : decode cX7_reads 154 = .ok (.goto 15, 3) := by decide +kernel
theorem dX7_reads_157 : decode cX7_reads 157 = .ok (.aload_n 0, 1) := by decide +kernel
theorem dX7_reads_158 : decode cX7_reads 158 = .ok (.getfield 68, 3) := by decide +kernel
theorem dX7_reads_161 : decode cX7_reads 161 = .ok (.iload_n 1, 1) := by decide +kernel
theorem dX7_reads_162 : decode cX7_reads 162 = .ok (.iconst 5, 1) := by decide +kernel
theorem dX7_reads_163 : decode cX7_reads 163 = .ok (.iadd, 1) := by decide +kernel
theorem dX7_reads_164 : decode cX7_reads 164 = .ok (.iaload, 1) := by decide +kernel
theorem dX7_reads_165 : decode cX7_reads 165 = .ok (.iconst 1, 1) := by decide +kernel
theorem dX7_reads_166 : decode cX7_reads 166 = .ok (.if_icmp .ne 27, 3) := by decide +kernel
theorem dX7_reads_169 : decode cX7_reads 169 = .ok (.aload_n 0, 1) := by decide +kernel
theorem dX7_reads_170 : decode cX7_reads 170 = .ok (.getfield 68, 3) := by decide +kernel
theorem dX7_reads_173 : decode cX7_reads 173 = .ok (.iload_n 1, 1) := by decide +kernel
theorem dX7_reads_174 : decode cX7_reads 174 = .ok (.iconst 5, 1) := by decide +kernel
theorem dX7_reads_175 : decode cX7_reads 175 = .ok (.iadd, 1) := by decide +kernel
theorem dX7_reads_176 : decode cX7_reads 176 = .ok (.iconst 1, 1) := by decide +kernel
theorem dX7_reads_177 : decode cX7_reads 177 = .ok (.iastore, 1) := by decide +kernel
theorem dX7_reads_178 : decode cX7_reads 178 = .ok (.aload_n 0, 1) := by decide +kernel
theorem dX7_reads_179 : decode cX7_reads 179 = .ok (.bipush 111, 2) := by decide +kernel
theorem dX7_reads_181 : decode cX7_reads 181 = .ok (.invokevirtual 196, 3) := by decide +kernel
theorem dX7_reads_184 : decode cX7_reads 184 = .ok (.aload_n 0, 1) := by decide +kernel
theorem dX7_reads_185 : decode cX7_reads 185 = .ok (.bipush 114, 2) := by decide +kernel
theorem dX7_reads_187 : decode cX7_reads 187 = .ok (.invokevirtual 196, 3) := by decide +kernel
theorem dX7_reads_190 : decode cX7_reads 190 = .ok (.goto 13, 3) := by decide +kernel
theorem dX7_reads_193 : decode cX7_reads 193 = .ok (.aload_n 0, 1) := by decide +kernel
theorem dX7_reads_194 : decode cX7_reads 194 = .ok (.bipush 97, 2) := by decide +kernel
theorem dX7_reads_196 : decode cX7_reads 196 = .ok (.bipush 110, 2) := by decide +kernel
theorem dX7_reads_198 : decode cX7_reads 198 = .ok (.bipush 100, 2) := by decide +kernel
theorem dX7_reads_200 : decode cX7_reads 200 = .ok (.invokevirtual 202, 3) := by decide +kernel
theorem dX7_reads_203 : decode cX7_reads 203 = .ok (.aload_n 0, 1) := by decide +kernel
theorem dX7_reads_204 : decode cX7_reads 204 = .ok (.bipush 32, 2) := by decide +kernel
theorem dX7_reads_206 : decode cX7_reads 206 = .ok (.invokevirtual 196, 3) := by decide +kernel
theorem dX7_reads_209 : decode cX7_reads 209 = .ok (.aload_n 0, 1) := by decide +kernel
theorem dX7_reads_210 : decode cX7_reads 210 = .ok (.iload_n 1, 1) := by decide +kernel
theorem dX7_reads_211 : decode cX7_reads 211 = .ok (.bipush 6, 2) := by decide +kernel
theorem dX7_reads_213 : decode cX7_reads 213 = .ok (.iadd, 1) := by decide +kernel
theorem dX7_reads_214 : decode cX7_reads 214 = .ok (.iconst 3, 1) := by decide +kernel
theorem dX7_reads_215 : decode cX7_reads 215 = .ok (.iload_n 2, 1) := by decide +kernel
theorem dX7_reads_216 : decode cX7_reads 216 = .ok (.imul, 1) := by decide +kernel
theorem dX7_reads_217 : decode cX7_reads 217 = .ok (.iadd, 1) := by decide +kernel
theorem dX7_reads_218 : decode cX7_reads 218 = .ok (.invokevirtual 215, 3) := by decide +kernel
theorem dX7_reads_221 : decode cX7_reads 221 = .ok (.aload_n 0, 1) := by decide +kernel
theorem dX7_reads_222 : decode cX7_reads 222 = .ok (.getfield 68, 3) := by decide +kernel
theorem dX7_reads_225 : decode cX7_reads 225 = .ok (.iload_n 1, 1) := by decide +kernel
theorem dX7_reads_226 : decode cX7_reads 226 = .ok (.iconst 4, 1) := by decide +kernel
theorem dX7_reads_227 : decode cX7_reads 227 = .ok (.iadd, 1) := by decide +kernel
theorem dX7_reads_228 : decode cX7_reads 228 = .ok (.dup2, 1) := by decide +kernel
theorem dX7_reads_229 : decode cX7_reads 229 = .ok (.iaload, 1) := by decide +kernel
theorem dX7_reads_230 : decode cX7_reads 230 = .ok (.iconst 1, 1) := by decide +kernel
theorem dX7_reads_231 : decode cX7_reads 231 = .ok (.iadd, 1) := by decide +kernel
theorem dX7_reads_232 : decode cX7_reads 232 = .ok (.iastore, 1) := by decide +kernel
theorem dX7_reads_233 : decode cX7_reads 233 = .ok (.goto (-163), 3) := by decide +kernel
theorem dX7_reads_236 : decode cX7_reads 236 = .ok (.return_, 1) := by decide +kernel
theorem dX7_rule_0 : decode cX7_rule 0 = .ok (.iload_n 1, 1) := by decide +kernel
theorem dX7_rule_1 : decode cX7_rule 1 = .ok (.iconst 0, 1) := by decide +kernel
theorem dX7_rule_2 : decode cX7_rule 2 = .ok (.ldc 218, 2) := by decide +kernel
theorem dX7_rule_4 : decode cX7_rule 4 = .ok (.invokestatic 87, 3) := by decide +kernel
theorem dX7_rule_7 : decode cX7_rule 7 = .ok (.ifCond .eq 18, 3) := by decide +kernel
theorem dX7_rule_10 : decode cX7_rule 10 = .ok (.iload_n 2, 1) := by decide +kernel
theorem dX7_rule_11 : decode cX7_rule 11 = .ok (.iconst 0, 1) := by decide +kernel
theorem dX7_rule_12 : decode cX7_rule 12 = .ok (.ldc 218, 2) := by decide +kernel
theorem dX7_rule_14 : decode cX7_rule 14 = .ok (.invokestatic 87, 3) := by decide +kernel
theorem dX7_rule_17 : decode cX7_rule 17 = .ok (.ifCond .eq 8, 3) := by decide +kernel
theorem dX7_rule_20 : decode cX7_rule 20 = .ok (.iload_n 1, 1) := by decide +kernel
theorem dX7_rule_21 : decode cX7_rule 21 = .ok (.iload_n 2, 1) := by decide +kernel
theorem dX7_rule_22 : decode cX7_rule 22 = .ok (.if_icmp .lt 10, 3) := by decide +kernel
theorem dX7_rule_25 : decode cX7_rule 25 = .ok (.aload_n 0, 1) := by decide +kernel
theorem dX7_rule_26 : decode cX7_rule 26 = .ok (.bipush (-7), 2) := by decide +kernel
theorem dX7_rule_28 : decode cX7_rule 28 = .ok (.invokevirtual 94, 3) := by decide +kernel
theorem dX7_rule_31 : decode cX7_rule 31 = .ok (.ireturn, 1) := by decide +kernel
theorem dX7_rule_32 : decode cX7_rule 32 = .ok (.aload_n 0, 1) := by decide +kernel
theorem dX7_rule_33 : decode cX7_rule 33 = .ok (.getfield 139, 3) := by decide +kernel
theorem dX7_rule_36 : decode cX7_rule 36 = .ok (.bipush 10, 2) := by decide +kernel
theorem dX7_rule_38 : decode cX7_rule 38 = .ok (.if_icmp .ne 10, 3) := by decide +kernel
theorem dX7_rule_41 : decode cX7_rule 41 = .ok (.aload_n 0, 1) := by decide +kernel
theorem dX7_rule_42 : decode cX7_rule 42 = .ok (.bipush (-8), 2) := by decide +kernel
theorem dX7_rule_44 : decode cX7_rule 44 = .ok (.invokevirtual 94, 3) := by decide +kernel
theorem dX7_rule_47 : decode cX7_rule 47 = .ok (.ireturn, 1) := by decide +kernel
theorem dX7_rule_48 : decode cX7_rule 48 = .ok (.aload_n 0, 1) := by decide +kernel
theorem dX7_rule_49 : decode cX7_rule 49 = .ok (.invokevirtual 219, 3) := by decide +kernel
theorem dX7_rule_52 : decode cX7_rule 52 = .ok (.aload_n 0, 1) := by decide +kernel
theorem dX7_rule_53 : decode cX7_rule 53 = .ok (.getfield 188, 3) := by decide +kernel
theorem dX7_rule_56 : decode cX7_rule 56 = .ok (.ifCond .eq 11, 3) := by decide +kernel
theorem dX7_rule_59 : decode cX7_rule 59 = .ok (.bipush (-10), 2) := by decide +kernel
theorem dX7_rule_61 : decode cX7_rule 61 = .ok (.aload_n 0, 1) := by decide +kernel
theorem dX7_rule_62 : decode cX7_rule 62 = .ok (.getfield 185, 3) := by decide +kernel
theorem dX7_rule_65 : decode cX7_rule 65 = .ok (.isub, 1) := by decide +kernel
theorem dX7_rule_66 : decode cX7_rule 66 = .ok (.ireturn, 1) := by decide +kernel
theorem dX7_rule_67 : decode cX7_rule 67 = .ok (.aload_n 0, 1) := by decide +kernel
theorem dX7_rule_68 : decode cX7_rule 68 = .ok (.getfield 68, 3) := by decide +kernel
theorem dX7_rule_71 : decode cX7_rule 71 = .ok (.bipush 15, 2) := by decide +kernel
theorem dX7_rule_73 : decode cX7_rule 73 = .ok (.aload_n 0, 1) := by decide +kernel
theorem dX7_rule_74 : decode cX7_rule 74 = .ok (.getfield 139, 3) := by decide +kernel
theorem dX7_rule_77 : decode cX7_rule 77 = .ok (.imul, 1) := by decide +kernel
theorem dX7_rule_78 : decode cX7_rule 78 = .ok (.iload_n 1, 1) := by decide +kernel
theorem dX7_rule_79 : decode cX7_rule 79 = .ok (.iastore, 1) := by decide +kernel
theorem dX7_rule_80 : decode cX7_rule 80 = .ok (.aload_n 0, 1) := by decide +kernel
theorem dX7_rule_81 : decode cX7_rule 81 = .ok (.getfield 68, 3) := by decide +kernel
theorem dX7_rule_84 : decode cX7_rule 84 = .ok (.bipush 15, 2) := by decide +kernel
theorem dX7_rule_86 : decode cX7_rule 86 = .ok (.aload_n 0, 1) := by decide +kernel
theorem dX7_rule_87 : decode cX7_rule 87 = .ok (.getfield 139, 3) := by decide +kernel
theorem dX7_rule_90 : decode cX7_rule 90 = .ok (.imul, 1) := by decide +kernel
theorem dX7_rule_91 : decode cX7_rule 91 = .ok (.iconst 1, 1) := by decide +kernel
theorem dX7_rule_92 : decode cX7_rule 92 = .ok (.iadd, 1) := by decide +kernel
theorem dX7_rule_93 : decode cX7_rule 93 = .ok (.iload_n 2, 1) := by decide +kernel
theorem dX7_rule_94 : decode cX7_rule 94 = .ok (.iastore, 1) := by decide +kernel
theorem dX7_rule_95 : decode cX7_rule 95 = .ok (.aload_n 0, 1) := by decide +kernel
theorem dX7_rule_96 : decode cX7_rule 96 = .ok (.iconst 0, 1) := by decide +kernel
theorem dX7_rule_97 : decode cX7_rule 97 = .ok (.putfield 182, 3) := by decide +kernel
theorem dX7_rule_100 : decode cX7_rule 100 = .ok (.aload_n 0, 1) := by decide +kernel
theorem dX7_rule_101 : decode cX7_rule 101 = .ok (.dup, 1) := by decide +kernel
theorem dX7_rule_102 : decode cX7_rule 102 = .ok (.getfield 139, 3) := by decide +kernel
theorem dX7_rule_105 : decode cX7_rule 105 = .ok (.iconst 1, 1) := by decide +kernel
theorem dX7_rule_106 : decode cX7_rule 106 = .ok (.iadd, 1) := by decide +kernel
theorem dX7_rule_107 : decode cX7_rule 107 = .ok (.putfield 139, 3) := by decide +kernel
theorem dX7_rule_110 : decode cX7_rule 110 = .ok (.aload_n 0, 1) := by decide +kernel
theorem dX7_rule_111 : decode cX7_rule 111 = .ok (.getfield 139, 3) := by decide +kernel
theorem dX7_rule_114 : decode cX7_rule 114 = .ok (.iconst 1, 1) := by decide +kernel
theorem dX7_rule_115 : decode cX7_rule 115 = .ok (.isub, 1) := by decide +kernel
theorem dX7_rule_116 : decode cX7_rule 116 = .ok (.ireturn, 1) := by decide +kernel
theorem dX7_said_0 : decode cX7_said 0 = .ok (.aload_n 0, 1) := by decide +kernel
theorem dX7_said_1 : decode cX7_said 1 = .ok (.iload_n 1, 1) := by decide +kernel
theorem dX7_said_2 : decode cX7_said 2 = .ok (.invokevirtual 129, 3) := by decide +kernel
theorem dX7_said_5 : decode cX7_said 5 = .ok (.ifCond .eq 11, 3) := by decide +kernel
theorem dX7_said_8 : decode cX7_said 8 = .ok (.aload_n 0, 1) := by decide +kernel
theorem dX7_said_9 : decode cX7_said 9 = .ok (.iload_n 2, 1) := by decide +kernel
theorem dX7_said_10 : decode cX7_said 10 = .ok (.invokevirtual 98, 3) := by decide +kernel
theorem dX7_said_13 : decode cX7_said 13 = .ok (.ifCond .ne 10, 3) := by decide +kernel
theorem dX7_said_16 : decode cX7_said 16 = .ok (.aload_n 0, 1) := by decide +kernel
theorem dX7_said_17 : decode cX7_said 17 = .ok (.bipush (-3), 2) := by decide +kernel
theorem dX7_said_19 : decode cX7_said 19 = .ok (.invokevirtual 94, 3) := by decide +kernel
theorem dX7_said_22 : decode cX7_said 22 = .ok (.ireturn, 1) := by decide +kernel
theorem dX7_said_23 : decode cX7_said 23 = .ok (.iload_n 3, 1) := by decide +kernel
theorem dX7_said_24 : decode cX7_said 24 = .ok (.iconst 0, 1) := by decide +kernel
theorem dX7_said_25 : decode cX7_said 25 = .ok (.iconst 2, 1) := by decide +kernel
theorem dX7_said_26 : decode cX7_said 26 = .ok (.invokestatic 87, 3) := by decide +kernel
theorem dX7_said_29 : decode cX7_said 29 = .ok (.ifCond .eq 13, 3) := by decide +kernel
theorem dX7_said_32 : decode cX7_said 32 = .ok (.aload_n 0, 1) := by decide +kernel
theorem dX7_said_33 : decode cX7_said 33 = .ok (.iload_n 1, 1) := by decide +kernel
theorem dX7_said_34 : decode cX7_said 34 = .ok (.iload_n 2, 1) := by decide +kernel
theorem dX7_said_35 : decode cX7_said 35 = .ok (.iload_n 3, 1) := by decide +kernel
theorem dX7_said_36 : decode cX7_said 36 = .ok (.invokevirtual 145, 3) := by decide +kernel
theorem dX7_said_39 : decode cX7_said 39 = .ok (.goto 9, 3) := by decide +kernel
theorem dX7_said_42 : decode cX7_said 42 = .ok (.aload_n 0, 1) := by decide +kernel
theorem dX7_said_43 : decode cX7_said 43 = .ok (.bipush (-7), 2) := by decide +kernel
theorem dX7_said_45 : decode cX7_said 45 = .ok (.invokevirtual 94, 3) := by decide +kernel
theorem dX7_said_48 : decode cX7_said 48 = .ok (.ireturn, 1) := by decide +kernel
theorem dX7_count_0 : decode cX7_count 0 = .ok (.iload_n 1, 1) := by decide +kernel
theorem dX7_count_1 : decode cX7_count 1 = .ok (.iconst 5, 1) := by decide +kernel
theorem dX7_count_2 : decode cX7_count 2 = .ok (.bipush 9, 2) := by decide +kernel
theorem dX7_count_4 : decode cX7_count 4 = .ok (.invokestatic 87, 3) := by decide +kernel
theorem dX7_count_7 : decode cX7_count 7 = .ok (.ifCond .eq 11, 3) := by decide +kernel
theorem dX7_count_10 : decode cX7_count 10 = .ok (.aload_n 0, 1) := by decide +kernel
theorem dX7_count_11 : decode cX7_count 11 = .ok (.iload_n 1, 1) := by decide +kernel
theorem dX7_count_12 : decode cX7_count 12 = .ok (.iconst 5, 1) := by decide +kernel
theorem dX7_count_13 : decode cX7_count 13 = .ok (.isub, 1) := by decide +kernel
theorem dX7_count_14 : decode cX7_count 14 = .ok (.invokevirtual 151, 3) := by decide +kernel
theorem dX7_count_17 : decode cX7_count 17 = .ok (.ireturn, 1) := by decide +kernel
theorem dX7_count_18 : decode cX7_count 18 = .ok (.iload_n 1, 1) := by decide +kernel
theorem dX7_count_19 : decode cX7_count 19 = .ok (.tableswitch 87 0 10 #[57, 62, 67, 72, 77, 87, 87, 87, 87, 87, 82], 57) := by decide +kernel
theorem dX7_count_76 : decode cX7_count 76 = .ok (.aload_n 0, 1) := by decide +kernel
theorem dX7_count_77 : decode cX7_count 77 = .ok (.getfield 132, 3) := by decide +kernel
theorem dX7_count_80 : decode cX7_count 80 = .ok (.ireturn, 1) := by decide +kernel
theorem dX7_count_81 : decode cX7_count 81 = .ok (.aload_n 0, 1) := by decide +kernel
theorem dX7_count_82 : decode cX7_count 82 = .ok (.getfield 13, 3) := by decide +kernel
theorem dX7_count_85 : decode cX7_count 85 = .ok (.ireturn, 1) := by decide +kernel
theorem dX7_count_86 : decode cX7_count 86 = .ok (.aload_n 0, 1) := by decide +kernel
theorem dX7_count_87 : decode cX7_count 87 = .ok (.getfield 91, 3) := by decide +kernel
theorem dX7_count_90 : decode cX7_count 90 = .ok (.ireturn, 1) := by decide +kernel
theorem dX7_count_91 : decode cX7_count 91 = .ok (.aload_n 0, 1) := by decide +kernel
theorem dX7_count_92 : decode cX7_count 92 = .ok (.getfield 139, 3) := by decide +kernel
theorem dX7_count_95 : decode cX7_count 95 = .ok (.ireturn, 1) := by decide +kernel
theorem dX7_count_96 : decode cX7_count 96 = .ok (.aload_n 0, 1) := by decide +kernel
theorem dX7_count_97 : decode cX7_count 97 = .ok (.getfield 182, 3) := by decide +kernel
theorem dX7_count_100 : decode cX7_count 100 = .ok (.ireturn, 1) := by decide +kernel
theorem dX7_count_101 : decode cX7_count 101 = .ok (.aload_n 0, 1) := by decide +kernel
theorem dX7_count_102 : decode cX7_count 102 = .ok (.getfield 158, 3) := by decide +kernel
theorem dX7_count_105 : decode cX7_count 105 = .ok (.ireturn, 1) := by decide +kernel
theorem dX7_count_106 : decode cX7_count 106 = .ok (.aload_n 0, 1) := by decide +kernel
theorem dX7_count_107 : decode cX7_count 107 = .ok (.bipush (-7), 2) := by decide +kernel
theorem dX7_count_109 : decode cX7_count 109 = .ok (.invokevirtual 94, 3) := by decide +kernel
theorem dX7_count_112 : decode cX7_count 112 = .ok (.ireturn, 1) := by decide +kernel
theorem dX7_cold_0 : decode cX7_cold 0 = .ok (.aload_n 0, 1) := by decide +kernel
theorem dX7_cold_1 : decode cX7_cold 1 = .ok (.getfield 222, 3) := by decide +kernel
theorem dX7_cold_4 : decode cX7_cold 4 = .ok (.ifCond .ne 10, 3) := by decide +kernel
theorem dX7_cold_7 : decode cX7_cold 7 = .ok (.aload_n 0, 1) := by decide +kernel
theorem dX7_cold_8 : decode cX7_cold 8 = .ok (.bipush (-2), 2) := by decide +kernel
theorem dX7_cold_10 : decode cX7_cold 10 = .ok (.invokevirtual 94, 3) := by decide +kernel
theorem dX7_cold_13 : decode cX7_cold 13 = .ok (.ireturn, 1) := by decide +kernel
theorem dX7_cold_14 : decode cX7_cold 14 = .ok (.iconst 0, 1) := by decide +kernel
theorem dX7_cold_15 : decode cX7_cold 15 = .ok (.istore_n 1, 1) := by decide +kernel
theorem dX7_cold_16 : decode cX7_cold 16 = .ok (.iconst 0, 1) := by decide +kernel
theorem dX7_cold_17 : decode cX7_cold 17 = .ok (.istore_n 2, 1) := by decide +kernel
theorem dX7_cold_18 : decode cX7_cold 18 = .ok (.iload_n 2, 1) := by decide +kernel
theorem dX7_cold_19 : decode cX7_cold 19 = .ok (.bipush 48, 2) := by decide +kernel
theorem dX7_cold_21 : decode cX7_cold 21 = .ok (.if_icmp .ge 59, 3) := by decide +kernel
theorem dX7_cold_24 : decode cX7_cold 24 = .ok (.aload_n 0, 1) := by decide +kernel
theorem dX7_cold_25 : decode cX7_cold 25 = .ok (.getfield 81, 3) := by decide +kernel
theorem dX7_cold_28 : decode cX7_cold 28 = .ok (.iload_n 2, 1) := by decide +kernel
theorem dX7_cold_29 : decode cX7_cold 29 = .ok (.iaload, 1) := by decide +kernel
theorem dX7_cold_30 : decode cX7_cold 30 = .ok (.sipush (-600), 3) := by decide +kernel
theorem dX7_cold_33 : decode cX7_cold 33 = .ok (.sipush 300, 3) := by decide +kernel
theorem dX7_cold_36 : decode cX7_cold 36 = .ok (.invokestatic 87, 3) := by decide +kernel
theorem dX7_cold_39 : decode cX7_cold 39 = .ok (.istore_n 3, 1) := by decide +kernel
theorem dX7_cold_40 : decode cX7_cold 40 = .ok (.aload_n 0, 1) := by decide +kernel
theorem dX7_cold_41 : decode cX7_cold 41 = .ok (.getfield 44, 3) := by decide +kernel
theorem dX7_cold_44 : decode cX7_cold 44 = .ok (.iload_n 2, 1) := by decide +kernel
theorem dX7_cold_45 : decode cX7_cold 45 = .ok (.iload_n 3, 1) := by decide +kernel
theorem dX7_cold_46 : decode cX7_cold 46 = .ok (.ifCond .eq 12, 3) := by decide +kernel
theorem dX7_cold_49 : decode cX7_cold 49 = .ok (.aload_n 0, 1) := by decide +kernel
theorem dX7_cold_50 : decode cX7_cold 50 = .ok (.getfield 81, 3) := by decide +kernel
theorem dX7_cold_53 : decode cX7_cold 53 = .ok (.iload_n 2, 1) := by decide +kernel
theorem dX7_cold_54 : decode cX7_cold 54 = .ok (.iaload, 1) := by decide +kernel
theorem dX7_cold_55 : decode cX7_cold 55 = .ok (.goto 6, 3) := by decide +kernel
theorem dX7_cold_58 : decode cX7_cold 58 = .ok (.sipush (-9999), 3) := by decide +kernel
theorem dX7_cold_61 : decode cX7_cold 61 = .ok (.iastore, 1) := by decide +kernel
theorem dX7_cold_62 : decode cX7_cold 62 = .ok (.iload_n 1, 1) := by decide +kernel
theorem dX7_cold_63 : decode cX7_cold 63 = .ok (.iload_n 3, 1) := by decide +kernel
theorem dX7_cold_64 : decode cX7_cold 64 = .ok (.ifCond .eq 7, 3) := by decide +kernel
theorem dX7_cold_67 : decode cX7_cold 67 = .ok (.iconst 1, 1) := by decide +kernel
theorem dX7_cold_68 : decode cX7_cold 68 = .ok (.goto 4, 3) := by decide +kernel
theorem dX7_cold_71 : decode cX7_cold 71 = .ok (.iconst 0, 1) := by decide +kernel
theorem dX7_cold_72 : decode cX7_cold 72 = .ok (.iadd, 1) := by decide +kernel
theorem dX7_cold_73 : decode cX7_cold 73 = .ok (.istore_n 1, 1) := by decide +kernel
theorem dX7_cold_74 : decode cX7_cold 74 = .ok (.iinc 2 1, 3) := by decide +kernel
theorem dX7_cold_77 : decode cX7_cold 77 = .ok (.goto (-59), 3) := by decide +kernel
theorem dX7_cold_80 : decode cX7_cold 80 = .ok (.iload_n 1, 1) := by decide +kernel
theorem dX7_cold_81 : decode cX7_cold 81 = .ok (.ireturn, 1) := by decide +kernel
theorem dX7_tell_0 : decode cX7_tell 0 = .ok (.iload_n 1, 1) := by decide +kernel
theorem dX7_tell_1 : decode cX7_tell 1 = .ok (.iconst 0, 1) := by decide +kernel
theorem dX7_tell_2 : decode cX7_tell 2 = .ok (.bipush 47, 2) := by decide +kernel
theorem dX7_tell_4 : decode cX7_tell 4 = .ok (.invokestatic 87, 3) := by decide +kernel
theorem dX7_tell_7 : decode cX7_tell 7 = .ok (.ifCond .ne 10, 3) := by decide +kernel
theorem dX7_tell_10 : decode cX7_tell 10 = .ok (.aload_n 0, 1) := by decide +kernel
theorem dX7_tell_11 : decode cX7_tell 11 = .ok (.bipush (-3), 2) := by decide +kernel
theorem dX7_tell_13 : decode cX7_tell 13 = .ok (.invokevirtual 94, 3) := by decide +kernel
theorem dX7_tell_16 : decode cX7_tell 16 = .ok (.ireturn, 1) := by decide +kernel
theorem dX7_tell_17 : decode cX7_tell 17 = .ok (.iload_n 2, 1) := by decide +kernel
theorem dX7_tell_18 : decode cX7_tell 18 = .ok (.sipush (-9999), 3) := by decide +kernel
theorem dX7_tell_21 : decode cX7_tell 21 = .ok (.sipush 9999, 3) := by decide +kernel
theorem dX7_tell_24 : decode cX7_tell 24 = .ok (.invokestatic 87, 3) := by decide +kernel
theorem dX7_tell_27 : decode cX7_tell 27 = .ok (.ifCond .ne 10, 3) := by decide +kernel
theorem dX7_tell_30 : decode cX7_tell 30 = .ok (.aload_n 0, 1) := by decide +kernel
theorem dX7_tell_31 : decode cX7_tell 31 = .ok (.bipush (-7), 2) := by decide +kernel
theorem dX7_tell_33 : decode cX7_tell 33 = .ok (.invokevirtual 94, 3) := by decide +kernel
theorem dX7_tell_36 : decode cX7_tell 36 = .ok (.ireturn, 1) := by decide +kernel
theorem dX7_tell_37 : decode cX7_tell 37 = .ok (.iconst 0, 1) := by decide +kernel
theorem dX7_tell_38 : decode cX7_tell 38 = .ok (.istore_n 3, 1) := by decide +kernel
theorem dX7_tell_39 : decode cX7_tell 39 = .ok (.iload_n 3, 1) := by decide +kernel
theorem dX7_tell_40 : decode cX7_tell 40 = .ok (.bipush 48, 2) := by decide +kernel
theorem dX7_tell_42 : decode cX7_tell 42 = .ok (.if_icmp .ge 23, 3) := by decide +kernel
theorem dX7_tell_45 : decode cX7_tell 45 = .ok (.aload_n 0, 1) := by decide +kernel
theorem dX7_tell_46 : decode cX7_tell 46 = .ok (.getfield 222, 3) := by decide +kernel
theorem dX7_tell_49 : decode cX7_tell 49 = .ok (.ifCond .ne 16, 3) := by decide +kernel
theorem dX7_tell_52 : decode cX7_tell 52 = .ok (.aload_n 0, 1) := by decide +kernel
theorem dX7_tell_53 : decode cX7_tell 53 = .ok (.getfield 81, 3) := by decide +kernel
theorem dX7_tell_56 : decode cX7_tell 56 = .ok (.iload_n 3, 1) := by decide +kernel
theorem dX7_tell_57 : decode cX7_tell 57 = .ok (.iconst 0, 1) := by decide +kernel
theorem dX7_tell_58 : decode cX7_tell 58 = .ok (.iastore, 1) := by decide +kernel
theorem dX7_tell_59 : decode cX7_tell 59 = .ok (.iinc 3 1, 3) := by decide +kernel
theorem dX7_tell_62 : decode cX7_tell 62 = .ok (.goto (-23), 3) := by decide +kernel
theorem dX7_tell_65 : decode cX7_tell 65 = .ok (.aload_n 0, 1) := by decide +kernel
theorem dX7_tell_66 : decode cX7_tell 66 = .ok (.iconst 1, 1) := by decide +kernel
theorem dX7_tell_67 : decode cX7_tell 67 = .ok (.putfield 222, 3) := by decide +kernel
theorem dX7_tell_70 : decode cX7_tell 70 = .ok (.aload_n 0, 1) := by decide +kernel
theorem dX7_tell_71 : decode cX7_tell 71 = .ok (.getfield 81, 3) := by decide +kernel
theorem dX7_tell_74 : decode cX7_tell 74 = .ok (.iload_n 1, 1) := by decide +kernel
theorem dX7_tell_75 : decode cX7_tell 75 = .ok (.iload_n 2, 1) := by decide +kernel
theorem dX7_tell_76 : decode cX7_tell 76 = .ok (.iastore, 1) := by decide +kernel
theorem dX7_tell_77 : decode cX7_tell 77 = .ok (.iconst 1, 1) := by decide +kernel
theorem dX7_tell_78 : decode cX7_tell 78 = .ok (.ireturn, 1) := by decide +kernel
theorem dX7_tear_0 : decode cX7_tear 0 = .ok (.aload_n 0, 1) := by decide +kernel
theorem dX7_tear_1 : decode cX7_tear 1 = .ok (.getfield 222, 3) := by decide +kernel
theorem dX7_tear_4 : decode cX7_tear 4 = .ok (.istore_n 1, 1) := by decide +kernel
theorem dX7_tear_5 : decode cX7_tear 5 = .ok (.aload_n 0, 1) := by decide +kernel
theorem dX7_tear_6 : decode cX7_tear 6 = .ok (.iconst 0, 1) := by decide +kernel
theorem dX7_tear_7 : decode cX7_tear 7 = .ok (.putfield 222, 3) := by decide +kernel
theorem dX7_tear_10 : decode cX7_tear 10 = .ok (.iload_n 1, 1) := by decide +kernel
theorem dX7_tear_11 : decode cX7_tear 11 = .ok (.ifCond .eq 7, 3) := by decide +kernel
theorem dX7_tear_14 : decode cX7_tear 14 = .ok (.iconst 1, 1) := by decide +kernel
theorem dX7_tear_15 : decode cX7_tear 15 = .ok (.goto 4, 3) := by decide +kernel
theorem dX7_tear_18 : decode cX7_tear 18 = .ok (.iconst 0, 1) := by decide +kernel
theorem dX7_tear_19 : decode cX7_tear 19 = .ok (.ireturn, 1) := by decide +kernel
theorem dX7_row_0 : decode cX7_row 0 = .ok (.aload_n 0, 1) := by decide +kernel
theorem dX7_row_1 : decode cX7_row 1 = .ok (.getfield 222, 3) := by decide +kernel
theorem dX7_row_4 : decode cX7_row 4 = .ok (.ifCond .ne 10, 3) := by decide +kernel
theorem dX7_row_7 : decode cX7_row 7 = .ok (.aload_n 0, 1) := by decide +kernel
theorem dX7_row_8 : decode cX7_row 8 = .ok (.bipush (-2), 2) := by decide +kernel
theorem dX7_row_10 : decode cX7_row 10 = .ok (.invokevirtual 119, 3) := by decide +kernel
theorem dX7_row_13 : decode cX7_row 13 = .ok (.ireturn, 1) := by decide +kernel
theorem dX7_row_14 : decode cX7_row 14 = .ok (.iload_n 1, 1) := by decide +kernel
theorem dX7_row_15 : decode cX7_row 15 = .ok (.iconst 0, 1) := by decide +kernel
theorem dX7_row_16 : decode cX7_row 16 = .ok (.bipush 47, 2) := by decide +kernel
theorem dX7_row_18 : decode cX7_row 18 = .ok (.invokestatic 87, 3) := by decide +kernel
theorem dX7_row_21 : decode cX7_row 21 = .ok (.ifCond .eq 12, 3) := by decide +kernel
theorem dX7_row_24 : decode cX7_row 24 = .ok (.aload_n 0, 1) := by decide +kernel
theorem dX7_row_25 : decode cX7_row 25 = .ok (.getfield 81, 3) := by decide +kernel
theorem dX7_row_28 : decode cX7_row 28 = .ok (.iload_n 1, 1) := by decide +kernel
theorem dX7_row_29 : decode cX7_row 29 = .ok (.iaload, 1) := by decide +kernel
theorem dX7_row_30 : decode cX7_row 30 = .ok (.goto 9, 3) := by decide +kernel
theorem dX7_row_33 : decode cX7_row 33 = .ok (.aload_n 0, 1) := by decide +kernel
theorem dX7_row_34 : decode cX7_row 34 = .ok (.bipush (-3), 2) := by decide +kernel
theorem dX7_row_36 : decode cX7_row 36 = .ok (.invokevirtual 119, 3) := by decide +kernel
theorem dX7_row_39 : decode cX7_row 39 = .ok (.ireturn, 1) := by decide +kernel
theorem dX7_copy_0 : decode cX7_copy 0 = .ok (.aload_n 0, 1) := by decide +kernel
theorem dX7_copy_1 : decode cX7_copy 1 = .ok (.getfield 222, 3) := by decide +kernel
theorem dX7_copy_4 : decode cX7_copy 4 = .ok (.ifCond .ne 10, 3) := by decide +kernel
theorem dX7_copy_7 : decode cX7_copy 7 = .ok (.aload_n 0, 1) := by decide +kernel
theorem dX7_copy_8 : decode cX7_copy 8 = .ok (.bipush (-2), 2) := by decide +kernel
theorem dX7_copy_10 : decode cX7_copy 10 = .ok (.invokevirtual 94, 3) := by decide +kernel
theorem dX7_copy_13 : decode cX7_copy 13 = .ok (.ireturn, 1) := by decide +kernel
theorem dX7_copy_14 : decode cX7_copy 14 = .ok (.iload_n 3, 1) := by decide +kernel
theorem dX7_copy_15 : decode cX7_copy 15 = .ok (.ifCond .ge 10, 3) := by decide +kernel
theorem dX7_copy_18 : decode cX7_copy 18 = .ok (.aload_n 0, 1) := by decide +kernel
theorem dX7_copy_19 : decode cX7_copy 19 = .ok (.bipush (-4), 2) := by decide +kernel
theorem dX7_copy_21 : decode cX7_copy 21 = .ok (.invokevirtual 94, 3) := by decide +kernel
theorem dX7_copy_24 : decode cX7_copy 24 = .ok (.ireturn, 1) := by decide +kernel
theorem dX7_copy_25 : decode cX7_copy 25 = .ok (.iload_n 1, 1) := by decide +kernel
theorem dX7_copy_26 : decode cX7_copy 26 = .ok (.ifCond .lt 35, 3) := by decide +kernel
theorem dX7_copy_29 : decode cX7_copy 29 = .ok (.iload_n 2, 1) := by decide +kernel
theorem dX7_copy_30 : decode cX7_copy 30 = .ok (.ifCond .lt 31, 3) := by decide +kernel
theorem dX7_copy_33 : decode cX7_copy 33 = .ok (.iload_n 1, 1) := by decide +kernel
theorem dX7_copy_34 : decode cX7_copy 34 = .ok (.bipush 48, 2) := by decide +kernel
theorem dX7_copy_36 : decode cX7_copy 36 = .ok (.if_icmp .gt 25, 3) := by decide +kernel
theorem dX7_copy_39 : decode cX7_copy 39 = .ok (.iload_n 2, 1) := by decide +kernel
theorem dX7_copy_40 : decode cX7_copy 40 = .ok (.bipush 48, 2) := by decide +kernel
theorem dX7_copy_42 : decode cX7_copy 42 = .ok (.if_icmp .gt 19, 3) := by decide +kernel
theorem dX7_copy_45 : decode cX7_copy 45 = .ok (.iload_n 3, 1) := by decide +kernel
theorem dX7_copy_46 : decode cX7_copy 46 = .ok (.bipush 48, 2) := by decide +kernel
theorem dX7_copy_48 : decode cX7_copy 48 = .ok (.iload_n 1, 1) := by decide +kernel
theorem dX7_copy_49 : decode cX7_copy 49 = .ok (.isub, 1) := by decide +kernel
theorem dX7_copy_50 : decode cX7_copy 50 = .ok (.if_icmp .gt 11, 3) := by decide +kernel
theorem dX7_copy_53 : decode cX7_copy 53 = .ok (.iload_n 3, 1) := by decide +kernel
theorem dX7_copy_54 : decode cX7_copy 54 = .ok (.bipush 48, 2) := by decide +kernel
theorem dX7_copy_56 : decode cX7_copy 56 = .ok (.iload_n 2, 1) := by decide +kernel
theorem dX7_copy_57 : decode cX7_copy 57 = .ok (.isub, 1) := by decide +kernel
theorem dX7_copy_58 : decode cX7_copy 58 = .ok (.if_icmp .le 10, 3) := by decide +kernel
theorem dX7_copy_61 : decode cX7_copy 61 = .ok (.aload_n 0, 1) := by decide +kernel
theorem dX7_copy_62 : decode cX7_copy 62 = .ok (.bipush (-6), 2) := by decide +kernel
theorem dX7_copy_64 : decode cX7_copy 64 = .ok (.invokevirtual 94, 3) := by decide +kernel
theorem dX7_copy_67 : decode cX7_copy 67 = .ok (.ireturn, 1) := by decide +kernel
theorem dX7_copy_68 : decode cX7_copy 68 = .ok (.iconst 0, 1) := by decide +kernel
theorem dX7_copy_69 : decode cX7_copy 69 = .ok (.istore 4, 2) := by decide +kernel
theorem dX7_copy_71 : decode cX7_copy 71 = .ok (.iload 4, 2) := by decide +kernel
theorem dX7_copy_73 : decode cX7_copy 73 = .ok (.iload_n 3, 1) := by decide +kernel
theorem dX7_copy_74 : decode cX7_copy 74 = .ok (.if_icmp .ge 25, 3) := by decide +kernel
theorem dX7_copy_77 : decode cX7_copy 77 = .ok (.aload_n 0, 1) := by decide +kernel
theorem dX7_copy_78 : decode cX7_copy 78 = .ok (.getfield 84, 3) := by decide +kernel
theorem dX7_copy_81 : decode cX7_copy 81 = .ok (.iload 4, 2) := by decide +kernel
theorem dX7_copy_83 : decode cX7_copy 83 = .ok (.aload_n 0, 1) := by decide +kernel
theorem dX7_copy_84 : decode cX7_copy 84 = .ok (.getfield 81, 3) := by decide +kernel
theorem dX7_copy_87 : decode cX7_copy 87 = .ok (.iload_n 1, 1) := by decide +kernel
theorem dX7_copy_88 : decode cX7_copy 88 = .ok (.iload 4, 2) := by decide +kernel
theorem dX7_copy_90 : decode cX7_copy 90 = .ok (.iadd, 1) := by decide +kernel
theorem dX7_copy_91 : decode cX7_copy 91 = .ok (.iaload, 1) := by decide +kernel
theorem dX7_copy_92 : decode cX7_copy 92 = .ok (.iastore, 1) := by decide +kernel
theorem dX7_copy_93 : decode cX7_copy 93 = .ok (.iinc 4 1, 3) := by decide +kernel
theorem dX7_copy_96 : decode cX7_copy 96 = .ok (.goto (-25), 3) := by decide +kernel
theorem dX7_copy_99 : decode cX7_copy 99 = .ok (.iconst 0, 1) := by decide +kernel
theorem dX7_copy_100 : decode cX7_copy 100 = .ok (.istore 4, 2) := by decide +kernel
theorem dX7_copy_102 : decode cX7_copy 102 = .ok (.iload 4, 2) := by decide +kernel
theorem dX7_copy_104 : decode cX7_copy 104 = .ok (.iload_n 3, 1) := by decide +kernel
theorem dX7_copy_105 : decode cX7_copy 105 = .ok (.if_icmp .ge 25, 3) := by decide +kernel
theorem dX7_copy_108 : decode cX7_copy 108 = .ok (.aload_n 0, 1) := by decide +kernel
theorem dX7_copy_109 : decode cX7_copy 109 = .ok (.getfield 81, 3) := by decide +kernel
theorem dX7_copy_112 : decode cX7_copy 112 = .ok (.iload_n 2, 1) := by decide +kernel
theorem dX7_copy_113 : decode cX7_copy 113 = .ok (.iload 4, 2) := by decide +kernel
theorem dX7_copy_115 : decode cX7_copy 115 = .ok (.iadd, 1) := by decide +kernel
theorem dX7_copy_116 : decode cX7_copy 116 = .ok (.aload_n 0, 1) := by decide +kernel
theorem dX7_copy_117 : decode cX7_copy 117 = .ok (.getfield 84, 3) := by decide +kernel
theorem dX7_copy_120 : decode cX7_copy 120 = .ok (.iload 4, 2) := by decide +kernel
theorem dX7_copy_122 : decode cX7_copy 122 = .ok (.iaload, 1) := by decide +kernel
theorem dX7_copy_123 : decode cX7_copy 123 = .ok (.iastore, 1) := by decide +kernel
theorem dX7_copy_124 : decode cX7_copy 124 = .ok (.iinc 4 1, 3) := by decide +kernel
theorem dX7_copy_127 : decode cX7_copy 127 = .ok (.goto (-25), 3) := by decide +kernel
theorem dX7_copy_130 : decode cX7_copy 130 = .ok (.iload_n 3, 1) := by decide +kernel
theorem dX7_copy_131 : decode cX7_copy 131 = .ok (.ireturn, 1) := by decide +kernel
theorem dX7_status_0 : decode cX7_status 0 = .ok (.iload_n 1, 1) := by decide +kernel
theorem dX7_status_1 : decode cX7_status 1 = .ok (.bipush (-8), 2) := by decide +kernel
theorem dX7_status_3 : decode cX7_status 3 = .ok (.bipush (-2), 2) := by decide +kernel
theorem dX7_status_5 : decode cX7_status 5 = .ok (.invokestatic 87, 3) := by decide +kernel
theorem dX7_status_8 : decode cX7_status 8 = .ok (.ifCond .eq 13, 3) := by decide +kernel
theorem dX7_status_11 : decode cX7_status 11 = .ok (.aload_n 0, 1) := by decide +kernel
theorem dX7_status_12 : decode cX7_status 12 = .ok (.getfield 7, 3) := by decide +kernel
theorem dX7_status_15 : decode cX7_status 15 = .ok (.iload_n 1, 1) := by decide +kernel
theorem dX7_status_16 : decode cX7_status 16 = .ok (.ineg, 1) := by decide +kernel
theorem dX7_status_17 : decode cX7_status 17 = .ok (.iaload, 1) := by decide +kernel
theorem dX7_status_18 : decode cX7_status 18 = .ok (.goto 9, 3) := by decide +kernel
theorem dX7_status_21 : decode cX7_status 21 = .ok (.aload_n 0, 1) := by decide +kernel
theorem dX7_status_22 : decode cX7_status 22 = .ok (.bipush (-7), 2) := by decide +kernel
theorem dX7_status_24 : decode cX7_status 24 = .ok (.invokevirtual 94, 3) := by decide +kernel
theorem dX7_status_27 : decode cX7_status 27 = .ok (.ireturn, 1) := by decide +kernel
