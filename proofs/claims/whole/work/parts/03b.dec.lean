theorem dX6_bypass_36 : decode cX6_bypass 36 = .ok (.ireturn, 1) := by decide +kernel
theorem dX6_bypass_37 : decode cX6_bypass 37 = .ok (.aload_n 0, 1) := by decide +kernel
theorem dX6_bypass_38 : decode cX6_bypass 38 = .ok (.iload_n 1, 1) := by decide +kernel
theorem dX6_bypass_39 : decode cX6_bypass 39 = .ok (.invokevirtual 126, 3) := by decide +kernel
theorem dX6_bypass_42 : decode cX6_bypass 42 = .ok (.ifCond .le 10, 3) := by decide +kernel
theorem dX6_bypass_45 : decode cX6_bypass 45 = .ok (.aload_n 0, 1) := by decide +kernel
theorem dX6_bypass_46 : decode cX6_bypass 46 = .ok (.bipush (-7), 2) := by decide +kernel
theorem dX6_bypass_48 : decode cX6_bypass 48 = .ok (.invokevirtual 91, 3) := by decide +kernel
theorem dX6_bypass_51 : decode cX6_bypass 51 = .ok (.ireturn, 1) := by decide +kernel
theorem dX6_bypass_52 : decode cX6_bypass 52 = .ok (.aload_n 2, 1) := by decide +kernel
theorem dX6_bypass_53 : decode cX6_bypass 53 = .ok (.iconst 1, 1) := by decide +kernel
theorem dX6_bypass_54 : decode cX6_bypass 54 = .ok (.invokevirtual 141, 3) := by decide +kernel
theorem dX6_bypass_57 : decode cX6_bypass 57 = .ok (.aload_n 2, 1) := by decide +kernel
theorem dX6_bypass_58 : decode cX6_bypass 58 = .ok (.iconst 0, 1) := by decide +kernel
theorem dX6_bypass_59 : decode cX6_bypass 59 = .ok (.putfield 105, 3) := by decide +kernel
theorem dX6_bypass_62 : decode cX6_bypass 62 = .ok (.aload_n 2, 1) := by decide +kernel
theorem dX6_bypass_63 : decode cX6_bypass 63 = .ok (.iconst 0, 1) := by decide +kernel
theorem dX6_bypass_64 : decode cX6_bypass 64 = .ok (.putfield 114, 3) := by decide +kernel
theorem dX6_bypass_67 : decode cX6_bypass 67 = .ok (.aload_n 2, 1) := by decide +kernel
theorem dX6_bypass_68 : decode cX6_bypass 68 = .ok (.aload_n 2, 1) := by decide +kernel
theorem dX6_bypass_69 : decode cX6_bypass 69 = .ok (.getfield 102, 3) := by decide +kernel
theorem dX6_bypass_72 : decode cX6_bypass 72 = .ok (.iconst 2, 1) := by decide +kernel
theorem dX6_bypass_73 : decode cX6_bypass 73 = .ok (.idiv, 1) := by decide +kernel
theorem dX6_bypass_74 : decode cX6_bypass 74 = .ok (.putfield 102, 3) := by decide +kernel
theorem dX6_bypass_77 : decode cX6_bypass 77 = .ok (.aload_n 2, 1) := by decide +kernel
theorem dX6_bypass_78 : decode cX6_bypass 78 = .ok (.getfield 102, 3) := by decide +kernel
theorem dX6_bypass_81 : decode cX6_bypass 81 = .ok (.ireturn, 1) := by decide +kernel
theorem dX6_snow_0 : decode cX6_snow 0 = .ok (.iload_n 1, 1) := by decide +kernel
theorem dX6_snow_1 : decode cX6_snow 1 = .ok (.iconst 1, 1) := by decide +kernel
theorem dX6_snow_2 : decode cX6_snow 2 = .ok (.bipush 100, 2) := by decide +kernel
theorem dX6_snow_4 : decode cX6_snow 4 = .ok (.invokestatic 87, 3) := by decide +kernel
theorem dX6_snow_7 : decode cX6_snow 7 = .ok (.ifCond .ne 10, 3) := by decide +kernel
theorem dX6_snow_10 : decode cX6_snow 10 = .ok (.aload_n 0, 1) := by decide +kernel
theorem dX6_snow_11 : decode cX6_snow 11 = .ok (.bipush (-7), 2) := by decide +kernel
theorem dX6_snow_13 : decode cX6_snow 13 = .ok (.invokevirtual 91, 3) := by decide +kernel
theorem dX6_snow_16 : decode cX6_snow 16 = .ok (.ireturn, 1) := by decide +kernel
theorem dX6_snow_17 : decode cX6_snow 17 = .ok (.iconst 0, 1) := by decide +kernel
theorem dX6_snow_18 : decode cX6_snow 18 = .ok (.istore_n 2, 1) := by decide +kernel
theorem dX6_snow_19 : decode cX6_snow 19 = .ok (.iconst 0, 1) := by decide +kernel
theorem dX6_snow_20 : decode cX6_snow 20 = .ok (.istore_n 3, 1) := by decide +kernel
theorem dX6_snow_21 : decode cX6_snow 21 = .ok (.iload_n 3, 1) := by decide +kernel
theorem dX6_snow_22 : decode cX6_snow 22 = .ok (.aload_n 0, 1) := by decide +kernel
theorem dX6_snow_23 : decode cX6_snow 23 = .ok (.getfield 68, 3) := by decide +kernel
theorem dX6_snow_26 : decode cX6_snow 26 = .ok (.if_icmp .ge 30, 3) := by decide +kernel
theorem dX6_snow_29 : decode cX6_snow 29 = .ok (.iload_n 2, 1) := by decide +kernel
theorem dX6_snow_30 : decode cX6_snow 30 = .ok (.aload_n 0, 1) := by decide +kernel
theorem dX6_snow_31 : decode cX6_snow 31 = .ok (.getfield 11, 3) := by decide +kernel
theorem dX6_snow_34 : decode cX6_snow 34 = .ok (.iload_n 3, 1) := by decide +kernel
theorem dX6_snow_35 : decode cX6_snow 35 = .ok (.aaload, 1) := by decide +kernel
theorem dX6_snow_36 : decode cX6_snow 36 = .ok (.iload_n 1, 1) := by decide +kernel
theorem dX6_snow_37 : decode cX6_snow 37 = .ok (.invokevirtual 145, 3) := by decide +kernel
theorem dX6_snow_40 : decode cX6_snow 40 = .ok (.ifCond .eq 7, 3) := by decide +kernel
theorem dX6_snow_43 : decode cX6_snow 43 = .ok (.iconst 1, 1) := by decide +kernel
theorem dX6_snow_44 : decode cX6_snow 44 = .ok (.goto 4, 3) := by decide +kernel
theorem dX6_snow_47 : decode cX6_snow 47 = .ok (.iconst 0, 1) := by decide +kernel
theorem dX6_snow_48 : decode cX6_snow 48 = .ok (.iadd, 1) := by decide +kernel
theorem dX6_snow_49 : decode cX6_snow 49 = .ok (.istore_n 2, 1) := by decide +kernel
theorem dX6_snow_50 : decode cX6_snow 50 = .ok (.iinc 3 1, 3) := by decide +kernel
theorem dX6_snow_53 : decode cX6_snow 53 = .ok (.goto (-32), 3) := by decide +kernel
theorem dX6_snow_56 : decode cX6_snow 56 = .ok (.iload_n 2, 1) := by decide +kernel
theorem dX6_snow_57 : decode cX6_snow 57 = .ok (.ireturn, 1) := by decide +kernel
theorem dX6_load_0 : decode cX6_load 0 = .ok (.iload_n 1, 1) := by decide +kernel
theorem dX6_load_1 : decode cX6_load 1 = .ok (.iconst 1, 1) := by decide +kernel
theorem dX6_load_2 : decode cX6_load 2 = .ok (.bipush 99, 2) := by decide +kernel
theorem dX6_load_4 : decode cX6_load 4 = .ok (.invokestatic 87, 3) := by decide +kernel
theorem dX6_load_7 : decode cX6_load 7 = .ok (.ifCond .eq 26, 3) := by decide +kernel
theorem dX6_load_10 : decode cX6_load 10 = .ok (.iload_n 2, 1) := by decide +kernel
theorem dX6_load_11 : decode cX6_load 11 = .ok (.iconst 0, 1) := by decide +kernel
theorem dX6_load_12 : decode cX6_load 12 = .ok (.bipush 9, 2) := by decide +kernel
theorem dX6_load_14 : decode cX6_load 14 = .ok (.invokestatic 87, 3) := by decide +kernel
theorem dX6_load_17 : decode cX6_load 17 = .ok (.ifCond .eq 16, 3) := by decide +kernel
theorem dX6_load_20 : decode cX6_load 20 = .ok (.iload_n 3, 1) := by decide +kernel
theorem dX6_load_21 : decode cX6_load 21 = .ok (.iconst 0, 1) := by decide +kernel
theorem dX6_load_22 : decode cX6_load 22 = .ok (.iconst 1, 1) := by decide +kernel
theorem dX6_load_23 : decode cX6_load 23 = .ok (.invokestatic 87, 3) := by decide +kernel
theorem dX6_load_26 : decode cX6_load 26 = .ok (.ifCond .eq 7, 3) := by decide +kernel
theorem dX6_load_29 : decode cX6_load 29 = .ok (.iconst 1, 1) := by decide +kernel
theorem dX6_load_30 : decode cX6_load 30 = .ok (.goto 4, 3) := by decide +kernel
theorem dX6_load_33 : decode cX6_load 33 = .ok (.iconst 0, 1) := by decide +kernel
theorem dX6_load_34 : decode cX6_load 34 = .ok (.istore 4, 2) := by decide +kernel
theorem dX6_load_36 : decode cX6_load 36 = .ok (.iload 4, 2) := by decide +kernel
theorem dX6_load_38 : decode cX6_load 38 = .ok (.ifCond .ne 10, 3) := by decide +kernel
theorem dX6_load_41 : decode cX6_load 41 = .ok (.aload_n 0, 1) := by decide +kernel
theorem dX6_load_42 : decode cX6_load 42 = .ok (.bipush (-7), 2) := by decide +kernel
theorem dX6_load_44 : decode cX6_load 44 = .ok (.invokevirtual 91, 3) := by decide +kernel
theorem dX6_load_47 : decode cX6_load 47 = .ok (.ireturn, 1) := by decide +kernel
theorem dX6_load_48 : decode cX6_load 48 = .ok (.aload_n 0, 1) := by decide +kernel
theorem dX6_load_49 : decode cX6_load 49 = .ok (.getfield 72, 3) := by decide +kernel
theorem dX6_load_52 : decode cX6_load 52 = .ok (.bipush 24, 2) := by decide +kernel
theorem dX6_load_54 : decode cX6_load 54 = .ok (.if_icmp .lt 10, 3) := by decide +kernel
theorem dX6_load_57 : decode cX6_load 57 = .ok (.aload_n 0, 1) := by decide +kernel
theorem dX6_load_58 : decode cX6_load 58 = .ok (.bipush (-8), 2) := by decide +kernel
theorem dX6_load_60 : decode cX6_load 60 = .ok (.invokevirtual 91, 3) := by decide +kernel
theorem dX6_load_63 : decode cX6_load 63 = .ok (.ireturn, 1) := by decide +kernel
theorem dX6_load_64 : decode cX6_load 64 = .ok (.aload_n 0, 1) := by decide +kernel
theorem dX6_load_65 : decode cX6_load 65 = .ok (.getfield 17, 3) := by decide +kernel
theorem dX6_load_68 : decode cX6_load 68 = .ok (.aload_n 0, 1) := by decide +kernel
theorem dX6_load_69 : decode cX6_load 69 = .ok (.getfield 72, 3) := by decide +kernel
theorem dX6_load_72 : decode cX6_load 72 = .ok (.aaload, 1) := by decide +kernel
theorem dX6_load_73 : decode cX6_load 73 = .ok (.astore 5, 2) := by decide +kernel
theorem dX6_load_75 : decode cX6_load 75 = .ok (.aload 5, 2) := by decide +kernel
theorem dX6_load_77 : decode cX6_load 77 = .ok (.iload_n 1, 1) := by decide +kernel
theorem dX6_load_78 : decode cX6_load 78 = .ok (.putfield 148, 3) := by decide +kernel
theorem dX6_load_81 : decode cX6_load 81 = .ok (.aload 5, 2) := by decide +kernel
theorem dX6_load_83 : decode cX6_load 83 = .ok (.iload_n 2, 1) := by decide +kernel
theorem dX6_load_84 : decode cX6_load 84 = .ok (.putfield 151, 3) := by decide +kernel
theorem dX6_load_87 : decode cX6_load 87 = .ok (.aload 5, 2) := by decide +kernel
theorem dX6_load_89 : decode cX6_load 89 = .ok (.iload_n 3, 1) := by decide +kernel
theorem dX6_load_90 : decode cX6_load 90 = .ok (.putfield 154, 3) := by decide +kernel
theorem dX6_load_93 : decode cX6_load 93 = .ok (.aload_n 0, 1) := by decide +kernel
theorem dX6_load_94 : decode cX6_load 94 = .ok (.aload 5, 2) := by decide +kernel
theorem dX6_load_96 : decode cX6_load 96 = .ok (.invokevirtual 157, 3) := by decide +kernel
theorem dX6_load_99 : decode cX6_load 99 = .ok (.aload_n 0, 1) := by decide +kernel
theorem dX6_load_100 : decode cX6_load 100 = .ok (.dup, 1) := by decide +kernel
theorem dX6_load_101 : decode cX6_load 101 = .ok (.getfield 72, 3) := by decide +kernel
theorem dX6_load_104 : decode cX6_load 104 = .ok (.iconst 1, 1) := by decide +kernel
theorem dX6_load_105 : decode cX6_load 105 = .ok (.iadd, 1) := by decide +kernel
theorem dX6_load_106 : decode cX6_load 106 = .ok (.putfield 72, 3) := by decide +kernel
theorem dX6_load_109 : decode cX6_load 109 = .ok (.aload_n 0, 1) := by decide +kernel
theorem dX6_load_110 : decode cX6_load 110 = .ok (.getfield 72, 3) := by decide +kernel
theorem dX6_load_113 : decode cX6_load 113 = .ok (.iconst 1, 1) := by decide +kernel
theorem dX6_load_114 : decode cX6_load 114 = .ok (.isub, 1) := by decide +kernel
theorem dX6_load_115 : decode cX6_load 115 = .ok (.ireturn, 1) := by decide +kernel
theorem dX6_of_0 : decode cX6_of 0 = .ok (.aload_n 0, 1) := by decide +kernel
theorem dX6_of_1 : decode cX6_of 1 = .ok (.iload_n 1, 1) := by decide +kernel
theorem dX6_of_2 : decode cX6_of 2 = .ok (.invokevirtual 161, 3) := by decide +kernel
theorem dX6_of_5 : decode cX6_of 5 = .ok (.ifCond .ne 10, 3) := by decide +kernel
theorem dX6_of_8 : decode cX6_of 8 = .ok (.aload_n 0, 1) := by decide +kernel
theorem dX6_of_9 : decode cX6_of 9 = .ok (.bipush (-3), 2) := by decide +kernel
theorem dX6_of_11 : decode cX6_of 11 = .ok (.invokevirtual 91, 3) := by decide +kernel
theorem dX6_of_14 : decode cX6_of 14 = .ok (.ireturn, 1) := by decide +kernel
theorem dX6_of_15 : decode cX6_of 15 = .ok (.aload_n 0, 1) := by decide +kernel
theorem dX6_of_16 : decode cX6_of 16 = .ok (.getfield 17, 3) := by decide +kernel
theorem dX6_of_19 : decode cX6_of 19 = .ok (.iload_n 1, 1) := by decide +kernel
theorem dX6_of_20 : decode cX6_of 20 = .ok (.aaload, 1) := by decide +kernel
theorem dX6_of_21 : decode cX6_of 21 = .ok (.astore_n 3, 1) := by decide +kernel
theorem dX6_of_22 : decode cX6_of 22 = .ok (.iload_n 2, 1) := by decide +kernel
theorem dX6_of_23 : decode cX6_of 23 = .ok (.tableswitch 76 0 6 #[41, 46, 51, 56, 61, 66, 71], 41) := by decide +kernel
theorem dX6_of_64 : decode cX6_of 64 = .ok (.aload_n 3, 1) := by decide +kernel
theorem dX6_of_65 : decode cX6_of 65 = .ok (.getfield 148, 3) := by decide +kernel
theorem dX6_of_68 : decode cX6_of 68 = .ok (.ireturn, 1) := by decide +kernel
theorem dX6_of_69 : decode cX6_of 69 = .ok (.aload_n 3, 1) := by decide +kernel
theorem dX6_of_70 : decode cX6_of 70 = .ok (.getfield 151, 3) := by decide +kernel
theorem dX6_of_73 : decode cX6_of 73 = .ok (.ireturn, 1) := by decide +kernel
theorem dX6_of_74 : decode cX6_of 74 = .ok (.aload_n 3, 1) := by decide +kernel
theorem dX6_of_75 : decode cX6_of 75 = .ok (.getfield 154, 3) := by decide +kernel
theorem dX6_of_78 : decode cX6_of 78 = .ok (.ireturn, 1) := by decide +kernel
theorem dX6_of_79 : decode cX6_of 79 = .ok (.aload_n 3, 1) := by decide +kernel
theorem dX6_of_80 : decode cX6_of 80 = .ok (.getfield 164, 3) := by decide +kernel
theorem dX6_of_83 : decode cX6_of 83 = .ok (.ireturn, 1) := by decide +kernel
theorem dX6_of_84 : decode cX6_of 84 = .ok (.aload_n 3, 1) := by decide +kernel
theorem dX6_of_85 : decode cX6_of 85 = .ok (.getfield 167, 3) := by decide +kernel
theorem dX6_of_88 : decode cX6_of 88 = .ok (.ireturn, 1) := by decide +kernel
theorem dX6_of_89 : decode cX6_of 89 = .ok (.aload_n 3, 1) := by decide +kernel
theorem dX6_of_90 : decode cX6_of 90 = .ok (.getfield 170, 3) := by decide +kernel
theorem dX6_of_93 : decode cX6_of 93 = .ok (.ireturn, 1) := by decide +kernel
theorem dX6_of_94 : decode cX6_of 94 = .ok (.aload_n 3, 1) := by decide +kernel
theorem dX6_of_95 : decode cX6_of 95 = .ok (.getfield 173, 3) := by decide +kernel
theorem dX6_of_98 : decode cX6_of 98 = .ok (.ireturn, 1) := by decide +kernel
theorem dX6_of_99 : decode cX6_of 99 = .ok (.aload_n 0, 1) := by decide +kernel
theorem dX6_of_100 : decode cX6_of 100 = .ok (.bipush (-7), 2) := by decide +kernel
theorem dX6_of_102 : decode cX6_of 102 = .ok (.invokevirtual 91, 3) := by decide +kernel
theorem dX6_of_105 : decode cX6_of 105 = .ok (.ireturn, 1) := by decide +kernel
theorem dX6_may_0 : decode cX6_may 0 = .ok (.aload_n 0, 1) := by decide +kernel
theorem dX6_may_1 : decode cX6_may 1 = .ok (.iload_n 1, 1) := by decide +kernel
theorem dX6_may_2 : decode cX6_may 2 = .ok (.invokevirtual 161, 3) := by decide +kernel
theorem dX6_may_5 : decode cX6_may 5 = .ok (.ifCond .eq 11, 3) := by decide +kernel
theorem dX6_may_8 : decode cX6_may 8 = .ok (.aload_n 0, 1) := by decide +kernel
theorem dX6_may_9 : decode cX6_may 9 = .ok (.iload_n 2, 1) := by decide +kernel
theorem dX6_may_10 : decode cX6_may 10 = .ok (.invokevirtual 95, 3) := by decide +kernel
theorem dX6_may_13 : decode cX6_may 13 = .ok (.ifCond .ne 10, 3) := by decide +kernel
theorem dX6_may_16 : decode cX6_may 16 = .ok (.aload_n 0, 1) := by decide +kernel
theorem dX6_may_17 : decode cX6_may 17 = .ok (.bipush (-3), 2) := by decide +kernel
theorem dX6_may_19 : decode cX6_may 19 = .ok (.invokevirtual 91, 3) := by decide +kernel
theorem dX6_may_22 : decode cX6_may 22 = .ok (.ireturn, 1) := by decide +kernel
theorem dX6_may_23 : decode cX6_may 23 = .ok (.aload_n 0, 1) := by decide +kernel
theorem dX6_may_24 : decode cX6_may 24 = .ok (.aload_n 0, 1) := by decide +kernel
theorem dX6_may_25 : decode cX6_may 25 = .ok (.getfield 17, 3) := by decide +kernel
theorem dX6_may_28 : decode cX6_may 28 = .ok (.iload_n 1, 1) := by decide +kernel
theorem dX6_may_29 : decode cX6_may 29 = .ok (.aaload, 1) := by decide +kernel
theorem dX6_may_30 : decode cX6_may 30 = .ok (.iload_n 2, 1) := by decide +kernel
theorem dX6_may_31 : decode cX6_may 31 = .ok (.invokevirtual 176, 3) := by decide +kernel
theorem dX6_may_34 : decode cX6_may 34 = .ok (.ifCond .ne 7, 3) := by decide +kernel
theorem dX6_may_37 : decode cX6_may 37 = .ok (.iconst 1, 1) := by decide +kernel
theorem dX6_may_38 : decode cX6_may 38 = .ok (.goto 4, 3) := by decide +kernel
theorem dX6_may_41 : decode cX6_may 41 = .ok (.iconst 0, 1) := by decide +kernel
theorem dX6_may_42 : decode cX6_may 42 = .ok (.ireturn, 1) := by decide +kernel
theorem dX6_why_0 : decode cX6_why 0 = .ok (.aload_n 0, 1) := by decide +kernel
theorem dX6_why_1 : decode cX6_why 1 = .ok (.iload_n 1, 1) := by decide +kernel
theorem dX6_why_2 : decode cX6_why 2 = .ok (.invokevirtual 161, 3) := by decide +kernel
theorem dX6_why_5 : decode cX6_why 5 = .ok (.ifCond .eq 11, 3) := by decide +kernel
theorem dX6_why_8 : decode cX6_why 8 = .ok (.aload_n 0, 1) := by decide +kernel
theorem dX6_why_9 : decode cX6_why 9 = .ok (.iload_n 2, 1) := by decide +kernel
theorem dX6_why_10 : decode cX6_why 10 = .ok (.invokevirtual 95, 3) := by decide +kernel
theorem dX6_why_13 : decode cX6_why 13 = .ok (.ifCond .ne 10, 3) := by decide +kernel
theorem dX6_why_16 : decode cX6_why 16 = .ok (.aload_n 0, 1) := by decide +kernel
theorem dX6_why_17 : decode cX6_why 17 = .ok (.bipush (-3), 2) := by decide +kernel
theorem dX6_why_19 : decode cX6_why 19 = .ok (.invokevirtual 91, 3) := by decide +kernel
theorem dX6_why_22 : decode cX6_why 22 = .ok (.ireturn, 1) := by decide +kernel
theorem dX6_why_23 : decode cX6_why 23 = .ok (.aload_n 0, 1) := by decide +kernel
theorem dX6_why_24 : decode cX6_why 24 = .ok (.aload_n 0, 1) := by decide +kernel
theorem dX6_why_25 : decode cX6_why 25 = .ok (.getfield 17, 3) := by decide +kernel
theorem dX6_why_28 : decode cX6_why 28 = .ok (.iload_n 1, 1) := by decide +kernel
theorem dX6_why_29 : decode cX6_why 29 = .ok (.aaload, 1) := by decide +kernel
theorem dX6_why_30 : decode cX6_why 30 = .ok (.iload_n 2, 1) := by decide +kernel
theorem dX6_why_31 : decode cX6_why 31 = .ok (.invokevirtual 176, 3) := by decide +kernel
theorem dX6_why_34 : decode cX6_why 34 = .ok (.ireturn, 1) := by decide +kernel
theorem dX6_turn_0 : decode cX6_turn 0 = .ok (.aload_n 0, 1) := by decide +kernel
theorem dX6_turn_1 : decode cX6_turn 1 = .ok (.iload_n 1, 1) := by decide +kernel
theorem dX6_turn_2 : decode cX6_turn 2 = .ok (.invokevirtual 161, 3) := by decide +kernel
theorem dX6_turn_5 : decode cX6_turn 5 = .ok (.ifCond .ne 10, 3) := by decide +kernel
theorem dX6_turn_8 : decode cX6_turn 8 = .ok (.aload_n 0, 1) := by decide +kernel
theorem dX6_turn_9 : decode cX6_turn 9 = .ok (.bipush (-3), 2) := by decide +kernel
theorem dX6_turn_11 : decode cX6_turn 11 = .ok (.invokevirtual 91, 3) := by decide +kernel
theorem dX6_turn_14 : decode cX6_turn 14 = .ok (.ireturn, 1) := by decide +kernel
theorem dX6_turn_15 : decode cX6_turn 15 = .ok (.aload_n 0, 1) := by decide +kernel
theorem dX6_turn_16 : decode cX6_turn 16 = .ok (.getfield 17, 3) := by decide +kernel
theorem dX6_turn_19 : decode cX6_turn 19 = .ok (.iload_n 1, 1) := by decide +kernel
theorem dX6_turn_20 : decode cX6_turn 20 = .ok (.aaload, 1) := by decide +kernel
theorem dX6_turn_21 : decode cX6_turn 21 = .ok (.getfield 164, 3) := by decide +kernel
theorem dX6_turn_24 : decode cX6_turn 24 = .ok (.ifCond .eq 10, 3) := by decide +kernel
theorem dX6_turn_27 : decode cX6_turn 27 = .ok (.aload_n 0, 1) := by decide +kernel
theorem dX6_turn_28 : decode cX6_turn 28 = .ok (.bipush (-7), 2) := by decide +kernel
theorem dX6_turn_30 : decode cX6_turn 30 = .ok (.invokevirtual 91, 3) := by decide +kernel
theorem dX6_turn_33 : decode cX6_turn 33 = .ok (.ireturn, 1) := by decide +kernel
theorem dX6_turn_34 : decode cX6_turn 34 = .ok (.aload_n 0, 1) := by decide +kernel
theorem dX6_turn_35 : decode cX6_turn 35 = .ok (.getfield 17, 3) := by decide +kernel
theorem dX6_turn_38 : decode cX6_turn 38 = .ok (.iload_n 1, 1) := by decide +kernel
theorem dX6_turn_39 : decode cX6_turn 39 = .ok (.aaload, 1) := by decide +kernel
theorem dX6_turn_40 : decode cX6_turn 40 = .ok (.iconst 4, 1) := by decide +kernel
theorem dX6_turn_41 : decode cX6_turn 41 = .ok (.putfield 164, 3) := by decide +kernel
theorem dX6_turn_44 : decode cX6_turn 44 = .ok (.aload_n 0, 1) := by decide +kernel
theorem dX6_turn_45 : decode cX6_turn 45 = .ok (.iconst 0, 1) := by decide +kernel
theorem dX6_turn_46 : decode cX6_turn 46 = .ok (.invokevirtual 180, 3) := by decide +kernel
theorem dX6_turn_49 : decode cX6_turn 49 = .ok (.ireturn, 1) := by decide +kernel
theorem dX6_run_0 : decode cX6_run 0 = .ok (.iload_n 1, 1) := by decide +kernel
theorem dX6_run_1 : decode cX6_run 1 = .ok (.ifCond .ge 10, 3) := by decide +kernel
theorem dX6_run_4 : decode cX6_run 4 = .ok (.aload_n 0, 1) := by decide +kernel
theorem dX6_run_5 : decode cX6_run 5 = .ok (.bipush (-4), 2) := by decide +kernel
theorem dX6_run_7 : decode cX6_run 7 = .ok (.invokevirtual 91, 3) := by decide +kernel
theorem dX6_run_10 : decode cX6_run 10 = .ok (.ireturn, 1) := by decide +kernel
theorem dX6_run_11 : decode cX6_run 11 = .ok (.iload_n 1, 1) := by decide +kernel
theorem dX6_run_12 : decode cX6_run 12 = .ok (.iconst 1, 1) := by decide +kernel
theorem dX6_run_13 : decode cX6_run 13 = .ok (.sipush 200, 3) := by decide +kernel
theorem dX6_run_16 : decode cX6_run 16 = .ok (.invokestatic 87, 3) := by decide +kernel
theorem dX6_run_19 : decode cX6_run 19 = .ok (.ifCond .ne 10, 3) := by decide +kernel
theorem dX6_run_22 : decode cX6_run 22 = .ok (.aload_n 0, 1) := by decide +kernel
theorem dX6_run_23 : decode cX6_run 23 = .ok (.bipush (-7), 2) := by decide +kernel
theorem dX6_run_25 : decode cX6_run 25 = .ok (.invokevirtual 91, 3) := by decide +kernel
theorem dX6_run_28 : decode cX6_run 28 = .ok (.ireturn, 1) := by decide +kernel
theorem dX6_run_29 : decode cX6_run 29 = .ok (.aload_n 0, 1) := by decide +kernel
theorem dX6_run_30 : decode cX6_run 30 = .ok (.iconst 2, 1) := by decide +kernel
theorem dX6_run_31 : decode cX6_run 31 = .ok (.invokevirtual 180, 3) := by decide +kernel
theorem dX6_run_34 : decode cX6_run 34 = .ok (.istore_n 2, 1) := by decide +kernel
theorem dX6_run_35 : decode cX6_run 35 = .ok (.iconst 0, 1) := by decide +kernel
theorem dX6_run_36 : decode cX6_run 36 = .ok (.istore_n 3, 1) := by decide +kernel
theorem dX6_run_37 : decode cX6_run 37 = .ok (.iload_n 3, 1) := by decide +kernel
theorem dX6_run_38 : decode cX6_run 38 = .ok (.iload_n 1, 1) := by decide +kernel
theorem dX6_run_39 : decode cX6_run 39 = .ok (.if_icmp .ge 35, 3) := by decide +kernel
theorem dX6_run_42 : decode cX6_run 42 = .ok (.aload_n 0, 1) := by decide +kernel
theorem dX6_run_43 : decode cX6_run 43 = .ok (.invokevirtual 183, 3) := by decide +kernel
theorem dX6_run_46 : decode cX6_run 46 = .ok (.aload_n 0, 1) := by decide +kernel
theorem dX6_run_47 : decode cX6_run 47 = .ok (.invokevirtual 186, 3) := by decide +kernel
theorem dX6_run_50 : decode cX6_run 50 = .ok (.aload_n 0, 1) := by decide +kernel
theorem dX6_run_51 : decode cX6_run 51 = .ok (.invokevirtual 189, 3) := by decide +kernel
theorem dX6_run_54 : decode cX6_run 54 = .ok (.aload_n 0, 1) := by decide +kernel
theorem dX6_run_55 : decode cX6_run 55 = .ok (.invokevirtual 192, 3) := by decide +kernel
theorem dX6_run_58 : decode cX6_run 58 = .ok (.aload_n 0, 1) := by decide +kernel
theorem dX6_run_59 : decode cX6_run 59 = .ok (.dup, 1) := by decide +kernel
theorem dX6_run_60 : decode cX6_run 60 = .ok (.getfield 78, 3) := by decide +kernel
theorem dX6_run_63 : decode cX6_run 63 = .ok (.iconst 1, 1) := by decide +kernel
theorem dX6_run_64 : decode cX6_run 64 = .ok (.iadd, 1) := by decide +kernel
theorem dX6_run_65 : decode cX6_run 65 = .ok (.putfield 78, 3) := by decide +kernel
theorem dX6_run_68 : decode cX6_run 68 = .ok (.iinc 3 1, 3) := by decide +kernel
theorem dX6_run_71 : decode cX6_run 71 = .ok (.goto (-34), 3) := by decide +kernel
theorem dX6_run_74 : decode cX6_run 74 = .ok (.aload_n 0, 1) := by decide +kernel
theorem dX6_run_75 : decode cX6_run 75 = .ok (.iconst 2, 1) := by decide +kernel
theorem dX6_run_76 : decode cX6_run 76 = .ok (.invokevirtual 180, 3) := by decide +kernel
theorem dX6_run_79 : decode cX6_run 79 = .ok (.iload_n 2, 1) := by decide +kernel
theorem dX6_run_80 : decode cX6_run 80 = .ok (.isub, 1) := by decide +kernel
theorem dX6_run_81 : decode cX6_run 81 = .ok (.ireturn, 1) := by decide +kernel
theorem dX6_thaw_0 : decode cX6_thaw 0 = .ok (.iload_n 1, 1) := by decide +kernel
theorem dX6_thaw_1 : decode cX6_thaw 1 = .ok (.iconst 1, 1) := by decide +kernel
theorem dX6_thaw_2 : decode cX6_thaw 2 = .ok (.bipush 99, 2) := by decide +kernel
theorem dX6_thaw_4 : decode cX6_thaw 4 = .ok (.invokestatic 87, 3) := by decide +kernel
theorem dX6_thaw_7 : decode cX6_thaw 7 = .ok (.ifCond .eq 16, 3) := by decide +kernel
theorem dX6_thaw_10 : decode cX6_thaw 10 = .ok (.iload_n 2, 1) := by decide +kernel
theorem dX6_thaw_11 : decode cX6_thaw 11 = .ok (.sipush (-600), 3) := by decide +kernel
theorem dX6_thaw_14 : decode cX6_thaw 14 = .ok (.sipush 300, 3) := by decide +kernel
theorem dX6_thaw_17 : decode cX6_thaw 17 = .ok (.invokestatic 87, 3) := by decide +kernel
theorem dX6_thaw_20 : decode cX6_thaw 20 = .ok (.ifCond .ne 10, 3) := by decide +kernel
theorem dX6_thaw_23 : decode cX6_thaw 23 = .ok (.aload_n 0, 1) := by decide +kernel
theorem dX6_thaw_24 : decode cX6_thaw 24 = .ok (.bipush (-7), 2) := by decide +kernel
theorem dX6_thaw_26 : decode cX6_thaw 26 = .ok (.invokevirtual 91, 3) := by decide +kernel
theorem dX6_thaw_29 : decode cX6_thaw 29 = .ok (.ireturn, 1) := by decide +kernel
theorem dX6_thaw_30 : decode cX6_thaw 30 = .ok (.sipush 500, 3) := by decide +kernel
theorem dX6_thaw_33 : decode cX6_thaw 33 = .ok (.istore_n 3, 1) := by decide +kernel
theorem dX6_thaw_34 : decode cX6_thaw 34 = .ok (.iconst 0, 1) := by decide +kernel
theorem dX6_thaw_35 : decode cX6_thaw 35 = .ok (.istore 4, 2) := by decide +kernel
theorem dX6_thaw_37 : decode cX6_thaw 37 = .ok (.iload 4, 2) := by decide +kernel
theorem dX6_thaw_39 : decode cX6_thaw 39 = .ok (.aload_n 0, 1) := by decide +kernel
theorem dX6_thaw_40 : decode cX6_thaw 40 = .ok (.getfield 68, 3) := by decide +kernel
theorem dX6_thaw_43 : decode cX6_thaw 43 = .ok (.if_icmp .ge 24, 3) := by decide +kernel
theorem dX6_thaw_46 : decode cX6_thaw 46 = .ok (.aload_n 0, 1) := by decide +kernel
theorem dX6_thaw_47 : decode cX6_thaw 47 = .ok (.aload_n 0, 1) := by decide +kernel
theorem dX6_thaw_48 : decode cX6_thaw 48 = .ok (.getfield 11, 3) := by decide +kernel
theorem dX6_thaw_51 : decode cX6_thaw 51 = .ok (.iload 4, 2) := by decide +kernel
theorem dX6_thaw_53 : decode cX6_thaw 53 = .ok (.aaload, 1) := by decide +kernel
theorem dX6_thaw_54 : decode cX6_thaw 54 = .ok (.iload_n 1, 1) := by decide +kernel
theorem dX6_thaw_55 : decode cX6_thaw 55 = .ok (.iload_n 2, 1) := by decide +kernel
theorem dX6_thaw_56 : decode cX6_thaw 56 = .ok (.iload_n 3, 1) := by decide +kernel
theorem dX6_thaw_57 : decode cX6_thaw 57 = .ok (.invokevirtual 195, 3) := by decide +kernel
theorem dX6_thaw_60 : decode cX6_thaw 60 = .ok (.istore_n 3, 1) := by decide +kernel
theorem dX6_thaw_61 : decode cX6_thaw 61 = .ok (.iinc 4 1, 3) := by decide +kernel
theorem dX6_thaw_64 : decode cX6_thaw 64 = .ok (.goto (-27), 3) := by decide +kernel
theorem dX6_thaw_67 : decode cX6_thaw 67 = .ok (.iload_n 3, 1) := by decide +kernel
theorem dX6_thaw_68 : decode cX6_thaw 68 = .ok (.ireturn, 1) := by decide +kernel
theorem dX6_feed_0 : decode cX6_feed 0 = .ok (.iload_n 2, 1) := by decide +kernel
theorem dX6_feed_1 : decode cX6_feed 1 = .ok (.ifCond .ge 10, 3) := by decide +kernel
theorem dX6_feed_4 : decode cX6_feed 4 = .ok (.aload_n 0, 1) := by decide +kernel
theorem dX6_feed_5 : decode cX6_feed 5 = .ok (.bipush (-4), 2) := by decide +kernel
theorem dX6_feed_7 : decode cX6_feed 7 = .ok (.invokevirtual 91, 3) := by decide +kernel
theorem dX6_feed_10 : decode cX6_feed 10 = .ok (.ireturn, 1) := by decide +kernel
theorem dX6_feed_11 : decode cX6_feed 11 = .ok (.iload_n 2, 1) := by decide +kernel
theorem dX6_feed_12 : decode cX6_feed 12 = .ok (.iconst 4, 1) := by decide +kernel
theorem dX6_feed_13 : decode cX6_feed 13 = .ok (.if_icmp .le 10, 3) := by decide +kernel
theorem dX6_feed_16 : decode cX6_feed 16 = .ok (.aload_n 0, 1) := by decide +kernel
theorem dX6_feed_17 : decode cX6_feed 17 = .ok (.bipush (-7), 2) := by decide +kernel
theorem dX6_feed_19 : decode cX6_feed 19 = .ok (.invokevirtual 91, 3) := by decide +kernel
theorem dX6_feed_22 : decode cX6_feed 22 = .ok (.ireturn, 1) := by decide +kernel
theorem dX6_feed_23 : decode cX6_feed 23 = .ok (.aload_n 0, 1) := by decide +kernel
theorem dX6_feed_24 : decode cX6_feed 24 = .ok (.getfield 48, 3) := by decide +kernel
theorem dX6_feed_27 : decode cX6_feed 27 = .ok (.getfield 199, 3) := by decide +kernel
theorem dX6_feed_30 : decode cX6_feed 30 = .ok (.iload_n 2, 1) := by decide +kernel
theorem dX6_feed_31 : decode cX6_feed 31 = .ok (.iadd, 1) := by decide +kernel
theorem dX6_feed_32 : decode cX6_feed 32 = .ok (.bipush 80, 2) := by decide +kernel
theorem dX6_feed_34 : decode cX6_feed 34 = .ok (.if_icmp .le 10, 3) := by decide +kernel
theorem dX6_feed_37 : decode cX6_feed 37 = .ok (.aload_n 0, 1) := by decide +kernel
theorem dX6_feed_38 : decode cX6_feed 38 = .ok (.bipush (-8), 2) := by decide +kernel
theorem dX6_feed_40 : decode cX6_feed 40 = .ok (.invokevirtual 91, 3) := by decide +kernel
theorem dX6_feed_43 : decode cX6_feed 43 = .ok (.ireturn, 1) := by decide +kernel
theorem dX6_feed_44 : decode cX6_feed 44 = .ok (.iload_n 2, 1) := by decide +kernel
theorem dX6_feed_45 : decode cX6_feed 45 = .ok (.iconst 1, 1) := by decide +kernel
theorem dX6_feed_46 : decode cX6_feed 46 = .ok (.isub, 1) := by decide +kernel
theorem dX6_feed_47 : decode cX6_feed 47 = .ok (.istore_n 3, 1) := by decide +kernel
theorem dX6_feed_48 : decode cX6_feed 48 = .ok (.iload_n 3, 1) := by decide +kernel
theorem dX6_feed_49 : decode cX6_feed 49 = .ok (.ifCond .lt 26, 3) := by decide +kernel
theorem dX6_feed_52 : decode cX6_feed 52 = .ok (.aload_n 0, 1) := by decide +kernel
theorem dX6_feed_53 : decode cX6_feed 53 = .ok (.getfield 48, 3) := by decide +kernel
theorem dX6_feed_56 : decode cX6_feed 56 = .ok (.iload_n 1, 1) := by decide +kernel
theorem dX6_feed_57 : decode cX6_feed 57 = .ok (.bipush 8, 2) := by decide +kernel
theorem dX6_feed_59 : decode cX6_feed 59 = .ok (.iload_n 3, 1) := by decide +kernel
theorem dX6_feed_60 : decode cX6_feed 60 = .ok (.imul, 1) := by decide +kernel
theorem dX6_feed_61 : decode cX6_feed 61 = .ok (.ishr, 1) := by decide +kernel
theorem dX6_feed_62 : decode cX6_feed 62 = .ok (.sipush 255, 3) := by decide +kernel
theorem dX6_feed_65 : decode cX6_feed 65 = .ok (.iand, 1) := by decide +kernel
theorem dX6_feed_66 : decode cX6_feed 66 = .ok (.invokevirtual 202, 3) := by decide +kernel
theorem dX6_feed_69 : decode cX6_feed 69 = .ok (.iinc 3 (-1), 3) := by decide +kernel
theorem dX6_feed_72 : decode cX6_feed 72 = .ok (.goto (-24), 3) := by decide +kernel
theorem dX6_feed_75 : decode cX6_feed 75 = .ok (.aload_n 0, 1) := by decide +kernel
theorem dX6_feed_76 : decode cX6_feed 76 = .ok (.getfield 48, 3) := by decide +kernel
theorem dX6_feed_79 : decode cX6_feed 79 = .ok (.getfield 199, 3) := by decide +kernel
theorem dX6_feed_82 : decode cX6_feed 82 = .ok (.ireturn, 1) := by decide +kernel
theorem dX6_wipe_0 : decode cX6_wipe 0 = .ok (.aload_n 0, 1) := by decide +kernel
theorem dX6_wipe_1 : decode cX6_wipe 1 = .ok (.getfield 48, 3) := by decide +kernel
theorem dX6_wipe_4 : decode cX6_wipe 4 = .ok (.getfield 199, 3) := by decide +kernel
theorem dX6_wipe_7 : decode cX6_wipe 7 = .ok (.istore_n 1, 1) := by decide +kernel
theorem dX6_wipe_8 : decode cX6_wipe 8 = .ok (.aload_n 0, 1) := by decide +kernel
theorem dX6_wipe_9 : decode cX6_wipe 9 = .ok (.getfield 48, 3) := by decide +kernel
theorem dX6_wipe_12 : decode cX6_wipe 12 = .ok (.iconst 0, 1) := by decide +kernel
theorem dX6_wipe_13 : decode cX6_wipe 13 = .ok (.putfield 199, 3) := by decide +kernel
theorem dX6_wipe_16 : decode cX6_wipe 16 = .ok (.iload_n 1, 1) := by decide +kernel
theorem dX6_wipe_17 : decode cX6_wipe 17 = .ok (.ireturn, 1) := by decide +kernel
theorem dX6_rule_0 : decode cX6_rule 0 = .ok (.iload_n 1, 1) := by decide +kernel
theorem dX6_rule_1 : decode cX6_rule 1 = .ok (.iconst 0, 1) := by decide +kernel
theorem dX6_rule_2 : decode cX6_rule 2 = .ok (.ldc 205, 2) := by decide +kernel
theorem dX6_rule_4 : decode cX6_rule 4 = .ok (.invokestatic 87, 3) := by decide +kernel
theorem dX6_rule_7 : decode cX6_rule 7 = .ok (.ifCond .eq 18, 3) := by decide +kernel
theorem dX6_rule_10 : decode cX6_rule 10 = .ok (.iload_n 2, 1) := by decide +kernel
theorem dX6_rule_11 : decode cX6_rule 11 = .ok (.iconst 0, 1) := by decide +kernel
theorem dX6_rule_12 : decode cX6_rule 12 = .ok (.ldc 205, 2) := by decide +kernel
theorem dX6_rule_14 : decode cX6_rule 14 = .ok (.invokestatic 87, 3) := by decide +kernel
theorem dX6_rule_17 : decode cX6_rule 17 = .ok (.ifCond .eq 8, 3) := by decide +kernel
theorem dX6_rule_20 : decode cX6_rule 20 = .ok (.iload_n 1, 1) := by decide +kernel
theorem dX6_rule_21 : decode cX6_rule 21 = .ok (.iload_n 2, 1) := by decide +kernel
theorem dX6_rule_22 : decode cX6_rule 22 = .ok (.if_icmp .lt 10, 3) := by decide +kernel
theorem dX6_rule_25 : decode cX6_rule 25 = .ok (.aload_n 0, 1) := by decide +kernel
theorem dX6_rule_26 : decode cX6_rule 26 = .ok (.bipush (-7), 2) := by decide +kernel
theorem dX6_rule_28 : decode cX6_rule 28 = .ok (.invokevirtual 91, 3) := by decide +kernel
theorem dX6_rule_31 : decode cX6_rule 31 = .ok (.ireturn, 1) := by decide +kernel
theorem dX6_rule_32 : decode cX6_rule 32 = .ok (.aload_n 0, 1) := by decide +kernel
theorem dX6_rule_33 : decode cX6_rule 33 = .ok (.getfield 75, 3) := by decide +kernel
theorem dX6_rule_36 : decode cX6_rule 36 = .ok (.bipush 10, 2) := by decide +kernel
theorem dX6_rule_38 : decode cX6_rule 38 = .ok (.if_icmp .lt 10, 3) := by decide +kernel
theorem dX6_rule_41 : decode cX6_rule 41 = .ok (.aload_n 0, 1) := by decide +kernel
theorem dX6_rule_42 : decode cX6_rule 42 = .ok (.bipush (-8), 2) := by decide +kernel
theorem dX6_rule_44 : decode cX6_rule 44 = .ok (.invokevirtual 91, 3) := by decide +kernel
theorem dX6_rule_47 : decode cX6_rule 47 = .ok (.ireturn, 1) := by decide +kernel
theorem dX6_rule_48 : decode cX6_rule 48 = .ok (.aload_n 0, 1) := by decide +kernel
theorem dX6_rule_49 : decode cX6_rule 49 = .ok (.getfield 26, 3) := by decide +kernel
theorem dX6_rule_52 : decode cX6_rule 52 = .ok (.aload_n 0, 1) := by decide +kernel
theorem dX6_rule_53 : decode cX6_rule 53 = .ok (.getfield 75, 3) := by decide +kernel
theorem dX6_rule_56 : decode cX6_rule 56 = .ok (.aaload, 1) := by decide +kernel
theorem dX6_rule_57 : decode cX6_rule 57 = .ok (.astore_n 3, 1) := by decide +kernel
theorem dX6_rule_58 : decode cX6_rule 58 = .ok (.aload_n 0, 1) := by decide +kernel
theorem dX6_rule_59 : decode cX6_rule 59 = .ok (.getfield 40, 3) := by decide +kernel
theorem dX6_rule_62 : decode cX6_rule 62 = .ok (.aload_n 3, 1) := by decide +kernel
theorem dX6_rule_63 : decode cX6_rule 63 = .ok (.invokevirtual 206, 3) := by decide +kernel
theorem dX6_rule_66 : decode cX6_rule 66 = .ok (.ifCond .ne 14, 3) := by decide +kernel
theorem dX6_rule_69 : decode cX6_rule 69 = .ok (.bipush (-10), 2) := by decide +kernel
theorem dX6_rule_71 : decode cX6_rule 71 = .ok (.aload_n 0, 1) := by decide +kernel
theorem dX6_rule_72 : decode cX6_rule 72 = .ok (.getfield 40, 3) := by decide +kernel
theorem dX6_rule_75 : decode cX6_rule 75 = .ok (.getfield 210, 3) := by decide +kernel
theorem dX6_rule_78 : decode cX6_rule 78 = .ok (.isub, 1) := by decide +kernel
theorem dX6_rule_79 : decode cX6_rule 79 = .ok (.ireturn, 1) := by decide +kernel
theorem dX6_rule_80 : decode cX6_rule 80 = .ok (.aload_n 3, 1) := by decide +kernel
theorem dX6_rule_81 : decode cX6_rule 81 = .ok (.iload_n 1, 1) := by decide +kernel
theorem dX6_rule_82 : decode cX6_rule 82 = .ok (.putfield 211, 3) := by decide +kernel
theorem dX6_rule_85 : decode cX6_rule 85 = .ok (.aload_n 3, 1) := by decide +kernel
theorem dX6_rule_86 : decode cX6_rule 86 = .ok (.iload_n 2, 1) := by decide +kernel
theorem dX6_rule_87 : decode cX6_rule 87 = .ok (.putfield 214, 3) := by decide +kernel
theorem dX6_rule_90 : decode cX6_rule 90 = .ok (.aload_n 0, 1) := by decide +kernel
theorem dX6_rule_91 : decode cX6_rule 91 = .ok (.getfield 48, 3) := by decide +kernel
theorem dX6_rule_94 : decode cX6_rule 94 = .ok (.iconst 0, 1) := by decide +kernel
theorem dX6_rule_95 : decode cX6_rule 95 = .ok (.putfield 199, 3) := by decide +kernel
theorem dX6_rule_98 : decode cX6_rule 98 = .ok (.aload_n 0, 1) := by decide +kernel
theorem dX6_rule_99 : decode cX6_rule 99 = .ok (.dup, 1) := by decide +kernel
theorem dX6_rule_100 : decode cX6_rule 100 = .ok (.getfield 75, 3) := by decide +kernel
theorem dX6_rule_103 : decode cX6_rule 103 = .ok (.iconst 1, 1) := by decide +kernel
theorem dX6_rule_104 : decode cX6_rule 104 = .ok (.iadd, 1) := by decide +kernel
theorem dX6_rule_105 : decode cX6_rule 105 = .ok (.putfield 75, 3) := by decide +kernel
theorem dX6_rule_108 : decode cX6_rule 108 = .ok (.aload_n 0, 1) := by decide +kernel
theorem dX6_rule_109 : decode cX6_rule 109 = .ok (.getfield 75, 3) := by decide +kernel
theorem dX6_rule_112 : decode cX6_rule 112 = .ok (.iconst 1, 1) := by decide +kernel
theorem dX6_rule_113 : decode cX6_rule 113 = .ok (.isub, 1) := by decide +kernel
theorem dX6_rule_114 : decode cX6_rule 114 = .ok (.ireturn, 1) := by decide +kernel
theorem dX6_said_0 : decode cX6_said 0 = .ok (.aload_n 0, 1) := by decide +kernel
theorem dX6_said_1 : decode cX6_said 1 = .ok (.iload_n 1, 1) := by decide +kernel
theorem dX6_said_2 : decode cX6_said 2 = .ok (.invokevirtual 161, 3) := by decide +kernel
theorem dX6_said_5 : decode cX6_said 5 = .ok (.ifCond .eq 11, 3) := by decide +kernel
theorem dX6_said_8 : decode cX6_said 8 = .ok (.aload_n 0, 1) := by decide +kernel
theorem dX6_said_9 : decode cX6_said 9 = .ok (.iload_n 2, 1) := by decide +kernel
theorem dX6_said_10 : decode cX6_said 10 = .ok (.invokevirtual 95, 3) := by decide +kernel
theorem dX6_said_13 : decode cX6_said 13 = .ok (.ifCond .ne 10, 3) := by decide +kernel
theorem dX6_said_16 : decode cX6_said 16 = .ok (.aload_n 0, 1) := by decide +kernel
theorem dX6_said_17 : decode cX6_said 17 = .ok (.bipush (-3), 2) := by decide +kernel
theorem dX6_said_19 : decode cX6_said 19 = .ok (.invokevirtual 91, 3) := by decide +kernel
theorem dX6_said_22 : decode cX6_said 22 = .ok (.ireturn, 1) := by decide +kernel
theorem dX6_said_23 : decode cX6_said 23 = .ok (.iload_n 3, 1) := by decide +kernel
theorem dX6_said_24 : decode cX6_said 24 = .ok (.iconst 0, 1) := by decide +kernel
theorem dX6_said_25 : decode cX6_said 25 = .ok (.iconst 2, 1) := by decide +kernel
theorem dX6_said_26 : decode cX6_said 26 = .ok (.invokestatic 87, 3) := by decide +kernel
theorem dX6_said_29 : decode cX6_said 29 = .ok (.ifCond .ne 10, 3) := by decide +kernel
theorem dX6_said_32 : decode cX6_said 32 = .ok (.aload_n 0, 1) := by decide +kernel
theorem dX6_said_33 : decode cX6_said 33 = .ok (.bipush (-7), 2) := by decide +kernel
theorem dX6_said_35 : decode cX6_said 35 = .ok (.invokevirtual 91, 3) := by decide +kernel
theorem dX6_said_38 : decode cX6_said 38 = .ok (.ireturn, 1) := by decide +kernel
theorem dX6_said_39 : decode cX6_said 39 = .ok (.aload_n 0, 1) := by decide +kernel
theorem dX6_said_40 : decode cX6_said 40 = .ok (.aload_n 0, 1) := by decide +kernel
theorem dX6_said_41 : decode cX6_said 41 = .ok (.getfield 17, 3) := by decide +kernel
theorem dX6_said_44 : decode cX6_said 44 = .ok (.iload_n 1, 1) := by decide +kernel
theorem dX6_said_45 : decode cX6_said 45 = .ok (.aaload, 1) := by decide +kernel
theorem dX6_said_46 : decode cX6_said 46 = .ok (.iload_n 2, 1) := by decide +kernel
theorem dX6_said_47 : decode cX6_said 47 = .ok (.invokevirtual 217, 3) := by decide +kernel
theorem dX6_said_50 : decode cX6_said 50 = .ok (.aload_n 0, 1) := by decide +kernel
theorem dX6_said_51 : decode cX6_said 51 = .ok (.iload_n 3, 1) := by decide +kernel
theorem dX6_said_52 : decode cX6_said 52 = .ok (.invokevirtual 221, 3) := by decide +kernel
theorem dX6_said_55 : decode cX6_said 55 = .ok (.ireturn, 1) := by decide +kernel
theorem dX6_count_0 : decode cX6_count 0 = .ok (.iload_n 1, 1) := by decide +kernel
theorem dX6_count_1 : decode cX6_count 1 = .ok (.tableswitch 122 0 10 #[59, 64, 69, 74, 79, 87, 93, 99, 105, 111, 117], 59) := by decide +kernel
theorem dX6_count_60 : decode cX6_count 60 = .ok (.aload_n 0, 1) := by decide +kernel
theorem dX6_count_61 : decode cX6_count 61 = .ok (.getfield 78, 3) := by decide +kernel
theorem dX6_count_64 : decode cX6_count 64 = .ok (.ireturn, 1) := by decide +kernel
theorem dX6_count_65 : decode cX6_count 65 = .ok (.aload_n 0, 1) := by decide +kernel
theorem dX6_count_66 : decode cX6_count 66 = .ok (.getfield 68, 3) := by decide +kernel
theorem dX6_count_69 : decode cX6_count 69 = .ok (.ireturn, 1) := by decide +kernel
theorem dX6_count_70 : decode cX6_count 70 = .ok (.aload_n 0, 1) := by decide +kernel
theorem dX6_count_71 : decode cX6_count 71 = .ok (.getfield 72, 3) := by decide +kernel
theorem dX6_count_74 : decode cX6_count 74 = .ok (.ireturn, 1) := by decide +kernel
theorem dX6_count_75 : decode cX6_count 75 = .ok (.aload_n 0, 1) := by decide +kernel
theorem dX6_count_76 : decode cX6_count 76 = .ok (.getfield 75, 3) := by decide +kernel
theorem dX6_count_79 : decode cX6_count 79 = .ok (.ireturn, 1) := by decide +kernel
theorem dX6_count_80 : decode cX6_count 80 = .ok (.aload_n 0, 1) := by decide +kernel
theorem dX6_count_81 : decode cX6_count 81 = .ok (.getfield 48, 3) := by decide +kernel
theorem dX6_count_84 : decode cX6_count 84 = .ok (.getfield 199, 3) := by decide +kernel
theorem dX6_count_87 : decode cX6_count 87 = .ok (.ireturn, 1) := by decide +kernel
theorem dX6_count_88 : decode cX6_count 88 = .ok (.aload_n 0, 1) := by decide +kernel
theorem dX6_count_89 : decode cX6_count 89 = .ok (.iconst 0, 1) := by decide +kernel
theorem dX6_count_90 : decode cX6_count 90 = .ok (.invokevirtual 180, 3) := by decide +kernel
theorem dX6_count_93 : decode cX6_count 93 = .ok (.ireturn, 1) := by decide +kernel
theorem dX6_count_94 : decode cX6_count 94 = .ok (.aload_n 0, 1) := by decide +kernel
theorem dX6_count_95 : decode cX6_count 95 = .ok (.iconst 1, 1) := by decide +kernel
theorem dX6_count_96 : decode cX6_count 96 = .ok (.invokevirtual 180, 3) := by decide +kernel
theorem dX6_count_99 : decode cX6_count 99 = .ok (.ireturn, 1) := by decide +kernel
theorem dX6_count_100 : decode cX6_count 100 = .ok (.aload_n 0, 1) := by decide +kernel
theorem dX6_count_101 : decode cX6_count 101 = .ok (.iconst 2, 1) := by decide +kernel
theorem dX6_count_102 : decode cX6_count 102 = .ok (.invokevirtual 180, 3) := by decide +kernel
theorem dX6_count_105 : decode cX6_count 105 = .ok (.ireturn, 1) := by decide +kernel
theorem dX6_count_106 : decode cX6_count 106 = .ok (.aload_n 0, 1) := by decide +kernel
theorem dX6_count_107 : decode cX6_count 107 = .ok (.iconst 3, 1) := by decide +kernel
theorem dX6_count_108 : decode cX6_count 108 = .ok (.invokevirtual 180, 3) := by decide +kernel
theorem dX6_count_111 : decode cX6_count 111 = .ok (.ireturn, 1) := by decide +kernel
theorem dX6_count_112 : decode cX6_count 112 = .ok (.aload_n 0, 1) := by decide +kernel
theorem dX6_count_113 : decode cX6_count 113 = .ok (.iconst 4, 1) := by decide +kernel
theorem dX6_count_114 : decode cX6_count 114 = .ok (.invokevirtual 180, 3) := by decide +kernel
theorem dX6_count_117 : decode cX6_count 117 = .ok (.ireturn, 1) := by decide +kernel
theorem dX6_count_118 : decode cX6_count 118 = .ok (.aload_n 0, 1) := by decide +kernel
theorem dX6_count_119 : decode cX6_count 119 = .ok (.invokevirtual 224, 3) := by decide +kernel
theorem dX6_count_122 : decode cX6_count 122 = .ok (.ireturn, 1) := by decide +kernel
theorem dX6_count_123 : decode cX6_count 123 = .ok (.aload_n 0, 1) := by decide +kernel
theorem dX6_count_124 : decode cX6_count 124 = .ok (.bipush (-7), 2) := by decide +kernel
theorem dX6_count_126 : decode cX6_count 126 = .ok (.invokevirtual 91, 3) := by decide +kernel
theorem dX6_count_129 : decode cX6_count 129 = .ok (.ireturn, 1) := by decide +kernel
theorem dX6_tell_0 : decode cX6_tell 0 = .ok (.iload_n 1, 1) := by decide +kernel
theorem dX6_tell_1 : decode cX6_tell 1 = .ok (.iconst 0, 1) := by decide +kernel
theorem dX6_tell_2 : decode cX6_tell 2 = .ok (.bipush 47, 2) := by decide +kernel
theorem dX6_tell_4 : decode cX6_tell 4 = .ok (.invokestatic 87, 3) := by decide +kernel
theorem dX6_tell_7 : decode cX6_tell 7 = .ok (.ifCond .ne 10, 3) := by decide +kernel
theorem dX6_tell_10 : decode cX6_tell 10 = .ok (.aload_n 0, 1) := by decide +kernel
theorem dX6_tell_11 : decode cX6_tell 11 = .ok (.bipush (-3), 2) := by decide +kernel
theorem dX6_tell_13 : decode cX6_tell 13 = .ok (.invokevirtual 91, 3) := by decide +kernel
theorem dX6_tell_16 : decode cX6_tell 16 = .ok (.ireturn, 1) := by decide +kernel
theorem dX6_tell_17 : decode cX6_tell 17 = .ok (.iload_n 2, 1) := by decide +kernel
theorem dX6_tell_18 : decode cX6_tell 18 = .ok (.sipush (-9999), 3) := by decide +kernel
theorem dX6_tell_21 : decode cX6_tell 21 = .ok (.sipush 9999, 3) := by decide +kernel
theorem dX6_tell_24 : decode cX6_tell 24 = .ok (.invokestatic 87, 3) := by decide +kernel
theorem dX6_tell_27 : decode cX6_tell 27 = .ok (.ifCond .ne 10, 3) := by decide +kernel
theorem dX6_tell_30 : decode cX6_tell 30 = .ok (.aload_n 0, 1) := by decide +kernel
theorem dX6_tell_31 : decode cX6_tell 31 = .ok (.bipush (-7), 2) := by decide +kernel
theorem dX6_tell_33 : decode cX6_tell 33 = .ok (.invokevirtual 91, 3) := by decide +kernel
theorem dX6_tell_36 : decode cX6_tell 36 = .ok (.ireturn, 1) := by decide +kernel
theorem dX6_tell_37 : decode cX6_tell 37 = .ok (.aload_n 0, 1) := by decide +kernel
theorem dX6_tell_38 : decode cX6_tell 38 = .ok (.iconst 1, 1) := by decide +kernel
theorem dX6_tell_39 : decode cX6_tell 39 = .ok (.putfield 64, 3) := by decide +kernel
theorem dX6_tell_42 : decode cX6_tell 42 = .ok (.aload_n 0, 1) := by decide +kernel
theorem dX6_tell_43 : decode cX6_tell 43 = .ok (.getfield 49, 3) := by decide +kernel
theorem dX6_tell_46 : decode cX6_tell 46 = .ok (.iload_n 1, 1) := by decide +kernel
theorem dX6_tell_47 : decode cX6_tell 47 = .ok (.iload_n 2, 1) := by decide +kernel
theorem dX6_tell_48 : decode cX6_tell 48 = .ok (.iastore, 1) := by decide +kernel
theorem dX6_tell_49 : decode cX6_tell 49 = .ok (.iconst 1, 1) := by decide +kernel
theorem dX6_tell_50 : decode cX6_tell 50 = .ok (.ireturn, 1) := by decide +kernel
theorem dX6_tear_0 : decode cX6_tear 0 = .ok (.aload_n 0, 1) := by decide +kernel
theorem dX6_tear_1 : decode cX6_tear 1 = .ok (.getfield 64, 3) := by decide +kernel
theorem dX6_tear_4 : decode cX6_tear 4 = .ok (.ifCond .ne 5, 3) := by decide +kernel
theorem dX6_tear_7 : decode cX6_tear 7 = .ok (.iconst 0, 1) := by decide +kernel
theorem dX6_tear_8 : decode cX6_tear 8 = .ok (.ireturn, 1) := by decide +kernel
theorem dX6_tear_9 : decode cX6_tear 9 = .ok (.aload_n 0, 1) := by decide +kernel
theorem dX6_tear_10 : decode cX6_tear 10 = .ok (.iconst 0, 1) := by decide +kernel
theorem dX6_tear_11 : decode cX6_tear 11 = .ok (.putfield 64, 3) := by decide +kernel
theorem dX6_tear_14 : decode cX6_tear 14 = .ok (.iconst 0, 1) := by decide +kernel
theorem dX6_tear_15 : decode cX6_tear 15 = .ok (.istore_n 1, 1) := by decide +kernel
theorem dX6_tear_16 : decode cX6_tear 16 = .ok (.iload_n 1, 1) := by decide +kernel
theorem dX6_tear_17 : decode cX6_tear 17 = .ok (.bipush 48, 2) := by decide +kernel
theorem dX6_tear_19 : decode cX6_tear 19 = .ok (.if_icmp .ge 16, 3) := by decide +kernel
theorem dX6_tear_22 : decode cX6_tear 22 = .ok (.aload_n 0, 1) := by decide +kernel
theorem dX6_tear_23 : decode cX6_tear 23 = .ok (.getfield 49, 3) := by decide +kernel
theorem dX6_tear_26 : decode cX6_tear 26 = .ok (.iload_n 1, 1) := by decide +kernel
theorem dX6_tear_27 : decode cX6_tear 27 = .ok (.iconst 0, 1) := by decide +kernel
theorem dX6_tear_28 : decode cX6_tear 28 = .ok (.iastore, 1) := by decide +kernel
theorem dX6_tear_29 : decode cX6_tear 29 = .ok (.iinc 1 1, 3) := by decide +kernel
theorem dX6_tear_32 : decode cX6_tear 32 = .ok (.goto (-16), 3) := by decide +kernel
theorem dX6_tear_35 : decode cX6_tear 35 = .ok (.iconst 1, 1) := by decide +kernel
theorem dX6_tear_36 : decode cX6_tear 36 = .ok (.ireturn, 1) := by decide +kernel
theorem dX6_row_0 : decode cX6_row 0 = .ok (.aload_n 0, 1) := by decide +kernel
theorem dX6_row_1 : decode cX6_row 1 = .ok (.getfield 64, 3) := by decide +kernel
theorem dX6_row_4 : decode cX6_row 4 = .ok (.ifCond .ne 12, 3) := by decide +kernel
theorem dX6_row_7 : decode cX6_row 7 = .ok (.aload_n 0, 1) := by decide +kernel
theorem dX6_row_8 : decode cX6_row 8 = .ok (.bipush (-2), 2) := by decide +kernel
theorem dX6_row_10 : decode cX6_row 10 = .ok (.invokevirtual 91, 3) := by decide +kernel
theorem dX6_row_13 : decode cX6_row 13 = .ok (.pop, 1) := by decide +kernel
theorem dX6_row_14 : decode cX6_row 14 = .ok (.iconst 0, 1) := by decide +kernel
theorem dX6_row_15 : decode cX6_row 15 = .ok (.ireturn, 1) := by decide +kernel
theorem dX6_row_16 : decode cX6_row 16 = .ok (.iload_n 1, 1) := by decide +kernel
theorem dX6_row_17 : decode cX6_row 17 = .ok (.iconst 0, 1) := by decide +kernel
theorem dX6_row_18 : decode cX6_row 18 = .ok (.bipush 47, 2) := by decide +kernel
theorem dX6_row_20 : decode cX6_row 20 = .ok (.invokestatic 87, 3) := by decide +kernel
theorem dX6_row_23 : decode cX6_row 23 = .ok (.ifCond .ne 12, 3) := by decide +kernel
theorem dX6_row_26 : decode cX6_row 26 = .ok (.aload_n 0, 1) := by decide +kernel
theorem dX6_row_27 : decode cX6_row 27 = .ok (.bipush (-3), 2) := by decide +kernel
theorem dX6_row_29 : decode cX6_row 29 = .ok (.invokevirtual 91, 3) := by decide +kernel
theorem dX6_row_32 : decode cX6_row 32 = .ok (.pop, 1) := by decide +kernel
theorem dX6_row_33 : decode cX6_row 33 = .ok (.iconst 0, 1) := by decide +kernel
theorem dX6_row_34 : decode cX6_row 34 = .ok (.ireturn, 1) := by decide +kernel
theorem dX6_row_35 : decode cX6_row 35 = .ok (.aload_n 0, 1) := by decide +kernel
theorem dX6_row_36 : decode cX6_row 36 = .ok (.getfield 49, 3) := by decide +kernel
theorem dX6_row_39 : decode cX6_row 39 = .ok (.iload_n 1, 1) := by decide +kernel
theorem dX6_row_40 : decode cX6_row 40 = .ok (.iaload, 1) := by decide +kernel
theorem dX6_row_41 : decode cX6_row 41 = .ok (.ireturn, 1) := by decide +kernel
theorem dX6_copy_0 : decode cX6_copy 0 = .ok (.aload_n 0, 1) := by decide +kernel
theorem dX6_copy_1 : decode cX6_copy 1 = .ok (.getfield 64, 3) := by decide +kernel
theorem dX6_copy_4 : decode cX6_copy 4 = .ok (.ifCond .ne 10, 3) := by decide +kernel
theorem dX6_copy_7 : decode cX6_copy 7 = .ok (.aload_n 0, 1) := by decide +kernel
theorem dX6_copy_8 : decode cX6_copy 8 = .ok (.bipush (-2), 2) := by decide +kernel
theorem dX6_copy_10 : decode cX6_copy 10 = .ok (.invokevirtual 91, 3) := by decide +kernel
theorem dX6_copy_13 : decode cX6_copy 13 = .ok (.ireturn, 1) := by decide +kernel
theorem dX6_copy_14 : decode cX6_copy 14 = .ok (.iload_n 3, 1) := by decide +kernel
theorem dX6_copy_15 : decode cX6_copy 15 = .ok (.ifCond .ge 10, 3) := by decide +kernel
theorem dX6_copy_18 : decode cX6_copy 18 = .ok (.aload_n 0, 1) := by decide +kernel
theorem dX6_copy_19 : decode cX6_copy 19 = .ok (.bipush (-4), 2) := by decide +kernel
theorem dX6_copy_21 : decode cX6_copy 21 = .ok (.invokevirtual 91, 3) := by decide +kernel
theorem dX6_copy_24 : decode cX6_copy 24 = .ok (.ireturn, 1) := by decide +kernel
theorem dX6_copy_25 : decode cX6_copy 25 = .ok (.iload_n 1, 1) := by decide +kernel
theorem dX6_copy_26 : decode cX6_copy 26 = .ok (.ifCond .lt 23, 3) := by decide +kernel
theorem dX6_copy_29 : decode cX6_copy 29 = .ok (.iload_n 2, 1) := by decide +kernel
theorem dX6_copy_30 : decode cX6_copy 30 = .ok (.ifCond .lt 19, 3) := by decide +kernel
theorem dX6_copy_33 : decode cX6_copy 33 = .ok (.iload_n 1, 1) := by decide +kernel
theorem dX6_copy_34 : decode cX6_copy 34 = .ok (.bipush 48, 2) := by decide +kernel
theorem dX6_copy_36 : decode cX6_copy 36 = .ok (.iload_n 3, 1) := by decide +kernel
theorem dX6_copy_37 : decode cX6_copy 37 = .ok (.isub, 1) := by decide +kernel
theorem dX6_copy_38 : decode cX6_copy 38 = .ok (.if_icmp .gt 11, 3) := by decide +kernel
theorem dX6_copy_41 : decode cX6_copy 41 = .ok (.iload_n 2, 1) := by decide +kernel
theorem dX6_copy_42 : decode cX6_copy 42 = .ok (.bipush 48, 2) := by decide +kernel
theorem dX6_copy_44 : decode cX6_copy 44 = .ok (.iload_n 3, 1) := by decide +kernel
theorem dX6_copy_45 : decode cX6_copy 45 = .ok (.isub, 1) := by decide +kernel
theorem dX6_copy_46 : decode cX6_copy 46 = .ok (.if_icmp .le 10, 3) := by decide +kernel
theorem dX6_copy_49 : decode cX6_copy 49 = .ok (.aload_n 0, 1) := by decide +kernel
theorem dX6_copy_50 : decode cX6_copy 50 = .ok (.bipush (-6), 2) := by decide +kernel
theorem dX6_copy_52 : decode cX6_copy 52 = .ok (.invokevirtual 91, 3) := by decide +kernel
theorem dX6_copy_55 : decode cX6_copy 55 = .ok (.ireturn, 1) := by decide +kernel
theorem dX6_copy_56 : decode cX6_copy 56 = .ok (.aload_n 0, 1) := by decide +kernel
theorem dX6_copy_57 : decode cX6_copy 57 = .ok (.getfield 49, 3) := by decide +kernel
theorem dX6_copy_60 : decode cX6_copy 60 = .ok (.iload_n 1, 1) := by decide +kernel
theorem dX6_copy_61 : decode cX6_copy 61 = .ok (.aload_n 0, 1) := by decide +kernel
theorem dX6_copy_62 : decode cX6_copy 62 = .ok (.getfield 49, 3) := by decide +kernel
theorem dX6_copy_65 : decode cX6_copy 65 = .ok (.iload_n 2, 1) := by decide +kernel
theorem dX6_copy_66 : decode cX6_copy 66 = .ok (.iload_n 3, 1) := by decide +kernel
theorem dX6_copy_67 : decode cX6_copy 67 = .ok (.invokestatic 228, 3) := by decide +kernel
theorem dX6_copy_70 : decode cX6_copy 70 = .ok (.iload_n 3, 1) := by decide +kernel
theorem dX6_copy_71 : decode cX6_copy 71 = .ok (.ireturn, 1) := by decide +kernel
theorem dX6_status_0 : decode cX6_status 0 = .ok (.iload_n 1, 1) := by decide +kernel
theorem dX6_status_1 : decode cX6_status 1 = .ok (.bipush (-8), 2) := by decide +kernel
theorem dX6_status_3 : decode cX6_status 3 = .ok (.bipush (-2), 2) := by decide +kernel
theorem dX6_status_5 : decode cX6_status 5 = .ok (.invokestatic 87, 3) := by decide +kernel
theorem dX6_status_8 : decode cX6_status 8 = .ok (.ifCond .ne 10, 3) := by decide +kernel
theorem dX6_status_11 : decode cX6_status 11 = .ok (.aload_n 0, 1) := by decide +kernel
theorem dX6_status_12 : decode cX6_status 12 = .ok (.bipush (-7), 2) := by decide +kernel
theorem dX6_status_14 : decode cX6_status 14 = .ok (.invokevirtual 91, 3) := by decide +kernel
theorem dX6_status_17 : decode cX6_status 17 = .ok (.ireturn, 1) := by decide +kernel
theorem dX6_status_18 : decode cX6_status 18 = .ok (.aload_n 0, 1) := by decide +kernel
theorem dX6_status_19 : decode cX6_status 19 = .ok (.getfield 53, 3) := by decide +kernel
theorem dX6_status_22 : decode cX6_status 22 = .ok (.bipush (-2), 2) := by decide +kernel
theorem dX6_status_24 : decode cX6_status 24 = .ok (.iload_n 1, 1) := by decide +kernel
theorem dX6_status_25 : decode cX6_status 25 = .ok (.isub, 1) := by decide +kernel
theorem dX6_status_26 : decode cX6_status 26 = .ok (.iaload, 1) := by decide +kernel
theorem dX6_status_27 : decode cX6_status 27 = .ok (.ireturn, 1) := by decide +kernel
theorem dX6_refuse_0 : decode cX6_refuse 0 = .ok (.iload_n 1, 1) := by decide +kernel
theorem dX6_refuse_1 : decode cX6_refuse 1 = .ok (.bipush (-8), 2) := by decide +kernel
theorem dX6_refuse_3 : decode cX6_refuse 3 = .ok (.bipush (-2), 2) := by decide +kernel
theorem dX6_refuse_5 : decode cX6_refuse 5 = .ok (.invokestatic 87, 3) := by decide +kernel
theorem dX6_refuse_8 : decode cX6_refuse 8 = .ok (.ifCond .eq 16, 3) := by decide +kernel
theorem dX6_refuse_11 : decode cX6_refuse 11 = .ok (.aload_n 0, 1) := by decide +kernel
theorem dX6_refuse_12 : decode cX6_refuse 12 = .ok (.getfield 53, 3) := by decide +kernel
theorem dX6_refuse_15 : decode cX6_refuse 15 = .ok (.bipush (-2), 2) := by decide +kernel
theorem dX6_refuse_17 : decode cX6_refuse 17 = .ok (.iload_n 1, 1) := by decide +kernel
theorem dX6_refuse_18 : decode cX6_refuse 18 = .ok (.isub, 1) := by decide +kernel
theorem dX6_refuse_19 : decode cX6_refuse 19 = .ok (.dup2, 1) := by decide +kernel
theorem dX6_refuse_20 : decode cX6_refuse 20 = .ok (.iaload, 1) := by decide +kernel
theorem dX6_refuse_21 : decode cX6_refuse 21 = .ok (.iconst 1, 1) := by decide +kernel
theorem dX6_refuse_22 : decode cX6_refuse 22 = .ok (.iadd, 1) := by decide +kernel
theorem dX6_refuse_23 : decode cX6_refuse 23 = .ok (.iastore, 1) := by decide +kernel
theorem dX6_refuse_24 : decode cX6_refuse 24 = .ok (.iload_n 1, 1) := by decide +kernel
theorem dX6_refuse_25 : decode cX6_refuse 25 = .ok (.ireturn, 1) := by decide +kernel
theorem dX6_isWithin_0 : decode cX6_isWithin 0 = .ok (.iload_n 0, 1) := by decide +kernel
theorem dX6_isWithin_1 : decode cX6_isWithin 1 = .ok (.iload_n 1, 1) := by decide +kernel
theorem dX6_isWithin_2 : decode cX6_isWithin 2 = .ok (.if_icmp .lt 12, 3) := by decide +kernel
theorem dX6_isWithin_5 : decode cX6_isWithin 5 = .ok (.iload_n 0, 1) := by decide +kernel
theorem dX6_isWithin_6 : decode cX6_isWithin 6 = .ok (.iload_n 2, 1) := by decide +kernel
theorem dX6_isWithin_7 : decode cX6_isWithin 7 = .ok (.if_icmp .gt 7, 3) := by decide +kernel
theorem dX6_isWithin_10 : decode cX6_isWithin 10 = .ok (.iconst 1, 1) := by decide +kernel
theorem dX6_isWithin_11 : decode cX6_isWithin 11 = .ok (.goto 4, 3) := by decide +kernel
theorem dX6_isWithin_14 : decode cX6_isWithin 14 = .ok (.iconst 0, 1) := by decide +kernel
theorem dX6_isWithin_15 : decode cX6_isWithin 15 = .ok (.ireturn, 1) := by decide +kernel
theorem dX6_isCell_0 : decode cX6_isCell 0 = .ok (.iload_n 1, 1) := by decide +kernel
theorem dX6_isCell_1 : decode cX6_isCell 1 = .ok (.ifCond .lt 15, 3) := by decide +kernel
theorem dX6_isCell_4 : decode cX6_isCell 4 = .ok (.iload_n 1, 1) := by decide +kernel
theorem dX6_isCell_5 : decode cX6_isCell 5 = .ok (.aload_n 0, 1) := by decide +kernel
theorem dX6_isCell_6 : decode cX6_isCell 6 = .ok (.getfield 68, 3) := by decide +kernel
theorem dX6_isCell_9 : decode cX6_isCell 9 = .ok (.if_icmp .ge 7, 3) := by decide +kernel
theorem dX6_isCell_12 : decode cX6_isCell 12 = .ok (.iconst 1, 1) := by decide +kernel
theorem dX6_isCell_13 : decode cX6_isCell 13 = .ok (.goto 4, 3) := by decide +kernel
theorem dX6_isCell_16 : decode cX6_isCell 16 = .ok (.iconst 0, 1) := by decide +kernel
theorem dX6_isCell_17 : decode cX6_isCell 17 = .ok (.ireturn, 1) := by decide +kernel
theorem dX6_isLoad_0 : decode cX6_isLoad 0 = .ok (.iload_n 1, 1) := by decide +kernel
theorem dX6_isLoad_1 : decode cX6_isLoad 1 = .ok (.ifCond .lt 15, 3) := by decide +kernel
theorem dX6_isLoad_4 : decode cX6_isLoad 4 = .ok (.iload_n 1, 1) := by decide +kernel
theorem dX6_isLoad_5 : decode cX6_isLoad 5 = .ok (.aload_n 0, 1) := by decide +kernel
theorem dX6_isLoad_6 : decode cX6_isLoad 6 = .ok (.getfield 72, 3) := by decide +kernel
theorem dX6_isLoad_9 : decode cX6_isLoad 9 = .ok (.if_icmp .ge 7, 3) := by decide +kernel
theorem dX6_isLoad_12 : decode cX6_isLoad 12 = .ok (.iconst 1, 1) := by decide +kernel
theorem dX6_isLoad_13 : decode cX6_isLoad 13 = .ok (.goto 4, 3) := by decide +kernel
theorem dX6_isLoad_16 : decode cX6_isLoad 16 = .ok (.iconst 0, 1) := by decide +kernel
theorem dX6_isLoad_17 : decode cX6_isLoad 17 = .ok (.ireturn, 1) := by decide +kernel
theorem dX6_leastOf_0 : decode cX6_leastOf 0 = .ok (.aload_n 0, 1) := by decide +kernel
theorem dX6_leastOf_1 : decode cX6_leastOf 1 = .ok (.getfield 11, 3) := by decide +kernel
theorem dX6_leastOf_4 : decode cX6_leastOf 4 = .ok (.iload_n 1, 1) := by decide +kernel
theorem dX6_leastOf_5 : decode cX6_leastOf 5 = .ok (.aaload, 1) := by decide +kernel
theorem dX6_leastOf_6 : decode cX6_leastOf 6 = .ok (.astore_n 2, 1) := by decide +kernel
theorem dX6_leastOf_7 : decode cX6_leastOf 7 = .ok (.aload_n 2, 1) := by decide +kernel
theorem dX6_leastOf_8 : decode cX6_leastOf 8 = .ok (.getfield 99, 3) := by decide +kernel
theorem dX6_leastOf_11 : decode cX6_leastOf 11 = .ok (.iconst 4, 1) := by decide +kernel
theorem dX6_leastOf_12 : decode cX6_leastOf 12 = .ok (.if_icmp .ne 7, 3) := by decide +kernel
theorem dX6_leastOf_15 : decode cX6_leastOf 15 = .ok (.sipush 3000, 3) := by decide +kernel
theorem dX6_leastOf_18 : decode cX6_leastOf 18 = .ok (.ireturn, 1) := by decide +kernel
theorem dX6_leastOf_19 : decode cX6_leastOf 19 = .ok (.aload_n 2, 1) := by decide +kernel
theorem dX6_leastOf_20 : decode cX6_leastOf 20 = .ok (.getfield 129, 3) := by decide +kernel
theorem dX6_leastOf_23 : decode cX6_leastOf 23 = .ok (.iconst (-1), 1) := by decide +kernel
theorem dX6_leastOf_24 : decode cX6_leastOf 24 = .ok (.if_icmp .eq 8, 3) := by decide +kernel
theorem dX6_leastOf_27 : decode cX6_leastOf 27 = .ok (.aload_n 2, 1) := by decide +kernel
theorem dX6_leastOf_28 : decode cX6_leastOf 28 = .ok (.getfield 129, 3) := by decide +kernel
theorem dX6_leastOf_31 : decode cX6_leastOf 31 = .ok (.ireturn, 1) := by decide +kernel
theorem dX6_leastOf_32 : decode cX6_leastOf 32 = .ok (.aload_n 0, 1) := by decide +kernel
theorem dX6_leastOf_33 : decode cX6_leastOf 33 = .ok (.iload_n 1, 1) := by decide +kernel
theorem dX6_leastOf_34 : decode cX6_leastOf 34 = .ok (.iconst (-1), 1) := by decide +kernel
theorem dX6_leastOf_35 : decode cX6_leastOf 35 = .ok (.invokevirtual 234, 3) := by decide +kernel
theorem dX6_leastOf_38 : decode cX6_leastOf 38 = .ok (.istore_n 3, 1) := by decide +kernel
theorem dX6_leastOf_39 : decode cX6_leastOf 39 = .ok (.aload_n 0, 1) := by decide +kernel
theorem dX6_leastOf_40 : decode cX6_leastOf 40 = .ok (.iload_n 1, 1) := by decide +kernel
theorem dX6_leastOf_41 : decode cX6_leastOf 41 = .ok (.iconst 1, 1) := by decide +kernel
theorem dX6_leastOf_42 : decode cX6_leastOf 42 = .ok (.invokevirtual 234, 3) := by decide +kernel
theorem dX6_leastOf_45 : decode cX6_leastOf 45 = .ok (.istore 4, 2) := by decide +kernel
theorem dX6_leastOf_47 : decode cX6_leastOf 47 = .ok (.iload_n 3, 1) := by decide +kernel
theorem dX6_leastOf_48 : decode cX6_leastOf 48 = .ok (.iconst (-1), 1) := by decide +kernel
theorem dX6_leastOf_49 : decode cX6_leastOf 49 = .ok (.if_icmp .ne 11, 3) := by decide +kernel
theorem dX6_leastOf_52 : decode cX6_leastOf 52 = .ok (.iload 4, 2) := by decide +kernel
theorem dX6_leastOf_54 : decode cX6_leastOf 54 = .ok (.iconst (-1), 1) := by decide +kernel
theorem dX6_leastOf_55 : decode cX6_leastOf 55 = .ok (.if_icmp .ne 5, 3) := by decide +kernel
theorem dX6_leastOf_58 : decode cX6_leastOf 58 = .ok (.iconst 0, 1) := by decide +kernel
theorem dX6_leastOf_59 : decode cX6_leastOf 59 = .ok (.ireturn, 1) := by decide +kernel
theorem dX6_leastOf_60 : decode cX6_leastOf 60 = .ok (.iload_n 3, 1) := by decide +kernel
theorem dX6_leastOf_61 : decode cX6_leastOf 61 = .ok (.iconst (-1), 1) := by decide +kernel
theorem dX6_leastOf_62 : decode cX6_leastOf 62 = .ok (.if_icmp .eq 9, 3) := by decide +kernel
theorem dX6_leastOf_65 : decode cX6_leastOf 65 = .ok (.iload 4, 2) := by decide +kernel
theorem dX6_leastOf_67 : decode cX6_leastOf 67 = .ok (.iconst (-1), 1) := by decide +kernel
theorem dX6_leastOf_68 : decode cX6_leastOf 68 = .ok (.if_icmp .ne 12, 3) := by decide +kernel
theorem dX6_leastOf_71 : decode cX6_leastOf 71 = .ok (.iload_n 3, 1) := by decide +kernel
theorem dX6_leastOf_72 : decode cX6_leastOf 72 = .ok (.iload 4, 2) := by decide +kernel
theorem dX6_leastOf_74 : decode cX6_leastOf 74 = .ok (.invokestatic 238, 3) := by decide +kernel
theorem dX6_leastOf_77 : decode cX6_leastOf 77 = .ok (.iconst 2, 1) := by decide +kernel
theorem dX6_leastOf_78 : decode cX6_leastOf 78 = .ok (.idiv, 1) := by decide +kernel
theorem dX6_leastOf_79 : decode cX6_leastOf 79 = .ok (.ireturn, 1) := by decide +kernel
theorem dX6_leastOf_80 : decode cX6_leastOf 80 = .ok (.iload_n 3, 1) := by decide +kernel
theorem dX6_leastOf_81 : decode cX6_leastOf 81 = .ok (.iload 4, 2) := by decide +kernel
theorem dX6_leastOf_83 : decode cX6_leastOf 83 = .ok (.invokestatic 243, 3) := by decide +kernel
theorem dX6_leastOf_86 : decode cX6_leastOf 86 = .ok (.ireturn, 1) := by decide +kernel
theorem dX6_mostOf_0 : decode cX6_mostOf 0 = .ok (.aload_n 0, 1) := by decide +kernel
theorem dX6_mostOf_1 : decode cX6_mostOf 1 = .ok (.getfield 11, 3) := by decide +kernel
theorem dX6_mostOf_4 : decode cX6_mostOf 4 = .ok (.iload_n 1, 1) := by decide +kernel
theorem dX6_mostOf_5 : decode cX6_mostOf 5 = .ok (.aaload, 1) := by decide +kernel
theorem dX6_mostOf_6 : decode cX6_mostOf 6 = .ok (.astore_n 2, 1) := by decide +kernel
theorem dX6_mostOf_7 : decode cX6_mostOf 7 = .ok (.aload_n 2, 1) := by decide +kernel
theorem dX6_mostOf_8 : decode cX6_mostOf 8 = .ok (.getfield 99, 3) := by decide +kernel
theorem dX6_mostOf_11 : decode cX6_mostOf 11 = .ok (.iconst 4, 1) := by decide +kernel
theorem dX6_mostOf_12 : decode cX6_mostOf 12 = .ok (.if_icmp .ne 7, 3) := by decide +kernel
theorem dX6_mostOf_15 : decode cX6_mostOf 15 = .ok (.sipush 3000, 3) := by decide +kernel
theorem dX6_mostOf_18 : decode cX6_mostOf 18 = .ok (.ireturn, 1) := by decide +kernel
theorem dX6_mostOf_19 : decode cX6_mostOf 19 = .ok (.aload_n 2, 1) := by decide +kernel
theorem dX6_mostOf_20 : decode cX6_mostOf 20 = .ok (.getfield 129, 3) := by decide +kernel
theorem dX6_mostOf_23 : decode cX6_mostOf 23 = .ok (.iconst (-1), 1) := by decide +kernel
theorem dX6_mostOf_24 : decode cX6_mostOf 24 = .ok (.if_icmp .eq 8, 3) := by decide +kernel
theorem dX6_mostOf_27 : decode cX6_mostOf 27 = .ok (.aload_n 2, 1) := by decide +kernel
theorem dX6_mostOf_28 : decode cX6_mostOf 28 = .ok (.getfield 129, 3) := by decide +kernel
theorem dX6_mostOf_31 : decode cX6_mostOf 31 = .ok (.ireturn, 1) := by decide +kernel
theorem dX6_mostOf_32 : decode cX6_mostOf 32 = .ok (.aload_n 0, 1) := by decide +kernel
theorem dX6_mostOf_33 : decode cX6_mostOf 33 = .ok (.iload_n 1, 1) := by decide +kernel
theorem dX6_mostOf_34 : decode cX6_mostOf 34 = .ok (.iconst (-1), 1) := by decide +kernel
theorem dX6_mostOf_35 : decode cX6_mostOf 35 = .ok (.invokevirtual 234, 3) := by decide +kernel
theorem dX6_mostOf_38 : decode cX6_mostOf 38 = .ok (.istore_n 3, 1) := by decide +kernel
theorem dX6_mostOf_39 : decode cX6_mostOf 39 = .ok (.aload_n 0, 1) := by decide +kernel
theorem dX6_mostOf_40 : decode cX6_mostOf 40 = .ok (.iload_n 1, 1) := by decide +kernel
theorem dX6_mostOf_41 : decode cX6_mostOf 41 = .ok (.iconst 1, 1) := by decide +kernel
theorem dX6_mostOf_42 : decode cX6_mostOf 42 = .ok (.invokevirtual 234, 3) := by decide +kernel
theorem dX6_mostOf_45 : decode cX6_mostOf 45 = .ok (.istore 4, 2) := by decide +kernel
theorem dX6_mostOf_47 : decode cX6_mostOf 47 = .ok (.iload_n 3, 1) := by decide +kernel
theorem dX6_mostOf_48 : decode cX6_mostOf 48 = .ok (.iconst (-1), 1) := by decide +kernel
theorem dX6_mostOf_49 : decode cX6_mostOf 49 = .ok (.if_icmp .ne 13, 3) := by decide +kernel
theorem dX6_mostOf_52 : decode cX6_mostOf 52 = .ok (.iload 4, 2) := by decide +kernel
theorem dX6_mostOf_54 : decode cX6_mostOf 54 = .ok (.iconst (-1), 1) := by decide +kernel
theorem dX6_mostOf_55 : decode cX6_mostOf 55 = .ok (.if_icmp .ne 7, 3) := by decide +kernel
theorem dX6_mostOf_58 : decode cX6_mostOf 58 = .ok (.sipush 3000, 3) := by decide +kernel
theorem dX6_mostOf_61 : decode cX6_mostOf 61 = .ok (.ireturn, 1) := by decide +kernel
theorem dX6_mostOf_62 : decode cX6_mostOf 62 = .ok (.iload_n 3, 1) := by decide +kernel
theorem dX6_mostOf_63 : decode cX6_mostOf 63 = .ok (.iload 4, 2) := by decide +kernel
theorem dX6_mostOf_65 : decode cX6_mostOf 65 = .ok (.invokestatic 238, 3) := by decide +kernel
theorem dX6_mostOf_68 : decode cX6_mostOf 68 = .ok (.ireturn, 1) := by decide +kernel
theorem dX6_nearestKnown_0 : decode cX6_nearestKnown 0 = .ok (.iload_n 1, 1) := by decide +kernel
theorem dX6_nearestKnown_1 : decode cX6_nearestKnown 1 = .ok (.iload_n 2, 1) := by decide +kernel
theorem dX6_nearestKnown_2 : decode cX6_nearestKnown 2 = .ok (.iadd, 1) := by decide +kernel
theorem dX6_nearestKnown_3 : decode cX6_nearestKnown 3 = .ok (.istore_n 3, 1) := by decide +kernel
theorem dX6_nearestKnown_4 : decode cX6_nearestKnown 4 = .ok (.iconst 0, 1) := by decide +kernel
theorem dX6_nearestKnown_5 : decode cX6_nearestKnown 5 = .ok (.istore 4, 2) := by decide +kernel
theorem dX6_nearestKnown_7 : decode cX6_nearestKnown 7 = .ok (.iload 4, 2) := by decide +kernel
theorem dX6_nearestKnown_9 : decode cX6_nearestKnown 9 = .ok (.bipush 10, 2) := by decide +kernel
theorem dX6_nearestKnown_11 : decode cX6_nearestKnown 11 = .ok (.if_icmp .ge 44, 3) := by decide +kernel
theorem dX6_nearestKnown_14 : decode cX6_nearestKnown 14 = .ok (.aload_n 0, 1) := by decide +kernel
theorem dX6_nearestKnown_15 : decode cX6_nearestKnown 15 = .ok (.iload_n 3, 1) := by decide +kernel
theorem dX6_nearestKnown_16 : decode cX6_nearestKnown 16 = .ok (.invokevirtual 95, 3) := by decide +kernel
theorem dX6_nearestKnown_19 : decode cX6_nearestKnown 19 = .ok (.ifCond .eq 36, 3) := by decide +kernel
theorem dX6_nearestKnown_22 : decode cX6_nearestKnown 22 = .ok (.aload_n 0, 1) := by decide +kernel
theorem dX6_nearestKnown_23 : decode cX6_nearestKnown 23 = .ok (.getfield 11, 3) := by decide +kernel
theorem dX6_nearestKnown_26 : decode cX6_nearestKnown 26 = .ok (.iload_n 3, 1) := by decide +kernel
theorem dX6_nearestKnown_27 : decode cX6_nearestKnown 27 = .ok (.aaload, 1) := by decide +kernel
theorem dX6_nearestKnown_28 : decode cX6_nearestKnown 28 = .ok (.getfield 129, 3) := by decide +kernel
theorem dX6_nearestKnown_31 : decode cX6_nearestKnown 31 = .ok (.iconst (-1), 1) := by decide +kernel
theorem dX6_nearestKnown_32 : decode cX6_nearestKnown 32 = .ok (.if_icmp .eq 13, 3) := by decide +kernel
theorem dX6_nearestKnown_35 : decode cX6_nearestKnown 35 = .ok (.aload_n 0, 1) := by decide +kernel
theorem dX6_nearestKnown_36 : decode cX6_nearestKnown 36 = .ok (.getfield 11, 3) := by decide +kernel
theorem dX6_nearestKnown_39 : decode cX6_nearestKnown 39 = .ok (.iload_n 3, 1) := by decide +kernel
theorem dX6_nearestKnown_40 : decode cX6_nearestKnown 40 = .ok (.aaload, 1) := by decide +kernel
theorem dX6_nearestKnown_41 : decode cX6_nearestKnown 41 = .ok (.getfield 129, 3) := by decide +kernel
theorem dX6_nearestKnown_44 : decode cX6_nearestKnown 44 = .ok (.ireturn, 1) := by decide +kernel
theorem dX6_nearestKnown_45 : decode cX6_nearestKnown 45 = .ok (.iload_n 3, 1) := by decide +kernel
theorem dX6_nearestKnown_46 : decode cX6_nearestKnown 46 = .ok (.iload_n 2, 1) := by decide +kernel
theorem dX6_nearestKnown_47 : decode cX6_nearestKnown 47 = .ok (.iadd, 1) := by decide +kernel
theorem dX6_nearestKnown_48 : decode cX6_nearestKnown 48 = .ok (.istore_n 3, 1) := by decide +kernel
theorem dX6_nearestKnown_49 : decode cX6_nearestKnown 49 = .ok (.iinc 4 1, 3) := by decide +kernel
theorem dX6_nearestKnown_52 : decode cX6_nearestKnown 52 = .ok (.goto (-45), 3) := by decide +kernel
theorem dX6_nearestKnown_55 : decode cX6_nearestKnown 55 = .ok (.iconst (-1), 1) := by decide +kernel
theorem dX6_nearestKnown_56 : decode cX6_nearestKnown 56 = .ok (.ireturn, 1) := by decide +kernel
theorem dX6_gatherFacts_0 : decode cX6_gatherFacts 0 = .ok (.aload_n 0, 1) := by decide +kernel
theorem dX6_gatherFacts_1 : decode cX6_gatherFacts 1 = .ok (.getfield 56, 3) := by decide +kernel
theorem dX6_gatherFacts_4 : decode cX6_gatherFacts 4 = .ok (.iconst 0, 1) := by decide +kernel
theorem dX6_gatherFacts_5 : decode cX6_gatherFacts 5 = .ok (.aload_n 1, 1) := by decide +kernel
theorem dX6_gatherFacts_6 : decode cX6_gatherFacts 6 = .ok (.getfield 148, 3) := by decide +kernel
theorem dX6_gatherFacts_9 : decode cX6_gatherFacts 9 = .ok (.iastore, 1) := by decide +kernel
theorem dX6_gatherFacts_10 : decode cX6_gatherFacts 10 = .ok (.aload_n 0, 1) := by decide +kernel
theorem dX6_gatherFacts_11 : decode cX6_gatherFacts 11 = .ok (.getfield 56, 3) := by decide +kernel
theorem dX6_gatherFacts_14 : decode cX6_gatherFacts 14 = .ok (.iconst 1, 1) := by decide +kernel
theorem dX6_gatherFacts_15 : decode cX6_gatherFacts 15 = .ok (.aload_n 1, 1) := by decide +kernel
theorem dX6_gatherFacts_16 : decode cX6_gatherFacts 16 = .ok (.getfield 151, 3) := by decide +kernel
theorem dX6_gatherFacts_19 : decode cX6_gatherFacts 19 = .ok (.iastore, 1) := by decide +kernel
theorem dX6_gatherFacts_20 : decode cX6_gatherFacts 20 = .ok (.aload_n 0, 1) := by decide +kernel
theorem dX6_gatherFacts_21 : decode cX6_gatherFacts 21 = .ok (.getfield 56, 3) := by decide +kernel
theorem dX6_gatherFacts_24 : decode cX6_gatherFacts 24 = .ok (.iconst 2, 1) := by decide +kernel
theorem dX6_gatherFacts_25 : decode cX6_gatherFacts 25 = .ok (.iload_n 2, 1) := by decide +kernel
theorem dX6_gatherFacts_26 : decode cX6_gatherFacts 26 = .ok (.iastore, 1) := by decide +kernel
theorem dX6_gatherFacts_27 : decode cX6_gatherFacts 27 = .ok (.aload_n 0, 1) := by decide +kernel
theorem dX6_gatherFacts_28 : decode cX6_gatherFacts 28 = .ok (.getfield 56, 3) := by decide +kernel
theorem dX6_gatherFacts_31 : decode cX6_gatherFacts 31 = .ok (.iconst 3, 1) := by decide +kernel
theorem dX6_gatherFacts_32 : decode cX6_gatherFacts 32 = .ok (.aload_n 0, 1) := by decide +kernel
theorem dX6_gatherFacts_33 : decode cX6_gatherFacts 33 = .ok (.getfield 33, 3) := by decide +kernel
theorem dX6_gatherFacts_36 : decode cX6_gatherFacts 36 = .ok (.aload_n 0, 1) := by decide +kernel
theorem dX6_gatherFacts_37 : decode cX6_gatherFacts 37 = .ok (.getfield 78, 3) := by decide +kernel
theorem dX6_gatherFacts_40 : decode cX6_gatherFacts 40 = .ok (.invokevirtual 138, 3) := by decide +kernel
theorem dX6_gatherFacts_43 : decode cX6_gatherFacts 43 = .ok (.iastore, 1) := by decide +kernel
theorem dX6_gatherFacts_44 : decode cX6_gatherFacts 44 = .ok (.aload_n 0, 1) := by decide +kernel
theorem dX6_gatherFacts_45 : decode cX6_gatherFacts 45 = .ok (.getfield 56, 3) := by decide +kernel
theorem dX6_gatherFacts_48 : decode cX6_gatherFacts 48 = .ok (.iconst 4, 1) := by decide +kernel
theorem dX6_gatherFacts_49 : decode cX6_gatherFacts 49 = .ok (.aload_n 0, 1) := by decide +kernel
theorem dX6_gatherFacts_50 : decode cX6_gatherFacts 50 = .ok (.getfield 11, 3) := by decide +kernel
theorem dX6_gatherFacts_53 : decode cX6_gatherFacts 53 = .ok (.iload_n 2, 1) := by decide +kernel
theorem dX6_gatherFacts_54 : decode cX6_gatherFacts 54 = .ok (.aaload, 1) := by decide +kernel
theorem dX6_gatherFacts_55 : decode cX6_gatherFacts 55 = .ok (.getfield 105, 3) := by decide +kernel
theorem dX6_gatherFacts_58 : decode cX6_gatherFacts 58 = .ok (.iastore, 1) := by decide +kernel
theorem dX6_gatherFacts_59 : decode cX6_gatherFacts 59 = .ok (.return_, 1) := by decide +kernel
theorem dX6_numberFor_0 : decode cX6_numberFor 0 = .ok (.aload_n 0, 1) := by decide +kernel
theorem dX6_numberFor_1 : decode cX6_numberFor 1 = .ok (.getfield 75, 3) := by decide +kernel
theorem dX6_numberFor_4 : decode cX6_numberFor 4 = .ok (.iconst 1, 1) := by decide +kernel
theorem dX6_numberFor_5 : decode cX6_numberFor 5 = .ok (.isub, 1) := by decide +kernel
theorem dX6_numberFor_6 : decode cX6_numberFor 6 = .ok (.istore_n 2, 1) := by decide +kernel
theorem dX6_numberFor_7 : decode cX6_numberFor 7 = .ok (.iload_n 2, 1) := by decide +kernel
theorem dX6_numberFor_8 : decode cX6_numberFor 8 = .ok (.ifCond .lt 52, 3) := by decide +kernel
theorem dX6_numberFor_11 : decode cX6_numberFor 11 = .ok (.aload_n 0, 1) := by decide +kernel
theorem dX6_numberFor_12 : decode cX6_numberFor 12 = .ok (.getfield 26, 3) := by decide +kernel
theorem dX6_numberFor_15 : decode cX6_numberFor 15 = .ok (.iload_n 2, 1) := by decide +kernel
theorem dX6_numberFor_16 : decode cX6_numberFor 16 = .ok (.aaload, 1) := by decide +kernel
theorem dX6_numberFor_17 : decode cX6_numberFor 17 = .ok (.getfield 246, 3) := by decide +kernel
theorem dX6_numberFor_20 : decode cX6_numberFor 20 = .ok (.iload_n 1, 1) := by decide +kernel
theorem dX6_numberFor_21 : decode cX6_numberFor 21 = .ok (.if_icmp .ne 33, 3) := by decide +kernel
theorem dX6_numberFor_24 : decode cX6_numberFor 24 = .ok (.aload_n 0, 1) := by decide +kernel
theorem dX6_numberFor_25 : decode cX6_numberFor 25 = .ok (.getfield 26, 3) := by decide +kernel
theorem dX6_numberFor_28 : decode cX6_numberFor 28 = .ok (.iload_n 2, 1) := by decide +kernel
theorem dX6_numberFor_29 : decode cX6_numberFor 29 = .ok (.aaload, 1) := by decide +kernel
theorem dX6_numberFor_30 : decode cX6_numberFor 30 = .ok (.aload_n 0, 1) := by decide +kernel
theorem dX6_numberFor_31 : decode cX6_numberFor 31 = .ok (.getfield 78, 3) := by decide +kernel
theorem dX6_numberFor_34 : decode cX6_numberFor 34 = .ok (.aload_n 0, 1) := by decide +kernel
theorem dX6_numberFor_35 : decode cX6_numberFor 35 = .ok (.getfield 56, 3) := by decide +kernel
theorem dX6_numberFor_38 : decode cX6_numberFor 38 = .ok (.invokevirtual 249, 3) := by decide +kernel
theorem dX6_numberFor_41 : decode cX6_numberFor 41 = .ok (.ifCond .eq 13, 3) := by decide +kernel
theorem dX6_numberFor_44 : decode cX6_numberFor 44 = .ok (.aload_n 0, 1) := by decide +kernel
theorem dX6_numberFor_45 : decode cX6_numberFor 45 = .ok (.getfield 26, 3) := by decide +kernel
theorem dX6_numberFor_48 : decode cX6_numberFor 48 = .ok (.iload_n 2, 1) := by decide +kernel
theorem dX6_numberFor_49 : decode cX6_numberFor 49 = .ok (.aaload, 1) := by decide +kernel
theorem dX6_numberFor_50 : decode cX6_numberFor 50 = .ok (.getfield 253, 3) := by decide +kernel
theorem dX6_numberFor_53 : decode cX6_numberFor 53 = .ok (.ireturn, 1) := by decide +kernel
theorem dX6_numberFor_54 : decode cX6_numberFor 54 = .ok (.iinc 2 (-1), 3) := by decide +kernel
theorem dX6_numberFor_57 : decode cX6_numberFor 57 = .ok (.goto (-50), 3) := by decide +kernel
theorem dX6_numberFor_60 : decode cX6_numberFor 60 = .ok (.iload_n 1, 1) := by decide +kernel
theorem dX6_numberFor_61 : decode cX6_numberFor 61 = .ok (.iconst 1, 1) := by decide +kernel
theorem dX6_numberFor_62 : decode cX6_numberFor 62 = .ok (.if_icmp .ne 7, 3) := by decide +kernel
theorem dX6_numberFor_65 : decode cX6_numberFor 65 = .ok (.iconst 1, 1) := by decide +kernel
theorem dX6_numberFor_66 : decode cX6_numberFor 66 = .ok (.goto 4, 3) := by decide +kernel
theorem dX6_numberFor_69 : decode cX6_numberFor 69 = .ok (.iconst 0, 1) := by decide +kernel
theorem dX6_numberFor_70 : decode cX6_numberFor 70 = .ok (.ireturn, 1) := by decide +kernel
theorem dX6_reasonAgainst_0 : decode cX6_reasonAgainst 0 = .ok (.aload_n 0, 1) := by decide +kernel
theorem dX6_reasonAgainst_1 : decode cX6_reasonAgainst 1 = .ok (.aload_n 1, 1) := by decide +kernel
theorem dX6_reasonAgainst_2 : decode cX6_reasonAgainst 2 = .ok (.iload_n 2, 1) := by decide +kernel
theorem dX6_reasonAgainst_3 : decode cX6_reasonAgainst 3 = .ok (.invokevirtual 217, 3) := by decide +kernel
theorem dX6_reasonAgainst_6 : decode cX6_reasonAgainst 6 = .ok (.aload_n 0, 1) := by decide +kernel
theorem dX6_reasonAgainst_7 : decode cX6_reasonAgainst 7 = .ok (.iconst 2, 1) := by decide +kernel
theorem dX6_reasonAgainst_8 : decode cX6_reasonAgainst 8 = .ok (.invokevirtual 221, 3) := by decide +kernel
theorem dX6_reasonAgainst_11 : decode cX6_reasonAgainst 11 = .ok (.ifCond .eq 5, 3) := by decide +kernel
theorem dX6_reasonAgainst_14 : decode cX6_reasonAgainst 14 = .ok (.iconst 1, 1) := by decide +kernel
theorem dX6_reasonAgainst_15 : decode cX6_reasonAgainst 15 = .ok (.ireturn, 1) := by decide +kernel
theorem dX6_reasonAgainst_16 : decode cX6_reasonAgainst 16 = .ok (.aload_n 0, 1) := by decide +kernel
theorem dX6_reasonAgainst_17 : decode cX6_reasonAgainst 17 = .ok (.iload_n 2, 1) := by decide +kernel
theorem dX6_reasonAgainst_18 : decode cX6_reasonAgainst 18 = .ok (.invokevirtual 120, 3) := by decide +kernel
theorem dX6_reasonAgainst_21 : decode cX6_reasonAgainst 21 = .ok (.aload_n 0, 1) := by decide +kernel
theorem dX6_reasonAgainst_22 : decode cX6_reasonAgainst 22 = .ok (.iconst 0, 1) := by decide +kernel
theorem dX6_reasonAgainst_23 : decode cX6_reasonAgainst 23 = .ok (.invokevirtual 221, 3) := by decide +kernel
theorem dX6_reasonAgainst_26 : decode cX6_reasonAgainst 26 = .ok (.if_icmp .ge 5, 3) := by decide +kernel
theorem dX6_reasonAgainst_29 : decode cX6_reasonAgainst 29 = .ok (.iconst 2, 1) := by decide +kernel
theorem dX6_reasonAgainst_30 : decode cX6_reasonAgainst 30 = .ok (.ireturn, 1) := by decide +kernel
theorem dX6_reasonAgainst_31 : decode cX6_reasonAgainst 31 = .ok (.aload_n 0, 1) := by decide +kernel
theorem dX6_reasonAgainst_32 : decode cX6_reasonAgainst 32 = .ok (.getfield 11, 3) := by decide +kernel
theorem dX6_reasonAgainst_35 : decode cX6_reasonAgainst 35 = .ok (.iload_n 2, 1) := by decide +kernel
theorem dX6_reasonAgainst_36 : decode cX6_reasonAgainst 36 = .ok (.aaload, 1) := by decide +kernel
theorem dX6_reasonAgainst_37 : decode cX6_reasonAgainst 37 = .ok (.aload_n 1, 1) := by decide +kernel
theorem dX6_reasonAgainst_38 : decode cX6_reasonAgainst 38 = .ok (.getfield 154, 3) := by decide +kernel
theorem dX6_reasonAgainst_41 : decode cX6_reasonAgainst 41 = .ok (.invokevirtual 256, 3) := by decide +kernel
theorem dX6_reasonAgainst_44 : decode cX6_reasonAgainst 44 = .ok (.istore_n 3, 1) := by decide +kernel
theorem dX6_reasonAgainst_45 : decode cX6_reasonAgainst 45 = .ok (.iload_n 3, 1) := by decide +kernel
theorem dX6_reasonAgainst_46 : decode cX6_reasonAgainst 46 = .ok (.iconst (-1), 1) := by decide +kernel
theorem dX6_reasonAgainst_47 : decode cX6_reasonAgainst 47 = .ok (.if_icmp .eq 19, 3) := by decide +kernel
theorem dX6_reasonAgainst_50 : decode cX6_reasonAgainst 50 = .ok (.aload_n 0, 1) := by decide +kernel
theorem dX6_reasonAgainst_51 : decode cX6_reasonAgainst 51 = .ok (.getfield 78, 3) := by decide +kernel
theorem dX6_reasonAgainst_54 : decode cX6_reasonAgainst 54 = .ok (.iload_n 3, 1) := by decide +kernel
theorem dX6_reasonAgainst_55 : decode cX6_reasonAgainst 55 = .ok (.isub, 1) := by decide +kernel
theorem dX6_reasonAgainst_56 : decode cX6_reasonAgainst 56 = .ok (.aload_n 0, 1) := by decide +kernel
theorem dX6_reasonAgainst_57 : decode cX6_reasonAgainst 57 = .ok (.iconst 1, 1) := by decide +kernel
theorem dX6_reasonAgainst_58 : decode cX6_reasonAgainst 58 = .ok (.invokevirtual 221, 3) := by decide +kernel
theorem dX6_reasonAgainst_61 : decode cX6_reasonAgainst 61 = .ok (.if_icmp .ge 5, 3) := by decide +kernel
theorem dX6_reasonAgainst_64 : decode cX6_reasonAgainst 64 = .ok (.iconst 3, 1) := by decide +kernel
theorem dX6_reasonAgainst_65 : decode cX6_reasonAgainst 65 = .ok (.ireturn, 1) := by decide +kernel
theorem dX6_reasonAgainst_66 : decode cX6_reasonAgainst 66 = .ok (.iconst 0, 1) := by decide +kernel
theorem dX6_reasonAgainst_67 : decode cX6_reasonAgainst 67 = .ok (.ireturn, 1) := by decide +kernel
theorem dX6_weatherCells_0 : decode cX6_weatherCells 0 = .ok (.aload_n 0, 1) := by decide +kernel
theorem dX6_weatherCells_1 : decode cX6_weatherCells 1 = .ok (.getfield 33, 3) := by decide +kernel
theorem dX6_weatherCells_4 : decode cX6_weatherCells 4 = .ok (.aload_n 0, 1) := by decide +kernel
theorem dX6_weatherCells_5 : decode cX6_weatherCells 5 = .ok (.getfield 78, 3) := by decide +kernel
theorem dX6_weatherCells_8 : decode cX6_weatherCells 8 = .ok (.invokevirtual 138, 3) := by decide +kernel
theorem dX6_weatherCells_11 : decode cX6_weatherCells 11 = .ok (.istore_n 1, 1) := by decide +kernel
theorem dX6_weatherCells_12 : decode cX6_weatherCells 12 = .ok (.iconst 0, 1) := by decide +kernel
theorem dX6_weatherCells_13 : decode cX6_weatherCells 13 = .ok (.istore_n 2, 1) := by decide +kernel
theorem dX6_weatherCells_14 : decode cX6_weatherCells 14 = .ok (.iload_n 2, 1) := by decide +kernel
theorem dX6_weatherCells_15 : decode cX6_weatherCells 15 = .ok (.aload_n 0, 1) := by decide +kernel
theorem dX6_weatherCells_16 : decode cX6_weatherCells 16 = .ok (.getfield 68, 3) := by decide +kernel
theorem dX6_weatherCells_19 : decode cX6_weatherCells 19 = .ok (.if_icmp .ge 19, 3) := by decide +kernel
theorem dX6_weatherCells_22 : decode cX6_weatherCells 22 = .ok (.aload_n 0, 1) := by decide +kernel
theorem dX6_weatherCells_23 : decode cX6_weatherCells 23 = .ok (.getfield 11, 3) := by decide +kernel
theorem dX6_weatherCells_26 : decode cX6_weatherCells 26 = .ok (.iload_n 2, 1) := by decide +kernel
theorem dX6_weatherCells_27 : decode cX6_weatherCells 27 = .ok (.aaload, 1) := by decide +kernel
theorem dX6_weatherCells_28 : decode cX6_weatherCells 28 = .ok (.iload_n 1, 1) := by decide +kernel
theorem dX6_weatherCells_29 : decode cX6_weatherCells 29 = .ok (.invokevirtual 259, 3) := by decide +kernel
theorem dX6_weatherCells_32 : decode cX6_weatherCells 32 = .ok (.iinc 2 1, 3) := by decide +kernel
theorem dX6_weatherCells_35 : decode cX6_weatherCells 35 = .ok (.goto (-21), 3) := by decide +kernel
theorem dX6_weatherCells_38 : decode cX6_weatherCells 38 = .ok (.return_, 1) := by decide +kernel
theorem dX6_agePlaces_0 : decode cX6_agePlaces 0 = .ok (.iconst 0, 1) := by decide +kernel
theorem dX6_agePlaces_1 : decode cX6_agePlaces 1 = .ok (.istore_n 1, 1) := by decide +kernel
theorem dX6_agePlaces_2 : decode cX6_agePlaces 2 = .ok (.iload_n 1, 1) := by decide +kernel
theorem dX6_agePlaces_3 : decode cX6_agePlaces 3 = .ok (.aload_n 0, 1) := by decide +kernel
theorem dX6_agePlaces_4 : decode cX6_agePlaces 4 = .ok (.getfield 72, 3) := by decide +kernel
theorem dX6_agePlaces_7 : decode cX6_agePlaces 7 = .ok (.if_icmp .ge 37, 3) := by decide +kernel
theorem dX6_agePlaces_10 : decode cX6_agePlaces 10 = .ok (.aload_n 0, 1) := by decide +kernel
theorem dX6_agePlaces_11 : decode cX6_agePlaces 11 = .ok (.getfield 17, 3) := by decide +kernel
theorem dX6_agePlaces_14 : decode cX6_agePlaces 14 = .ok (.iload_n 1, 1) := by decide +kernel
theorem dX6_agePlaces_15 : decode cX6_agePlaces 15 = .ok (.aaload, 1) := by decide +kernel
theorem dX6_agePlaces_16 : decode cX6_agePlaces 16 = .ok (.getfield 164, 3) := by decide +kernel
theorem dX6_agePlaces_19 : decode cX6_agePlaces 19 = .ok (.iconst 1, 1) := by decide +kernel
theorem dX6_agePlaces_20 : decode cX6_agePlaces 20 = .ok (.if_icmp .ne 18, 3) := by decide +kernel
theorem dX6_agePlaces_23 : decode cX6_agePlaces 23 = .ok (.aload_n 0, 1) := by decide +kernel
theorem dX6_agePlaces_24 : decode cX6_agePlaces 24 = .ok (.getfield 17, 3) := by decide +kernel
theorem dX6_agePlaces_27 : decode cX6_agePlaces 27 = .ok (.iload_n 1, 1) := by decide +kernel
theorem dX6_agePlaces_28 : decode cX6_agePlaces 28 = .ok (.aaload, 1) := by decide +kernel
theorem dX6_agePlaces_29 : decode cX6_agePlaces 29 = .ok (.dup, 1) := by decide +kernel
theorem dX6_agePlaces_30 : decode cX6_agePlaces 30 = .ok (.getfield 170, 3) := by decide +kernel
theorem dX6_agePlaces_33 : decode cX6_agePlaces 33 = .ok (.iconst 1, 1) := by decide +kernel
theorem dX6_agePlaces_34 : decode cX6_agePlaces 34 = .ok (.iadd, 1) := by decide +kernel
theorem dX6_agePlaces_35 : decode cX6_agePlaces 35 = .ok (.putfield 170, 3) := by decide +kernel
theorem dX6_agePlaces_38 : decode cX6_agePlaces 38 = .ok (.iinc 1 1, 3) := by decide +kernel
theorem dX6_agePlaces_41 : decode cX6_agePlaces 41 = .ok (.goto (-39), 3) := by decide +kernel
theorem dX6_agePlaces_44 : decode cX6_agePlaces 44 = .ok (.return_, 1) := by decide +kernel
theorem dX6_moveLoadsOnCells_0 : decode cX6_moveLoadsOnCells 0 = .ok (.iconst 0, 1) := by decide +kernel
theorem dX6_moveLoadsOnCells_1 : decode cX6_moveLoadsOnCells 1 = .ok (.istore_n 1, 1) := by decide +kernel
theorem dX6_moveLoadsOnCells_2 : decode cX6_moveLoadsOnCells 2 = .ok (.iload_n 1, 1) := by decide +kernel
theorem dX6_moveLoadsOnCells_3 : decode cX6_moveLoadsOnCells 3 = .ok (.aload_n 0, 1) := by decide +kernel
theorem dX6_moveLoadsOnCells_4 : decode cX6_moveLoadsOnCells 4 = .ok (.getfield 72, 3) := by decide +kernel
theorem dX6_moveLoadsOnCells_7 : decode cX6_moveLoadsOnCells 7 = .ok (.if_icmp .ge 108, 3) := by decide +kernel
theorem dX6_moveLoadsOnCells_10 : decode cX6_moveLoadsOnCells 10 = .ok (.aload_n 0, 1) := by decide +kernel
theorem dX6_moveLoadsOnCells_11 : decode cX6_moveLoadsOnCells 11 = .ok (.getfield 21, 3) := by decide +kernel
theorem dX6_moveLoadsOnCells_14 : decode cX6_moveLoadsOnCells 14 = .ok (.iload_n 1, 1) := by decide +kernel
theorem dX6_moveLoadsOnCells_15 : decode cX6_moveLoadsOnCells 15 = .ok (.aaload, 1) := by decide +kernel
theorem dX6_moveLoadsOnCells_16 : decode cX6_moveLoadsOnCells 16 = .ok (.astore_n 2, 1) := by decide +kernel
theorem dX6_moveLoadsOnCells_17 : decode cX6_moveLoadsOnCells 17 = .ok (.aload_n 2, 1) := by decide +kernel
theorem dX6_moveLoadsOnCells_18 : decode cX6_moveLoadsOnCells 18 = .ok (.getfield 164, 3) := by decide +kernel
theorem dX6_moveLoadsOnCells_21 : decode cX6_moveLoadsOnCells 21 = .ok (.iconst 1, 1) := by decide +kernel
theorem dX6_moveLoadsOnCells_22 : decode cX6_moveLoadsOnCells 22 = .ok (.if_icmp .ne 87, 3) := by decide +kernel
theorem dX6_moveLoadsOnCells_25 : decode cX6_moveLoadsOnCells 25 = .ok (.aload_n 0, 1) := by decide +kernel
theorem dX6_moveLoadsOnCells_26 : decode cX6_moveLoadsOnCells 26 = .ok (.aload_n 2, 1) := by decide +kernel
theorem dX6_moveLoadsOnCells_27 : decode cX6_moveLoadsOnCells 27 = .ok (.getfield 167, 3) := by decide +kernel
theorem dX6_moveLoadsOnCells_30 : decode cX6_moveLoadsOnCells 30 = .ok (.invokevirtual 95, 3) := by decide +kernel
theorem dX6_moveLoadsOnCells_33 : decode cX6_moveLoadsOnCells 33 = .ok (.ifCond .eq 76, 3) := by decide +kernel
theorem dX6_moveLoadsOnCells_36 : decode cX6_moveLoadsOnCells 36 = .ok (.aload_n 2, 1) := by decide +kernel
theorem dX6_moveLoadsOnCells_37 : decode cX6_moveLoadsOnCells 37 = .ok (.getfield 170, 3) := by decide +kernel
theorem dX6_moveLoadsOnCells_40 : decode cX6_moveLoadsOnCells 40 = .ok (.aload_n 0, 1) := by decide +kernel
theorem dX6_moveLoadsOnCells_41 : decode cX6_moveLoadsOnCells 41 = .ok (.getfield 11, 3) := by decide +kernel
theorem dX6_moveLoadsOnCells_44 : decode cX6_moveLoadsOnCells 44 = .ok (.aload_n 2, 1) := by decide +kernel
theorem dX6_moveLoadsOnCells_45 : decode cX6_moveLoadsOnCells 45 = .ok (.getfield 167, 3) := by decide +kernel
theorem dX6_moveLoadsOnCells_48 : decode cX6_moveLoadsOnCells 48 = .ok (.aaload, 1) := by decide +kernel
theorem dX6_moveLoadsOnCells_49 : decode cX6_moveLoadsOnCells 49 = .ok (.getfield 111, 3) := by decide +kernel
theorem dX6_moveLoadsOnCells_52 : decode cX6_moveLoadsOnCells 52 = .ok (.if_icmp .lt 57, 3) := by decide +kernel
theorem dX6_moveLoadsOnCells_55 : decode cX6_moveLoadsOnCells 55 = .ok (.aload_n 2, 1) := by decide +kernel
theorem dX6_moveLoadsOnCells_56 : decode cX6_moveLoadsOnCells 56 = .ok (.getfield 167, 3) := by decide +kernel
theorem dX6_moveLoadsOnCells_59 : decode cX6_moveLoadsOnCells 59 = .ok (.aload_n 0, 1) := by decide +kernel
theorem dX6_moveLoadsOnCells_60 : decode cX6_moveLoadsOnCells 60 = .ok (.aload_n 2, 1) := by decide +kernel
theorem dX6_moveLoadsOnCells_61 : decode cX6_moveLoadsOnCells 61 = .ok (.getfield 154, 3) := by decide +kernel
theorem dX6_moveLoadsOnCells_64 : decode cX6_moveLoadsOnCells 64 = .ok (.invokevirtual 262, 3) := by decide +kernel
theorem dX6_moveLoadsOnCells_67 : decode cX6_moveLoadsOnCells 67 = .ok (.if_icmp .ne 15, 3) := by decide +kernel
theorem dX6_moveLoadsOnCells_70 : decode cX6_moveLoadsOnCells 70 = .ok (.aload_n 2, 1) := by decide +kernel
theorem dX6_moveLoadsOnCells_71 : decode cX6_moveLoadsOnCells 71 = .ok (.iconst 2, 1) := by decide +kernel
theorem dX6_moveLoadsOnCells_72 : decode cX6_moveLoadsOnCells 72 = .ok (.aload_n 0, 1) := by decide +kernel
theorem dX6_moveLoadsOnCells_73 : decode cX6_moveLoadsOnCells 73 = .ok (.getfield 78, 3) := by decide +kernel
theorem dX6_moveLoadsOnCells_76 : decode cX6_moveLoadsOnCells 76 = .ok (.invokevirtual 265, 3) := by decide +kernel
theorem dX6_moveLoadsOnCells_79 : decode cX6_moveLoadsOnCells 79 = .ok (.goto 30, 3) := by decide +kernel
theorem dX6_moveLoadsOnCells_82 : decode cX6_moveLoadsOnCells 82 = .ok (.aload_n 0, 1) := by decide +kernel
theorem dX6_moveLoadsOnCells_83 : decode cX6_moveLoadsOnCells 83 = .ok (.aload_n 2, 1) := by decide +kernel
theorem dX6_moveLoadsOnCells_84 : decode cX6_moveLoadsOnCells 84 = .ok (.aload_n 2, 1) := by decide +kernel
theorem dX6_moveLoadsOnCells_85 : decode cX6_moveLoadsOnCells 85 = .ok (.getfield 154, 3) := by decide +kernel
theorem dX6_moveLoadsOnCells_88 : decode cX6_moveLoadsOnCells 88 = .ok (.ifCond .ne 12, 3) := by decide +kernel
theorem dX6_moveLoadsOnCells_91 : decode cX6_moveLoadsOnCells 91 = .ok (.aload_n 2, 1) := by decide +kernel
theorem dX6_moveLoadsOnCells_92 : decode cX6_moveLoadsOnCells 92 = .ok (.getfield 167, 3) := by decide +kernel
theorem dX6_moveLoadsOnCells_95 : decode cX6_moveLoadsOnCells 95 = .ok (.iconst 1, 1) := by decide +kernel
theorem dX6_moveLoadsOnCells_96 : decode cX6_moveLoadsOnCells 96 = .ok (.iadd, 1) := by decide +kernel
theorem dX6_moveLoadsOnCells_97 : decode cX6_moveLoadsOnCells 97 = .ok (.goto 9, 3) := by decide +kernel
theorem dX6_moveLoadsOnCells_100 : decode cX6_moveLoadsOnCells 100 = .ok (.aload_n 2, 1) := by decide +kernel
theorem dX6_moveLoadsOnCells_101 : decode cX6_moveLoadsOnCells 101 = .ok (.getfield 167, 3) := by decide +kernel
theorem dX6_moveLoadsOnCells_104 : decode cX6_moveLoadsOnCells 104 = .ok (.iconst 1, 1) := by decide +kernel
theorem dX6_moveLoadsOnCells_105 : decode cX6_moveLoadsOnCells 105 = .ok (.isub, 1) := by decide +kernel
theorem dX6_moveLoadsOnCells_106 : decode cX6_moveLoadsOnCells 106 = .ok (.invokevirtual 269, 3) := by decide +kernel
theorem dX6_moveLoadsOnCells_109 : decode cX6_moveLoadsOnCells 109 = .ok (.iinc 1 1, 3) := by decide +kernel
theorem dX6_moveLoadsOnCells_112 : decode cX6_moveLoadsOnCells 112 = .ok (.goto (-110), 3) := by decide +kernel
theorem dX6_moveLoadsOnCells_115 : decode cX6_moveLoadsOnCells 115 = .ok (.return_, 1) := by decide +kernel
theorem dX6_moveWaitingLoads_0 : decode cX6_moveWaitingLoads 0 = .ok (.iconst 0, 1) := by decide +kernel
theorem dX6_moveWaitingLoads_1 : decode cX6_moveWaitingLoads 1 = .ok (.istore_n 1, 1) := by decide +kernel
theorem dX6_moveWaitingLoads_2 : decode cX6_moveWaitingLoads 2 = .ok (.iload_n 1, 1) := by decide +kernel
theorem dX6_moveWaitingLoads_3 : decode cX6_moveWaitingLoads 3 = .ok (.aload_n 0, 1) := by decide +kernel
theorem dX6_moveWaitingLoads_4 : decode cX6_moveWaitingLoads 4 = .ok (.getfield 72, 3) := by decide +kernel
theorem dX6_moveWaitingLoads_7 : decode cX6_moveWaitingLoads 7 = .ok (.if_icmp .ge 45, 3) := by decide +kernel
theorem dX6_moveWaitingLoads_10 : decode cX6_moveWaitingLoads 10 = .ok (.aload_n 0, 1) := by decide +kernel
theorem dX6_moveWaitingLoads_11 : decode cX6_moveWaitingLoads 11 = .ok (.getfield 21, 3) := by decide +kernel
theorem dX6_moveWaitingLoads_14 : decode cX6_moveWaitingLoads 14 = .ok (.iload_n 1, 1) := by decide +kernel
theorem dX6_moveWaitingLoads_15 : decode cX6_moveWaitingLoads 15 = .ok (.aaload, 1) := by decide +kernel
theorem dX6_moveWaitingLoads_16 : decode cX6_moveWaitingLoads 16 = .ok (.astore_n 2, 1) := by decide +kernel
theorem dX6_moveWaitingLoads_17 : decode cX6_moveWaitingLoads 17 = .ok (.aload_n 2, 1) := by decide +kernel
theorem dX6_moveWaitingLoads_18 : decode cX6_moveWaitingLoads 18 = .ok (.getfield 164, 3) := by decide +kernel
theorem dX6_moveWaitingLoads_21 : decode cX6_moveWaitingLoads 21 = .ok (.ifCond .ne 25, 3) := by decide +kernel
theorem dX6_moveWaitingLoads_24 : decode cX6_moveWaitingLoads 24 = .ok (.aload_n 0, 1) := by decide +kernel
theorem dX6_moveWaitingLoads_25 : decode cX6_moveWaitingLoads 25 = .ok (.aload_n 2, 1) := by decide +kernel
theorem dX6_moveWaitingLoads_26 : decode cX6_moveWaitingLoads 26 = .ok (.aload_n 2, 1) := by decide +kernel
theorem dX6_moveWaitingLoads_27 : decode cX6_moveWaitingLoads 27 = .ok (.getfield 154, 3) := by decide +kernel
theorem dX6_moveWaitingLoads_30 : decode cX6_moveWaitingLoads 30 = .ok (.ifCond .ne 7, 3) := by decide +kernel
theorem dX6_moveWaitingLoads_33 : decode cX6_moveWaitingLoads 33 = .ok (.iconst 0, 1) := by decide +kernel
theorem dX6_moveWaitingLoads_34 : decode cX6_moveWaitingLoads 34 = .ok (.goto 9, 3) := by decide +kernel
theorem dX6_moveWaitingLoads_37 : decode cX6_moveWaitingLoads 37 = .ok (.aload_n 0, 1) := by decide +kernel
theorem dX6_moveWaitingLoads_38 : decode cX6_moveWaitingLoads 38 = .ok (.getfield 68, 3) := by decide +kernel
theorem dX6_moveWaitingLoads_41 : decode cX6_moveWaitingLoads 41 = .ok (.iconst 1, 1) := by decide +kernel
theorem dX6_moveWaitingLoads_42 : decode cX6_moveWaitingLoads 42 = .ok (.isub, 1) := by decide +kernel
theorem dX6_moveWaitingLoads_43 : decode cX6_moveWaitingLoads 43 = .ok (.invokevirtual 269, 3) := by decide +kernel
theorem dX6_moveWaitingLoads_46 : decode cX6_moveWaitingLoads 46 = .ok (.iinc 1 1, 3) := by decide +kernel
theorem dX6_moveWaitingLoads_49 : decode cX6_moveWaitingLoads 49 = .ok (.goto (-47), 3) := by decide +kernel
theorem dX6_moveWaitingLoads_52 : decode cX6_moveWaitingLoads 52 = .ok (.return_, 1) := by decide +kernel
theorem dX6_lastPlace_0 : decode cX6_lastPlace 0 = .ok (.iload_n 1, 1) := by decide +kernel
theorem dX6_lastPlace_1 : decode cX6_lastPlace 1 = .ok (.ifCond .ne 12, 3) := by decide +kernel
theorem dX6_lastPlace_4 : decode cX6_lastPlace 4 = .ok (.aload_n 0, 1) := by decide +kernel
theorem dX6_lastPlace_5 : decode cX6_lastPlace 5 = .ok (.getfield 68, 3) := by decide +kernel
theorem dX6_lastPlace_8 : decode cX6_lastPlace 8 = .ok (.iconst 1, 1) := by decide +kernel
theorem dX6_lastPlace_9 : decode cX6_lastPlace 9 = .ok (.isub, 1) := by decide +kernel
theorem dX6_lastPlace_10 : decode cX6_lastPlace 10 = .ok (.goto 4, 3) := by decide +kernel
theorem dX6_lastPlace_13 : decode cX6_lastPlace 13 = .ok (.iconst 0, 1) := by decide +kernel
theorem dX6_lastPlace_14 : decode cX6_lastPlace 14 = .ok (.ireturn, 1) := by decide +kernel
theorem dX6_comeIfItCan_0 : decode cX6_comeIfItCan 0 = .ok (.aload_n 0, 1) := by decide +kernel
theorem dX6_comeIfItCan_1 : decode cX6_comeIfItCan 1 = .ok (.iload_n 2, 1) := by decide +kernel
theorem dX6_comeIfItCan_2 : decode cX6_comeIfItCan 2 = .ok (.invokevirtual 95, 3) := by decide +kernel
theorem dX6_comeIfItCan_5 : decode cX6_comeIfItCan 5 = .ok (.ifCond .eq 21, 3) := by decide +kernel
theorem dX6_comeIfItCan_8 : decode cX6_comeIfItCan 8 = .ok (.aload_n 0, 1) := by decide +kernel
theorem dX6_comeIfItCan_9 : decode cX6_comeIfItCan 9 = .ok (.aload_n 1, 1) := by decide +kernel
theorem dX6_comeIfItCan_10 : decode cX6_comeIfItCan 10 = .ok (.iload_n 2, 1) := by decide +kernel
theorem dX6_comeIfItCan_11 : decode cX6_comeIfItCan 11 = .ok (.invokevirtual 272, 3) := by decide +kernel
theorem dX6_comeIfItCan_14 : decode cX6_comeIfItCan 14 = .ok (.ifCond .ne 12, 3) := by decide +kernel
theorem dX6_comeIfItCan_17 : decode cX6_comeIfItCan 17 = .ok (.aload_n 0, 1) := by decide +kernel
theorem dX6_comeIfItCan_18 : decode cX6_comeIfItCan 18 = .ok (.aload_n 1, 1) := by decide +kernel
theorem dX6_comeIfItCan_19 : decode cX6_comeIfItCan 19 = .ok (.iload_n 2, 1) := by decide +kernel
theorem dX6_comeIfItCan_20 : decode cX6_comeIfItCan 20 = .ok (.invokevirtual 176, 3) := by decide +kernel
theorem dX6_comeIfItCan_23 : decode cX6_comeIfItCan 23 = .ok (.ifCond .eq 4, 3) := by decide +kernel
theorem dX6_comeIfItCan_26 : decode cX6_comeIfItCan 26 = .ok (.return_, 1) := by decide +kernel
theorem dX6_comeIfItCan_27 : decode cX6_comeIfItCan 27 = .ok (.aload_n 0, 1) := by decide +kernel
theorem dX6_comeIfItCan_28 : decode cX6_comeIfItCan 28 = .ok (.getfield 11, 3) := by decide +kernel
theorem dX6_comeIfItCan_31 : decode cX6_comeIfItCan 31 = .ok (.iload_n 2, 1) := by decide +kernel
theorem dX6_comeIfItCan_32 : decode cX6_comeIfItCan 32 = .ok (.aaload, 1) := by decide +kernel
theorem dX6_comeIfItCan_33 : decode cX6_comeIfItCan 33 = .ok (.astore_n 3, 1) := by decide +kernel
theorem dX6_comeIfItCan_34 : decode cX6_comeIfItCan 34 = .ok (.aload_n 3, 1) := by decide +kernel
theorem dX6_comeIfItCan_35 : decode cX6_comeIfItCan 35 = .ok (.aload_n 1, 1) := by decide +kernel
theorem dX6_comeIfItCan_36 : decode cX6_comeIfItCan 36 = .ok (.getfield 154, 3) := by decide +kernel
theorem dX6_comeIfItCan_39 : decode cX6_comeIfItCan 39 = .ok (.aload_n 0, 1) := by decide +kernel
theorem dX6_comeIfItCan_40 : decode cX6_comeIfItCan 40 = .ok (.getfield 78, 3) := by decide +kernel
theorem dX6_comeIfItCan_43 : decode cX6_comeIfItCan 43 = .ok (.invokevirtual 276, 3) := by decide +kernel
theorem dX6_comeIfItCan_46 : decode cX6_comeIfItCan 46 = .ok (.aload_n 3, 1) := by decide +kernel
theorem dX6_comeIfItCan_47 : decode cX6_comeIfItCan 47 = .ok (.aload_n 1, 1) := by decide +kernel
theorem dX6_comeIfItCan_48 : decode cX6_comeIfItCan 48 = .ok (.getfield 148, 3) := by decide +kernel
theorem dX6_comeIfItCan_51 : decode cX6_comeIfItCan 51 = .ok (.invokevirtual 132, 3) := by decide +kernel
theorem dX6_comeIfItCan_54 : decode cX6_comeIfItCan 54 = .ok (.ifCond .eq 19, 3) := by decide +kernel
theorem dX6_comeIfItCan_57 : decode cX6_comeIfItCan 57 = .ok (.aload_n 1, 1) := by decide +kernel
theorem dX6_comeIfItCan_58 : decode cX6_comeIfItCan 58 = .ok (.iload_n 2, 1) := by decide +kernel
theorem dX6_comeIfItCan_59 : decode cX6_comeIfItCan 59 = .ok (.invokevirtual 279, 3) := by decide +kernel
theorem dX6_comeIfItCan_62 : decode cX6_comeIfItCan 62 = .ok (.aload_n 3, 1) := by decide +kernel
theorem dX6_comeIfItCan_63 : decode cX6_comeIfItCan 63 = .ok (.aload_n 1, 1) := by decide +kernel
theorem dX6_comeIfItCan_64 : decode cX6_comeIfItCan 64 = .ok (.getfield 148, 3) := by decide +kernel
theorem dX6_comeIfItCan_67 : decode cX6_comeIfItCan 67 = .ok (.invokevirtual 282, 3) := by decide +kernel
theorem dX6_comeIfItCan_70 : decode cX6_comeIfItCan 70 = .ok (.goto 16, 3) := by decide +kernel
theorem dX6_comeIfItCan_73 : decode cX6_comeIfItCan 73 = .ok (.aload_n 1, 1) := by decide +kernel
theorem dX6_comeIfItCan_74 : decode cX6_comeIfItCan 74 = .ok (.iconst 3, 1) := by decide +kernel
theorem dX6_comeIfItCan_75 : decode cX6_comeIfItCan 75 = .ok (.aload_n 0, 1) := by decide +kernel
theorem dX6_comeIfItCan_76 : decode cX6_comeIfItCan 76 = .ok (.getfield 78, 3) := by decide +kernel
theorem dX6_comeIfItCan_79 : decode cX6_comeIfItCan 79 = .ok (.invokevirtual 265, 3) := by decide +kernel
theorem dX6_comeIfItCan_82 : decode cX6_comeIfItCan 82 = .ok (.aload_n 3, 1) := by decide +kernel
theorem dX6_comeIfItCan_83 : decode cX6_comeIfItCan 83 = .ok (.invokevirtual 285, 3) := by decide +kernel
theorem dX6_comeIfItCan_86 : decode cX6_comeIfItCan 86 = .ok (.return_, 1) := by decide +kernel
theorem dX6_isBarred_0 : decode cX6_isBarred 0 = .ok (.aload_n 0, 1) := by decide +kernel
theorem dX6_isBarred_1 : decode cX6_isBarred 1 = .ok (.getfield 11, 3) := by decide +kernel
theorem dX6_isBarred_4 : decode cX6_isBarred 4 = .ok (.iload_n 2, 1) := by decide +kernel
theorem dX6_isBarred_5 : decode cX6_isBarred 5 = .ok (.aaload, 1) := by decide +kernel
theorem dX6_isBarred_6 : decode cX6_isBarred 6 = .ok (.getfield 108, 3) := by decide +kernel
theorem dX6_isBarred_9 : decode cX6_isBarred 9 = .ok (.bipush 10, 2) := by decide +kernel
theorem dX6_isBarred_11 : decode cX6_isBarred 11 = .ok (.if_icmp .ge 7, 3) := by decide +kernel
theorem dX6_isBarred_14 : decode cX6_isBarred 14 = .ok (.iconst 1, 1) := by decide +kernel
theorem dX6_isBarred_15 : decode cX6_isBarred 15 = .ok (.goto 4, 3) := by decide +kernel
theorem dX6_isBarred_18 : decode cX6_isBarred 18 = .ok (.iconst 0, 1) := by decide +kernel
theorem dX6_isBarred_19 : decode cX6_isBarred 19 = .ok (.istore_n 3, 1) := by decide +kernel
theorem dX6_isBarred_20 : decode cX6_isBarred 20 = .ok (.iconst 0, 1) := by decide +kernel
theorem dX6_isBarred_21 : decode cX6_isBarred 21 = .ok (.istore 4, 2) := by decide +kernel
theorem dX6_isBarred_23 : decode cX6_isBarred 23 = .ok (.iload 4, 2) := by decide +kernel
theorem dX6_isBarred_25 : decode cX6_isBarred 25 = .ok (.aload_n 0, 1) := by decide +kernel
theorem dX6_isBarred_26 : decode cX6_isBarred 26 = .ok (.getfield 72, 3) := by decide +kernel
theorem dX6_isBarred_29 : decode cX6_isBarred 29 = .ok (.if_icmp .ge 54, 3) := by decide +kernel
theorem dX6_isBarred_32 : decode cX6_isBarred 32 = .ok (.aload_n 0, 1) := by decide +kernel
theorem dX6_isBarred_33 : decode cX6_isBarred 33 = .ok (.getfield 17, 3) := by decide +kernel
theorem dX6_isBarred_36 : decode cX6_isBarred 36 = .ok (.iload 4, 2) := by decide +kernel
theorem dX6_isBarred_38 : decode cX6_isBarred 38 = .ok (.aaload, 1) := by decide +kernel
theorem dX6_isBarred_39 : decode cX6_isBarred 39 = .ok (.astore 5, 2) := by decide +kernel
theorem dX6_isBarred_41 : decode cX6_isBarred 41 = .ok (.aload 5, 2) := by decide +kernel
theorem dX6_isBarred_43 : decode cX6_isBarred 43 = .ok (.getfield 164, 3) := by decide +kernel
theorem dX6_isBarred_46 : decode cX6_isBarred 46 = .ok (.iconst 1, 1) := by decide +kernel
theorem dX6_isBarred_47 : decode cX6_isBarred 47 = .ok (.if_icmp .ne 30, 3) := by decide +kernel
theorem dX6_isBarred_50 : decode cX6_isBarred 50 = .ok (.aload 5, 2) := by decide +kernel
theorem dX6_isBarred_52 : decode cX6_isBarred 52 = .ok (.getfield 167, 3) := by decide +kernel
theorem dX6_isBarred_55 : decode cX6_isBarred 55 = .ok (.iload_n 2, 1) := by decide +kernel
theorem dX6_isBarred_56 : decode cX6_isBarred 56 = .ok (.if_icmp .ne 21, 3) := by decide +kernel
theorem dX6_isBarred_59 : decode cX6_isBarred 59 = .ok (.iload_n 3, 1) := by decide +kernel
theorem dX6_isBarred_60 : decode cX6_isBarred 60 = .ok (.ifCond .ne 15, 3) := by decide +kernel
theorem dX6_isBarred_63 : decode cX6_isBarred 63 = .ok (.aload 5, 2) := by decide +kernel
theorem dX6_isBarred_65 : decode cX6_isBarred 65 = .ok (.getfield 154, 3) := by decide +kernel
theorem dX6_isBarred_68 : decode cX6_isBarred 68 = .ok (.aload_n 1, 1) := by decide +kernel
theorem dX6_isBarred_69 : decode cX6_isBarred 69 = .ok (.getfield 154, 3) := by decide +kernel
theorem dX6_isBarred_72 : decode cX6_isBarred 72 = .ok (.if_icmp .ne 5, 3) := by decide +kernel
theorem dX6_isBarred_75 : decode cX6_isBarred 75 = .ok (.iconst 1, 1) := by decide +kernel
theorem dX6_isBarred_76 : decode cX6_isBarred 76 = .ok (.ireturn, 1) := by decide +kernel
theorem dX6_isBarred_77 : decode cX6_isBarred 77 = .ok (.iinc 4 1, 3) := by decide +kernel
theorem dX6_isBarred_80 : decode cX6_isBarred 80 = .ok (.goto (-57), 3) := by decide +kernel
theorem dX6_isBarred_83 : decode cX6_isBarred 83 = .ok (.iconst 0, 1) := by decide +kernel
theorem dX6_isBarred_84 : decode cX6_isBarred 84 = .ok (.ireturn, 1) := by decide +kernel
theorem dX6_lineUp_0 : decode cX6_lineUp 0 = .ok (.aload_n 0, 1) := by decide +kernel
theorem dX6_lineUp_1 : decode cX6_lineUp 1 = .ok (.getfield 72, 3) := by decide +kernel
theorem dX6_lineUp_4 : decode cX6_lineUp 4 = .ok (.istore_n 2, 1) := by decide +kernel
theorem dX6_lineUp_5 : decode cX6_lineUp 5 = .ok (.iload_n 2, 1) := by decide +kernel
theorem dX6_lineUp_6 : decode cX6_lineUp 6 = .ok (.ifCond .le 41, 3) := by decide +kernel
theorem dX6_lineUp_9 : decode cX6_lineUp 9 = .ok (.aload_n 0, 1) := by decide +kernel
theorem dX6_lineUp_10 : decode cX6_lineUp 10 = .ok (.getfield 21, 3) := by decide +kernel
theorem dX6_lineUp_13 : decode cX6_lineUp 13 = .ok (.iload_n 2, 1) := by decide +kernel
theorem dX6_lineUp_14 : decode cX6_lineUp 14 = .ok (.iconst 1, 1) := by decide +kernel
theorem dX6_lineUp_15 : decode cX6_lineUp 15 = .ok (.isub, 1) := by decide +kernel
theorem dX6_lineUp_16 : decode cX6_lineUp 16 = .ok (.aaload, 1) := by decide +kernel
theorem dX6_lineUp_17 : decode cX6_lineUp 17 = .ok (.getfield 151, 3) := by decide +kernel
theorem dX6_lineUp_20 : decode cX6_lineUp 20 = .ok (.aload_n 1, 1) := by decide +kernel
theorem dX6_lineUp_21 : decode cX6_lineUp 21 = .ok (.getfield 151, 3) := by decide +kernel
theorem dX6_lineUp_24 : decode cX6_lineUp 24 = .ok (.if_icmp .ge 23, 3) := by decide +kernel
theorem dX6_lineUp_27 : decode cX6_lineUp 27 = .ok (.aload_n 0, 1) := by decide +kernel
theorem dX6_lineUp_28 : decode cX6_lineUp 28 = .ok (.getfield 21, 3) := by decide +kernel
theorem dX6_lineUp_31 : decode cX6_lineUp 31 = .ok (.iload_n 2, 1) := by decide +kernel
theorem dX6_lineUp_32 : decode cX6_lineUp 32 = .ok (.aload_n 0, 1) := by decide +kernel
theorem dX6_lineUp_33 : decode cX6_lineUp 33 = .ok (.getfield 21, 3) := by decide +kernel
theorem dX6_lineUp_36 : decode cX6_lineUp 36 = .ok (.iload_n 2, 1) := by decide +kernel
theorem dX6_lineUp_37 : decode cX6_lineUp 37 = .ok (.iconst 1, 1) := by decide +kernel
theorem dX6_lineUp_38 : decode cX6_lineUp 38 = .ok (.isub, 1) := by decide +kernel
theorem dX6_lineUp_39 : decode cX6_lineUp 39 = .ok (.aaload, 1) := by decide +kernel
theorem dX6_lineUp_40 : decode cX6_lineUp 40 = .ok (.aastore, 1) := by decide +kernel
theorem dX6_lineUp_41 : decode cX6_lineUp 41 = .ok (.iinc 2 (-1), 3) := by decide +kernel
theorem dX6_lineUp_44 : decode cX6_lineUp 44 = .ok (.goto (-39), 3) := by decide +kernel
theorem dX6_lineUp_47 : decode cX6_lineUp 47 = .ok (.aload_n 0, 1) := by decide +kernel
theorem dX6_lineUp_48 : decode cX6_lineUp 48 = .ok (.getfield 21, 3) := by decide +kernel
theorem dX6_lineUp_51 : decode cX6_lineUp 51 = .ok (.iload_n 2, 1) := by decide +kernel
theorem dX6_lineUp_52 : decode cX6_lineUp 52 = .ok (.aload_n 1, 1) := by decide +kernel
theorem dX6_lineUp_53 : decode cX6_lineUp 53 = .ok (.aastore, 1) := by decide +kernel
theorem dX6_lineUp_54 : decode cX6_lineUp 54 = .ok (.return_, 1) := by decide +kernel
theorem dX6_loadsIn_0 : decode cX6_loadsIn 0 = .ok (.iconst 0, 1) := by decide +kernel
theorem dX6_loadsIn_1 : decode cX6_loadsIn 1 = .ok (.istore_n 2, 1) := by decide +kernel
theorem dX6_loadsIn_2 : decode cX6_loadsIn 2 = .ok (.iconst 0, 1) := by decide +kernel
theorem dX6_loadsIn_3 : decode cX6_loadsIn 3 = .ok (.istore_n 3, 1) := by decide +kernel
theorem dX6_loadsIn_4 : decode cX6_loadsIn 4 = .ok (.iload_n 3, 1) := by decide +kernel
theorem dX6_loadsIn_5 : decode cX6_loadsIn 5 = .ok (.aload_n 0, 1) := by decide +kernel
theorem dX6_loadsIn_6 : decode cX6_loadsIn 6 = .ok (.getfield 72, 3) := by decide +kernel
theorem dX6_loadsIn_9 : decode cX6_loadsIn 9 = .ok (.if_icmp .ge 30, 3) := by decide +kernel
theorem dX6_loadsIn_12 : decode cX6_loadsIn 12 = .ok (.iload_n 2, 1) := by decide +kernel
theorem dX6_loadsIn_13 : decode cX6_loadsIn 13 = .ok (.aload_n 0, 1) := by decide +kernel
theorem dX6_loadsIn_14 : decode cX6_loadsIn 14 = .ok (.getfield 17, 3) := by decide +kernel
theorem dX6_loadsIn_17 : decode cX6_loadsIn 17 = .ok (.iload_n 3, 1) := by decide +kernel
theorem dX6_loadsIn_18 : decode cX6_loadsIn 18 = .ok (.aaload, 1) := by decide +kernel
theorem dX6_loadsIn_19 : decode cX6_loadsIn 19 = .ok (.getfield 164, 3) := by decide +kernel
theorem dX6_loadsIn_22 : decode cX6_loadsIn 22 = .ok (.iload_n 1, 1) := by decide +kernel
theorem dX6_loadsIn_23 : decode cX6_loadsIn 23 = .ok (.if_icmp .ne 7, 3) := by decide +kernel
theorem dX6_loadsIn_26 : decode cX6_loadsIn 26 = .ok (.iconst 1, 1) := by decide +kernel
theorem dX6_loadsIn_27 : decode cX6_loadsIn 27 = .ok (.goto 4, 3) := by decide +kernel
theorem dX6_loadsIn_30 : decode cX6_loadsIn 30 = .ok (.iconst 0, 1) := by decide +kernel
theorem dX6_loadsIn_31 : decode cX6_loadsIn 31 = .ok (.iadd, 1) := by decide +kernel
theorem dX6_loadsIn_32 : decode cX6_loadsIn 32 = .ok (.istore_n 2, 1) := by decide +kernel
theorem dX6_loadsIn_33 : decode cX6_loadsIn 33 = .ok (.iinc 3 1, 3) := by decide +kernel
theorem dX6_loadsIn_36 : decode cX6_loadsIn 36 = .ok (.goto (-32), 3) := by decide +kernel
theorem dX6_loadsIn_39 : decode cX6_loadsIn 39 = .ok (.iload_n 2, 1) := by decide +kernel
theorem dX6_loadsIn_40 : decode cX6_loadsIn 40 = .ok (.ireturn, 1) := by decide +kernel
theorem dX6_loadsOn_0 : decode cX6_loadsOn 0 = .ok (.iconst 0, 1) := by decide +kernel
theorem dX6_loadsOn_1 : decode cX6_loadsOn 1 = .ok (.istore_n 2, 1) := by decide +kernel
theorem dX6_loadsOn_2 : decode cX6_loadsOn 2 = .ok (.iconst 0, 1) := by decide +kernel
theorem dX6_loadsOn_3 : decode cX6_loadsOn 3 = .ok (.istore_n 3, 1) := by decide +kernel
theorem dX6_loadsOn_4 : decode cX6_loadsOn 4 = .ok (.iload_n 3, 1) := by decide +kernel
theorem dX6_loadsOn_5 : decode cX6_loadsOn 5 = .ok (.aload_n 0, 1) := by decide +kernel
theorem dX6_loadsOn_6 : decode cX6_loadsOn 6 = .ok (.getfield 72, 3) := by decide +kernel
theorem dX6_loadsOn_9 : decode cX6_loadsOn 9 = .ok (.if_icmp .ge 43, 3) := by decide +kernel
theorem dX6_loadsOn_12 : decode cX6_loadsOn 12 = .ok (.iload_n 2, 1) := by decide +kernel
theorem dX6_loadsOn_13 : decode cX6_loadsOn 13 = .ok (.aload_n 0, 1) := by decide +kernel
theorem dX6_loadsOn_14 : decode cX6_loadsOn 14 = .ok (.getfield 17, 3) := by decide +kernel
theorem dX6_loadsOn_17 : decode cX6_loadsOn 17 = .ok (.iload_n 3, 1) := by decide +kernel
theorem dX6_loadsOn_18 : decode cX6_loadsOn 18 = .ok (.aaload, 1) := by decide +kernel
theorem dX6_loadsOn_19 : decode cX6_loadsOn 19 = .ok (.getfield 164, 3) := by decide +kernel
theorem dX6_loadsOn_22 : decode cX6_loadsOn 22 = .ok (.iconst 1, 1) := by decide +kernel
theorem dX6_loadsOn_23 : decode cX6_loadsOn 23 = .ok (.if_icmp .ne 20, 3) := by decide +kernel
theorem dX6_loadsOn_26 : decode cX6_loadsOn 26 = .ok (.aload_n 0, 1) := by decide +kernel
theorem dX6_loadsOn_27 : decode cX6_loadsOn 27 = .ok (.getfield 17, 3) := by decide +kernel
theorem dX6_loadsOn_30 : decode cX6_loadsOn 30 = .ok (.iload_n 3, 1) := by decide +kernel
theorem dX6_loadsOn_31 : decode cX6_loadsOn 31 = .ok (.aaload, 1) := by decide +kernel
theorem dX6_loadsOn_32 : decode cX6_loadsOn 32 = .ok (.getfield 167, 3) := by decide +kernel
theorem dX6_loadsOn_35 : decode cX6_loadsOn 35 = .ok (.iload_n 1, 1) := by decide +kernel
theorem dX6_loadsOn_36 : decode cX6_loadsOn 36 = .ok (.if_icmp .ne 7, 3) := by decide +kernel
theorem dX6_loadsOn_39 : decode cX6_loadsOn 39 = .ok (.iconst 1, 1) := by decide +kernel
theorem dX6_loadsOn_40 : decode cX6_loadsOn 40 = .ok (.goto 4, 3) := by decide +kernel
theorem dX6_loadsOn_43 : decode cX6_loadsOn 43 = .ok (.iconst 0, 1) := by decide +kernel
theorem dX6_loadsOn_44 : decode cX6_loadsOn 44 = .ok (.iadd, 1) := by decide +kernel
theorem dX6_loadsOn_45 : decode cX6_loadsOn 45 = .ok (.istore_n 2, 1) := by decide +kernel
theorem dX6_loadsOn_46 : decode cX6_loadsOn 46 = .ok (.iinc 3 1, 3) := by decide +kernel
theorem dX6_loadsOn_49 : decode cX6_loadsOn 49 = .ok (.goto (-45), 3) := by decide +kernel
theorem dX6_loadsOn_52 : decode cX6_loadsOn 52 = .ok (.iload_n 2, 1) := by decide +kernel
theorem dX6_loadsOn_53 : decode cX6_loadsOn 53 = .ok (.ireturn, 1) := by decide +kernel
theorem dX6_tonsDelivered_0 : decode cX6_tonsDelivered 0 = .ok (.iconst 0, 1) := by decide +kernel
theorem dX6_tonsDelivered_1 : decode cX6_tonsDelivered 1 = .ok (.istore_n 1, 1) := by decide +kernel
theorem dX6_tonsDelivered_2 : decode cX6_tonsDelivered 2 = .ok (.iconst 0, 1) := by decide +kernel
theorem dX6_tonsDelivered_3 : decode cX6_tonsDelivered 3 = .ok (.istore_n 2, 1) := by decide +kernel
theorem dX6_tonsDelivered_4 : decode cX6_tonsDelivered 4 = .ok (.iload_n 2, 1) := by decide +kernel
theorem dX6_tonsDelivered_5 : decode cX6_tonsDelivered 5 = .ok (.aload_n 0, 1) := by decide +kernel
theorem dX6_tonsDelivered_6 : decode cX6_tonsDelivered 6 = .ok (.getfield 72, 3) := by decide +kernel
theorem dX6_tonsDelivered_9 : decode cX6_tonsDelivered 9 = .ok (.if_icmp .ge 38, 3) := by decide +kernel
theorem dX6_tonsDelivered_12 : decode cX6_tonsDelivered 12 = .ok (.iload_n 1, 1) := by decide +kernel
theorem dX6_tonsDelivered_13 : decode cX6_tonsDelivered 13 = .ok (.aload_n 0, 1) := by decide +kernel
theorem dX6_tonsDelivered_14 : decode cX6_tonsDelivered 14 = .ok (.getfield 17, 3) := by decide +kernel
theorem dX6_tonsDelivered_17 : decode cX6_tonsDelivered 17 = .ok (.iload_n 2, 1) := by decide +kernel
theorem dX6_tonsDelivered_18 : decode cX6_tonsDelivered 18 = .ok (.aaload, 1) := by decide +kernel
theorem dX6_tonsDelivered_19 : decode cX6_tonsDelivered 19 = .ok (.getfield 164, 3) := by decide +kernel
theorem dX6_tonsDelivered_22 : decode cX6_tonsDelivered 22 = .ok (.iconst 2, 1) := by decide +kernel
theorem dX6_tonsDelivered_23 : decode cX6_tonsDelivered 23 = .ok (.if_icmp .ne 15, 3) := by decide +kernel
theorem dX6_tonsDelivered_26 : decode cX6_tonsDelivered 26 = .ok (.aload_n 0, 1) := by decide +kernel
theorem dX6_tonsDelivered_27 : decode cX6_tonsDelivered 27 = .ok (.getfield 17, 3) := by decide +kernel
theorem dX6_tonsDelivered_30 : decode cX6_tonsDelivered 30 = .ok (.iload_n 2, 1) := by decide +kernel
theorem dX6_tonsDelivered_31 : decode cX6_tonsDelivered 31 = .ok (.aaload, 1) := by decide +kernel
theorem dX6_tonsDelivered_32 : decode cX6_tonsDelivered 32 = .ok (.getfield 148, 3) := by decide +kernel
theorem dX6_tonsDelivered_35 : decode cX6_tonsDelivered 35 = .ok (.goto 4, 3) := by decide +kernel
theorem dX6_tonsDelivered_38 : decode cX6_tonsDelivered 38 = .ok (.iconst 0, 1) := by decide +kernel
theorem dX6_tonsDelivered_39 : decode cX6_tonsDelivered 39 = .ok (.iadd, 1) := by decide +kernel
theorem dX6_tonsDelivered_40 : decode cX6_tonsDelivered 40 = .ok (.istore_n 1, 1) := by decide +kernel
theorem dX6_tonsDelivered_41 : decode cX6_tonsDelivered 41 = .ok (.iinc 2 1, 3) := by decide +kernel
theorem dX6_tonsDelivered_44 : decode cX6_tonsDelivered 44 = .ok (.goto (-40), 3) := by decide +kernel
theorem dX6_tonsDelivered_47 : decode cX6_tonsDelivered 47 = .ok (.iload_n 1, 1) := by decide +kernel
theorem dX6_tonsDelivered_48 : decode cX6_tonsDelivered 48 = .ok (.ireturn, 1) := by decide +kernel
theorem dX6_hoursHeldUp_0 : decode cX6_hoursHeldUp 0 = .ok (.aload_n 1, 1) := by decide +kernel
theorem dX6_hoursHeldUp_1 : decode cX6_hoursHeldUp 1 = .ok (.iload_n 2, 1) := by decide +kernel
theorem dX6_hoursHeldUp_2 : decode cX6_hoursHeldUp 2 = .ok (.invokevirtual 132, 3) := by decide +kernel
theorem dX6_hoursHeldUp_5 : decode cX6_hoursHeldUp 5 = .ok (.ifCond .ne 5, 3) := by decide +kernel
theorem dX6_hoursHeldUp_8 : decode cX6_hoursHeldUp 8 = .ok (.iconst 0, 1) := by decide +kernel
theorem dX6_hoursHeldUp_9 : decode cX6_hoursHeldUp 9 = .ok (.ireturn, 1) := by decide +kernel
theorem dX6_hoursHeldUp_10 : decode cX6_hoursHeldUp 10 = .ok (.aload_n 0, 1) := by decide +kernel
theorem dX6_hoursHeldUp_11 : decode cX6_hoursHeldUp 11 = .ok (.getfield 60, 3) := by decide +kernel
theorem dX6_hoursHeldUp_14 : decode cX6_hoursHeldUp 14 = .ok (.aload_n 1, 1) := by decide +kernel
theorem dX6_hoursHeldUp_15 : decode cX6_hoursHeldUp 15 = .ok (.invokevirtual 288, 3) := by decide +kernel
theorem dX6_hoursHeldUp_18 : decode cX6_hoursHeldUp 18 = .ok (.iconst 0, 1) := by decide +kernel
theorem dX6_hoursHeldUp_19 : decode cX6_hoursHeldUp 19 = .ok (.istore 5, 2) := by decide +kernel
theorem dX6_hoursHeldUp_21 : decode cX6_hoursHeldUp 21 = .ok (.iload 5, 2) := by decide +kernel
theorem dX6_hoursHeldUp_23 : decode cX6_hoursHeldUp 23 = .ok (.iload 4, 2) := by decide +kernel
theorem dX6_hoursHeldUp_25 : decode cX6_hoursHeldUp 25 = .ok (.if_icmp .ge 31, 3) := by decide +kernel
theorem dX6_hoursHeldUp_28 : decode cX6_hoursHeldUp 28 = .ok (.aload_n 0, 1) := by decide +kernel
theorem dX6_hoursHeldUp_29 : decode cX6_hoursHeldUp 29 = .ok (.getfield 60, 3) := by decide +kernel
theorem dX6_hoursHeldUp_32 : decode cX6_hoursHeldUp 32 = .ok (.iload_n 3, 1) := by decide +kernel
theorem dX6_hoursHeldUp_33 : decode cX6_hoursHeldUp 33 = .ok (.invokevirtual 259, 3) := by decide +kernel
theorem dX6_hoursHeldUp_36 : decode cX6_hoursHeldUp 36 = .ok (.aload_n 0, 1) := by decide +kernel
theorem dX6_hoursHeldUp_37 : decode cX6_hoursHeldUp 37 = .ok (.getfield 60, 3) := by decide +kernel
theorem dX6_hoursHeldUp_40 : decode cX6_hoursHeldUp 40 = .ok (.iload_n 2, 1) := by decide +kernel
theorem dX6_hoursHeldUp_41 : decode cX6_hoursHeldUp 41 = .ok (.invokevirtual 132, 3) := by decide +kernel
theorem dX6_hoursHeldUp_44 : decode cX6_hoursHeldUp 44 = .ok (.ifCond .ne 6, 3) := by decide +kernel
theorem dX6_hoursHeldUp_47 : decode cX6_hoursHeldUp 47 = .ok (.iload 5, 2) := by decide +kernel
theorem dX6_hoursHeldUp_49 : decode cX6_hoursHeldUp 49 = .ok (.ireturn, 1) := by decide +kernel
theorem dX6_hoursHeldUp_50 : decode cX6_hoursHeldUp 50 = .ok (.iinc 5 1, 3) := by decide +kernel
theorem dX6_hoursHeldUp_53 : decode cX6_hoursHeldUp 53 = .ok (.goto (-32), 3) := by decide +kernel
theorem dX6_hoursHeldUp_56 : decode cX6_hoursHeldUp 56 = .ok (.iload 4, 2) := by decide +kernel
theorem dX6_hoursHeldUp_58 : decode cX6_hoursHeldUp 58 = .ok (.ireturn, 1) := by decide +kernel
theorem dX7_init_0 : decode cX7_init 0 = .ok (.aload_n 0, 1) := by decide +kernel
theorem dX7_init_1 : decode cX7_init 1 = .ok (.invokespecial 1, 3) := by decide +kernel
theorem dX7_init_4 : decode cX7_init 4 = .ok (.aload_n 0, 1) := by decide +kernel
theorem dX7_init_5 : decode cX7_init 5 = .ok (.bipush 9, 2) := by decide +kernel
theorem dX7_init_7 : decode cX7_init 7 = .ok (.newarray .int, 2) := by decide +kernel
theorem dX7_init_9 : decode cX7_init 9 = .ok (.putfield 7, 3) := by decide +kernel
theorem dX7_init_12 : decode cX7_init 12 = .ok (.aload_n 0, 1) := by decide +kernel
theorem dX7_init_13 : decode cX7_init 13 = .ok (.iconst 2, 1) := by decide +kernel
theorem dX7_init_14 : decode cX7_init 14 = .ok (.putfield 13, 3) := by decide +kernel
theorem dX7_init_17 : decode cX7_init 17 = .ok (.aload_n 0, 1) := by decide +kernel
theorem dX7_init_18 : decode cX7_init 18 = .ok (.bipush 10, 2) := by decide +kernel
theorem dX7_init_20 : decode cX7_init 20 = .ok (.newarray .int, 2) := by decide +kernel
theorem dX7_init_22 : decode cX7_init 22 = .ok (.putfield 17, 3) := by decide +kernel
theorem dX7_init_25 : decode cX7_init 25 = .ok (.aload_n 0, 1) := by decide +kernel
theorem dX7_init_26 : decode cX7_init 26 = .ok (.bipush 10, 2) := by decide +kernel
theorem dX7_init_28 : decode cX7_init 28 = .ok (.newarray .int, 2) := by decide +kernel
theorem dX7_init_30 : decode cX7_init 30 = .ok (.putfield 20, 3) := by decide +kernel
theorem dX7_init_33 : decode cX7_init 33 = .ok (.aload_n 0, 1) := by decide +kernel
theorem dX7_init_34 : decode cX7_init 34 = .ok (.bipush 10, 2) := by decide +kernel
theorem dX7_init_36 : decode cX7_init 36 = .ok (.newarray .int, 2) := by decide +kernel
theorem dX7_init_38 : decode cX7_init 38 = .ok (.putfield 23, 3) := by decide +kernel
theorem dX7_init_41 : decode cX7_init 41 = .ok (.aload_n 0, 1) := by decide +kernel
theorem dX7_init_42 : decode cX7_init 42 = .ok (.bipush 10, 2) := by decide +kernel
theorem dX7_init_44 : decode cX7_init 44 = .ok (.newarray .int, 2) := by decide +kernel
theorem dX7_init_46 : decode cX7_init 46 = .ok (.dup, 1) := by decide +kernel
theorem dX7_init_47 : decode cX7_init 47 = .ok (.iconst 0, 1) := by decide +kernel
theorem dX7_init_48 : decode cX7_init 48 = .ok (.bipush 20, 2) := by decide +kernel
theorem dX7_init_50 : decode cX7_init 50 = .ok (.iastore, 1) := by decide +kernel
theorem dX7_init_51 : decode cX7_init 51 = .ok (.dup, 1) := by decide +kernel
theorem dX7_init_52 : decode cX7_init 52 = .ok (.iconst 1, 1) := by decide +kernel
theorem dX7_init_53 : decode cX7_init 53 = .ok (.bipush 20, 2) := by decide +kernel
theorem dX7_init_55 : decode cX7_init 55 = .ok (.iastore, 1) := by decide +kernel
theorem dX7_init_56 : decode cX7_init 56 = .ok (.dup, 1) := by decide +kernel
theorem dX7_init_57 : decode cX7_init 57 = .ok (.iconst 2, 1) := by decide +kernel
theorem dX7_init_58 : decode cX7_init 58 = .ok (.iconst 0, 1) := by decide +kernel
theorem dX7_init_59 : decode cX7_init 59 = .ok (.iastore, 1) := by decide +kernel
theorem dX7_init_60 : decode cX7_init 60 = .ok (.dup, 1) := by decide +kernel
theorem dX7_init_61 : decode cX7_init 61 = .ok (.iconst 3, 1) := by decide +kernel
theorem dX7_init_62 : decode cX7_init 62 = .ok (.iconst 0, 1) := by decide +kernel
theorem dX7_init_63 : decode cX7_init 63 = .ok (.iastore, 1) := by decide +kernel
theorem dX7_init_64 : decode cX7_init 64 = .ok (.dup, 1) := by decide +kernel
theorem dX7_init_65 : decode cX7_init 65 = .ok (.iconst 4, 1) := by decide +kernel
theorem dX7_init_66 : decode cX7_init 66 = .ok (.iconst 0, 1) := by decide +kernel
theorem dX7_init_67 : decode cX7_init 67 = .ok (.iastore, 1) := by decide +kernel
theorem dX7_init_68 : decode cX7_init 68 = .ok (.dup, 1) := by decide +kernel
theorem dX7_init_69 : decode cX7_init 69 = .ok (.iconst 5, 1) := by decide +kernel
theorem dX7_init_70 : decode cX7_init 70 = .ok (.iconst 0, 1) := by decide +kernel
theorem dX7_init_71 : decode cX7_init 71 = .ok (.iastore, 1) := by decide +kernel
theorem dX7_init_72 : decode cX7_init 72 = .ok (.dup, 1) := by decide +kernel
theorem dX7_init_73 : decode cX7_init 73 = .ok (.bipush 6, 2) := by decide +kernel
theorem dX7_init_75 : decode cX7_init 75 = .ok (.iconst 0, 1) := by decide +kernel
theorem dX7_init_76 : decode cX7_init 76 = .ok (.iastore, 1) := by decide +kernel
theorem dX7_init_77 : decode cX7_init 77 = .ok (.dup, 1) := by decide +kernel
theorem dX7_init_78 : decode cX7_init 78 = .ok (.bipush 7, 2) := by decide +kernel
theorem dX7_init_80 : decode cX7_init 80 = .ok (.iconst 0, 1) := by decide +kernel
theorem dX7_init_81 : decode cX7_init 81 = .ok (.iastore, 1) := by decide +kernel
theorem dX7_init_82 : decode cX7_init 82 = .ok (.dup, 1) := by decide +kernel
theorem dX7_init_83 : decode cX7_init 83 = .ok (.bipush 8, 2) := by decide +kernel
theorem dX7_init_85 : decode cX7_init 85 = .ok (.iconst 0, 1) := by decide +kernel
theorem dX7_init_86 : decode cX7_init 86 = .ok (.iastore, 1) := by decide +kernel
theorem dX7_init_87 : decode cX7_init 87 = .ok (.dup, 1) := by decide +kernel
theorem dX7_init_88 : decode cX7_init 88 = .ok (.bipush 9, 2) := by decide +kernel
theorem dX7_init_90 : decode cX7_init 90 = .ok (.iconst 0, 1) := by decide +kernel
theorem dX7_init_91 : decode cX7_init 91 = .ok (.iastore, 1) := by decide +kernel
theorem dX7_init_92 : decode cX7_init 92 = .ok (.putfield 26, 3) := by decide +kernel
theorem dX7_init_95 : decode cX7_init 95 = .ok (.aload_n 0, 1) := by decide +kernel
theorem dX7_init_96 : decode cX7_init 96 = .ok (.bipush 10, 2) := by decide +kernel
theorem dX7_init_98 : decode cX7_init 98 = .ok (.newarray .int, 2) := by decide +kernel
theorem dX7_init_100 : decode cX7_init 100 = .ok (.dup, 1) := by decide +kernel
theorem dX7_init_101 : decode cX7_init 101 = .ok (.iconst 0, 1) := by decide +kernel
theorem dX7_init_102 : decode cX7_init 102 = .ok (.iconst 1, 1) := by decide +kernel
theorem dX7_init_103 : decode cX7_init 103 = .ok (.iastore, 1) := by decide +kernel
theorem dX7_init_104 : decode cX7_init 104 = .ok (.dup, 1) := by decide +kernel
theorem dX7_init_105 : decode cX7_init 105 = .ok (.iconst 1, 1) := by decide +kernel
theorem dX7_init_106 : decode cX7_init 106 = .ok (.iconst 1, 1) := by decide +kernel
theorem dX7_init_107 : decode cX7_init 107 = .ok (.iastore, 1) := by decide +kernel
theorem dX7_init_108 : decode cX7_init 108 = .ok (.dup, 1) := by decide +kernel
theorem dX7_init_109 : decode cX7_init 109 = .ok (.iconst 2, 1) := by decide +kernel
theorem dX7_init_110 : decode cX7_init 110 = .ok (.iconst 0, 1) := by decide +kernel
theorem dX7_init_111 : decode cX7_init 111 = .ok (.iastore, 1) := by decide +kernel
theorem dX7_init_112 : decode cX7_init 112 = .ok (.dup, 1) := by decide +kernel
theorem dX7_init_113 : decode cX7_init 113 = .ok (.iconst 3, 1) := by decide +kernel
theorem dX7_init_114 : decode cX7_init 114 = .ok (.iconst 0, 1) := by decide +kernel
theorem dX7_init_115 : decode cX7_init 115 = .ok (.iastore, 1) := by decide +kernel
theorem dX7_init_116 : decode cX7_init 116 = .ok (.dup, 1) := by decide +kernel
theorem dX7_init_117 : decode cX7_init 117 = .ok (.iconst 4, 1) := by decide +kernel
theorem dX7_init_118 : decode cX7_init 118 = .ok (.iconst 0, 1) := by decide +kernel
theorem dX7_init_119 : decode cX7_init 119 = .ok (.iastore, 1) := by decide +kernel
theorem dX7_init_120 : decode cX7_init 120 = .ok (.dup, 1) := by decide +kernel
theorem dX7_init_121 : decode cX7_init 121 = .ok (.iconst 5, 1) := by decide +kernel
theorem dX7_init_122 : decode cX7_init 122 = .ok (.iconst 0, 1) := by decide +kernel
theorem dX7_init_123 : decode cX7_init 123 = .ok (.iastore, 1) := by decide +kernel
theorem dX7_init_124 : decode cX7_init 124 = .ok (.dup, 1) := by decide +kernel
theorem dX7_init_125 : decode cX7_init 125 = .ok (.bipush 6, 2) := by decide +kernel
theorem dX7_init_127 : decode cX7_init 127 = .ok (.iconst 0, 1) := by decide +kernel
theorem dX7_init_128 : decode cX7_init 128 = .ok (.iastore, 1) := by decide +kernel
theorem dX7_init_129 : decode cX7_init 129 = .ok (.dup, 1) := by decide +kernel
theorem dX7_init_130 : decode cX7_init 130 = .ok (.bipush 7, 2) := by decide +kernel
theorem dX7_init_132 : decode cX7_init 132 = .ok (.iconst 0, 1) := by decide +kernel
theorem dX7_init_133 : decode cX7_init 133 = .ok (.iastore, 1) := by decide +kernel
theorem dX7_init_134 : decode cX7_init 134 = .ok (.dup, 1) := by decide +kernel
theorem dX7_init_135 : decode cX7_init 135 = .ok (.bipush 8, 2) := by decide +kernel
theorem dX7_init_137 : decode cX7_init 137 = .ok (.iconst 0, 1) := by decide +kernel
theorem dX7_init_138 : decode cX7_init 138 = .ok (.iastore, 1) := by decide +kernel
theorem dX7_init_139 : decode cX7_init 139 = .ok (.dup, 1) := by decide +kernel
theorem dX7_init_140 : decode cX7_init 140 = .ok (.bipush 9, 2) := by decide +kernel
theorem dX7_init_142 : decode cX7_init 142 = .ok (.iconst 0, 1) := by decide +kernel
theorem dX7_init_143 : decode cX7_init 143 = .ok (.iastore, 1) := by decide +kernel
theorem dX7_init_144 : decode cX7_init 144 = .ok (.putfield 29, 3) := by decide +kernel
theorem dX7_init_147 : decode cX7_init 147 = .ok (.aload_n 0, 1) := by decide +kernel
theorem dX7_init_148 : decode cX7_init 148 = .ok (.bipush 10, 2) := by decide +kernel
theorem dX7_init_150 : decode cX7_init 150 = .ok (.newarray .int, 2) := by decide +kernel
theorem dX7_init_152 : decode cX7_init 152 = .ok (.putfield 32, 3) := by decide +kernel
theorem dX7_init_155 : decode cX7_init 155 = .ok (.aload_n 0, 1) := by decide +kernel
theorem dX7_init_156 : decode cX7_init 156 = .ok (.bipush 10, 2) := by decide +kernel
theorem dX7_init_158 : decode cX7_init 158 = .ok (.newarray .int, 2) := by decide +kernel
theorem dX7_init_160 : decode cX7_init 160 = .ok (.putfield 35, 3) := by decide +kernel
theorem dX7_init_163 : decode cX7_init 163 = .ok (.aload_n 0, 1) := by decide +kernel
theorem dX7_init_164 : decode cX7_init 164 = .ok (.bipush 10, 2) := by decide +kernel
theorem dX7_init_166 : decode cX7_init 166 = .ok (.newarray .int, 2) := by decide +kernel
theorem dX7_init_168 : decode cX7_init 168 = .ok (.dup, 1) := by decide +kernel
theorem dX7_init_169 : decode cX7_init 169 = .ok (.iconst 0, 1) := by decide +kernel
theorem dX7_init_170 : decode cX7_init 170 = .ok (.iconst (-1), 1) := by decide +kernel
theorem dX7_init_171 : decode cX7_init 171 = .ok (.iastore, 1) := by decide +kernel
theorem dX7_init_172 : decode cX7_init 172 = .ok (.dup, 1) := by decide +kernel
theorem dX7_init_173 : decode cX7_init 173 = .ok (.iconst 1, 1) := by decide +kernel
theorem dX7_init_174 : decode cX7_init 174 = .ok (.iconst (-1), 1) := by decide +kernel
theorem dX7_init_175 : decode cX7_init 175 = .ok (.iastore, 1) := by decide +kernel
theorem dX7_init_176 : decode cX7_init 176 = .ok (.dup, 1) := by decide +kernel
theorem dX7_init_177 : decode cX7_init 177 = .ok (.iconst 2, 1) := by decide +kernel
theorem dX7_init_178 : decode cX7_init 178 = .ok (.iconst (-1), 1) := by decide +kernel
theorem dX7_init_179 : decode cX7_init 179 = .ok (.iastore, 1) := by decide +kernel
theorem dX7_init_180 : decode cX7_init 180 = .ok (.dup, 1) := by decide +kernel
theorem dX7_init_181 : decode cX7_init 181 = .ok (.iconst 3, 1) := by decide +kernel
theorem dX7_init_182 : decode cX7_init 182 = .ok (.iconst (-1), 1) := by decide +kernel
theorem dX7_init_183 : decode cX7_init 183 = .ok (.iastore, 1) := by decide +kernel
theorem dX7_init_184 : decode cX7_init 184 = .ok (.dup, 1) := by decide +kernel
theorem dX7_init_185 : decode cX7_init 185 = .ok (.iconst 4, 1) := by decide +kernel
theorem dX7_init_186 : decode cX7_init 186 = .ok (.iconst (-1), 1) := by decide +kernel
theorem dX7_init_187 : decode cX7_init 187 = .ok (.iastore, 1) := by decide +kernel
theorem dX7_init_188 : decode cX7_init 188 = .ok (.dup, 1) := by decide +kernel
theorem dX7_init_189 : decode cX7_init 189 = .ok (.iconst 5, 1) := by decide +kernel
theorem dX7_init_190 : decode cX7_init 190 = .ok (.iconst (-1), 1) := by decide +kernel
theorem dX7_init_191 : decode cX7_init 191 = .ok (.iastore, 1) := by decide +kernel
theorem dX7_init_192 : decode cX7_init 192 = .ok (.dup, 1) := by decide +kernel
theorem dX7_init_193 : decode cX7_init 193 = .ok (.bipush 6, 2) := by decide +kernel
theorem dX7_init_195 : decode cX7_init 195 = .ok (.iconst (-1), 1) := by decide +kernel
theorem dX7_init_196 : decode cX7_init 196 = .ok (.iastore, 1) := by decide +kernel
theorem dX7_init_197 : decode cX7_init 197 = .ok (.dup, 1) := by decide +kernel
theorem dX7_init_198 : decode cX7_init 198 = .ok (.bipush 7, 2) := by decide +kernel
theorem dX7_init_200 : decode cX7_init 200 = .ok (.iconst (-1), 1) := by decide +kernel
theorem dX7_init_201 : decode cX7_init 201 = .ok (.iastore, 1) := by decide +kernel
theorem dX7_init_202 : decode cX7_init 202 = .ok (.dup, 1) := by decide +kernel
theorem dX7_init_203 : decode cX7_init 203 = .ok (.bipush 8, 2) := by decide +kernel
theorem dX7_init_205 : decode cX7_init 205 = .ok (.iconst (-1), 1) := by decide +kernel
theorem dX7_init_206 : decode cX7_init 206 = .ok (.iastore, 1) := by decide +kernel
theorem dX7_init_207 : decode cX7_init 207 = .ok (.dup, 1) := by decide +kernel
theorem dX7_init_208 : decode cX7_init 208 = .ok (.bipush 9, 2) := by decide +kernel
theorem dX7_init_210 : decode cX7_init 210 = .ok (.iconst (-1), 1) := by decide +kernel
theorem dX7_init_211 : decode cX7_init 211 = .ok (.iastore, 1) := by decide +kernel
theorem dX7_init_212 : decode cX7_init 212 = .ok (.putfield 38, 3) := by decide +kernel
theorem dX7_init_215 : decode cX7_init 215 = .ok (.aload_n 0, 1) := by decide +kernel
theorem dX7_init_216 : decode cX7_init 216 = .ok (.bipush 20, 2) := by decide +kernel
theorem dX7_init_218 : decode cX7_init 218 = .ok (.newarray .int, 2) := by decide +kernel
theorem dX7_init_220 : decode cX7_init 220 = .ok (.dup, 1) := by decide +kernel
theorem dX7_init_221 : decode cX7_init 221 = .ok (.iconst 0, 1) := by decide +kernel
theorem dX7_init_222 : decode cX7_init 222 = .ok (.iconst (-1), 1) := by decide +kernel
theorem dX7_init_223 : decode cX7_init 223 = .ok (.iastore, 1) := by decide +kernel
theorem dX7_init_224 : decode cX7_init 224 = .ok (.dup, 1) := by decide +kernel
theorem dX7_init_225 : decode cX7_init 225 = .ok (.iconst 1, 1) := by decide +kernel
theorem dX7_init_226 : decode cX7_init 226 = .ok (.iconst (-1), 1) := by decide +kernel
theorem dX7_init_227 : decode cX7_init 227 = .ok (.iastore, 1) := by decide +kernel
theorem dX7_init_228 : decode cX7_init 228 = .ok (.dup, 1) := by decide +kernel
theorem dX7_init_229 : decode cX7_init 229 = .ok (.iconst 2, 1) := by decide +kernel
theorem dX7_init_230 : decode cX7_init 230 = .ok (.iconst (-1), 1) := by decide +kernel
theorem dX7_init_231 : decode cX7_init 231 = .ok (.iastore, 1) := by decide +kernel
theorem dX7_init_232 : decode cX7_init 232 = .ok (.dup, 1) := by decide +kernel
theorem dX7_init_233 : decode cX7_init 233 = .ok (.iconst 3, 1) := by decide +kernel
theorem dX7_init_234 : decode cX7_init 234 = .ok (.iconst (-1), 1) := by decide +kernel
theorem dX7_init_235 : decode cX7_init 235 = .ok (.iastore, 1) := by decide +kernel
theorem dX7_init_236 : decode cX7_init 236 = .ok (.dup, 1) := by decide +kernel
theorem dX7_init_237 : decode cX7_init 237 = .ok (.iconst 4, 1) := by decide +kernel
