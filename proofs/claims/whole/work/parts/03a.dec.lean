theorem dX0_init_0 : decode cX0_init 0 = .ok (.aload_n 0, 1) := by decide +kernel
theorem dX0_init_1 : decode cX0_init 1 = .ok (.invokespecial 3, 3) := by decide +kernel
theorem dX0_init_4 : decode cX0_init 4 = .ok (.aload_n 0, 1) := by decide +kernel
theorem dX0_init_5 : decode cX0_init 5 = .ok (.iconst 0, 1) := by decide +kernel
theorem dX0_init_6 : decode cX0_init 6 = .ok (.putfield 9, 3) := by decide +kernel
theorem dX0_init_9 : decode cX0_init 9 = .ok (.aload_n 0, 1) := by decide +kernel
theorem dX0_init_10 : decode cX0_init 10 = .ok (.iconst 0, 1) := by decide +kernel
theorem dX0_init_11 : decode cX0_init 11 = .ok (.putfield 15, 3) := by decide +kernel
theorem dX0_init_14 : decode cX0_init 14 = .ok (.aload_n 0, 1) := by decide +kernel
theorem dX0_init_15 : decode cX0_init 15 = .ok (.iconst 0, 1) := by decide +kernel
theorem dX0_init_16 : decode cX0_init 16 = .ok (.putfield 18, 3) := by decide +kernel
theorem dX0_init_19 : decode cX0_init 19 = .ok (.aload_n 0, 1) := by decide +kernel
theorem dX0_init_20 : decode cX0_init 20 = .ok (.iconst 1, 1) := by decide +kernel
theorem dX0_init_21 : decode cX0_init 21 = .ok (.putfield 21, 3) := by decide +kernel
theorem dX0_init_24 : decode cX0_init 24 = .ok (.aload_n 0, 1) := by decide +kernel
theorem dX0_init_25 : decode cX0_init 25 = .ok (.iconst 1, 1) := by decide +kernel
theorem dX0_init_26 : decode cX0_init 26 = .ok (.putfield 24, 3) := by decide +kernel
theorem dX0_init_29 : decode cX0_init 29 = .ok (.aload_n 0, 1) := by decide +kernel
theorem dX0_init_30 : decode cX0_init 30 = .ok (.iconst 0, 1) := by decide +kernel
theorem dX0_init_31 : decode cX0_init 31 = .ok (.putfield 27, 3) := by decide +kernel
theorem dX0_init_34 : decode cX0_init 34 = .ok (.aload_n 0, 1) := by decide +kernel
theorem dX0_init_35 : decode cX0_init 35 = .ok (.iconst 0, 1) := by decide +kernel
theorem dX0_init_36 : decode cX0_init 36 = .ok (.putfield 30, 3) := by decide +kernel
theorem dX0_init_39 : decode cX0_init 39 = .ok (.aload_n 0, 1) := by decide +kernel
theorem dX0_init_40 : decode cX0_init 40 = .ok (.iconst (-1), 1) := by decide +kernel
theorem dX0_init_41 : decode cX0_init 41 = .ok (.putfield 33, 3) := by decide +kernel
theorem dX0_init_44 : decode cX0_init 44 = .ok (.aload_n 0, 1) := by decide +kernel
theorem dX0_init_45 : decode cX0_init 45 = .ok (.iconst (-1), 1) := by decide +kernel
theorem dX0_init_46 : decode cX0_init 46 = .ok (.putfield 36, 3) := by decide +kernel
theorem dX0_init_49 : decode cX0_init 49 = .ok (.aload_n 0, 1) := by decide +kernel
theorem dX0_init_50 : decode cX0_init 50 = .ok (.iconst (-1), 1) := by decide +kernel
theorem dX0_init_51 : decode cX0_init 51 = .ok (.putfield 39, 3) := by decide +kernel
theorem dX0_init_54 : decode cX0_init 54 = .ok (.return_, 1) := by decide +kernel
theorem dX0_lay_0 : decode cX0_lay 0 = .ok (.aload_n 0, 1) := by decide +kernel
theorem dX0_lay_1 : decode cX0_lay 1 = .ok (.iload_n 1, 1) := by decide +kernel
theorem dX0_lay_2 : decode cX0_lay 2 = .ok (.putfield 21, 3) := by decide +kernel
theorem dX0_lay_5 : decode cX0_lay 5 = .ok (.aload_n 0, 1) := by decide +kernel
theorem dX0_lay_6 : decode cX0_lay 6 = .ok (.iload_n 2, 1) := by decide +kernel
theorem dX0_lay_7 : decode cX0_lay 7 = .ok (.putfield 24, 3) := by decide +kernel
theorem dX0_lay_10 : decode cX0_lay 10 = .ok (.aload_n 0, 1) := by decide +kernel
theorem dX0_lay_11 : decode cX0_lay 11 = .ok (.iload_n 3, 1) := by decide +kernel
theorem dX0_lay_12 : decode cX0_lay 12 = .ok (.putfield 9, 3) := by decide +kernel
theorem dX0_lay_15 : decode cX0_lay 15 = .ok (.return_, 1) := by decide +kernel
theorem dX0_takeAfter_0 : decode cX0_takeAfter 0 = .ok (.aload_n 0, 1) := by decide +kernel
theorem dX0_takeAfter_1 : decode cX0_takeAfter 1 = .ok (.aload_n 1, 1) := by decide +kernel
theorem dX0_takeAfter_2 : decode cX0_takeAfter 2 = .ok (.getfield 9, 3) := by decide +kernel
theorem dX0_takeAfter_5 : decode cX0_takeAfter 5 = .ok (.putfield 9, 3) := by decide +kernel
theorem dX0_takeAfter_8 : decode cX0_takeAfter 8 = .ok (.aload_n 0, 1) := by decide +kernel
theorem dX0_takeAfter_9 : decode cX0_takeAfter 9 = .ok (.aload_n 1, 1) := by decide +kernel
theorem dX0_takeAfter_10 : decode cX0_takeAfter 10 = .ok (.getfield 15, 3) := by decide +kernel
theorem dX0_takeAfter_13 : decode cX0_takeAfter 13 = .ok (.putfield 15, 3) := by decide +kernel
theorem dX0_takeAfter_16 : decode cX0_takeAfter 16 = .ok (.aload_n 0, 1) := by decide +kernel
theorem dX0_takeAfter_17 : decode cX0_takeAfter 17 = .ok (.aload_n 1, 1) := by decide +kernel
theorem dX0_takeAfter_18 : decode cX0_takeAfter 18 = .ok (.getfield 18, 3) := by decide +kernel
theorem dX0_takeAfter_21 : decode cX0_takeAfter 21 = .ok (.putfield 18, 3) := by decide +kernel
theorem dX0_takeAfter_24 : decode cX0_takeAfter 24 = .ok (.aload_n 0, 1) := by decide +kernel
theorem dX0_takeAfter_25 : decode cX0_takeAfter 25 = .ok (.aload_n 1, 1) := by decide +kernel
theorem dX0_takeAfter_26 : decode cX0_takeAfter 26 = .ok (.getfield 30, 3) := by decide +kernel
theorem dX0_takeAfter_29 : decode cX0_takeAfter 29 = .ok (.putfield 30, 3) := by decide +kernel
theorem dX0_takeAfter_32 : decode cX0_takeAfter 32 = .ok (.return_, 1) := by decide +kernel
theorem dX0_passHour_0 : decode cX0_passHour 0 = .ok (.aload_n 0, 1) := by decide +kernel
theorem dX0_passHour_1 : decode cX0_passHour 1 = .ok (.getfield 9, 3) := by decide +kernel
theorem dX0_passHour_4 : decode cX0_passHour 4 = .ok (.iconst 4, 1) := by decide +kernel
theorem dX0_passHour_5 : decode cX0_passHour 5 = .ok (.if_icmp .ne 4, 3) := by decide +kernel
theorem dX0_passHour_8 : decode cX0_passHour 8 = .ok (.return_, 1) := by decide +kernel
theorem dX0_passHour_9 : decode cX0_passHour 9 = .ok (.iload_n 1, 1) := by decide +kernel
theorem dX0_passHour_10 : decode cX0_passHour 10 = .ok (.ifCond .ge 26, 3) := by decide +kernel
theorem dX0_passHour_13 : decode cX0_passHour 13 = .ok (.aload_n 0, 1) := by decide +kernel
theorem dX0_passHour_14 : decode cX0_passHour 14 = .ok (.sipush 3000, 3) := by decide +kernel
theorem dX0_passHour_17 : decode cX0_passHour 17 = .ok (.aload_n 0, 1) := by decide +kernel
theorem dX0_passHour_18 : decode cX0_passHour 18 = .ok (.getfield 15, 3) := by decide +kernel
theorem dX0_passHour_21 : decode cX0_passHour 21 = .ok (.aload_n 0, 1) := by decide +kernel
theorem dX0_passHour_22 : decode cX0_passHour 22 = .ok (.iload_n 1, 1) := by decide +kernel
theorem dX0_passHour_23 : decode cX0_passHour 23 = .ok (.invokevirtual 42, 3) := by decide +kernel
theorem dX0_passHour_26 : decode cX0_passHour 26 = .ok (.iadd, 1) := by decide +kernel
theorem dX0_passHour_27 : decode cX0_passHour 27 = .ok (.invokestatic 46, 3) := by decide +kernel
theorem dX0_passHour_30 : decode cX0_passHour 30 = .ok (.putfield 15, 3) := by decide +kernel
theorem dX0_passHour_33 : decode cX0_passHour 33 = .ok (.goto 26, 3) := by decide +kernel
theorem dX0_passHour_36 : decode cX0_passHour 36 = .ok (.iload_n 1, 1) := by decide +kernel
theorem dX0_passHour_37 : decode cX0_passHour 37 = .ok (.ifCond .le 22, 3) := by decide +kernel
theorem dX0_passHour_40 : decode cX0_passHour 40 = .ok (.aload_n 0, 1) := by decide +kernel
theorem dX0_passHour_41 : decode cX0_passHour 41 = .ok (.iconst 0, 1) := by decide +kernel
theorem dX0_passHour_42 : decode cX0_passHour 42 = .ok (.aload_n 0, 1) := by decide +kernel
theorem dX0_passHour_43 : decode cX0_passHour 43 = .ok (.getfield 15, 3) := by decide +kernel
theorem dX0_passHour_46 : decode cX0_passHour 46 = .ok (.iload_n 1, 1) := by decide +kernel
theorem dX0_passHour_47 : decode cX0_passHour 47 = .ok (.bipush 10, 2) := by decide +kernel
theorem dX0_passHour_49 : decode cX0_passHour 49 = .ok (.idiv, 1) := by decide +kernel
theorem dX0_passHour_50 : decode cX0_passHour 50 = .ok (.iconst 1, 1) := by decide +kernel
theorem dX0_passHour_51 : decode cX0_passHour 51 = .ok (.iadd, 1) := by decide +kernel
theorem dX0_passHour_52 : decode cX0_passHour 52 = .ok (.isub, 1) := by decide +kernel
theorem dX0_passHour_53 : decode cX0_passHour 53 = .ok (.invokestatic 52, 3) := by decide +kernel
theorem dX0_passHour_56 : decode cX0_passHour 56 = .ok (.putfield 15, 3) := by decide +kernel
theorem dX0_passHour_59 : decode cX0_passHour 59 = .ok (.aload_n 0, 1) := by decide +kernel
theorem dX0_passHour_60 : decode cX0_passHour 60 = .ok (.getfield 9, 3) := by decide +kernel
theorem dX0_passHour_63 : decode cX0_passHour 63 = .ok (.iconst 3, 1) := by decide +kernel
theorem dX0_passHour_64 : decode cX0_passHour 64 = .ok (.if_icmp .ne 13, 3) := by decide +kernel
theorem dX0_passHour_67 : decode cX0_passHour 67 = .ok (.iload_n 1, 1) := by decide +kernel
theorem dX0_passHour_68 : decode cX0_passHour 68 = .ok (.bipush (-100), 2) := by decide +kernel
theorem dX0_passHour_70 : decode cX0_passHour 70 = .ok (.if_icmp .ge 7, 3) := by decide +kernel
theorem dX0_passHour_73 : decode cX0_passHour 73 = .ok (.aload_n 0, 1) := by decide +kernel
theorem dX0_passHour_74 : decode cX0_passHour 74 = .ok (.invokevirtual 55, 3) := by decide +kernel
theorem dX0_passHour_77 : decode cX0_passHour 77 = .ok (.return_, 1) := by decide +kernel
theorem dX0_growth_0 : decode cX0_growth 0 = .ok (.aload_n 0, 1) := by decide +kernel
theorem dX0_growth_1 : decode cX0_growth 1 = .ok (.getfield 9, 3) := by decide +kernel
theorem dX0_growth_4 : decode cX0_growth 4 = .ok (.iconst 1, 1) := by decide +kernel
theorem dX0_growth_5 : decode cX0_growth 5 = .ok (.if_icmp .eq 11, 3) := by decide +kernel
theorem dX0_growth_8 : decode cX0_growth 8 = .ok (.aload_n 0, 1) := by decide +kernel
theorem dX0_growth_9 : decode cX0_growth 9 = .ok (.getfield 9, 3) := by decide +kernel
theorem dX0_growth_12 : decode cX0_growth 12 = .ok (.iconst 2, 1) := by decide +kernel
theorem dX0_growth_13 : decode cX0_growth 13 = .ok (.if_icmp .ne 7, 3) := by decide +kernel
theorem dX0_growth_16 : decode cX0_growth 16 = .ok (.iconst 1, 1) := by decide +kernel
theorem dX0_growth_17 : decode cX0_growth 17 = .ok (.goto 4, 3) := by decide +kernel
theorem dX0_growth_20 : decode cX0_growth 20 = .ok (.iconst 0, 1) := by decide +kernel
theorem dX0_growth_21 : decode cX0_growth 21 = .ok (.istore_n 2, 1) := by decide +kernel
theorem dX0_growth_22 : decode cX0_growth 22 = .ok (.aload_n 0, 1) := by decide +kernel
theorem dX0_growth_23 : decode cX0_growth 23 = .ok (.getfield 9, 3) := by decide +kernel
theorem dX0_growth_26 : decode cX0_growth 26 = .ok (.iconst 2, 1) := by decide +kernel
theorem dX0_growth_27 : decode cX0_growth 27 = .ok (.if_icmp .ne 8, 3) := by decide +kernel
theorem dX0_growth_30 : decode cX0_growth 30 = .ok (.bipush 20, 2) := by decide +kernel
theorem dX0_growth_32 : decode cX0_growth 32 = .ok (.goto 17, 3) := by decide +kernel
theorem dX0_growth_35 : decode cX0_growth 35 = .ok (.aload_n 0, 1) := by decide +kernel
theorem dX0_growth_36 : decode cX0_growth 36 = .ok (.getfield 9, 3) := by decide +kernel
theorem dX0_growth_39 : decode cX0_growth 39 = .ok (.iconst 3, 1) := by decide +kernel
theorem dX0_growth_40 : decode cX0_growth 40 = .ok (.if_icmp .ne 7, 3) := by decide +kernel
theorem dX0_growth_43 : decode cX0_growth 43 = .ok (.iconst 5, 1) := by decide +kernel
theorem dX0_growth_44 : decode cX0_growth 44 = .ok (.goto 5, 3) := by decide +kernel
theorem dX0_growth_47 : decode cX0_growth 47 = .ok (.bipush 10, 2) := by decide +kernel
theorem dX0_growth_49 : decode cX0_growth 49 = .ok (.istore_n 3, 1) := by decide +kernel
theorem dX0_growth_50 : decode cX0_growth 50 = .ok (.bipush 100, 2) := by decide +kernel
theorem dX0_growth_52 : decode cX0_growth 52 = .ok (.aload_n 0, 1) := by decide +kernel
theorem dX0_growth_53 : decode cX0_growth 53 = .ok (.getfield 15, 3) := by decide +kernel
theorem dX0_growth_56 : decode cX0_growth 56 = .ok (.bipush 10, 2) := by decide +kernel
theorem dX0_growth_58 : decode cX0_growth 58 = .ok (.idiv, 1) := by decide +kernel
theorem dX0_growth_59 : decode cX0_growth 59 = .ok (.iadd, 1) := by decide +kernel
theorem dX0_growth_60 : decode cX0_growth 60 = .ok (.iload_n 2, 1) := by decide +kernel
theorem dX0_growth_61 : decode cX0_growth 61 = .ok (.ifCond .eq 7, 3) := by decide +kernel
theorem dX0_growth_64 : decode cX0_growth 64 = .ok (.iconst 0, 1) := by decide +kernel
theorem dX0_growth_65 : decode cX0_growth 65 = .ok (.goto 9, 3) := by decide +kernel
theorem dX0_growth_68 : decode cX0_growth 68 = .ok (.iconst 3, 1) := by decide +kernel
theorem dX0_growth_69 : decode cX0_growth 69 = .ok (.aload_n 0, 1) := by decide +kernel
theorem dX0_growth_70 : decode cX0_growth 70 = .ok (.getfield 18, 3) := by decide +kernel
theorem dX0_growth_73 : decode cX0_growth 73 = .ok (.imul, 1) := by decide +kernel
theorem dX0_growth_74 : decode cX0_growth 74 = .ok (.iadd, 1) := by decide +kernel
theorem dX0_growth_75 : decode cX0_growth 75 = .ok (.istore 4, 2) := by decide +kernel
theorem dX0_growth_77 : decode cX0_growth 77 = .ok (.iload 4, 2) := by decide +kernel
theorem dX0_growth_79 : decode cX0_growth 79 = .ok (.ifCond .le 13, 3) := by decide +kernel
theorem dX0_growth_82 : decode cX0_growth 82 = .ok (.iload_n 1, 1) := by decide +kernel
theorem dX0_growth_83 : decode cX0_growth 83 = .ok (.ineg, 1) := by decide +kernel
theorem dX0_growth_84 : decode cX0_growth 84 = .ok (.iload_n 3, 1) := by decide +kernel
theorem dX0_growth_85 : decode cX0_growth 85 = .ok (.imul, 1) := by decide +kernel
theorem dX0_growth_86 : decode cX0_growth 86 = .ok (.iload 4, 2) := by decide +kernel
theorem dX0_growth_88 : decode cX0_growth 88 = .ok (.idiv, 1) := by decide +kernel
theorem dX0_growth_89 : decode cX0_growth 89 = .ok (.goto 4, 3) := by decide +kernel
theorem dX0_growth_92 : decode cX0_growth 92 = .ok (.iconst 0, 1) := by decide +kernel
theorem dX0_growth_93 : decode cX0_growth 93 = .ok (.ireturn, 1) := by decide +kernel
theorem dX0_healOneHour_0 : decode cX0_healOneHour 0 = .ok (.aload_n 0, 1) := by decide +kernel
theorem dX0_healOneHour_1 : decode cX0_healOneHour 1 = .ok (.dup, 1) := by decide +kernel
theorem dX0_healOneHour_2 : decode cX0_healOneHour 2 = .ok (.getfield 30, 3) := by decide +kernel
theorem dX0_healOneHour_5 : decode cX0_healOneHour 5 = .ok (.iconst 1, 1) := by decide +kernel
theorem dX0_healOneHour_6 : decode cX0_healOneHour 6 = .ok (.iadd, 1) := by decide +kernel
theorem dX0_healOneHour_7 : decode cX0_healOneHour 7 = .ok (.putfield 30, 3) := by decide +kernel
theorem dX0_healOneHour_10 : decode cX0_healOneHour 10 = .ok (.aload_n 0, 1) := by decide +kernel
theorem dX0_healOneHour_11 : decode cX0_healOneHour 11 = .ok (.getfield 30, 3) := by decide +kernel
theorem dX0_healOneHour_14 : decode cX0_healOneHour 14 = .ok (.bipush 24, 2) := by decide +kernel
theorem dX0_healOneHour_16 : decode cX0_healOneHour 16 = .ok (.if_icmp .lt 13, 3) := by decide +kernel
theorem dX0_healOneHour_19 : decode cX0_healOneHour 19 = .ok (.aload_n 0, 1) := by decide +kernel
theorem dX0_healOneHour_20 : decode cX0_healOneHour 20 = .ok (.iconst 0, 1) := by decide +kernel
theorem dX0_healOneHour_21 : decode cX0_healOneHour 21 = .ok (.invokevirtual 58, 3) := by decide +kernel
theorem dX0_healOneHour_24 : decode cX0_healOneHour 24 = .ok (.aload_n 0, 1) := by decide +kernel
theorem dX0_healOneHour_25 : decode cX0_healOneHour 25 = .ok (.iconst 0, 1) := by decide +kernel
theorem dX0_healOneHour_26 : decode cX0_healOneHour 26 = .ok (.putfield 27, 3) := by decide +kernel
theorem dX0_healOneHour_29 : decode cX0_healOneHour 29 = .ok (.return_, 1) := by decide +kernel
theorem dX0_holdsUp_0 : decode cX0_holdsUp 0 = .ok (.aload_n 0, 1) := by decide +kernel
theorem dX0_holdsUp_1 : decode cX0_holdsUp 1 = .ok (.getfield 9, 3) := by decide +kernel
theorem dX0_holdsUp_4 : decode cX0_holdsUp 4 = .ok (.iconst 4, 1) := by decide +kernel
theorem dX0_holdsUp_5 : decode cX0_holdsUp 5 = .ok (.if_icmp .ne 5, 3) := by decide +kernel
theorem dX0_holdsUp_8 : decode cX0_holdsUp 8 = .ok (.iconst 1, 1) := by decide +kernel
theorem dX0_holdsUp_9 : decode cX0_holdsUp 9 = .ok (.ireturn, 1) := by decide +kernel
theorem dX0_holdsUp_10 : decode cX0_holdsUp 10 = .ok (.aload_n 0, 1) := by decide +kernel
theorem dX0_holdsUp_11 : decode cX0_holdsUp 11 = .ok (.getfield 9, 3) := by decide +kernel
theorem dX0_holdsUp_14 : decode cX0_holdsUp 14 = .ok (.iconst 3, 1) := by decide +kernel
theorem dX0_holdsUp_15 : decode cX0_holdsUp 15 = .ok (.if_icmp .ne 9, 3) := by decide +kernel
theorem dX0_holdsUp_18 : decode cX0_holdsUp 18 = .ok (.iconst 2, 1) := by decide +kernel
theorem dX0_holdsUp_19 : decode cX0_holdsUp 19 = .ok (.iload_n 1, 1) := by decide +kernel
theorem dX0_holdsUp_20 : decode cX0_holdsUp 20 = .ok (.imul, 1) := by decide +kernel
theorem dX0_holdsUp_21 : decode cX0_holdsUp 21 = .ok (.goto 4, 3) := by decide +kernel
theorem dX0_holdsUp_24 : decode cX0_holdsUp 24 = .ok (.iload_n 1, 1) := by decide +kernel
theorem dX0_holdsUp_25 : decode cX0_holdsUp 25 = .ok (.istore_n 2, 1) := by decide +kernel
theorem dX0_holdsUp_26 : decode cX0_holdsUp 26 = .ok (.aload_n 0, 1) := by decide +kernel
theorem dX0_holdsUp_27 : decode cX0_holdsUp 27 = .ok (.getfield 15, 3) := by decide +kernel
theorem dX0_holdsUp_30 : decode cX0_holdsUp 30 = .ok (.aload_n 0, 1) := by decide +kernel
theorem dX0_holdsUp_31 : decode cX0_holdsUp 31 = .ok (.getfield 15, 3) := by decide +kernel
theorem dX0_holdsUp_34 : decode cX0_holdsUp 34 = .ok (.imul, 1) := by decide +kernel
theorem dX0_holdsUp_35 : decode cX0_holdsUp 35 = .ok (.sipush 10000, 3) := by decide +kernel
theorem dX0_holdsUp_38 : decode cX0_holdsUp 38 = .ok (.idiv, 1) := by decide +kernel
theorem dX0_holdsUp_39 : decode cX0_holdsUp 39 = .ok (.iload_n 2, 1) := by decide +kernel
theorem dX0_holdsUp_40 : decode cX0_holdsUp 40 = .ok (.if_icmp .lt 7, 3) := by decide +kernel
theorem dX0_holdsUp_43 : decode cX0_holdsUp 43 = .ok (.iconst 1, 1) := by decide +kernel
theorem dX0_holdsUp_44 : decode cX0_holdsUp 44 = .ok (.goto 4, 3) := by decide +kernel
theorem dX0_holdsUp_47 : decode cX0_holdsUp 47 = .ok (.iconst 0, 1) := by decide +kernel
theorem dX0_holdsUp_48 : decode cX0_holdsUp 48 = .ok (.ireturn, 1) := by decide +kernel
theorem dX0_become_0 : decode cX0_become 0 = .ok (.aload_n 0, 1) := by decide +kernel
theorem dX0_become_1 : decode cX0_become 1 = .ok (.getfield 9, 3) := by decide +kernel
theorem dX0_become_4 : decode cX0_become 4 = .ok (.iload_n 1, 1) := by decide +kernel
theorem dX0_become_5 : decode cX0_become 5 = .ok (.if_icmp .eq 8, 3) := by decide +kernel
theorem dX0_become_8 : decode cX0_become 8 = .ok (.aload_n 0, 1) := by decide +kernel
theorem dX0_become_9 : decode cX0_become 9 = .ok (.iconst (-1), 1) := by decide +kernel
theorem dX0_become_10 : decode cX0_become 10 = .ok (.putfield 33, 3) := by decide +kernel
theorem dX0_become_13 : decode cX0_become 13 = .ok (.aload_n 0, 1) := by decide +kernel
theorem dX0_become_14 : decode cX0_become 14 = .ok (.iload_n 1, 1) := by decide +kernel
theorem dX0_become_15 : decode cX0_become 15 = .ok (.putfield 9, 3) := by decide +kernel
theorem dX0_become_18 : decode cX0_become 18 = .ok (.return_, 1) := by decide +kernel
theorem dX0_crack_0 : decode cX0_crack 0 = .ok (.aload_n 0, 1) := by decide +kernel
theorem dX0_crack_1 : decode cX0_crack 1 = .ok (.iconst 3, 1) := by decide +kernel
theorem dX0_crack_2 : decode cX0_crack 2 = .ok (.invokevirtual 58, 3) := by decide +kernel
theorem dX0_crack_5 : decode cX0_crack 5 = .ok (.aload_n 0, 1) := by decide +kernel
theorem dX0_crack_6 : decode cX0_crack 6 = .ok (.iconst 0, 1) := by decide +kernel
theorem dX0_crack_7 : decode cX0_crack 7 = .ok (.putfield 27, 3) := by decide +kernel
theorem dX0_crack_10 : decode cX0_crack 10 = .ok (.aload_n 0, 1) := by decide +kernel
theorem dX0_crack_11 : decode cX0_crack 11 = .ok (.iconst 0, 1) := by decide +kernel
theorem dX0_crack_12 : decode cX0_crack 12 = .ok (.putfield 30, 3) := by decide +kernel
theorem dX0_crack_15 : decode cX0_crack 15 = .ok (.return_, 1) := by decide +kernel
theorem dX0_wearDown_0 : decode cX0_wearDown 0 = .ok (.aload_n 0, 1) := by decide +kernel
theorem dX0_wearDown_1 : decode cX0_wearDown 1 = .ok (.dup, 1) := by decide +kernel
theorem dX0_wearDown_2 : decode cX0_wearDown 2 = .ok (.getfield 27, 3) := by decide +kernel
theorem dX0_wearDown_5 : decode cX0_wearDown 5 = .ok (.iload_n 1, 1) := by decide +kernel
theorem dX0_wearDown_6 : decode cX0_wearDown 6 = .ok (.iadd, 1) := by decide +kernel
theorem dX0_wearDown_7 : decode cX0_wearDown 7 = .ok (.putfield 27, 3) := by decide +kernel
theorem dX0_wearDown_10 : decode cX0_wearDown 10 = .ok (.aload_n 0, 1) := by decide +kernel
theorem dX0_wearDown_11 : decode cX0_wearDown 11 = .ok (.getfield 9, 3) := by decide +kernel
theorem dX0_wearDown_14 : decode cX0_wearDown 14 = .ok (.iconst 4, 1) := by decide +kernel
theorem dX0_wearDown_15 : decode cX0_wearDown 15 = .ok (.if_icmp .eq 18, 3) := by decide +kernel
theorem dX0_wearDown_18 : decode cX0_wearDown 18 = .ok (.aload_n 0, 1) := by decide +kernel
theorem dX0_wearDown_19 : decode cX0_wearDown 19 = .ok (.getfield 27, 3) := by decide +kernel
theorem dX0_wearDown_22 : decode cX0_wearDown 22 = .ok (.aload_n 0, 1) := by decide +kernel
theorem dX0_wearDown_23 : decode cX0_wearDown 23 = .ok (.getfield 15, 3) := by decide +kernel
theorem dX0_wearDown_26 : decode cX0_wearDown 26 = .ok (.if_icmp .lt 7, 3) := by decide +kernel
theorem dX0_wearDown_29 : decode cX0_wearDown 29 = .ok (.aload_n 0, 1) := by decide +kernel
theorem dX0_wearDown_30 : decode cX0_wearDown 30 = .ok (.invokevirtual 62, 3) := by decide +kernel
theorem dX0_wearDown_33 : decode cX0_wearDown 33 = .ok (.return_, 1) := by decide +kernel
theorem dX0_takeSnow_0 : decode cX0_takeSnow 0 = .ok (.aload_n 0, 1) := by decide +kernel
theorem dX0_takeSnow_1 : decode cX0_takeSnow 1 = .ok (.getfield 9, 3) := by decide +kernel
theorem dX0_takeSnow_4 : decode cX0_takeSnow 4 = .ok (.iconst 4, 1) := by decide +kernel
theorem dX0_takeSnow_5 : decode cX0_takeSnow 5 = .ok (.if_icmp .ne 5, 3) := by decide +kernel
theorem dX0_takeSnow_8 : decode cX0_takeSnow 8 = .ok (.iconst 0, 1) := by decide +kernel
theorem dX0_takeSnow_9 : decode cX0_takeSnow 9 = .ok (.ireturn, 1) := by decide +kernel
theorem dX0_takeSnow_10 : decode cX0_takeSnow 10 = .ok (.aload_n 0, 1) := by decide +kernel
theorem dX0_takeSnow_11 : decode cX0_takeSnow 11 = .ok (.sipush 200, 3) := by decide +kernel
theorem dX0_takeSnow_14 : decode cX0_takeSnow 14 = .ok (.aload_n 0, 1) := by decide +kernel
theorem dX0_takeSnow_15 : decode cX0_takeSnow 15 = .ok (.getfield 18, 3) := by decide +kernel
theorem dX0_takeSnow_18 : decode cX0_takeSnow 18 = .ok (.iload_n 1, 1) := by decide +kernel
theorem dX0_takeSnow_19 : decode cX0_takeSnow 19 = .ok (.iadd, 1) := by decide +kernel
theorem dX0_takeSnow_20 : decode cX0_takeSnow 20 = .ok (.invokestatic 46, 3) := by decide +kernel
theorem dX0_takeSnow_23 : decode cX0_takeSnow 23 = .ok (.putfield 18, 3) := by decide +kernel
theorem dX0_takeSnow_26 : decode cX0_takeSnow 26 = .ok (.aload_n 0, 1) := by decide +kernel
theorem dX0_takeSnow_27 : decode cX0_takeSnow 27 = .ok (.getfield 18, 3) := by decide +kernel
theorem dX0_takeSnow_30 : decode cX0_takeSnow 30 = .ok (.ifCond .le 26, 3) := by decide +kernel
theorem dX0_takeSnow_33 : decode cX0_takeSnow 33 = .ok (.aload_n 0, 1) := by decide +kernel
theorem dX0_takeSnow_34 : decode cX0_takeSnow 34 = .ok (.getfield 9, 3) := by decide +kernel
theorem dX0_takeSnow_37 : decode cX0_takeSnow 37 = .ok (.iconst 1, 1) := by decide +kernel
theorem dX0_takeSnow_38 : decode cX0_takeSnow 38 = .ok (.if_icmp .eq 11, 3) := by decide +kernel
theorem dX0_takeSnow_41 : decode cX0_takeSnow 41 = .ok (.aload_n 0, 1) := by decide +kernel
theorem dX0_takeSnow_42 : decode cX0_takeSnow 42 = .ok (.getfield 9, 3) := by decide +kernel
theorem dX0_takeSnow_45 : decode cX0_takeSnow 45 = .ok (.iconst 2, 1) := by decide +kernel
theorem dX0_takeSnow_46 : decode cX0_takeSnow 46 = .ok (.if_icmp .ne 10, 3) := by decide +kernel
theorem dX0_takeSnow_49 : decode cX0_takeSnow 49 = .ok (.aload_n 0, 1) := by decide +kernel
theorem dX0_takeSnow_50 : decode cX0_takeSnow 50 = .ok (.iconst 0, 1) := by decide +kernel
theorem dX0_takeSnow_51 : decode cX0_takeSnow 51 = .ok (.invokevirtual 58, 3) := by decide +kernel
theorem dX0_takeSnow_54 : decode cX0_takeSnow 54 = .ok (.iconst 1, 1) := by decide +kernel
theorem dX0_takeSnow_55 : decode cX0_takeSnow 55 = .ok (.ireturn, 1) := by decide +kernel
theorem dX0_takeSnow_56 : decode cX0_takeSnow 56 = .ok (.iconst 0, 1) := by decide +kernel
theorem dX0_takeSnow_57 : decode cX0_takeSnow 57 = .ok (.ireturn, 1) := by decide +kernel
theorem dX0_lastCome_0 : decode cX0_lastCome 0 = .ok (.iload_n 1, 1) := by decide +kernel
theorem dX0_lastCome_1 : decode cX0_lastCome 1 = .ok (.ifCond .ne 10, 3) := by decide +kernel
theorem dX0_lastCome_4 : decode cX0_lastCome 4 = .ok (.aload_n 0, 1) := by decide +kernel
theorem dX0_lastCome_5 : decode cX0_lastCome 5 = .ok (.getfield 36, 3) := by decide +kernel
theorem dX0_lastCome_8 : decode cX0_lastCome 8 = .ok (.goto 7, 3) := by decide +kernel
theorem dX0_lastCome_11 : decode cX0_lastCome 11 = .ok (.aload_n 0, 1) := by decide +kernel
theorem dX0_lastCome_12 : decode cX0_lastCome 12 = .ok (.getfield 39, 3) := by decide +kernel
theorem dX0_lastCome_15 : decode cX0_lastCome 15 = .ok (.ireturn, 1) := by decide +kernel
theorem dX0_noteCome_0 : decode cX0_noteCome 0 = .ok (.iload_n 1, 1) := by decide +kernel
theorem dX0_noteCome_1 : decode cX0_noteCome 1 = .ok (.ifCond .ne 11, 3) := by decide +kernel
theorem dX0_noteCome_4 : decode cX0_noteCome 4 = .ok (.aload_n 0, 1) := by decide +kernel
theorem dX0_noteCome_5 : decode cX0_noteCome 5 = .ok (.iload_n 2, 1) := by decide +kernel
theorem dX0_noteCome_6 : decode cX0_noteCome 6 = .ok (.putfield 36, 3) := by decide +kernel
theorem dX0_noteCome_9 : decode cX0_noteCome 9 = .ok (.goto 8, 3) := by decide +kernel
theorem dX0_noteCome_12 : decode cX0_noteCome 12 = .ok (.aload_n 0, 1) := by decide +kernel
theorem dX0_noteCome_13 : decode cX0_noteCome 13 = .ok (.iload_n 2, 1) := by decide +kernel
theorem dX0_noteCome_14 : decode cX0_noteCome 14 = .ok (.putfield 39, 3) := by decide +kernel
theorem dX0_noteCome_17 : decode cX0_noteCome 17 = .ok (.return_, 1) := by decide +kernel
theorem dX1_init_0 : decode cX1_init 0 = .ok (.aload_n 0, 1) := by decide +kernel
theorem dX1_init_1 : decode cX1_init 1 = .ok (.invokespecial 3, 3) := by decide +kernel
theorem dX1_init_4 : decode cX1_init 4 = .ok (.aload_n 0, 1) := by decide +kernel
theorem dX1_init_5 : decode cX1_init 5 = .ok (.iconst 0, 1) := by decide +kernel
theorem dX1_init_6 : decode cX1_init 6 = .ok (.putfield 9, 3) := by decide +kernel
theorem dX1_init_9 : decode cX1_init 9 = .ok (.aload_n 0, 1) := by decide +kernel
theorem dX1_init_10 : decode cX1_init 10 = .ok (.iconst 0, 1) := by decide +kernel
theorem dX1_init_11 : decode cX1_init 11 = .ok (.putfield 15, 3) := by decide +kernel
theorem dX1_init_14 : decode cX1_init 14 = .ok (.aload_n 0, 1) := by decide +kernel
theorem dX1_init_15 : decode cX1_init 15 = .ok (.iconst 0, 1) := by decide +kernel
theorem dX1_init_16 : decode cX1_init 16 = .ok (.putfield 18, 3) := by decide +kernel
theorem dX1_init_19 : decode cX1_init 19 = .ok (.aload_n 0, 1) := by decide +kernel
theorem dX1_init_20 : decode cX1_init 20 = .ok (.iconst 0, 1) := by decide +kernel
theorem dX1_init_21 : decode cX1_init 21 = .ok (.putfield 21, 3) := by decide +kernel
theorem dX1_init_24 : decode cX1_init 24 = .ok (.aload_n 0, 1) := by decide +kernel
theorem dX1_init_25 : decode cX1_init 25 = .ok (.iconst (-1), 1) := by decide +kernel
theorem dX1_init_26 : decode cX1_init 26 = .ok (.putfield 24, 3) := by decide +kernel
theorem dX1_init_29 : decode cX1_init 29 = .ok (.aload_n 0, 1) := by decide +kernel
theorem dX1_init_30 : decode cX1_init 30 = .ok (.iconst (-1), 1) := by decide +kernel
theorem dX1_init_31 : decode cX1_init 31 = .ok (.putfield 27, 3) := by decide +kernel
theorem dX1_init_34 : decode cX1_init 34 = .ok (.aload_n 0, 1) := by decide +kernel
theorem dX1_init_35 : decode cX1_init 35 = .ok (.iconst (-1), 1) := by decide +kernel
theorem dX1_init_36 : decode cX1_init 36 = .ok (.putfield 30, 3) := by decide +kernel
theorem dX1_init_39 : decode cX1_init 39 = .ok (.return_, 1) := by decide +kernel
theorem dX1_enter_0 : decode cX1_enter 0 = .ok (.aload_n 0, 1) := by decide +kernel
theorem dX1_enter_1 : decode cX1_enter 1 = .ok (.iconst 1, 1) := by decide +kernel
theorem dX1_enter_2 : decode cX1_enter 2 = .ok (.putfield 21, 3) := by decide +kernel
theorem dX1_enter_5 : decode cX1_enter 5 = .ok (.aload_n 0, 1) := by decide +kernel
theorem dX1_enter_6 : decode cX1_enter 6 = .ok (.iload_n 1, 1) := by decide +kernel
theorem dX1_enter_7 : decode cX1_enter 7 = .ok (.putfield 24, 3) := by decide +kernel
theorem dX1_enter_10 : decode cX1_enter 10 = .ok (.aload_n 0, 1) := by decide +kernel
theorem dX1_enter_11 : decode cX1_enter 11 = .ok (.iconst 0, 1) := by decide +kernel
theorem dX1_enter_12 : decode cX1_enter 12 = .ok (.putfield 27, 3) := by decide +kernel
theorem dX1_enter_15 : decode cX1_enter 15 = .ok (.return_, 1) := by decide +kernel
theorem dX1_end_0 : decode cX1_end 0 = .ok (.aload_n 0, 1) := by decide +kernel
theorem dX1_end_1 : decode cX1_end 1 = .ok (.iload_n 1, 1) := by decide +kernel
theorem dX1_end_2 : decode cX1_end 2 = .ok (.putfield 21, 3) := by decide +kernel
theorem dX1_end_5 : decode cX1_end 5 = .ok (.aload_n 0, 1) := by decide +kernel
theorem dX1_end_6 : decode cX1_end 6 = .ok (.iconst (-1), 1) := by decide +kernel
theorem dX1_end_7 : decode cX1_end 7 = .ok (.putfield 24, 3) := by decide +kernel
theorem dX1_end_10 : decode cX1_end 10 = .ok (.aload_n 0, 1) := by decide +kernel
theorem dX1_end_11 : decode cX1_end 11 = .ok (.iconst (-1), 1) := by decide +kernel
theorem dX1_end_12 : decode cX1_end 12 = .ok (.putfield 27, 3) := by decide +kernel
theorem dX1_end_15 : decode cX1_end 15 = .ok (.aload_n 0, 1) := by decide +kernel
theorem dX1_end_16 : decode cX1_end 16 = .ok (.iload_n 2, 1) := by decide +kernel
theorem dX1_end_17 : decode cX1_end 17 = .ok (.putfield 30, 3) := by decide +kernel
theorem dX1_end_20 : decode cX1_end 20 = .ok (.return_, 1) := by decide +kernel
theorem dX2_init_0 : decode cX2_init 0 = .ok (.aload_n 0, 1) := by decide +kernel
theorem dX2_init_1 : decode cX2_init 1 = .ok (.invokespecial 3, 3) := by decide +kernel
theorem dX2_init_4 : decode cX2_init 4 = .ok (.aload_n 0, 1) := by decide +kernel
theorem dX2_init_5 : decode cX2_init 5 = .ok (.iconst 0, 1) := by decide +kernel
theorem dX2_init_6 : decode cX2_init 6 = .ok (.putfield 9, 3) := by decide +kernel
theorem dX2_init_9 : decode cX2_init 9 = .ok (.aload_n 0, 1) := by decide +kernel
theorem dX2_init_10 : decode cX2_init 10 = .ok (.iconst 0, 1) := by decide +kernel
theorem dX2_init_11 : decode cX2_init 11 = .ok (.putfield 15, 3) := by decide +kernel
theorem dX2_init_14 : decode cX2_init 14 = .ok (.aload_n 0, 1) := by decide +kernel
theorem dX2_init_15 : decode cX2_init 15 = .ok (.iconst 0, 1) := by decide +kernel
theorem dX2_init_16 : decode cX2_init 16 = .ok (.putfield 18, 3) := by decide +kernel
theorem dX2_init_19 : decode cX2_init 19 = .ok (.aload_n 0, 1) := by decide +kernel
theorem dX2_init_20 : decode cX2_init 20 = .ok (.iconst 0, 1) := by decide +kernel
theorem dX2_init_21 : decode cX2_init 21 = .ok (.putfield 21, 3) := by decide +kernel
theorem dX2_init_24 : decode cX2_init 24 = .ok (.aload_n 0, 1) := by decide +kernel
theorem dX2_init_25 : decode cX2_init 25 = .ok (.iconst 0, 1) := by decide +kernel
theorem dX2_init_26 : decode cX2_init 26 = .ok (.putfield 24, 3) := by decide +kernel
theorem dX2_init_29 : decode cX2_init 29 = .ok (.aload_n 0, 1) := by decide +kernel
theorem dX2_init_30 : decode cX2_init 30 = .ok (.iconst 0, 1) := by decide +kernel
theorem dX2_init_31 : decode cX2_init 31 = .ok (.putfield 28, 3) := by decide +kernel
theorem dX2_init_34 : decode cX2_init 34 = .ok (.aload_n 0, 1) := by decide +kernel
theorem dX2_init_35 : decode cX2_init 35 = .ok (.iconst 3, 1) := by decide +kernel
theorem dX2_init_36 : decode cX2_init 36 = .ok (.newarray .int, 2) := by decide +kernel
theorem dX2_init_38 : decode cX2_init 38 = .ok (.putfield 31, 3) := by decide +kernel
theorem dX2_init_41 : decode cX2_init 41 = .ok (.aload_n 0, 1) := by decide +kernel
theorem dX2_init_42 : decode cX2_init 42 = .ok (.iconst 3, 1) := by decide +kernel
theorem dX2_init_43 : decode cX2_init 43 = .ok (.newarray .int, 2) := by decide +kernel
theorem dX2_init_45 : decode cX2_init 45 = .ok (.putfield 35, 3) := by decide +kernel
theorem dX2_init_48 : decode cX2_init 48 = .ok (.aload_n 0, 1) := by decide +kernel
theorem dX2_init_49 : decode cX2_init 49 = .ok (.iconst 3, 1) := by decide +kernel
theorem dX2_init_50 : decode cX2_init 50 = .ok (.newarray .int, 2) := by decide +kernel
theorem dX2_init_52 : decode cX2_init 52 = .ok (.putfield 38, 3) := by decide +kernel
theorem dX2_init_55 : decode cX2_init 55 = .ok (.return_, 1) := by decide +kernel
theorem dX2_applies_0 : decode cX2_applies 0 = .ok (.iload_n 1, 1) := by decide +kernel
theorem dX2_applies_1 : decode cX2_applies 1 = .ok (.aload_n 0, 1) := by decide +kernel
theorem dX2_applies_2 : decode cX2_applies 2 = .ok (.getfield 18, 3) := by decide +kernel
theorem dX2_applies_5 : decode cX2_applies 5 = .ok (.if_icmp .lt 11, 3) := by decide +kernel
theorem dX2_applies_8 : decode cX2_applies 8 = .ok (.iload_n 1, 1) := by decide +kernel
theorem dX2_applies_9 : decode cX2_applies 9 = .ok (.aload_n 0, 1) := by decide +kernel
theorem dX2_applies_10 : decode cX2_applies 10 = .ok (.getfield 21, 3) := by decide +kernel
theorem dX2_applies_13 : decode cX2_applies 13 = .ok (.if_icmp .lt 5, 3) := by decide +kernel
theorem dX2_applies_16 : decode cX2_applies 16 = .ok (.iconst 0, 1) := by decide +kernel
theorem dX2_applies_17 : decode cX2_applies 17 = .ok (.ireturn, 1) := by decide +kernel
theorem dX2_applies_18 : decode cX2_applies 18 = .ok (.iconst 0, 1) := by decide +kernel
theorem dX2_applies_19 : decode cX2_applies 19 = .ok (.istore_n 3, 1) := by decide +kernel
theorem dX2_applies_20 : decode cX2_applies 20 = .ok (.iconst 0, 1) := by decide +kernel
theorem dX2_applies_21 : decode cX2_applies 21 = .ok (.istore 4, 2) := by decide +kernel
theorem dX2_applies_23 : decode cX2_applies 23 = .ok (.iload 4, 2) := by decide +kernel
theorem dX2_applies_25 : decode cX2_applies 25 = .ok (.aload_n 0, 1) := by decide +kernel
theorem dX2_applies_26 : decode cX2_applies 26 = .ok (.getfield 28, 3) := by decide +kernel
theorem dX2_applies_29 : decode cX2_applies 29 = .ok (.if_icmp .ge 154, 3) := by decide +kernel
theorem dX2_applies_32 : decode cX2_applies 32 = .ok (.aload_n 0, 1) := by decide +kernel
theorem dX2_applies_33 : decode cX2_applies 33 = .ok (.getfield 31, 3) := by decide +kernel
theorem dX2_applies_36 : decode cX2_applies 36 = .ok (.iload 4, 2) := by decide +kernel
theorem dX2_applies_38 : decode cX2_applies 38 = .ok (.iaload, 1) := by decide +kernel
theorem dX2_applies_39 : decode cX2_applies 39 = .ok (.ifCond .lt 19, 3) := by decide +kernel
theorem dX2_applies_42 : decode cX2_applies 42 = .ok (.aload_n 0, 1) := by decide +kernel
theorem dX2_applies_43 : decode cX2_applies 43 = .ok (.getfield 31, 3) := by decide +kernel
theorem dX2_applies_46 : decode cX2_applies 46 = .ok (.iload 4, 2) := by decide +kernel
theorem dX2_applies_48 : decode cX2_applies 48 = .ok (.iaload, 1) := by decide +kernel
theorem dX2_applies_49 : decode cX2_applies 49 = .ok (.aload_n 2, 1) := by decide +kernel
theorem dX2_applies_50 : decode cX2_applies 50 = .ok (.arraylength, 1) := by decide +kernel
theorem dX2_applies_51 : decode cX2_applies 51 = .ok (.if_icmp .ge 7, 3) := by decide +kernel
theorem dX2_applies_54 : decode cX2_applies 54 = .ok (.iconst 1, 1) := by decide +kernel
theorem dX2_applies_55 : decode cX2_applies 55 = .ok (.goto 4, 3) := by decide +kernel
theorem dX2_applies_58 : decode cX2_applies 58 = .ok (.iconst 0, 1) := by decide +kernel
theorem dX2_applies_59 : decode cX2_applies 59 = .ok (.istore 5, 2) := by decide +kernel
theorem dX2_applies_61 : decode cX2_applies 61 = .ok (.iload 5, 2) := by decide +kernel
theorem dX2_applies_63 : decode cX2_applies 63 = .ok (.ifCond .eq 15, 3) := by decide +kernel
theorem dX2_applies_66 : decode cX2_applies 66 = .ok (.aload_n 2, 1) := by decide +kernel
theorem dX2_applies_67 : decode cX2_applies 67 = .ok (.aload_n 0, 1) := by decide +kernel
theorem dX2_applies_68 : decode cX2_applies 68 = .ok (.getfield 31, 3) := by decide +kernel
theorem dX2_applies_71 : decode cX2_applies 71 = .ok (.iload 4, 2) := by decide +kernel
theorem dX2_applies_73 : decode cX2_applies 73 = .ok (.iaload, 1) := by decide +kernel
theorem dX2_applies_74 : decode cX2_applies 74 = .ok (.iaload, 1) := by decide +kernel
theorem dX2_applies_75 : decode cX2_applies 75 = .ok (.goto 4, 3) := by decide +kernel
theorem dX2_applies_78 : decode cX2_applies 78 = .ok (.iconst 0, 1) := by decide +kernel
theorem dX2_applies_79 : decode cX2_applies 79 = .ok (.istore 6, 2) := by decide +kernel
theorem dX2_applies_81 : decode cX2_applies 81 = .ok (.aload_n 0, 1) := by decide +kernel
theorem dX2_applies_82 : decode cX2_applies 82 = .ok (.getfield 35, 3) := by decide +kernel
theorem dX2_applies_85 : decode cX2_applies 85 = .ok (.iload 4, 2) := by decide +kernel
theorem dX2_applies_87 : decode cX2_applies 87 = .ok (.iaload, 1) := by decide +kernel
theorem dX2_applies_88 : decode cX2_applies 88 = .ok (.bipush 61, 2) := by decide +kernel
theorem dX2_applies_90 : decode cX2_applies 90 = .ok (.if_icmp .ne 23, 3) := by decide +kernel
theorem dX2_applies_93 : decode cX2_applies 93 = .ok (.iload 6, 2) := by decide +kernel
theorem dX2_applies_95 : decode cX2_applies 95 = .ok (.aload_n 0, 1) := by decide +kernel
theorem dX2_applies_96 : decode cX2_applies 96 = .ok (.getfield 38, 3) := by decide +kernel
theorem dX2_applies_99 : decode cX2_applies 99 = .ok (.iload 4, 2) := by decide +kernel
theorem dX2_applies_101 : decode cX2_applies 101 = .ok (.iaload, 1) := by decide +kernel
theorem dX2_applies_102 : decode cX2_applies 102 = .ok (.if_icmp .ne 7, 3) := by decide +kernel
theorem dX2_applies_105 : decode cX2_applies 105 = .ok (.iconst 1, 1) := by decide +kernel
theorem dX2_applies_106 : decode cX2_applies 106 = .ok (.goto 56, 3) := by decide +kernel
theorem dX2_applies_109 : decode cX2_applies 109 = .ok (.iconst 0, 1) := by decide +kernel
theorem dX2_applies_110 : decode cX2_applies 110 = .ok (.goto 52, 3) := by decide +kernel
theorem dX2_applies_113 : decode cX2_applies 113 = .ok (.aload_n 0, 1) := by decide +kernel
theorem dX2_applies_114 : decode cX2_applies 114 = .ok (.getfield 35, 3) := by decide +kernel
theorem dX2_applies_117 : decode cX2_applies 117 = .ok (.iload 4, 2) := by decide +kernel
theorem dX2_applies_119 : decode cX2_applies 119 = .ok (.iaload, 1) := by decide +kernel
theorem dX2_applies_120 : decode cX2_applies 120 = .ok (.bipush 60, 2) := by decide +kernel
theorem dX2_applies_122 : decode cX2_applies 122 = .ok (.if_icmp .ne 23, 3) := by decide +kernel
theorem dX2_applies_125 : decode cX2_applies 125 = .ok (.iload 6, 2) := by decide +kernel
theorem dX2_applies_127 : decode cX2_applies 127 = .ok (.aload_n 0, 1) := by decide +kernel
theorem dX2_applies_128 : decode cX2_applies 128 = .ok (.getfield 38, 3) := by decide +kernel
theorem dX2_applies_131 : decode cX2_applies 131 = .ok (.iload 4, 2) := by decide +kernel
theorem dX2_applies_133 : decode cX2_applies 133 = .ok (.iaload, 1) := by decide +kernel
theorem dX2_applies_134 : decode cX2_applies 134 = .ok (.if_icmp .ge 7, 3) := by decide +kernel
theorem dX2_applies_137 : decode cX2_applies 137 = .ok (.iconst 1, 1) := by decide +kernel
theorem dX2_applies_138 : decode cX2_applies 138 = .ok (.goto 24, 3) := by decide +kernel
theorem dX2_applies_141 : decode cX2_applies 141 = .ok (.iconst 0, 1) := by decide +kernel
theorem dX2_applies_142 : decode cX2_applies 142 = .ok (.goto 20, 3) := by decide +kernel
theorem dX2_applies_145 : decode cX2_applies 145 = .ok (.iload 6, 2) := by decide +kernel
theorem dX2_applies_147 : decode cX2_applies 147 = .ok (.aload_n 0, 1) := by decide +kernel
theorem dX2_applies_148 : decode cX2_applies 148 = .ok (.getfield 38, 3) := by decide +kernel
theorem dX2_applies_151 : decode cX2_applies 151 = .ok (.iload 4, 2) := by decide +kernel
theorem dX2_applies_153 : decode cX2_applies 153 = .ok (.iaload, 1) := by decide +kernel
theorem dX2_applies_154 : decode cX2_applies 154 = .ok (.if_icmp .le 7, 3) := by decide +kernel
theorem dX2_applies_157 : decode cX2_applies 157 = .ok (.iconst 1, 1) := by decide +kernel
theorem dX2_applies_158 : decode cX2_applies 158 = .ok (.goto 4, 3) := by decide +kernel
theorem dX2_applies_161 : decode cX2_applies 161 = .ok (.iconst 0, 1) := by decide +kernel
theorem dX2_applies_162 : decode cX2_applies 162 = .ok (.istore 7, 2) := by decide +kernel
theorem dX2_applies_164 : decode cX2_applies 164 = .ok (.iload_n 3, 1) := by decide +kernel
theorem dX2_applies_165 : decode cX2_applies 165 = .ok (.iload 7, 2) := by decide +kernel
theorem dX2_applies_167 : decode cX2_applies 167 = .ok (.ifCond .eq 7, 3) := by decide +kernel
theorem dX2_applies_170 : decode cX2_applies 170 = .ok (.iconst 1, 1) := by decide +kernel
theorem dX2_applies_171 : decode cX2_applies 171 = .ok (.goto 4, 3) := by decide +kernel
theorem dX2_applies_174 : decode cX2_applies 174 = .ok (.iconst 0, 1) := by decide +kernel
theorem dX2_applies_175 : decode cX2_applies 175 = .ok (.iadd, 1) := by decide +kernel
theorem dX2_applies_176 : decode cX2_applies 176 = .ok (.istore_n 3, 1) := by decide +kernel
theorem dX2_applies_177 : decode cX2_applies 177 = .ok (.iinc 4 1, 3) := by decide +kernel
theorem dX2_applies_180 : decode cX2_applies 180 = .ok (.goto (-157), 3) := by decide +kernel
theorem dX2_applies_183 : decode cX2_applies 183 = .ok (.aload_n 0, 1) := by decide +kernel
theorem dX2_applies_184 : decode cX2_applies 184 = .ok (.getfield 24, 3) := by decide +kernel
theorem dX2_applies_187 : decode cX2_applies 187 = .ok (.ifCond .eq 15, 3) := by decide +kernel
theorem dX2_applies_190 : decode cX2_applies 190 = .ok (.iload_n 3, 1) := by decide +kernel
theorem dX2_applies_191 : decode cX2_applies 191 = .ok (.ifCond .le 7, 3) := by decide +kernel
theorem dX2_applies_194 : decode cX2_applies 194 = .ok (.iconst 1, 1) := by decide +kernel
theorem dX2_applies_195 : decode cX2_applies 195 = .ok (.goto 20, 3) := by decide +kernel
theorem dX2_applies_198 : decode cX2_applies 198 = .ok (.iconst 0, 1) := by decide +kernel
theorem dX2_applies_199 : decode cX2_applies 199 = .ok (.goto 16, 3) := by decide +kernel
theorem dX2_applies_202 : decode cX2_applies 202 = .ok (.iload_n 3, 1) := by decide +kernel
theorem dX2_applies_203 : decode cX2_applies 203 = .ok (.aload_n 0, 1) := by decide +kernel
theorem dX2_applies_204 : decode cX2_applies 204 = .ok (.getfield 28, 3) := by decide +kernel
theorem dX2_applies_207 : decode cX2_applies 207 = .ok (.if_icmp .ne 7, 3) := by decide +kernel
theorem dX2_applies_210 : decode cX2_applies 210 = .ok (.iconst 1, 1) := by decide +kernel
theorem dX2_applies_211 : decode cX2_applies 211 = .ok (.goto 4, 3) := by decide +kernel
theorem dX2_applies_214 : decode cX2_applies 214 = .ok (.iconst 0, 1) := by decide +kernel
theorem dX2_applies_215 : decode cX2_applies 215 = .ok (.ireturn, 1) := by decide +kernel
theorem dX3_init_0 : decode cX3_init 0 = .ok (.aload_n 0, 1) := by decide +kernel
theorem dX3_init_1 : decode cX3_init 1 = .ok (.invokespecial 3, 3) := by decide +kernel
theorem dX3_init_4 : decode cX3_init 4 = .ok (.aload_n 0, 1) := by decide +kernel
theorem dX3_init_5 : decode cX3_init 5 = .ok (.new 9, 3) := by decide +kernel
theorem dX3_init_8 : decode cX3_init 8 = .ok (.dup, 1) := by decide +kernel
theorem dX3_init_9 : decode cX3_init 9 = .ok (.invokespecial 11, 3) := by decide +kernel
theorem dX3_init_12 : decode cX3_init 12 = .ok (.putfield 12, 3) := by decide +kernel
theorem dX3_init_15 : decode cX3_init 15 = .ok (.aload_n 0, 1) := by decide +kernel
theorem dX3_init_16 : decode cX3_init 16 = .ok (.iconst 0, 1) := by decide +kernel
theorem dX3_init_17 : decode cX3_init 17 = .ok (.putfield 18, 3) := by decide +kernel
theorem dX3_init_20 : decode cX3_init 20 = .ok (.return_, 1) := by decide +kernel
theorem dX3_takeRule_0 : decode cX3_takeRule 0 = .ok (.aload_n 0, 1) := by decide +kernel
theorem dX3_takeRule_1 : decode cX3_takeRule 1 = .ok (.iconst 0, 1) := by decide +kernel
theorem dX3_takeRule_2 : decode cX3_takeRule 2 = .ok (.putfield 18, 3) := by decide +kernel
theorem dX3_takeRule_5 : decode cX3_takeRule 5 = .ok (.aload_n 1, 1) := by decide +kernel
theorem dX3_takeRule_6 : decode cX3_takeRule 6 = .ok (.iconst 0, 1) := by decide +kernel
theorem dX3_takeRule_7 : decode cX3_takeRule 7 = .ok (.putfield 22, 3) := by decide +kernel
theorem dX3_takeRule_10 : decode cX3_takeRule 10 = .ok (.aload_n 1, 1) := by decide +kernel
theorem dX3_takeRule_11 : decode cX3_takeRule 11 = .ok (.iconst 0, 1) := by decide +kernel
theorem dX3_takeRule_12 : decode cX3_takeRule 12 = .ok (.putfield 28, 3) := by decide +kernel
theorem dX3_takeRule_15 : decode cX3_takeRule 15 = .ok (.aload_n 1, 1) := by decide +kernel
theorem dX3_takeRule_16 : decode cX3_takeRule 16 = .ok (.aload_n 0, 1) := by decide +kernel
theorem dX3_takeRule_17 : decode cX3_takeRule 17 = .ok (.invokevirtual 31, 3) := by decide +kernel
theorem dX3_takeRule_20 : decode cX3_takeRule 20 = .ok (.putfield 35, 3) := by decide +kernel
theorem dX3_takeRule_23 : decode cX3_takeRule 23 = .ok (.aload_n 1, 1) := by decide +kernel
theorem dX3_takeRule_24 : decode cX3_takeRule 24 = .ok (.getfield 35, 3) := by decide +kernel
theorem dX3_takeRule_27 : decode cX3_takeRule 27 = .ok (.iconst (-1), 1) := by decide +kernel
theorem dX3_takeRule_28 : decode cX3_takeRule 28 = .ok (.if_icmp .eq 12, 3) := by decide +kernel
theorem dX3_takeRule_31 : decode cX3_takeRule 31 = .ok (.aload_n 0, 1) := by decide +kernel
theorem dX3_takeRule_32 : decode cX3_takeRule 32 = .ok (.bipush 32, 2) := by decide +kernel
theorem dX3_takeRule_34 : decode cX3_takeRule 34 = .ok (.invokevirtual 38, 3) := by decide +kernel
theorem dX3_takeRule_37 : decode cX3_takeRule 37 = .ok (.ifCond .ne 5, 3) := by decide +kernel
theorem dX3_takeRule_40 : decode cX3_takeRule 40 = .ok (.iconst 0, 1) := by decide +kernel
theorem dX3_takeRule_41 : decode cX3_takeRule 41 = .ok (.ireturn, 1) := by decide +kernel
theorem dX3_takeRule_42 : decode cX3_takeRule 42 = .ok (.aload_n 1, 1) := by decide +kernel
theorem dX3_takeRule_43 : decode cX3_takeRule 43 = .ok (.aload_n 0, 1) := by decide +kernel
theorem dX3_takeRule_44 : decode cX3_takeRule 44 = .ok (.invokevirtual 42, 3) := by decide +kernel
theorem dX3_takeRule_47 : decode cX3_takeRule 47 = .ok (.putfield 45, 3) := by decide +kernel
theorem dX3_takeRule_50 : decode cX3_takeRule 50 = .ok (.aload_n 1, 1) := by decide +kernel
theorem dX3_takeRule_51 : decode cX3_takeRule 51 = .ok (.getfield 45, 3) := by decide +kernel
theorem dX3_takeRule_54 : decode cX3_takeRule 54 = .ok (.iconst (-1), 1) := by decide +kernel
theorem dX3_takeRule_55 : decode cX3_takeRule 55 = .ok (.if_icmp .ne 5, 3) := by decide +kernel
theorem dX3_takeRule_58 : decode cX3_takeRule 58 = .ok (.iconst 0, 1) := by decide +kernel
theorem dX3_takeRule_59 : decode cX3_takeRule 59 = .ok (.ireturn, 1) := by decide +kernel
theorem dX3_takeRule_60 : decode cX3_takeRule 60 = .ok (.aload_n 0, 1) := by decide +kernel
theorem dX3_takeRule_61 : decode cX3_takeRule 61 = .ok (.invokevirtual 48, 3) := by decide +kernel
theorem dX3_takeRule_64 : decode cX3_takeRule 64 = .ok (.ifCond .ne 11, 3) := by decide +kernel
theorem dX3_takeRule_67 : decode cX3_takeRule 67 = .ok (.aload_n 0, 1) := by decide +kernel
theorem dX3_takeRule_68 : decode cX3_takeRule 68 = .ok (.aload_n 1, 1) := by decide +kernel
theorem dX3_takeRule_69 : decode cX3_takeRule 69 = .ok (.invokevirtual 52, 3) := by decide +kernel
theorem dX3_takeRule_72 : decode cX3_takeRule 72 = .ok (.ifCond .eq 7, 3) := by decide +kernel
theorem dX3_takeRule_75 : decode cX3_takeRule 75 = .ok (.iconst 1, 1) := by decide +kernel
theorem dX3_takeRule_76 : decode cX3_takeRule 76 = .ok (.goto 4, 3) := by decide +kernel
theorem dX3_takeRule_79 : decode cX3_takeRule 79 = .ok (.iconst 0, 1) := by decide +kernel
theorem dX3_takeRule_80 : decode cX3_takeRule 80 = .ok (.ireturn, 1) := by decide +kernel
theorem dX3_takeTests_0 : decode cX3_takeTests 0 = .ok (.aload_n 0, 1) := by decide +kernel
theorem dX3_takeTests_1 : decode cX3_takeTests 1 = .ok (.ldc 56, 2) := by decide +kernel
theorem dX3_takeTests_3 : decode cX3_takeTests 3 = .ok (.invokevirtual 58, 3) := by decide +kernel
theorem dX3_takeTests_6 : decode cX3_takeTests 6 = .ok (.ifCond .eq 11, 3) := by decide +kernel
theorem dX3_takeTests_9 : decode cX3_takeTests 9 = .ok (.aload_n 0, 1) := by decide +kernel
theorem dX3_takeTests_10 : decode cX3_takeTests 10 = .ok (.aload_n 1, 1) := by decide +kernel
theorem dX3_takeTests_11 : decode cX3_takeTests 11 = .ok (.invokevirtual 62, 3) := by decide +kernel
theorem dX3_takeTests_14 : decode cX3_takeTests 14 = .ok (.ifCond .ne 5, 3) := by decide +kernel
theorem dX3_takeTests_17 : decode cX3_takeTests 17 = .ok (.iconst 0, 1) := by decide +kernel
theorem dX3_takeTests_18 : decode cX3_takeTests 18 = .ok (.ireturn, 1) := by decide +kernel
theorem dX3_takeTests_19 : decode cX3_takeTests 19 = .ok (.iconst 1, 1) := by decide +kernel
theorem dX3_takeTests_20 : decode cX3_takeTests 20 = .ok (.istore_n 2, 1) := by decide +kernel
theorem dX3_takeTests_21 : decode cX3_takeTests 21 = .ok (.iload_n 2, 1) := by decide +kernel
theorem dX3_takeTests_22 : decode cX3_takeTests 22 = .ok (.iconst 3, 1) := by decide +kernel
theorem dX3_takeTests_23 : decode cX3_takeTests 23 = .ok (.if_icmp .ge 52, 3) := by decide +kernel
theorem dX3_takeTests_26 : decode cX3_takeTests 26 = .ok (.aload_n 0, 1) := by decide +kernel
theorem dX3_takeTests_27 : decode cX3_takeTests 27 = .ok (.invokevirtual 48, 3) := by decide +kernel
theorem dX3_takeTests_30 : decode cX3_takeTests 30 = .ok (.ifCond .ne 45, 3) := by decide +kernel
theorem dX3_takeTests_33 : decode cX3_takeTests 33 = .ok (.aload_n 0, 1) := by decide +kernel
theorem dX3_takeTests_34 : decode cX3_takeTests 34 = .ok (.bipush 32, 2) := by decide +kernel
theorem dX3_takeTests_36 : decode cX3_takeTests 36 = .ok (.invokevirtual 38, 3) := by decide +kernel
theorem dX3_takeTests_39 : decode cX3_takeTests 39 = .ok (.ifCond .eq 28, 3) := by decide +kernel
theorem dX3_takeTests_42 : decode cX3_takeTests 42 = .ok (.aload_n 0, 1) := by decide +kernel
theorem dX3_takeTests_43 : decode cX3_takeTests 43 = .ok (.aload_n 1, 1) := by decide +kernel
theorem dX3_takeTests_44 : decode cX3_takeTests 44 = .ok (.invokevirtual 65, 3) := by decide +kernel
theorem dX3_takeTests_47 : decode cX3_takeTests 47 = .ok (.ifCond .eq 20, 3) := by decide +kernel
theorem dX3_takeTests_50 : decode cX3_takeTests 50 = .ok (.aload_n 0, 1) := by decide +kernel
theorem dX3_takeTests_51 : decode cX3_takeTests 51 = .ok (.bipush 32, 2) := by decide +kernel
theorem dX3_takeTests_53 : decode cX3_takeTests 53 = .ok (.invokevirtual 38, 3) := by decide +kernel
theorem dX3_takeTests_56 : decode cX3_takeTests 56 = .ok (.ifCond .eq 11, 3) := by decide +kernel
theorem dX3_takeTests_59 : decode cX3_takeTests 59 = .ok (.aload_n 0, 1) := by decide +kernel
theorem dX3_takeTests_60 : decode cX3_takeTests 60 = .ok (.aload_n 1, 1) := by decide +kernel
theorem dX3_takeTests_61 : decode cX3_takeTests 61 = .ok (.invokevirtual 62, 3) := by decide +kernel
theorem dX3_takeTests_64 : decode cX3_takeTests 64 = .ok (.ifCond .ne 5, 3) := by decide +kernel
theorem dX3_takeTests_67 : decode cX3_takeTests 67 = .ok (.iconst 0, 1) := by decide +kernel
theorem dX3_takeTests_68 : decode cX3_takeTests 68 = .ok (.ireturn, 1) := by decide +kernel
theorem dX3_takeTests_69 : decode cX3_takeTests 69 = .ok (.iinc 2 1, 3) := by decide +kernel
theorem dX3_takeTests_72 : decode cX3_takeTests 72 = .ok (.goto (-51), 3) := by decide +kernel
theorem dX3_takeTests_75 : decode cX3_takeTests 75 = .ok (.aload_n 0, 1) := by decide +kernel
theorem dX3_takeTests_76 : decode cX3_takeTests 76 = .ok (.invokevirtual 48, 3) := by decide +kernel
theorem dX3_takeTests_79 : decode cX3_takeTests 79 = .ok (.ireturn, 1) := by decide +kernel
theorem dX3_takeJoint_0 : decode cX3_takeJoint 0 = .ok (.aload_n 1, 1) := by decide +kernel
theorem dX3_takeJoint_1 : decode cX3_takeJoint 1 = .ok (.getfield 28, 3) := by decide +kernel
theorem dX3_takeJoint_4 : decode cX3_takeJoint 4 = .ok (.iconst 1, 1) := by decide +kernel
theorem dX3_takeJoint_5 : decode cX3_takeJoint 5 = .ok (.if_icmp .ne 28, 3) := by decide +kernel
theorem dX3_takeJoint_8 : decode cX3_takeJoint 8 = .ok (.aload_n 1, 1) := by decide +kernel
theorem dX3_takeJoint_9 : decode cX3_takeJoint 9 = .ok (.aload_n 0, 1) := by decide +kernel
theorem dX3_takeJoint_10 : decode cX3_takeJoint 10 = .ok (.getfield 12, 3) := by decide +kernel
theorem dX3_takeJoint_13 : decode cX3_takeJoint 13 = .ok (.aload_n 0, 1) := by decide +kernel
theorem dX3_takeJoint_14 : decode cX3_takeJoint 14 = .ok (.getfield 18, 3) := by decide +kernel
theorem dX3_takeJoint_17 : decode cX3_takeJoint 17 = .ok (.invokevirtual 68, 3) := by decide +kernel
theorem dX3_takeJoint_20 : decode cX3_takeJoint 20 = .ok (.bipush 111, 2) := by decide +kernel
theorem dX3_takeJoint_22 : decode cX3_takeJoint 22 = .ok (.if_icmp .ne 7, 3) := by decide +kernel
theorem dX3_takeJoint_25 : decode cX3_takeJoint 25 = .ok (.iconst 1, 1) := by decide +kernel
theorem dX3_takeJoint_26 : decode cX3_takeJoint 26 = .ok (.goto 4, 3) := by decide +kernel
theorem dX3_takeJoint_29 : decode cX3_takeJoint 29 = .ok (.iconst 0, 1) := by decide +kernel
theorem dX3_takeJoint_30 : decode cX3_takeJoint 30 = .ok (.putfield 22, 3) := by decide +kernel
theorem dX3_takeJoint_33 : decode cX3_takeJoint 33 = .ok (.aload_n 0, 1) := by decide +kernel
theorem dX3_takeJoint_34 : decode cX3_takeJoint 34 = .ok (.aload_n 1, 1) := by decide +kernel
theorem dX3_takeJoint_35 : decode cX3_takeJoint 35 = .ok (.getfield 22, 3) := by decide +kernel
theorem dX3_takeJoint_38 : decode cX3_takeJoint 38 = .ok (.ifCond .eq 8, 3) := by decide +kernel
theorem dX3_takeJoint_41 : decode cX3_takeJoint 41 = .ok (.ldc 72, 2) := by decide +kernel
theorem dX3_takeJoint_43 : decode cX3_takeJoint 43 = .ok (.goto 5, 3) := by decide +kernel
theorem dX3_takeJoint_46 : decode cX3_takeJoint 46 = .ok (.ldc 74, 2) := by decide +kernel
theorem dX3_takeJoint_48 : decode cX3_takeJoint 48 = .ok (.invokevirtual 58, 3) := by decide +kernel
theorem dX3_takeJoint_51 : decode cX3_takeJoint 51 = .ok (.ireturn, 1) := by decide +kernel
theorem dX3_takeTest_0 : decode cX3_takeTest 0 = .ok (.aload_n 0, 1) := by decide +kernel
theorem dX3_takeTest_1 : decode cX3_takeTest 1 = .ok (.invokevirtual 76, 3) := by decide +kernel
theorem dX3_takeTest_4 : decode cX3_takeTest 4 = .ok (.istore_n 2, 1) := by decide +kernel
theorem dX3_takeTest_5 : decode cX3_takeTest 5 = .ok (.iload_n 2, 1) := by decide +kernel
theorem dX3_takeTest_6 : decode cX3_takeTest 6 = .ok (.iconst (-1), 1) := by decide +kernel
theorem dX3_takeTest_7 : decode cX3_takeTest 7 = .ok (.if_icmp .ne 5, 3) := by decide +kernel
theorem dX3_takeTest_10 : decode cX3_takeTest 10 = .ok (.iconst 0, 1) := by decide +kernel
theorem dX3_takeTest_11 : decode cX3_takeTest 11 = .ok (.ireturn, 1) := by decide +kernel
theorem dX3_takeTest_12 : decode cX3_takeTest 12 = .ok (.aload_n 0, 1) := by decide +kernel
theorem dX3_takeTest_13 : decode cX3_takeTest 13 = .ok (.getfield 12, 3) := by decide +kernel
theorem dX3_takeTest_16 : decode cX3_takeTest 16 = .ok (.aload_n 0, 1) := by decide +kernel
theorem dX3_takeTest_17 : decode cX3_takeTest 17 = .ok (.getfield 18, 3) := by decide +kernel
theorem dX3_takeTest_20 : decode cX3_takeTest 20 = .ok (.invokevirtual 68, 3) := by decide +kernel
theorem dX3_takeTest_23 : decode cX3_takeTest 23 = .ok (.istore_n 3, 1) := by decide +kernel
theorem dX3_takeTest_24 : decode cX3_takeTest 24 = .ok (.iload_n 3, 1) := by decide +kernel
theorem dX3_takeTest_25 : decode cX3_takeTest 25 = .ok (.bipush 61, 2) := by decide +kernel
theorem dX3_takeTest_27 : decode cX3_takeTest 27 = .ok (.if_icmp .eq 17, 3) := by decide +kernel
theorem dX3_takeTest_30 : decode cX3_takeTest 30 = .ok (.iload_n 3, 1) := by decide +kernel
theorem dX3_takeTest_31 : decode cX3_takeTest 31 = .ok (.bipush 60, 2) := by decide +kernel
theorem dX3_takeTest_33 : decode cX3_takeTest 33 = .ok (.if_icmp .eq 11, 3) := by decide +kernel
theorem dX3_takeTest_36 : decode cX3_takeTest 36 = .ok (.iload_n 3, 1) := by decide +kernel
theorem dX3_takeTest_37 : decode cX3_takeTest 37 = .ok (.bipush 62, 2) := by decide +kernel
theorem dX3_takeTest_39 : decode cX3_takeTest 39 = .ok (.if_icmp .eq 5, 3) := by decide +kernel
theorem dX3_takeTest_42 : decode cX3_takeTest 42 = .ok (.iconst 0, 1) := by decide +kernel
theorem dX3_takeTest_43 : decode cX3_takeTest 43 = .ok (.ireturn, 1) := by decide +kernel
theorem dX3_takeTest_44 : decode cX3_takeTest 44 = .ok (.aload_n 0, 1) := by decide +kernel
theorem dX3_takeTest_45 : decode cX3_takeTest 45 = .ok (.dup, 1) := by decide +kernel
theorem dX3_takeTest_46 : decode cX3_takeTest 46 = .ok (.getfield 18, 3) := by decide +kernel
theorem dX3_takeTest_49 : decode cX3_takeTest 49 = .ok (.iconst 1, 1) := by decide +kernel
theorem dX3_takeTest_50 : decode cX3_takeTest 50 = .ok (.iadd, 1) := by decide +kernel
theorem dX3_takeTest_51 : decode cX3_takeTest 51 = .ok (.putfield 18, 3) := by decide +kernel
theorem dX3_takeTest_54 : decode cX3_takeTest 54 = .ok (.aload_n 0, 1) := by decide +kernel
theorem dX3_takeTest_55 : decode cX3_takeTest 55 = .ok (.bipush 45, 2) := by decide +kernel
theorem dX3_takeTest_57 : decode cX3_takeTest 57 = .ok (.invokevirtual 38, 3) := by decide +kernel
theorem dX3_takeTest_60 : decode cX3_takeTest 60 = .ok (.istore 4, 2) := by decide +kernel
theorem dX3_takeTest_62 : decode cX3_takeTest 62 = .ok (.aload_n 0, 1) := by decide +kernel
theorem dX3_takeTest_63 : decode cX3_takeTest 63 = .ok (.invokevirtual 42, 3) := by decide +kernel
theorem dX3_takeTest_66 : decode cX3_takeTest 66 = .ok (.istore 5, 2) := by decide +kernel
theorem dX3_takeTest_68 : decode cX3_takeTest 68 = .ok (.iload 5, 2) := by decide +kernel
theorem dX3_takeTest_70 : decode cX3_takeTest 70 = .ok (.iconst (-1), 1) := by decide +kernel
theorem dX3_takeTest_71 : decode cX3_takeTest 71 = .ok (.if_icmp .eq 11, 3) := by decide +kernel
theorem dX3_takeTest_74 : decode cX3_takeTest 74 = .ok (.aload_n 1, 1) := by decide +kernel
theorem dX3_takeTest_75 : decode cX3_takeTest 75 = .ok (.getfield 28, 3) := by decide +kernel
theorem dX3_takeTest_78 : decode cX3_takeTest 78 = .ok (.iconst 3, 1) := by decide +kernel
theorem dX3_takeTest_79 : decode cX3_takeTest 79 = .ok (.if_icmp .lt 5, 3) := by decide +kernel
theorem dX3_takeTest_82 : decode cX3_takeTest 82 = .ok (.iconst 0, 1) := by decide +kernel
theorem dX3_takeTest_83 : decode cX3_takeTest 83 = .ok (.ireturn, 1) := by decide +kernel
theorem dX3_takeTest_84 : decode cX3_takeTest 84 = .ok (.aload_n 1, 1) := by decide +kernel
theorem dX3_takeTest_85 : decode cX3_takeTest 85 = .ok (.getfield 79, 3) := by decide +kernel
theorem dX3_takeTest_88 : decode cX3_takeTest 88 = .ok (.aload_n 1, 1) := by decide +kernel
theorem dX3_takeTest_89 : decode cX3_takeTest 89 = .ok (.getfield 28, 3) := by decide +kernel
theorem dX3_takeTest_92 : decode cX3_takeTest 92 = .ok (.iload_n 2, 1) := by decide +kernel
theorem dX3_takeTest_93 : decode cX3_takeTest 93 = .ok (.iastore, 1) := by decide +kernel
theorem dX3_takeTest_94 : decode cX3_takeTest 94 = .ok (.aload_n 1, 1) := by decide +kernel
theorem dX3_takeTest_95 : decode cX3_takeTest 95 = .ok (.getfield 83, 3) := by decide +kernel
theorem dX3_takeTest_98 : decode cX3_takeTest 98 = .ok (.aload_n 1, 1) := by decide +kernel
theorem dX3_takeTest_99 : decode cX3_takeTest 99 = .ok (.getfield 28, 3) := by decide +kernel
theorem dX3_takeTest_102 : decode cX3_takeTest 102 = .ok (.iload_n 3, 1) := by decide +kernel
theorem dX3_takeTest_103 : decode cX3_takeTest 103 = .ok (.iastore, 1) := by decide +kernel
theorem dX3_takeTest_104 : decode cX3_takeTest 104 = .ok (.aload_n 1, 1) := by decide +kernel
theorem dX3_takeTest_105 : decode cX3_takeTest 105 = .ok (.getfield 86, 3) := by decide +kernel
theorem dX3_takeTest_108 : decode cX3_takeTest 108 = .ok (.aload_n 1, 1) := by decide +kernel
theorem dX3_takeTest_109 : decode cX3_takeTest 109 = .ok (.getfield 28, 3) := by decide +kernel
theorem dX3_takeTest_112 : decode cX3_takeTest 112 = .ok (.iload 4, 2) := by decide +kernel
theorem dX3_takeTest_114 : decode cX3_takeTest 114 = .ok (.ifCond .eq 9, 3) := by decide +kernel
theorem dX3_takeTest_117 : decode cX3_takeTest 117 = .ok (.iload 5, 2) := by decide +kernel
theorem dX3_takeTest_119 : decode cX3_takeTest 119 = .ok (.ineg, 1) := by decide +kernel
theorem dX3_takeTest_120 : decode cX3_takeTest 120 = .ok (.goto 5, 3) := by decide +kernel
theorem dX3_takeTest_123 : decode cX3_takeTest 123 = .ok (.iload 5, 2) := by decide +kernel
theorem dX3_takeTest_125 : decode cX3_takeTest 125 = .ok (.iastore, 1) := by decide +kernel
theorem dX3_takeTest_126 : decode cX3_takeTest 126 = .ok (.aload_n 1, 1) := by decide +kernel
theorem dX3_takeTest_127 : decode cX3_takeTest 127 = .ok (.dup, 1) := by decide +kernel
theorem dX3_takeTest_128 : decode cX3_takeTest 128 = .ok (.getfield 28, 3) := by decide +kernel
theorem dX3_takeTest_131 : decode cX3_takeTest 131 = .ok (.iconst 1, 1) := by decide +kernel
theorem dX3_takeTest_132 : decode cX3_takeTest 132 = .ok (.iadd, 1) := by decide +kernel
theorem dX3_takeTest_133 : decode cX3_takeTest 133 = .ok (.putfield 28, 3) := by decide +kernel
theorem dX3_takeTest_136 : decode cX3_takeTest 136 = .ok (.iconst 1, 1) := by decide +kernel
theorem dX3_takeTest_137 : decode cX3_takeTest 137 = .ok (.ireturn, 1) := by decide +kernel
theorem dX3_takeKey_0 : decode cX3_takeKey 0 = .ok (.aload_n 0, 1) := by decide +kernel
theorem dX3_takeKey_1 : decode cX3_takeKey 1 = .ok (.getfield 12, 3) := by decide +kernel
theorem dX3_takeKey_4 : decode cX3_takeKey 4 = .ok (.aload_n 0, 1) := by decide +kernel
theorem dX3_takeKey_5 : decode cX3_takeKey 5 = .ok (.getfield 18, 3) := by decide +kernel
theorem dX3_takeKey_8 : decode cX3_takeKey 8 = .ok (.invokevirtual 68, 3) := by decide +kernel
theorem dX3_takeKey_11 : decode cX3_takeKey 11 = .ok (.lookupswitch 78 #[(103, 48), (115, 63), (116, 33)], 33) := by decide +kernel
theorem dX3_takeKey_44 : decode cX3_takeKey 44 = .ok (.aload_n 0, 1) := by decide +kernel
theorem dX3_takeKey_45 : decode cX3_takeKey 45 = .ok (.ldc 89, 2) := by decide +kernel
theorem dX3_takeKey_47 : decode cX3_takeKey 47 = .ok (.invokevirtual 58, 3) := by decide +kernel
theorem dX3_takeKey_50 : decode cX3_takeKey 50 = .ok (.ifCond .eq 7, 3) := by decide +kernel
theorem dX3_takeKey_53 : decode cX3_takeKey 53 = .ok (.iconst 0, 1) := by decide +kernel
theorem dX3_takeKey_54 : decode cX3_takeKey 54 = .ok (.goto 4, 3) := by decide +kernel
theorem dX3_takeKey_57 : decode cX3_takeKey 57 = .ok (.iconst (-1), 1) := by decide +kernel
theorem dX3_takeKey_58 : decode cX3_takeKey 58 = .ok (.ireturn, 1) := by decide +kernel
theorem dX3_takeKey_59 : decode cX3_takeKey 59 = .ok (.aload_n 0, 1) := by decide +kernel
theorem dX3_takeKey_60 : decode cX3_takeKey 60 = .ok (.ldc 91, 2) := by decide +kernel
theorem dX3_takeKey_62 : decode cX3_takeKey 62 = .ok (.invokevirtual 58, 3) := by decide +kernel
theorem dX3_takeKey_65 : decode cX3_takeKey 65 = .ok (.ifCond .eq 7, 3) := by decide +kernel
theorem dX3_takeKey_68 : decode cX3_takeKey 68 = .ok (.iconst 1, 1) := by decide +kernel
theorem dX3_takeKey_69 : decode cX3_takeKey 69 = .ok (.goto 4, 3) := by decide +kernel
theorem dX3_takeKey_72 : decode cX3_takeKey 72 = .ok (.iconst (-1), 1) := by decide +kernel
theorem dX3_takeKey_73 : decode cX3_takeKey 73 = .ok (.ireturn, 1) := by decide +kernel
theorem dX3_takeKey_74 : decode cX3_takeKey 74 = .ok (.aload_n 0, 1) := by decide +kernel
theorem dX3_takeKey_75 : decode cX3_takeKey 75 = .ok (.ldc 93, 2) := by decide +kernel
theorem dX3_takeKey_77 : decode cX3_takeKey 77 = .ok (.invokevirtual 58, 3) := by decide +kernel
theorem dX3_takeKey_80 : decode cX3_takeKey 80 = .ok (.ifCond .eq 7, 3) := by decide +kernel
theorem dX3_takeKey_83 : decode cX3_takeKey 83 = .ok (.iconst 2, 1) := by decide +kernel
theorem dX3_takeKey_84 : decode cX3_takeKey 84 = .ok (.goto 4, 3) := by decide +kernel
theorem dX3_takeKey_87 : decode cX3_takeKey 87 = .ok (.iconst (-1), 1) := by decide +kernel
theorem dX3_takeKey_88 : decode cX3_takeKey 88 = .ok (.ireturn, 1) := by decide +kernel
theorem dX3_takeKey_89 : decode cX3_takeKey 89 = .ok (.iconst (-1), 1) := by decide +kernel
theorem dX3_takeKey_90 : decode cX3_takeKey 90 = .ok (.ireturn, 1) := by decide +kernel
theorem dX3_takeField_0 : decode cX3_takeField 0 = .ok (.aload_n 0, 1) := by decide +kernel
theorem dX3_takeField_1 : decode cX3_takeField 1 = .ok (.getfield 12, 3) := by decide +kernel
theorem dX3_takeField_4 : decode cX3_takeField 4 = .ok (.aload_n 0, 1) := by decide +kernel
theorem dX3_takeField_5 : decode cX3_takeField 5 = .ok (.getfield 18, 3) := by decide +kernel
theorem dX3_takeField_8 : decode cX3_takeField 8 = .ok (.invokevirtual 68, 3) := by decide +kernel
theorem dX3_takeField_11 : decode cX3_takeField 11 = .ok (.lookupswitch 124 #[(99, 79), (104, 94), (114, 64), (115, 109), (119, 49)], 49) := by decide +kernel
theorem dX3_takeField_60 : decode cX3_takeField 60 = .ok (.aload_n 0, 1) := by decide +kernel
theorem dX3_takeField_61 : decode cX3_takeField 61 = .ok (.ldc 95, 2) := by decide +kernel
theorem dX3_takeField_63 : decode cX3_takeField 63 = .ok (.invokevirtual 58, 3) := by decide +kernel
theorem dX3_takeField_66 : decode cX3_takeField 66 = .ok (.ifCond .eq 7, 3) := by decide +kernel
theorem dX3_takeField_69 : decode cX3_takeField 69 = .ok (.iconst 0, 1) := by decide +kernel
theorem dX3_takeField_70 : decode cX3_takeField 70 = .ok (.goto 4, 3) := by decide +kernel
theorem dX3_takeField_73 : decode cX3_takeField 73 = .ok (.iconst (-1), 1) := by decide +kernel
theorem dX3_takeField_74 : decode cX3_takeField 74 = .ok (.ireturn, 1) := by decide +kernel
theorem dX3_takeField_75 : decode cX3_takeField 75 = .ok (.aload_n 0, 1) := by decide +kernel
theorem dX3_takeField_76 : decode cX3_takeField 76 = .ok (.ldc 97, 2) := by decide +kernel
theorem dX3_takeField_78 : decode cX3_takeField 78 = .ok (.invokevirtual 58, 3) := by decide +kernel
theorem dX3_takeField_81 : decode cX3_takeField 81 = .ok (.ifCond .eq 7, 3) := by decide +kernel
theorem dX3_takeField_84 : decode cX3_takeField 84 = .ok (.iconst 1, 1) := by decide +kernel
theorem dX3_takeField_85 : decode cX3_takeField 85 = .ok (.goto 4, 3) := by decide +kernel
theorem dX3_takeField_88 : decode cX3_takeField 88 = .ok (.iconst (-1), 1) := by decide +kernel
theorem dX3_takeField_89 : decode cX3_takeField 89 = .ok (.ireturn, 1) := by decide +kernel
theorem dX3_takeField_90 : decode cX3_takeField 90 = .ok (.aload_n 0, 1) := by decide +kernel
theorem dX3_takeField_91 : decode cX3_takeField 91 = .ok (.ldc 99, 2) := by decide +kernel
theorem dX3_takeField_93 : decode cX3_takeField 93 = .ok (.invokevirtual 58, 3) := by decide +kernel
theorem dX3_takeField_96 : decode cX3_takeField 96 = .ok (.ifCond .eq 7, 3) := by decide +kernel
theorem dX3_takeField_99 : decode cX3_takeField 99 = .ok (.iconst 2, 1) := by decide +kernel
theorem dX3_takeField_100 : decode cX3_takeField 100 = .ok (.goto 4, 3) := by decide +kernel
theorem dX3_takeField_103 : decode cX3_takeField 103 = .ok (.iconst (-1), 1) := by decide +kernel
theorem dX3_takeField_104 : decode cX3_takeField 104 = .ok (.ireturn, 1) := by decide +kernel
theorem dX3_takeField_105 : decode cX3_takeField 105 = .ok (.aload_n 0, 1) := by decide +kernel
theorem dX3_takeField_106 : decode cX3_takeField 106 = .ok (.ldc 101, 2) := by decide +kernel
theorem dX3_takeField_108 : decode cX3_takeField 108 = .ok (.invokevirtual 58, 3) := by decide +kernel
theorem dX3_takeField_111 : decode cX3_takeField 111 = .ok (.ifCond .eq 7, 3) := by decide +kernel
theorem dX3_takeField_114 : decode cX3_takeField 114 = .ok (.iconst 3, 1) := by decide +kernel
theorem dX3_takeField_115 : decode cX3_takeField 115 = .ok (.goto 4, 3) := by decide +kernel
theorem dX3_takeField_118 : decode cX3_takeField 118 = .ok (.iconst (-1), 1) := by decide +kernel
theorem dX3_takeField_119 : decode cX3_takeField 119 = .ok (.ireturn, 1) := by decide +kernel
theorem dX3_takeField_120 : decode cX3_takeField 120 = .ok (.aload_n 0, 1) := by decide +kernel
theorem dX3_takeField_121 : decode cX3_takeField 121 = .ok (.ldc 103, 2) := by decide +kernel
theorem dX3_takeField_123 : decode cX3_takeField 123 = .ok (.invokevirtual 58, 3) := by decide +kernel
theorem dX3_takeField_126 : decode cX3_takeField 126 = .ok (.ifCond .eq 7, 3) := by decide +kernel
theorem dX3_takeField_129 : decode cX3_takeField 129 = .ok (.iconst 4, 1) := by decide +kernel
theorem dX3_takeField_130 : decode cX3_takeField 130 = .ok (.goto 4, 3) := by decide +kernel
theorem dX3_takeField_133 : decode cX3_takeField 133 = .ok (.iconst (-1), 1) := by decide +kernel
theorem dX3_takeField_134 : decode cX3_takeField 134 = .ok (.ireturn, 1) := by decide +kernel
theorem dX3_takeField_135 : decode cX3_takeField 135 = .ok (.iconst (-1), 1) := by decide +kernel
theorem dX3_takeField_136 : decode cX3_takeField 136 = .ok (.ireturn, 1) := by decide +kernel
theorem dX3_takeNumber_0 : decode cX3_takeNumber 0 = .ok (.iconst (-1), 1) := by decide +kernel
theorem dX3_takeNumber_1 : decode cX3_takeNumber 1 = .ok (.istore_n 1, 1) := by decide +kernel
theorem dX3_takeNumber_2 : decode cX3_takeNumber 2 = .ok (.iconst 0, 1) := by decide +kernel
theorem dX3_takeNumber_3 : decode cX3_takeNumber 3 = .ok (.istore_n 2, 1) := by decide +kernel
theorem dX3_takeNumber_4 : decode cX3_takeNumber 4 = .ok (.iload_n 2, 1) := by decide +kernel
theorem dX3_takeNumber_5 : decode cX3_takeNumber 5 = .ok (.iconst 4, 1) := by decide +kernel
theorem dX3_takeNumber_6 : decode cX3_takeNumber 6 = .ok (.if_icmp .ge 62, 3) := by decide +kernel
theorem dX3_takeNumber_9 : decode cX3_takeNumber 9 = .ok (.aload_n 0, 1) := by decide +kernel
theorem dX3_takeNumber_10 : decode cX3_takeNumber 10 = .ok (.getfield 12, 3) := by decide +kernel
theorem dX3_takeNumber_13 : decode cX3_takeNumber 13 = .ok (.aload_n 0, 1) := by decide +kernel
theorem dX3_takeNumber_14 : decode cX3_takeNumber 14 = .ok (.getfield 18, 3) := by decide +kernel
theorem dX3_takeNumber_17 : decode cX3_takeNumber 17 = .ok (.invokevirtual 68, 3) := by decide +kernel
theorem dX3_takeNumber_20 : decode cX3_takeNumber 20 = .ok (.bipush 48, 2) := by decide +kernel
theorem dX3_takeNumber_22 : decode cX3_takeNumber 22 = .ok (.isub, 1) := by decide +kernel
theorem dX3_takeNumber_23 : decode cX3_takeNumber 23 = .ok (.istore_n 3, 1) := by decide +kernel
theorem dX3_takeNumber_24 : decode cX3_takeNumber 24 = .ok (.iload_n 3, 1) := by decide +kernel
theorem dX3_takeNumber_25 : decode cX3_takeNumber 25 = .ok (.ifCond .lt 9, 3) := by decide +kernel
theorem dX3_takeNumber_28 : decode cX3_takeNumber 28 = .ok (.iload_n 3, 1) := by decide +kernel
theorem dX3_takeNumber_29 : decode cX3_takeNumber 29 = .ok (.bipush 9, 2) := by decide +kernel
theorem dX3_takeNumber_31 : decode cX3_takeNumber 31 = .ok (.if_icmp .le 5, 3) := by decide +kernel
theorem dX3_takeNumber_34 : decode cX3_takeNumber 34 = .ok (.iload_n 1, 1) := by decide +kernel
theorem dX3_takeNumber_35 : decode cX3_takeNumber 35 = .ok (.ireturn, 1) := by decide +kernel
theorem dX3_takeNumber_36 : decode cX3_takeNumber 36 = .ok (.iload_n 1, 1) := by decide +kernel
theorem dX3_takeNumber_37 : decode cX3_takeNumber 37 = .ok (.iconst (-1), 1) := by decide +kernel
theorem dX3_takeNumber_38 : decode cX3_takeNumber 38 = .ok (.if_icmp .ne 7, 3) := by decide +kernel
theorem dX3_takeNumber_41 : decode cX3_takeNumber 41 = .ok (.iload_n 3, 1) := by decide +kernel
theorem dX3_takeNumber_42 : decode cX3_takeNumber 42 = .ok (.goto 9, 3) := by decide +kernel
theorem dX3_takeNumber_45 : decode cX3_takeNumber 45 = .ok (.iload_n 1, 1) := by decide +kernel
theorem dX3_takeNumber_46 : decode cX3_takeNumber 46 = .ok (.bipush 10, 2) := by decide +kernel
theorem dX3_takeNumber_48 : decode cX3_takeNumber 48 = .ok (.imul, 1) := by decide +kernel
theorem dX3_takeNumber_49 : decode cX3_takeNumber 49 = .ok (.iload_n 3, 1) := by decide +kernel
theorem dX3_takeNumber_50 : decode cX3_takeNumber 50 = .ok (.iadd, 1) := by decide +kernel
theorem dX3_takeNumber_51 : decode cX3_takeNumber 51 = .ok (.istore_n 1, 1) := by decide +kernel
theorem dX3_takeNumber_52 : decode cX3_takeNumber 52 = .ok (.aload_n 0, 1) := by decide +kernel
theorem dX3_takeNumber_53 : decode cX3_takeNumber 53 = .ok (.dup, 1) := by decide +kernel
theorem dX3_takeNumber_54 : decode cX3_takeNumber 54 = .ok (.getfield 18, 3) := by decide +kernel
theorem dX3_takeNumber_57 : decode cX3_takeNumber 57 = .ok (.iconst 1, 1) := by decide +kernel
theorem dX3_takeNumber_58 : decode cX3_takeNumber 58 = .ok (.iadd, 1) := by decide +kernel
theorem dX3_takeNumber_59 : decode cX3_takeNumber 59 = .ok (.putfield 18, 3) := by decide +kernel
theorem dX3_takeNumber_62 : decode cX3_takeNumber 62 = .ok (.iinc 2 1, 3) := by decide +kernel
theorem dX3_takeNumber_65 : decode cX3_takeNumber 65 = .ok (.goto (-61), 3) := by decide +kernel
theorem dX3_takeNumber_68 : decode cX3_takeNumber 68 = .ok (.iload_n 1, 1) := by decide +kernel
theorem dX3_takeNumber_69 : decode cX3_takeNumber 69 = .ok (.ireturn, 1) := by decide +kernel
theorem dX3_takeWord_0 : decode cX3_takeWord 0 = .ok (.iconst 0, 1) := by decide +kernel
theorem dX3_takeWord_1 : decode cX3_takeWord 1 = .ok (.istore_n 2, 1) := by decide +kernel
theorem dX3_takeWord_2 : decode cX3_takeWord 2 = .ok (.iload_n 2, 1) := by decide +kernel
theorem dX3_takeWord_3 : decode cX3_takeWord 3 = .ok (.aload_n 1, 1) := by decide +kernel
theorem dX3_takeWord_4 : decode cX3_takeWord 4 = .ok (.invokevirtual 105, 3) := by decide +kernel
theorem dX3_takeWord_7 : decode cX3_takeWord 7 = .ok (.if_icmp .ge 40, 3) := by decide +kernel
theorem dX3_takeWord_10 : decode cX3_takeWord 10 = .ok (.aload_n 0, 1) := by decide +kernel
theorem dX3_takeWord_11 : decode cX3_takeWord 11 = .ok (.getfield 12, 3) := by decide +kernel
theorem dX3_takeWord_14 : decode cX3_takeWord 14 = .ok (.aload_n 0, 1) := by decide +kernel
theorem dX3_takeWord_15 : decode cX3_takeWord 15 = .ok (.getfield 18, 3) := by decide +kernel
theorem dX3_takeWord_18 : decode cX3_takeWord 18 = .ok (.invokevirtual 68, 3) := by decide +kernel
theorem dX3_takeWord_21 : decode cX3_takeWord 21 = .ok (.aload_n 1, 1) := by decide +kernel
theorem dX3_takeWord_22 : decode cX3_takeWord 22 = .ok (.iload_n 2, 1) := by decide +kernel
theorem dX3_takeWord_23 : decode cX3_takeWord 23 = .ok (.invokevirtual 110, 3) := by decide +kernel
theorem dX3_takeWord_26 : decode cX3_takeWord 26 = .ok (.if_icmp .eq 5, 3) := by decide +kernel
theorem dX3_takeWord_29 : decode cX3_takeWord 29 = .ok (.iconst 0, 1) := by decide +kernel
theorem dX3_takeWord_30 : decode cX3_takeWord 30 = .ok (.ireturn, 1) := by decide +kernel
theorem dX3_takeWord_31 : decode cX3_takeWord 31 = .ok (.aload_n 0, 1) := by decide +kernel
theorem dX3_takeWord_32 : decode cX3_takeWord 32 = .ok (.dup, 1) := by decide +kernel
theorem dX3_takeWord_33 : decode cX3_takeWord 33 = .ok (.getfield 18, 3) := by decide +kernel
theorem dX3_takeWord_36 : decode cX3_takeWord 36 = .ok (.iconst 1, 1) := by decide +kernel
theorem dX3_takeWord_37 : decode cX3_takeWord 37 = .ok (.iadd, 1) := by decide +kernel
theorem dX3_takeWord_38 : decode cX3_takeWord 38 = .ok (.putfield 18, 3) := by decide +kernel
theorem dX3_takeWord_41 : decode cX3_takeWord 41 = .ok (.iinc 2 1, 3) := by decide +kernel
theorem dX3_takeWord_44 : decode cX3_takeWord 44 = .ok (.goto (-42), 3) := by decide +kernel
theorem dX3_takeWord_47 : decode cX3_takeWord 47 = .ok (.iconst 1, 1) := by decide +kernel
theorem dX3_takeWord_48 : decode cX3_takeWord 48 = .ok (.ireturn, 1) := by decide +kernel
theorem dX3_takeSign_0 : decode cX3_takeSign 0 = .ok (.aload_n 0, 1) := by decide +kernel
theorem dX3_takeSign_1 : decode cX3_takeSign 1 = .ok (.getfield 12, 3) := by decide +kernel
theorem dX3_takeSign_4 : decode cX3_takeSign 4 = .ok (.aload_n 0, 1) := by decide +kernel
theorem dX3_takeSign_5 : decode cX3_takeSign 5 = .ok (.getfield 18, 3) := by decide +kernel
theorem dX3_takeSign_8 : decode cX3_takeSign 8 = .ok (.invokevirtual 68, 3) := by decide +kernel
theorem dX3_takeSign_11 : decode cX3_takeSign 11 = .ok (.iload_n 1, 1) := by decide +kernel
theorem dX3_takeSign_12 : decode cX3_takeSign 12 = .ok (.if_icmp .eq 5, 3) := by decide +kernel
theorem dX3_takeSign_15 : decode cX3_takeSign 15 = .ok (.iconst 0, 1) := by decide +kernel
theorem dX3_takeSign_16 : decode cX3_takeSign 16 = .ok (.ireturn, 1) := by decide +kernel
theorem dX3_takeSign_17 : decode cX3_takeSign 17 = .ok (.aload_n 0, 1) := by decide +kernel
theorem dX3_takeSign_18 : decode cX3_takeSign 18 = .ok (.dup, 1) := by decide +kernel
theorem dX3_takeSign_19 : decode cX3_takeSign 19 = .ok (.getfield 18, 3) := by decide +kernel
theorem dX3_takeSign_22 : decode cX3_takeSign 22 = .ok (.iconst 1, 1) := by decide +kernel
theorem dX3_takeSign_23 : decode cX3_takeSign 23 = .ok (.iadd, 1) := by decide +kernel
theorem dX3_takeSign_24 : decode cX3_takeSign 24 = .ok (.putfield 18, 3) := by decide +kernel
theorem dX3_takeSign_27 : decode cX3_takeSign 27 = .ok (.iconst 1, 1) := by decide +kernel
theorem dX3_takeSign_28 : decode cX3_takeSign 28 = .ok (.ireturn, 1) := by decide +kernel
theorem dX3_isAtEnd_0 : decode cX3_isAtEnd 0 = .ok (.aload_n 0, 1) := by decide +kernel
theorem dX3_isAtEnd_1 : decode cX3_isAtEnd 1 = .ok (.getfield 18, 3) := by decide +kernel
theorem dX3_isAtEnd_4 : decode cX3_isAtEnd 4 = .ok (.aload_n 0, 1) := by decide +kernel
theorem dX3_isAtEnd_5 : decode cX3_isAtEnd 5 = .ok (.getfield 12, 3) := by decide +kernel
theorem dX3_isAtEnd_8 : decode cX3_isAtEnd 8 = .ok (.getfield 114, 3) := by decide +kernel
theorem dX3_isAtEnd_11 : decode cX3_isAtEnd 11 = .ok (.if_icmp .lt 7, 3) := by decide +kernel
theorem dX3_isAtEnd_14 : decode cX3_isAtEnd 14 = .ok (.iconst 1, 1) := by decide +kernel
theorem dX3_isAtEnd_15 : decode cX3_isAtEnd 15 = .ok (.goto 4, 3) := by decide +kernel
theorem dX3_isAtEnd_18 : decode cX3_isAtEnd 18 = .ok (.iconst 0, 1) := by decide +kernel
theorem dX3_isAtEnd_19 : decode cX3_isAtEnd 19 = .ok (.ireturn, 1) := by decide +kernel
theorem dX4_init_0 : decode cX4_init 0 = .ok (.aload_n 0, 1) := by decide +kernel
theorem dX4_init_1 : decode cX4_init 1 = .ok (.invokespecial 3, 3) := by decide +kernel
theorem dX4_init_4 : decode cX4_init 4 = .ok (.aload_n 0, 1) := by decide +kernel
theorem dX4_init_5 : decode cX4_init 5 = .ok (.bipush 80, 2) := by decide +kernel
theorem dX4_init_7 : decode cX4_init 7 = .ok (.newarray .int, 2) := by decide +kernel
theorem dX4_init_9 : decode cX4_init 9 = .ok (.putfield 9, 3) := by decide +kernel
theorem dX4_init_12 : decode cX4_init 12 = .ok (.aload_n 0, 1) := by decide +kernel
theorem dX4_init_13 : decode cX4_init 13 = .ok (.iconst 0, 1) := by decide +kernel
theorem dX4_init_14 : decode cX4_init 14 = .ok (.putfield 15, 3) := by decide +kernel
theorem dX4_init_17 : decode cX4_init 17 = .ok (.return_, 1) := by decide +kernel
theorem dX4_put_0 : decode cX4_put 0 = .ok (.aload_n 0, 1) := by decide +kernel
theorem dX4_put_1 : decode cX4_put 1 = .ok (.getfield 15, 3) := by decide +kernel
theorem dX4_put_4 : decode cX4_put 4 = .ok (.bipush 80, 2) := by decide +kernel
theorem dX4_put_6 : decode cX4_put 6 = .ok (.if_icmp .ge 23, 3) := by decide +kernel
theorem dX4_put_9 : decode cX4_put 9 = .ok (.aload_n 0, 1) := by decide +kernel
theorem dX4_put_10 : decode cX4_put 10 = .ok (.getfield 9, 3) := by decide +kernel
theorem dX4_put_13 : decode cX4_put 13 = .ok (.aload_n 0, 1) := by decide +kernel
theorem dX4_put_14 : decode cX4_put 14 = .ok (.getfield 15, 3) := by decide +kernel
theorem dX4_put_17 : decode cX4_put 17 = .ok (.iload_n 1, 1) := by decide +kernel
theorem dX4_put_18 : decode cX4_put 18 = .ok (.iastore, 1) := by decide +kernel
theorem dX4_put_19 : decode cX4_put 19 = .ok (.aload_n 0, 1) := by decide +kernel
theorem dX4_put_20 : decode cX4_put 20 = .ok (.dup, 1) := by decide +kernel
theorem dX4_put_21 : decode cX4_put 21 = .ok (.getfield 15, 3) := by decide +kernel
theorem dX4_put_24 : decode cX4_put 24 = .ok (.iconst 1, 1) := by decide +kernel
theorem dX4_put_25 : decode cX4_put 25 = .ok (.iadd, 1) := by decide +kernel
theorem dX4_put_26 : decode cX4_put 26 = .ok (.putfield 15, 3) := by decide +kernel
theorem dX4_put_29 : decode cX4_put 29 = .ok (.return_, 1) := by decide +kernel
theorem dX4_at_0 : decode cX4_at 0 = .ok (.iload_n 1, 1) := by decide +kernel
theorem dX4_at_1 : decode cX4_at 1 = .ok (.ifCond .lt 20, 3) := by decide +kernel
theorem dX4_at_4 : decode cX4_at 4 = .ok (.iload_n 1, 1) := by decide +kernel
theorem dX4_at_5 : decode cX4_at 5 = .ok (.aload_n 0, 1) := by decide +kernel
theorem dX4_at_6 : decode cX4_at 6 = .ok (.getfield 15, 3) := by decide +kernel
theorem dX4_at_9 : decode cX4_at 9 = .ok (.if_icmp .ge 12, 3) := by decide +kernel
theorem dX4_at_12 : decode cX4_at 12 = .ok (.aload_n 0, 1) := by decide +kernel
theorem dX4_at_13 : decode cX4_at 13 = .ok (.getfield 9, 3) := by decide +kernel
theorem dX4_at_16 : decode cX4_at 16 = .ok (.iload_n 1, 1) := by decide +kernel
theorem dX4_at_17 : decode cX4_at 17 = .ok (.iaload, 1) := by decide +kernel
theorem dX4_at_18 : decode cX4_at 18 = .ok (.goto 4, 3) := by decide +kernel
theorem dX4_at_21 : decode cX4_at 21 = .ok (.iconst (-1), 1) := by decide +kernel
theorem dX4_at_22 : decode cX4_at 22 = .ok (.ireturn, 1) := by decide +kernel
theorem dX5_init_0 : decode cX5_init 0 = .ok (.aload_n 0, 1) := by decide +kernel
theorem dX5_init_1 : decode cX5_init 1 = .ok (.invokespecial 3, 3) := by decide +kernel
theorem dX5_init_4 : decode cX5_init 4 = .ok (.aload_n 0, 1) := by decide +kernel
theorem dX5_init_5 : decode cX5_init 5 = .ok (.bipush 48, 2) := by decide +kernel
theorem dX5_init_7 : decode cX5_init 7 = .ok (.newarray .int, 2) := by decide +kernel
theorem dX5_init_9 : decode cX5_init 9 = .ok (.putfield 9, 3) := by decide +kernel
theorem dX5_init_12 : decode cX5_init 12 = .ok (.iconst 0, 1) := by decide +kernel
theorem dX5_init_13 : decode cX5_init 13 = .ok (.istore_n 1, 1) := by decide +kernel
theorem dX5_init_14 : decode cX5_init 14 = .ok (.iload_n 1, 1) := by decide +kernel
theorem dX5_init_15 : decode cX5_init 15 = .ok (.bipush 48, 2) := by decide +kernel
theorem dX5_init_17 : decode cX5_init 17 = .ok (.if_icmp .ge 18, 3) := by decide +kernel
theorem dX5_init_20 : decode cX5_init 20 = .ok (.aload_n 0, 1) := by decide +kernel
theorem dX5_init_21 : decode cX5_init 21 = .ok (.getfield 9, 3) := by decide +kernel
theorem dX5_init_24 : decode cX5_init 24 = .ok (.iload_n 1, 1) := by decide +kernel
theorem dX5_init_25 : decode cX5_init 25 = .ok (.sipush (-9999), 3) := by decide +kernel
theorem dX5_init_28 : decode cX5_init 28 = .ok (.iastore, 1) := by decide +kernel
theorem dX5_init_29 : decode cX5_init 29 = .ok (.iinc 1 1, 3) := by decide +kernel
theorem dX5_init_32 : decode cX5_init 32 = .ok (.goto (-18), 3) := by decide +kernel
theorem dX5_init_35 : decode cX5_init 35 = .ok (.return_, 1) := by decide +kernel
theorem dX5_heatOf_0 : decode cX5_heatOf 0 = .ok (.iload_n 1, 1) := by decide +kernel
theorem dX5_heatOf_1 : decode cX5_heatOf 1 = .ok (.bipush 48, 2) := by decide +kernel
theorem dX5_heatOf_3 : decode cX5_heatOf 3 = .ok (.invokestatic 15, 3) := by decide +kernel
theorem dX5_heatOf_6 : decode cX5_heatOf 6 = .ok (.istore_n 2, 1) := by decide +kernel
theorem dX5_heatOf_7 : decode cX5_heatOf 7 = .ok (.aload_n 0, 1) := by decide +kernel
theorem dX5_heatOf_8 : decode cX5_heatOf 8 = .ok (.getfield 9, 3) := by decide +kernel
theorem dX5_heatOf_11 : decode cX5_heatOf 11 = .ok (.iload_n 2, 1) := by decide +kernel
theorem dX5_heatOf_12 : decode cX5_heatOf 12 = .ok (.iaload, 1) := by decide +kernel
theorem dX5_heatOf_13 : decode cX5_heatOf 13 = .ok (.sipush (-9999), 3) := by decide +kernel
theorem dX5_heatOf_16 : decode cX5_heatOf 16 = .ok (.if_icmp .eq 10, 3) := by decide +kernel
theorem dX5_heatOf_19 : decode cX5_heatOf 19 = .ok (.aload_n 0, 1) := by decide +kernel
theorem dX5_heatOf_20 : decode cX5_heatOf 20 = .ok (.getfield 9, 3) := by decide +kernel
theorem dX5_heatOf_23 : decode cX5_heatOf 23 = .ok (.iload_n 2, 1) := by decide +kernel
theorem dX5_heatOf_24 : decode cX5_heatOf 24 = .ok (.iaload, 1) := by decide +kernel
theorem dX5_heatOf_25 : decode cX5_heatOf 25 = .ok (.ireturn, 1) := by decide +kernel
theorem dX5_heatOf_26 : decode cX5_heatOf 26 = .ok (.aload_n 0, 1) := by decide +kernel
theorem dX5_heatOf_27 : decode cX5_heatOf 27 = .ok (.iload_n 2, 1) := by decide +kernel
theorem dX5_heatOf_28 : decode cX5_heatOf 28 = .ok (.bipush 47, 2) := by decide +kernel
theorem dX5_heatOf_30 : decode cX5_heatOf 30 = .ok (.invokevirtual 21, 3) := by decide +kernel
theorem dX5_heatOf_33 : decode cX5_heatOf 33 = .ok (.istore_n 3, 1) := by decide +kernel
theorem dX5_heatOf_34 : decode cX5_heatOf 34 = .ok (.aload_n 0, 1) := by decide +kernel
theorem dX5_heatOf_35 : decode cX5_heatOf 35 = .ok (.iload_n 2, 1) := by decide +kernel
theorem dX5_heatOf_36 : decode cX5_heatOf 36 = .ok (.iconst 1, 1) := by decide +kernel
theorem dX5_heatOf_37 : decode cX5_heatOf 37 = .ok (.invokevirtual 21, 3) := by decide +kernel
theorem dX5_heatOf_40 : decode cX5_heatOf 40 = .ok (.istore 4, 2) := by decide +kernel
theorem dX5_heatOf_42 : decode cX5_heatOf 42 = .ok (.iload_n 3, 1) := by decide +kernel
theorem dX5_heatOf_43 : decode cX5_heatOf 43 = .ok (.iload 4, 2) := by decide +kernel
theorem dX5_heatOf_45 : decode cX5_heatOf 45 = .ok (.invokestatic 24, 3) := by decide +kernel
theorem dX5_heatOf_48 : decode cX5_heatOf 48 = .ok (.istore 5, 2) := by decide +kernel
theorem dX5_heatOf_50 : decode cX5_heatOf 50 = .ok (.iload 5, 2) := by decide +kernel
theorem dX5_heatOf_52 : decode cX5_heatOf 52 = .ok (.sipush (-9999), 3) := by decide +kernel
theorem dX5_heatOf_55 : decode cX5_heatOf 55 = .ok (.if_icmp .ne 8, 3) := by decide +kernel
theorem dX5_heatOf_58 : decode cX5_heatOf 58 = .ok (.bipush (-100), 2) := by decide +kernel
theorem dX5_heatOf_60 : decode cX5_heatOf 60 = .ok (.goto 5, 3) := by decide +kernel
theorem dX5_heatOf_63 : decode cX5_heatOf 63 = .ok (.iload 5, 2) := by decide +kernel
theorem dX5_heatOf_65 : decode cX5_heatOf 65 = .ok (.ireturn, 1) := by decide +kernel
theorem dX5_nearest_0 : decode cX5_nearest 0 = .ok (.iload_n 1, 1) := by decide +kernel
theorem dX5_nearest_1 : decode cX5_nearest 1 = .ok (.istore_n 3, 1) := by decide +kernel
theorem dX5_nearest_2 : decode cX5_nearest 2 = .ok (.iconst 1, 1) := by decide +kernel
theorem dX5_nearest_3 : decode cX5_nearest 3 = .ok (.istore 4, 2) := by decide +kernel
theorem dX5_nearest_5 : decode cX5_nearest 5 = .ok (.iload 4, 2) := by decide +kernel
theorem dX5_nearest_7 : decode cX5_nearest 7 = .ok (.bipush 48, 2) := by decide +kernel
theorem dX5_nearest_9 : decode cX5_nearest 9 = .ok (.if_icmp .ge 35, 3) := by decide +kernel
theorem dX5_nearest_12 : decode cX5_nearest 12 = .ok (.iload_n 3, 1) := by decide +kernel
theorem dX5_nearest_13 : decode cX5_nearest 13 = .ok (.iload_n 2, 1) := by decide +kernel
theorem dX5_nearest_14 : decode cX5_nearest 14 = .ok (.iadd, 1) := by decide +kernel
theorem dX5_nearest_15 : decode cX5_nearest 15 = .ok (.bipush 48, 2) := by decide +kernel
theorem dX5_nearest_17 : decode cX5_nearest 17 = .ok (.irem, 1) := by decide +kernel
theorem dX5_nearest_18 : decode cX5_nearest 18 = .ok (.istore_n 3, 1) := by decide +kernel
theorem dX5_nearest_19 : decode cX5_nearest 19 = .ok (.aload_n 0, 1) := by decide +kernel
theorem dX5_nearest_20 : decode cX5_nearest 20 = .ok (.getfield 9, 3) := by decide +kernel
theorem dX5_nearest_23 : decode cX5_nearest 23 = .ok (.iload_n 3, 1) := by decide +kernel
theorem dX5_nearest_24 : decode cX5_nearest 24 = .ok (.iaload, 1) := by decide +kernel
theorem dX5_nearest_25 : decode cX5_nearest 25 = .ok (.sipush (-9999), 3) := by decide +kernel
theorem dX5_nearest_28 : decode cX5_nearest 28 = .ok (.if_icmp .eq 10, 3) := by decide +kernel
theorem dX5_nearest_31 : decode cX5_nearest 31 = .ok (.aload_n 0, 1) := by decide +kernel
theorem dX5_nearest_32 : decode cX5_nearest 32 = .ok (.getfield 9, 3) := by decide +kernel
theorem dX5_nearest_35 : decode cX5_nearest 35 = .ok (.iload_n 3, 1) := by decide +kernel
theorem dX5_nearest_36 : decode cX5_nearest 36 = .ok (.iaload, 1) := by decide +kernel
theorem dX5_nearest_37 : decode cX5_nearest 37 = .ok (.ireturn, 1) := by decide +kernel
theorem dX5_nearest_38 : decode cX5_nearest 38 = .ok (.iinc 4 1, 3) := by decide +kernel
theorem dX5_nearest_41 : decode cX5_nearest 41 = .ok (.goto (-36), 3) := by decide +kernel
theorem dX5_nearest_44 : decode cX5_nearest 44 = .ok (.sipush (-9999), 3) := by decide +kernel
theorem dX5_nearest_47 : decode cX5_nearest 47 = .ok (.ireturn, 1) := by decide +kernel
theorem dX6_init_0 : decode cX6_init 0 = .ok (.aload_n 0, 1) := by decide +kernel
theorem dX6_init_1 : decode cX6_init 1 = .ok (.invokespecial 1, 3) := by decide +kernel
theorem dX6_init_4 : decode cX6_init 4 = .ok (.aload_n 0, 1) := by decide +kernel
theorem dX6_init_5 : decode cX6_init 5 = .ok (.bipush 10, 2) := by decide +kernel
theorem dX6_init_7 : decode cX6_init 7 = .ok (.anewarray 9, 3) := by decide +kernel
theorem dX6_init_10 : decode cX6_init 10 = .ok (.putfield 11, 3) := by decide +kernel
theorem dX6_init_13 : decode cX6_init 13 = .ok (.aload_n 0, 1) := by decide +kernel
theorem dX6_init_14 : decode cX6_init 14 = .ok (.bipush 24, 2) := by decide +kernel
theorem dX6_init_16 : decode cX6_init 16 = .ok (.anewarray 15, 3) := by decide +kernel
theorem dX6_init_19 : decode cX6_init 19 = .ok (.putfield 17, 3) := by decide +kernel
theorem dX6_init_22 : decode cX6_init 22 = .ok (.aload_n 0, 1) := by decide +kernel
theorem dX6_init_23 : decode cX6_init 23 = .ok (.bipush 24, 2) := by decide +kernel
theorem dX6_init_25 : decode cX6_init 25 = .ok (.anewarray 15, 3) := by decide +kernel
theorem dX6_init_28 : decode cX6_init 28 = .ok (.putfield 21, 3) := by decide +kernel
theorem dX6_init_31 : decode cX6_init 31 = .ok (.aload_n 0, 1) := by decide +kernel
theorem dX6_init_32 : decode cX6_init 32 = .ok (.bipush 10, 2) := by decide +kernel
theorem dX6_init_34 : decode cX6_init 34 = .ok (.anewarray 24, 3) := by decide +kernel
theorem dX6_init_37 : decode cX6_init 37 = .ok (.putfield 26, 3) := by decide +kernel
theorem dX6_init_40 : decode cX6_init 40 = .ok (.aload_n 0, 1) := by decide +kernel
theorem dX6_init_41 : decode cX6_init 41 = .ok (.new 30, 3) := by decide +kernel
theorem dX6_init_44 : decode cX6_init 44 = .ok (.dup, 1) := by decide +kernel
theorem dX6_init_45 : decode cX6_init 45 = .ok (.invokespecial 32, 3) := by decide +kernel
theorem dX6_init_48 : decode cX6_init 48 = .ok (.putfield 33, 3) := by decide +kernel
theorem dX6_init_51 : decode cX6_init 51 = .ok (.aload_n 0, 1) := by decide +kernel
theorem dX6_init_52 : decode cX6_init 52 = .ok (.new 37, 3) := by decide +kernel
theorem dX6_init_55 : decode cX6_init 55 = .ok (.dup, 1) := by decide +kernel
theorem dX6_init_56 : decode cX6_init 56 = .ok (.invokespecial 39, 3) := by decide +kernel
theorem dX6_init_59 : decode cX6_init 59 = .ok (.putfield 40, 3) := by decide +kernel
theorem dX6_init_62 : decode cX6_init 62 = .ok (.aload_n 0, 1) := by decide +kernel
theorem dX6_init_63 : decode cX6_init 63 = .ok (.aload_n 0, 1) := by decide +kernel
theorem dX6_init_64 : decode cX6_init 64 = .ok (.getfield 40, 3) := by decide +kernel
theorem dX6_init_67 : decode cX6_init 67 = .ok (.getfield 44, 3) := by decide +kernel
theorem dX6_init_70 : decode cX6_init 70 = .ok (.putfield 48, 3) := by decide +kernel
theorem dX6_init_73 : decode cX6_init 73 = .ok (.aload_n 0, 1) := by decide +kernel
theorem dX6_init_74 : decode cX6_init 74 = .ok (.bipush 48, 2) := by decide +kernel
theorem dX6_init_76 : decode cX6_init 76 = .ok (.newarray .int, 2) := by decide +kernel
theorem dX6_init_78 : decode cX6_init 78 = .ok (.putfield 49, 3) := by decide +kernel
theorem dX6_init_81 : decode cX6_init 81 = .ok (.aload_n 0, 1) := by decide +kernel
theorem dX6_init_82 : decode cX6_init 82 = .ok (.bipush 7, 2) := by decide +kernel
theorem dX6_init_84 : decode cX6_init 84 = .ok (.newarray .int, 2) := by decide +kernel
theorem dX6_init_86 : decode cX6_init 86 = .ok (.putfield 53, 3) := by decide +kernel
theorem dX6_init_89 : decode cX6_init 89 = .ok (.aload_n 0, 1) := by decide +kernel
theorem dX6_init_90 : decode cX6_init 90 = .ok (.iconst 5, 1) := by decide +kernel
theorem dX6_init_91 : decode cX6_init 91 = .ok (.newarray .int, 2) := by decide +kernel
theorem dX6_init_93 : decode cX6_init 93 = .ok (.putfield 56, 3) := by decide +kernel
theorem dX6_init_96 : decode cX6_init 96 = .ok (.aload_n 0, 1) := by decide +kernel
theorem dX6_init_97 : decode cX6_init 97 = .ok (.new 9, 3) := by decide +kernel
theorem dX6_init_100 : decode cX6_init 100 = .ok (.dup, 1) := by decide +kernel
theorem dX6_init_101 : decode cX6_init 101 = .ok (.invokespecial 59, 3) := by decide +kernel
theorem dX6_init_104 : decode cX6_init 104 = .ok (.putfield 60, 3) := by decide +kernel
theorem dX6_init_107 : decode cX6_init 107 = .ok (.aload_n 0, 1) := by decide +kernel
theorem dX6_init_108 : decode cX6_init 108 = .ok (.iconst 0, 1) := by decide +kernel
theorem dX6_init_109 : decode cX6_init 109 = .ok (.putfield 64, 3) := by decide +kernel
theorem dX6_init_112 : decode cX6_init 112 = .ok (.aload_n 0, 1) := by decide +kernel
theorem dX6_init_113 : decode cX6_init 113 = .ok (.iconst 0, 1) := by decide +kernel
theorem dX6_init_114 : decode cX6_init 114 = .ok (.putfield 68, 3) := by decide +kernel
theorem dX6_init_117 : decode cX6_init 117 = .ok (.aload_n 0, 1) := by decide +kernel
theorem dX6_init_118 : decode cX6_init 118 = .ok (.iconst 0, 1) := by decide +kernel
theorem dX6_init_119 : decode cX6_init 119 = .ok (.putfield 72, 3) := by decide +kernel
theorem dX6_init_122 : decode cX6_init 122 = .ok (.aload_n 0, 1) := by decide +kernel
theorem dX6_init_123 : decode cX6_init 123 = .ok (.iconst 0, 1) := by decide +kernel
theorem dX6_init_124 : decode cX6_init 124 = .ok (.putfield 75, 3) := by decide +kernel
theorem dX6_init_127 : decode cX6_init 127 = .ok (.aload_n 0, 1) := by decide +kernel
theorem dX6_init_128 : decode cX6_init 128 = .ok (.iconst 0, 1) := by decide +kernel
theorem dX6_init_129 : decode cX6_init 129 = .ok (.putfield 78, 3) := by decide +kernel
theorem dX6_init_132 : decode cX6_init 132 = .ok (.iconst 0, 1) := by decide +kernel
theorem dX6_init_133 : decode cX6_init 133 = .ok (.istore_n 1, 1) := by decide +kernel
theorem dX6_init_134 : decode cX6_init 134 = .ok (.iload_n 1, 1) := by decide +kernel
theorem dX6_init_135 : decode cX6_init 135 = .ok (.bipush 10, 2) := by decide +kernel
theorem dX6_init_137 : decode cX6_init 137 = .ok (.if_icmp .ge 22, 3) := by decide +kernel
theorem dX6_init_140 : decode cX6_init 140 = .ok (.aload_n 0, 1) := by decide +kernel
theorem dX6_init_141 : decode cX6_init 141 = .ok (.getfield 11, 3) := by decide +kernel
theorem dX6_init_144 : decode cX6_init 144 = .ok (.iload_n 1, 1) := by decide +kernel
theorem dX6_init_145 : decode cX6_init 145 = .ok (.new 9, 3) := by decide +kernel
theorem dX6_init_148 : decode cX6_init 148 = .ok (.dup, 1) := by decide +kernel
theorem dX6_init_149 : decode cX6_init 149 = .ok (.invokespecial 59, 3) := by decide +kernel
theorem dX6_init_152 : decode cX6_init 152 = .ok (.aastore, 1) := by decide +kernel
theorem dX6_init_153 : decode cX6_init 153 = .ok (.iinc 1 1, 3) := by decide +kernel
theorem dX6_init_156 : decode cX6_init 156 = .ok (.goto (-22), 3) := by decide +kernel
theorem dX6_init_159 : decode cX6_init 159 = .ok (.iconst 0, 1) := by decide +kernel
theorem dX6_init_160 : decode cX6_init 160 = .ok (.istore_n 1, 1) := by decide +kernel
theorem dX6_init_161 : decode cX6_init 161 = .ok (.iload_n 1, 1) := by decide +kernel
theorem dX6_init_162 : decode cX6_init 162 = .ok (.bipush 24, 2) := by decide +kernel
theorem dX6_init_164 : decode cX6_init 164 = .ok (.if_icmp .ge 34, 3) := by decide +kernel
theorem dX6_init_167 : decode cX6_init 167 = .ok (.aload_n 0, 1) := by decide +kernel
theorem dX6_init_168 : decode cX6_init 168 = .ok (.getfield 17, 3) := by decide +kernel
theorem dX6_init_171 : decode cX6_init 171 = .ok (.iload_n 1, 1) := by decide +kernel
theorem dX6_init_172 : decode cX6_init 172 = .ok (.new 15, 3) := by decide +kernel
theorem dX6_init_175 : decode cX6_init 175 = .ok (.dup, 1) := by decide +kernel
theorem dX6_init_176 : decode cX6_init 176 = .ok (.invokespecial 81, 3) := by decide +kernel
theorem dX6_init_179 : decode cX6_init 179 = .ok (.aastore, 1) := by decide +kernel
theorem dX6_init_180 : decode cX6_init 180 = .ok (.aload_n 0, 1) := by decide +kernel
theorem dX6_init_181 : decode cX6_init 181 = .ok (.getfield 21, 3) := by decide +kernel
theorem dX6_init_184 : decode cX6_init 184 = .ok (.iload_n 1, 1) := by decide +kernel
theorem dX6_init_185 : decode cX6_init 185 = .ok (.aload_n 0, 1) := by decide +kernel
theorem dX6_init_186 : decode cX6_init 186 = .ok (.getfield 17, 3) := by decide +kernel
theorem dX6_init_189 : decode cX6_init 189 = .ok (.iload_n 1, 1) := by decide +kernel
theorem dX6_init_190 : decode cX6_init 190 = .ok (.aaload, 1) := by decide +kernel
theorem dX6_init_191 : decode cX6_init 191 = .ok (.aastore, 1) := by decide +kernel
theorem dX6_init_192 : decode cX6_init 192 = .ok (.iinc 1 1, 3) := by decide +kernel
theorem dX6_init_195 : decode cX6_init 195 = .ok (.goto (-34), 3) := by decide +kernel
theorem dX6_init_198 : decode cX6_init 198 = .ok (.iconst 0, 1) := by decide +kernel
theorem dX6_init_199 : decode cX6_init 199 = .ok (.istore_n 1, 1) := by decide +kernel
theorem dX6_init_200 : decode cX6_init 200 = .ok (.iload_n 1, 1) := by decide +kernel
theorem dX6_init_201 : decode cX6_init 201 = .ok (.bipush 10, 2) := by decide +kernel
theorem dX6_init_203 : decode cX6_init 203 = .ok (.if_icmp .ge 22, 3) := by decide +kernel
theorem dX6_init_206 : decode cX6_init 206 = .ok (.aload_n 0, 1) := by decide +kernel
theorem dX6_init_207 : decode cX6_init 207 = .ok (.getfield 26, 3) := by decide +kernel
theorem dX6_init_210 : decode cX6_init 210 = .ok (.iload_n 1, 1) := by decide +kernel
theorem dX6_init_211 : decode cX6_init 211 = .ok (.new 24, 3) := by decide +kernel
theorem dX6_init_214 : decode cX6_init 214 = .ok (.dup, 1) := by decide +kernel
theorem dX6_init_215 : decode cX6_init 215 = .ok (.invokespecial 82, 3) := by decide +kernel
theorem dX6_init_218 : decode cX6_init 218 = .ok (.aastore, 1) := by decide +kernel
theorem dX6_init_219 : decode cX6_init 219 = .ok (.iinc 1 1, 3) := by decide +kernel
theorem dX6_init_222 : decode cX6_init 222 = .ok (.goto (-22), 3) := by decide +kernel
theorem dX6_init_225 : decode cX6_init 225 = .ok (.aload_n 0, 1) := by decide +kernel
theorem dX6_init_226 : decode cX6_init 226 = .ok (.getfield 11, 3) := by decide +kernel
theorem dX6_init_229 : decode cX6_init 229 = .ok (.iconst 0, 1) := by decide +kernel
theorem dX6_init_230 : decode cX6_init 230 = .ok (.aaload, 1) := by decide +kernel
theorem dX6_init_231 : decode cX6_init 231 = .ok (.bipush 20, 2) := by decide +kernel
theorem dX6_init_233 : decode cX6_init 233 = .ok (.iconst 1, 1) := by decide +kernel
theorem dX6_init_234 : decode cX6_init 234 = .ok (.iconst 0, 1) := by decide +kernel
theorem dX6_init_235 : decode cX6_init 235 = .ok (.invokevirtual 83, 3) := by decide +kernel
theorem dX6_init_238 : decode cX6_init 238 = .ok (.aload_n 0, 1) := by decide +kernel
theorem dX6_init_239 : decode cX6_init 239 = .ok (.getfield 11, 3) := by decide +kernel
theorem dX6_init_242 : decode cX6_init 242 = .ok (.iconst 1, 1) := by decide +kernel
theorem dX6_init_243 : decode cX6_init 243 = .ok (.aaload, 1) := by decide +kernel
theorem dX6_init_244 : decode cX6_init 244 = .ok (.bipush 20, 2) := by decide +kernel
theorem dX6_init_246 : decode cX6_init 246 = .ok (.iconst 1, 1) := by decide +kernel
theorem dX6_init_247 : decode cX6_init 247 = .ok (.iconst 0, 1) := by decide +kernel
theorem dX6_init_248 : decode cX6_init 248 = .ok (.invokevirtual 83, 3) := by decide +kernel
theorem dX6_init_251 : decode cX6_init 251 = .ok (.aload_n 0, 1) := by decide +kernel
theorem dX6_init_252 : decode cX6_init 252 = .ok (.iconst 2, 1) := by decide +kernel
theorem dX6_init_253 : decode cX6_init 253 = .ok (.putfield 68, 3) := by decide +kernel
theorem dX6_init_256 : decode cX6_init 256 = .ok (.return_, 1) := by decide +kernel
theorem dX6_cell_0 : decode cX6_cell 0 = .ok (.iload_n 1, 1) := by decide +kernel
theorem dX6_cell_1 : decode cX6_cell 1 = .ok (.iconst 1, 1) := by decide +kernel
theorem dX6_cell_2 : decode cX6_cell 2 = .ok (.bipush 60, 2) := by decide +kernel
theorem dX6_cell_4 : decode cX6_cell 4 = .ok (.invokestatic 87, 3) := by decide +kernel
theorem dX6_cell_7 : decode cX6_cell 7 = .ok (.ifCond .eq 19, 3) := by decide +kernel
theorem dX6_cell_10 : decode cX6_cell 10 = .ok (.iload_n 2, 1) := by decide +kernel
theorem dX6_cell_11 : decode cX6_cell 11 = .ok (.iconst 1, 1) := by decide +kernel
theorem dX6_cell_12 : decode cX6_cell 12 = .ok (.iconst 4, 1) := by decide +kernel
theorem dX6_cell_13 : decode cX6_cell 13 = .ok (.invokestatic 87, 3) := by decide +kernel
theorem dX6_cell_16 : decode cX6_cell 16 = .ok (.ifCond .eq 10, 3) := by decide +kernel
theorem dX6_cell_19 : decode cX6_cell 19 = .ok (.aload_n 0, 1) := by decide +kernel
theorem dX6_cell_20 : decode cX6_cell 20 = .ok (.getfield 72, 3) := by decide +kernel
theorem dX6_cell_23 : decode cX6_cell 23 = .ok (.ifCond .le 10, 3) := by decide +kernel
theorem dX6_cell_26 : decode cX6_cell 26 = .ok (.aload_n 0, 1) := by decide +kernel
theorem dX6_cell_27 : decode cX6_cell 27 = .ok (.bipush (-7), 2) := by decide +kernel
theorem dX6_cell_29 : decode cX6_cell 29 = .ok (.invokevirtual 91, 3) := by decide +kernel
theorem dX6_cell_32 : decode cX6_cell 32 = .ok (.ireturn, 1) := by decide +kernel
theorem dX6_cell_33 : decode cX6_cell 33 = .ok (.aload_n 0, 1) := by decide +kernel
theorem dX6_cell_34 : decode cX6_cell 34 = .ok (.getfield 68, 3) := by decide +kernel
theorem dX6_cell_37 : decode cX6_cell 37 = .ok (.bipush 10, 2) := by decide +kernel
theorem dX6_cell_39 : decode cX6_cell 39 = .ok (.if_icmp .lt 10, 3) := by decide +kernel
theorem dX6_cell_42 : decode cX6_cell 42 = .ok (.aload_n 0, 1) := by decide +kernel
theorem dX6_cell_43 : decode cX6_cell 43 = .ok (.bipush (-8), 2) := by decide +kernel
theorem dX6_cell_45 : decode cX6_cell 45 = .ok (.invokevirtual 91, 3) := by decide +kernel
theorem dX6_cell_48 : decode cX6_cell 48 = .ok (.ireturn, 1) := by decide +kernel
theorem dX6_cell_49 : decode cX6_cell 49 = .ok (.aload_n 0, 1) := by decide +kernel
theorem dX6_cell_50 : decode cX6_cell 50 = .ok (.getfield 11, 3) := by decide +kernel
theorem dX6_cell_53 : decode cX6_cell 53 = .ok (.aload_n 0, 1) := by decide +kernel
theorem dX6_cell_54 : decode cX6_cell 54 = .ok (.getfield 68, 3) := by decide +kernel
theorem dX6_cell_57 : decode cX6_cell 57 = .ok (.aaload, 1) := by decide +kernel
theorem dX6_cell_58 : decode cX6_cell 58 = .ok (.iload_n 1, 1) := by decide +kernel
theorem dX6_cell_59 : decode cX6_cell 59 = .ok (.iload_n 2, 1) := by decide +kernel
theorem dX6_cell_60 : decode cX6_cell 60 = .ok (.iload_n 3, 1) := by decide +kernel
theorem dX6_cell_61 : decode cX6_cell 61 = .ok (.ifCond .eq 7, 3) := by decide +kernel
theorem dX6_cell_64 : decode cX6_cell 64 = .ok (.iconst 4, 1) := by decide +kernel
theorem dX6_cell_65 : decode cX6_cell 65 = .ok (.goto 4, 3) := by decide +kernel
theorem dX6_cell_68 : decode cX6_cell 68 = .ok (.iconst 0, 1) := by decide +kernel
theorem dX6_cell_69 : decode cX6_cell 69 = .ok (.invokevirtual 83, 3) := by decide +kernel
theorem dX6_cell_72 : decode cX6_cell 72 = .ok (.aload_n 0, 1) := by decide +kernel
theorem dX6_cell_73 : decode cX6_cell 73 = .ok (.dup, 1) := by decide +kernel
theorem dX6_cell_74 : decode cX6_cell 74 = .ok (.getfield 68, 3) := by decide +kernel
theorem dX6_cell_77 : decode cX6_cell 77 = .ok (.iconst 1, 1) := by decide +kernel
theorem dX6_cell_78 : decode cX6_cell 78 = .ok (.iadd, 1) := by decide +kernel
theorem dX6_cell_79 : decode cX6_cell 79 = .ok (.putfield 68, 3) := by decide +kernel
theorem dX6_cell_82 : decode cX6_cell 82 = .ok (.aload_n 0, 1) := by decide +kernel
theorem dX6_cell_83 : decode cX6_cell 83 = .ok (.getfield 68, 3) := by decide +kernel
theorem dX6_cell_86 : decode cX6_cell 86 = .ok (.iconst 1, 1) := by decide +kernel
theorem dX6_cell_87 : decode cX6_cell 87 = .ok (.isub, 1) := by decide +kernel
theorem dX6_cell_88 : decode cX6_cell 88 = .ok (.ireturn, 1) := by decide +kernel
theorem dX6_look_0 : decode cX6_look 0 = .ok (.aload_n 0, 1) := by decide +kernel
theorem dX6_look_1 : decode cX6_look 1 = .ok (.iload_n 1, 1) := by decide +kernel
theorem dX6_look_2 : decode cX6_look 2 = .ok (.invokevirtual 95, 3) := by decide +kernel
theorem dX6_look_5 : decode cX6_look 5 = .ok (.ifCond .ne 10, 3) := by decide +kernel
theorem dX6_look_8 : decode cX6_look 8 = .ok (.aload_n 0, 1) := by decide +kernel
theorem dX6_look_9 : decode cX6_look 9 = .ok (.bipush (-3), 2) := by decide +kernel
theorem dX6_look_11 : decode cX6_look 11 = .ok (.invokevirtual 91, 3) := by decide +kernel
theorem dX6_look_14 : decode cX6_look 14 = .ok (.ireturn, 1) := by decide +kernel
theorem dX6_look_15 : decode cX6_look 15 = .ok (.aload_n 0, 1) := by decide +kernel
theorem dX6_look_16 : decode cX6_look 16 = .ok (.getfield 11, 3) := by decide +kernel
theorem dX6_look_19 : decode cX6_look 19 = .ok (.iload_n 1, 1) := by decide +kernel
theorem dX6_look_20 : decode cX6_look 20 = .ok (.aaload, 1) := by decide +kernel
theorem dX6_look_21 : decode cX6_look 21 = .ok (.astore_n 3, 1) := by decide +kernel
theorem dX6_look_22 : decode cX6_look 22 = .ok (.iload_n 2, 1) := by decide +kernel
theorem dX6_look_23 : decode cX6_look 23 = .ok (.tableswitch 118 0 9 #[53, 58, 63, 68, 73, 78, 83, 100, 106, 112], 53) := by decide +kernel
theorem dX6_look_76 : decode cX6_look 76 = .ok (.aload_n 3, 1) := by decide +kernel
theorem dX6_look_77 : decode cX6_look 77 = .ok (.getfield 99, 3) := by decide +kernel
theorem dX6_look_80 : decode cX6_look 80 = .ok (.ireturn, 1) := by decide +kernel
theorem dX6_look_81 : decode cX6_look 81 = .ok (.aload_n 3, 1) := by decide +kernel
theorem dX6_look_82 : decode cX6_look 82 = .ok (.getfield 102, 3) := by decide +kernel
theorem dX6_look_85 : decode cX6_look 85 = .ok (.ireturn, 1) := by decide +kernel
theorem dX6_look_86 : decode cX6_look 86 = .ok (.aload_n 3, 1) := by decide +kernel
theorem dX6_look_87 : decode cX6_look 87 = .ok (.getfield 105, 3) := by decide +kernel
theorem dX6_look_90 : decode cX6_look 90 = .ok (.ireturn, 1) := by decide +kernel
theorem dX6_look_91 : decode cX6_look 91 = .ok (.aload_n 3, 1) := by decide +kernel
theorem dX6_look_92 : decode cX6_look 92 = .ok (.getfield 108, 3) := by decide +kernel
theorem dX6_look_95 : decode cX6_look 95 = .ok (.ireturn, 1) := by decide +kernel
theorem dX6_look_96 : decode cX6_look 96 = .ok (.aload_n 3, 1) := by decide +kernel
theorem dX6_look_97 : decode cX6_look 97 = .ok (.getfield 111, 3) := by decide +kernel
theorem dX6_look_100 : decode cX6_look 100 = .ok (.ireturn, 1) := by decide +kernel
theorem dX6_look_101 : decode cX6_look 101 = .ok (.aload_n 3, 1) := by decide +kernel
theorem dX6_look_102 : decode cX6_look 102 = .ok (.getfield 114, 3) := by decide +kernel
theorem dX6_look_105 : decode cX6_look 105 = .ok (.ireturn, 1) := by decide +kernel
theorem dX6_look_106 : decode cX6_look 106 = .ok (.aload_n 3, 1) := by decide +kernel
theorem dX6_look_107 : decode cX6_look 107 = .ok (.getfield 99, 3) := by decide +kernel
theorem dX6_look_110 : decode cX6_look 110 = .ok (.iconst 3, 1) := by decide +kernel
theorem dX6_look_111 : decode cX6_look 111 = .ok (.if_icmp .ne 10, 3) := by decide +kernel
theorem dX6_look_114 : decode cX6_look 114 = .ok (.aload_n 3, 1) := by decide +kernel
theorem dX6_look_115 : decode cX6_look 115 = .ok (.getfield 117, 3) := by decide +kernel
theorem dX6_look_118 : decode cX6_look 118 = .ok (.goto 4, 3) := by decide +kernel
theorem dX6_look_121 : decode cX6_look 121 = .ok (.iconst (-1), 1) := by decide +kernel
theorem dX6_look_122 : decode cX6_look 122 = .ok (.ireturn, 1) := by decide +kernel
theorem dX6_look_123 : decode cX6_look 123 = .ok (.aload_n 0, 1) := by decide +kernel
theorem dX6_look_124 : decode cX6_look 124 = .ok (.iload_n 1, 1) := by decide +kernel
theorem dX6_look_125 : decode cX6_look 125 = .ok (.invokevirtual 120, 3) := by decide +kernel
theorem dX6_look_128 : decode cX6_look 128 = .ok (.ireturn, 1) := by decide +kernel
theorem dX6_look_129 : decode cX6_look 129 = .ok (.aload_n 0, 1) := by decide +kernel
theorem dX6_look_130 : decode cX6_look 130 = .ok (.iload_n 1, 1) := by decide +kernel
theorem dX6_look_131 : decode cX6_look 131 = .ok (.invokevirtual 123, 3) := by decide +kernel
theorem dX6_look_134 : decode cX6_look 134 = .ok (.ireturn, 1) := by decide +kernel
theorem dX6_look_135 : decode cX6_look 135 = .ok (.aload_n 0, 1) := by decide +kernel
theorem dX6_look_136 : decode cX6_look 136 = .ok (.iload_n 1, 1) := by decide +kernel
theorem dX6_look_137 : decode cX6_look 137 = .ok (.invokevirtual 126, 3) := by decide +kernel
theorem dX6_look_140 : decode cX6_look 140 = .ok (.ireturn, 1) := by decide +kernel
theorem dX6_look_141 : decode cX6_look 141 = .ok (.aload_n 0, 1) := by decide +kernel
theorem dX6_look_142 : decode cX6_look 142 = .ok (.bipush (-7), 2) := by decide +kernel
theorem dX6_look_144 : decode cX6_look 144 = .ok (.invokevirtual 91, 3) := by decide +kernel
theorem dX6_look_147 : decode cX6_look 147 = .ok (.ireturn, 1) := by decide +kernel
theorem dX6_thick_0 : decode cX6_thick 0 = .ok (.aload_n 0, 1) := by decide +kernel
theorem dX6_thick_1 : decode cX6_thick 1 = .ok (.iload_n 1, 1) := by decide +kernel
theorem dX6_thick_2 : decode cX6_thick 2 = .ok (.invokevirtual 95, 3) := by decide +kernel
theorem dX6_thick_5 : decode cX6_thick 5 = .ok (.ifCond .ne 10, 3) := by decide +kernel
theorem dX6_thick_8 : decode cX6_thick 8 = .ok (.aload_n 0, 1) := by decide +kernel
theorem dX6_thick_9 : decode cX6_thick 9 = .ok (.bipush (-3), 2) := by decide +kernel
theorem dX6_thick_11 : decode cX6_thick 11 = .ok (.invokevirtual 91, 3) := by decide +kernel
theorem dX6_thick_14 : decode cX6_thick 14 = .ok (.ireturn, 1) := by decide +kernel
theorem dX6_thick_15 : decode cX6_thick 15 = .ok (.aload_n 0, 1) := by decide +kernel
theorem dX6_thick_16 : decode cX6_thick 16 = .ok (.getfield 11, 3) := by decide +kernel
theorem dX6_thick_19 : decode cX6_thick 19 = .ok (.iload_n 1, 1) := by decide +kernel
theorem dX6_thick_20 : decode cX6_thick 20 = .ok (.aaload, 1) := by decide +kernel
theorem dX6_thick_21 : decode cX6_thick 21 = .ok (.astore_n 3, 1) := by decide +kernel
theorem dX6_thick_22 : decode cX6_thick 22 = .ok (.aload_n 3, 1) := by decide +kernel
theorem dX6_thick_23 : decode cX6_thick 23 = .ok (.getfield 99, 3) := by decide +kernel
theorem dX6_thick_26 : decode cX6_thick 26 = .ok (.iconst 4, 1) := by decide +kernel
theorem dX6_thick_27 : decode cX6_thick 27 = .ok (.if_icmp .ne 10, 3) := by decide +kernel
theorem dX6_thick_30 : decode cX6_thick 30 = .ok (.aload_n 0, 1) := by decide +kernel
theorem dX6_thick_31 : decode cX6_thick 31 = .ok (.bipush (-5), 2) := by decide +kernel
theorem dX6_thick_33 : decode cX6_thick 33 = .ok (.invokevirtual 91, 3) := by decide +kernel
theorem dX6_thick_36 : decode cX6_thick 36 = .ok (.ireturn, 1) := by decide +kernel
theorem dX6_thick_37 : decode cX6_thick 37 = .ok (.iload_n 2, 1) := by decide +kernel
theorem dX6_thick_38 : decode cX6_thick 38 = .ok (.iconst 0, 1) := by decide +kernel
theorem dX6_thick_39 : decode cX6_thick 39 = .ok (.sipush 3000, 3) := by decide +kernel
theorem dX6_thick_42 : decode cX6_thick 42 = .ok (.invokestatic 87, 3) := by decide +kernel
theorem dX6_thick_45 : decode cX6_thick 45 = .ok (.ifCond .ne 10, 3) := by decide +kernel
theorem dX6_thick_48 : decode cX6_thick 48 = .ok (.aload_n 0, 1) := by decide +kernel
theorem dX6_thick_49 : decode cX6_thick 49 = .ok (.bipush (-7), 2) := by decide +kernel
theorem dX6_thick_51 : decode cX6_thick 51 = .ok (.invokevirtual 91, 3) := by decide +kernel
theorem dX6_thick_54 : decode cX6_thick 54 = .ok (.ireturn, 1) := by decide +kernel
theorem dX6_thick_55 : decode cX6_thick 55 = .ok (.aload_n 3, 1) := by decide +kernel
theorem dX6_thick_56 : decode cX6_thick 56 = .ok (.getfield 102, 3) := by decide +kernel
theorem dX6_thick_59 : decode cX6_thick 59 = .ok (.istore 4, 2) := by decide +kernel
theorem dX6_thick_61 : decode cX6_thick 61 = .ok (.aload_n 3, 1) := by decide +kernel
theorem dX6_thick_62 : decode cX6_thick 62 = .ok (.iload_n 2, 1) := by decide +kernel
theorem dX6_thick_63 : decode cX6_thick 63 = .ok (.putfield 102, 3) := by decide +kernel
theorem dX6_thick_66 : decode cX6_thick 66 = .ok (.iload 4, 2) := by decide +kernel
theorem dX6_thick_68 : decode cX6_thick 68 = .ok (.ireturn, 1) := by decide +kernel
theorem dX6_read_0 : decode cX6_read 0 = .ok (.aload_n 0, 1) := by decide +kernel
theorem dX6_read_1 : decode cX6_read 1 = .ok (.iload_n 1, 1) := by decide +kernel
theorem dX6_read_2 : decode cX6_read 2 = .ok (.invokevirtual 95, 3) := by decide +kernel
theorem dX6_read_5 : decode cX6_read 5 = .ok (.ifCond .ne 10, 3) := by decide +kernel
theorem dX6_read_8 : decode cX6_read 8 = .ok (.aload_n 0, 1) := by decide +kernel
theorem dX6_read_9 : decode cX6_read 9 = .ok (.bipush (-3), 2) := by decide +kernel
theorem dX6_read_11 : decode cX6_read 11 = .ok (.invokevirtual 91, 3) := by decide +kernel
theorem dX6_read_14 : decode cX6_read 14 = .ok (.ireturn, 1) := by decide +kernel
theorem dX6_read_15 : decode cX6_read 15 = .ok (.aload_n 0, 1) := by decide +kernel
theorem dX6_read_16 : decode cX6_read 16 = .ok (.getfield 11, 3) := by decide +kernel
theorem dX6_read_19 : decode cX6_read 19 = .ok (.iload_n 1, 1) := by decide +kernel
theorem dX6_read_20 : decode cX6_read 20 = .ok (.aaload, 1) := by decide +kernel
theorem dX6_read_21 : decode cX6_read 21 = .ok (.astore_n 2, 1) := by decide +kernel
theorem dX6_read_22 : decode cX6_read 22 = .ok (.aload_n 2, 1) := by decide +kernel
theorem dX6_read_23 : decode cX6_read 23 = .ok (.getfield 99, 3) := by decide +kernel
theorem dX6_read_26 : decode cX6_read 26 = .ok (.iconst 4, 1) := by decide +kernel
theorem dX6_read_27 : decode cX6_read 27 = .ok (.if_icmp .ne 10, 3) := by decide +kernel
theorem dX6_read_30 : decode cX6_read 30 = .ok (.aload_n 0, 1) := by decide +kernel
theorem dX6_read_31 : decode cX6_read 31 = .ok (.bipush (-5), 2) := by decide +kernel
theorem dX6_read_33 : decode cX6_read 33 = .ok (.invokevirtual 91, 3) := by decide +kernel
theorem dX6_read_36 : decode cX6_read 36 = .ok (.ireturn, 1) := by decide +kernel
theorem dX6_read_37 : decode cX6_read 37 = .ok (.aload_n 2, 1) := by decide +kernel
theorem dX6_read_38 : decode cX6_read 38 = .ok (.aload_n 2, 1) := by decide +kernel
theorem dX6_read_39 : decode cX6_read 39 = .ok (.getfield 102, 3) := by decide +kernel
theorem dX6_read_42 : decode cX6_read 42 = .ok (.putfield 129, 3) := by decide +kernel
theorem dX6_read_45 : decode cX6_read 45 = .ok (.aload_n 2, 1) := by decide +kernel
theorem dX6_read_46 : decode cX6_read 46 = .ok (.getfield 102, 3) := by decide +kernel
theorem dX6_read_49 : decode cX6_read 49 = .ok (.ireturn, 1) := by decide +kernel
theorem dX6_bears_0 : decode cX6_bears 0 = .ok (.aload_n 0, 1) := by decide +kernel
theorem dX6_bears_1 : decode cX6_bears 1 = .ok (.iload_n 1, 1) := by decide +kernel
theorem dX6_bears_2 : decode cX6_bears 2 = .ok (.invokevirtual 95, 3) := by decide +kernel
theorem dX6_bears_5 : decode cX6_bears 5 = .ok (.ifCond .ne 10, 3) := by decide +kernel
theorem dX6_bears_8 : decode cX6_bears 8 = .ok (.aload_n 0, 1) := by decide +kernel
theorem dX6_bears_9 : decode cX6_bears 9 = .ok (.bipush (-3), 2) := by decide +kernel
theorem dX6_bears_11 : decode cX6_bears 11 = .ok (.invokevirtual 91, 3) := by decide +kernel
theorem dX6_bears_14 : decode cX6_bears 14 = .ok (.ireturn, 1) := by decide +kernel
theorem dX6_bears_15 : decode cX6_bears 15 = .ok (.iload_n 2, 1) := by decide +kernel
theorem dX6_bears_16 : decode cX6_bears 16 = .ok (.iconst 1, 1) := by decide +kernel
theorem dX6_bears_17 : decode cX6_bears 17 = .ok (.bipush 99, 2) := by decide +kernel
theorem dX6_bears_19 : decode cX6_bears 19 = .ok (.invokestatic 87, 3) := by decide +kernel
theorem dX6_bears_22 : decode cX6_bears 22 = .ok (.ifCond .ne 10, 3) := by decide +kernel
theorem dX6_bears_25 : decode cX6_bears 25 = .ok (.aload_n 0, 1) := by decide +kernel
theorem dX6_bears_26 : decode cX6_bears 26 = .ok (.bipush (-7), 2) := by decide +kernel
theorem dX6_bears_28 : decode cX6_bears 28 = .ok (.invokevirtual 91, 3) := by decide +kernel
theorem dX6_bears_31 : decode cX6_bears 31 = .ok (.ireturn, 1) := by decide +kernel
theorem dX6_bears_32 : decode cX6_bears 32 = .ok (.aload_n 0, 1) := by decide +kernel
theorem dX6_bears_33 : decode cX6_bears 33 = .ok (.getfield 11, 3) := by decide +kernel
theorem dX6_bears_36 : decode cX6_bears 36 = .ok (.iload_n 1, 1) := by decide +kernel
theorem dX6_bears_37 : decode cX6_bears 37 = .ok (.aaload, 1) := by decide +kernel
theorem dX6_bears_38 : decode cX6_bears 38 = .ok (.iload_n 2, 1) := by decide +kernel
theorem dX6_bears_39 : decode cX6_bears 39 = .ok (.invokevirtual 132, 3) := by decide +kernel
theorem dX6_bears_42 : decode cX6_bears 42 = .ok (.ifCond .eq 7, 3) := by decide +kernel
theorem dX6_bears_45 : decode cX6_bears 45 = .ok (.iconst 1, 1) := by decide +kernel
theorem dX6_bears_46 : decode cX6_bears 46 = .ok (.goto 4, 3) := by decide +kernel
theorem dX6_bears_49 : decode cX6_bears 49 = .ok (.iconst 0, 1) := by decide +kernel
theorem dX6_bears_50 : decode cX6_bears 50 = .ok (.ireturn, 1) := by decide +kernel
theorem dX6_weather_0 : decode cX6_weather 0 = .ok (.iload_n 1, 1) := by decide +kernel
theorem dX6_weather_1 : decode cX6_weather 1 = .ok (.iconst 0, 1) := by decide +kernel
theorem dX6_weather_2 : decode cX6_weather 2 = .ok (.bipush 47, 2) := by decide +kernel
theorem dX6_weather_4 : decode cX6_weather 4 = .ok (.invokestatic 87, 3) := by decide +kernel
theorem dX6_weather_7 : decode cX6_weather 7 = .ok (.ifCond .ne 12, 3) := by decide +kernel
theorem dX6_weather_10 : decode cX6_weather 10 = .ok (.aload_n 0, 1) := by decide +kernel
theorem dX6_weather_11 : decode cX6_weather 11 = .ok (.bipush (-3), 2) := by decide +kernel
theorem dX6_weather_13 : decode cX6_weather 13 = .ok (.invokevirtual 91, 3) := by decide +kernel
theorem dX6_weather_16 : decode cX6_weather 16 = .ok (.pop, 1) := by decide +kernel
theorem dX6_weather_17 : decode cX6_weather 17 = .ok (.iconst 0, 1) := by decide +kernel
theorem dX6_weather_18 : decode cX6_weather 18 = .ok (.ireturn, 1) := by decide +kernel
theorem dX6_weather_19 : decode cX6_weather 19 = .ok (.iload_n 2, 1) := by decide +kernel
theorem dX6_weather_20 : decode cX6_weather 20 = .ok (.sipush (-9999), 3) := by decide +kernel
theorem dX6_weather_23 : decode cX6_weather 23 = .ok (.if_icmp .eq 25, 3) := by decide +kernel
theorem dX6_weather_26 : decode cX6_weather 26 = .ok (.iload_n 2, 1) := by decide +kernel
theorem dX6_weather_27 : decode cX6_weather 27 = .ok (.sipush (-600), 3) := by decide +kernel
theorem dX6_weather_30 : decode cX6_weather 30 = .ok (.sipush 300, 3) := by decide +kernel
theorem dX6_weather_33 : decode cX6_weather 33 = .ok (.invokestatic 87, 3) := by decide +kernel
theorem dX6_weather_36 : decode cX6_weather 36 = .ok (.ifCond .ne 12, 3) := by decide +kernel
theorem dX6_weather_39 : decode cX6_weather 39 = .ok (.aload_n 0, 1) := by decide +kernel
theorem dX6_weather_40 : decode cX6_weather 40 = .ok (.bipush (-7), 2) := by decide +kernel
theorem dX6_weather_42 : decode cX6_weather 42 = .ok (.invokevirtual 91, 3) := by decide +kernel
theorem dX6_weather_45 : decode cX6_weather 45 = .ok (.pop, 1) := by decide +kernel
theorem dX6_weather_46 : decode cX6_weather 46 = .ok (.iconst 0, 1) := by decide +kernel
theorem dX6_weather_47 : decode cX6_weather 47 = .ok (.ireturn, 1) := by decide +kernel
theorem dX6_weather_48 : decode cX6_weather 48 = .ok (.aload_n 0, 1) := by decide +kernel
theorem dX6_weather_49 : decode cX6_weather 49 = .ok (.getfield 33, 3) := by decide +kernel
theorem dX6_weather_52 : decode cX6_weather 52 = .ok (.getfield 135, 3) := by decide +kernel
theorem dX6_weather_55 : decode cX6_weather 55 = .ok (.iload_n 1, 1) := by decide +kernel
theorem dX6_weather_56 : decode cX6_weather 56 = .ok (.iaload, 1) := by decide +kernel
theorem dX6_weather_57 : decode cX6_weather 57 = .ok (.istore_n 3, 1) := by decide +kernel
theorem dX6_weather_58 : decode cX6_weather 58 = .ok (.aload_n 0, 1) := by decide +kernel
theorem dX6_weather_59 : decode cX6_weather 59 = .ok (.getfield 33, 3) := by decide +kernel
theorem dX6_weather_62 : decode cX6_weather 62 = .ok (.getfield 135, 3) := by decide +kernel
theorem dX6_weather_65 : decode cX6_weather 65 = .ok (.iload_n 1, 1) := by decide +kernel
theorem dX6_weather_66 : decode cX6_weather 66 = .ok (.iload_n 2, 1) := by decide +kernel
theorem dX6_weather_67 : decode cX6_weather 67 = .ok (.iastore, 1) := by decide +kernel
theorem dX6_weather_68 : decode cX6_weather 68 = .ok (.iload_n 3, 1) := by decide +kernel
theorem dX6_weather_69 : decode cX6_weather 69 = .ok (.ireturn, 1) := by decide +kernel
theorem dX6_cold_0 : decode cX6_cold 0 = .ok (.aload_n 0, 1) := by decide +kernel
theorem dX6_cold_1 : decode cX6_cold 1 = .ok (.getfield 64, 3) := by decide +kernel
theorem dX6_cold_4 : decode cX6_cold 4 = .ok (.ifCond .ne 10, 3) := by decide +kernel
theorem dX6_cold_7 : decode cX6_cold 7 = .ok (.aload_n 0, 1) := by decide +kernel
theorem dX6_cold_8 : decode cX6_cold 8 = .ok (.bipush (-2), 2) := by decide +kernel
theorem dX6_cold_10 : decode cX6_cold 10 = .ok (.invokevirtual 91, 3) := by decide +kernel
theorem dX6_cold_13 : decode cX6_cold 13 = .ok (.ireturn, 1) := by decide +kernel
theorem dX6_cold_14 : decode cX6_cold 14 = .ok (.iconst 0, 1) := by decide +kernel
theorem dX6_cold_15 : decode cX6_cold 15 = .ok (.istore_n 1, 1) := by decide +kernel
theorem dX6_cold_16 : decode cX6_cold 16 = .ok (.iconst 0, 1) := by decide +kernel
theorem dX6_cold_17 : decode cX6_cold 17 = .ok (.istore_n 2, 1) := by decide +kernel
theorem dX6_cold_18 : decode cX6_cold 18 = .ok (.iload_n 2, 1) := by decide +kernel
theorem dX6_cold_19 : decode cX6_cold 19 = .ok (.bipush 48, 2) := by decide +kernel
theorem dX6_cold_21 : decode cX6_cold 21 = .ok (.if_icmp .ge 62, 3) := by decide +kernel
theorem dX6_cold_24 : decode cX6_cold 24 = .ok (.aload_n 0, 1) := by decide +kernel
theorem dX6_cold_25 : decode cX6_cold 25 = .ok (.getfield 49, 3) := by decide +kernel
theorem dX6_cold_28 : decode cX6_cold 28 = .ok (.iload_n 2, 1) := by decide +kernel
theorem dX6_cold_29 : decode cX6_cold 29 = .ok (.iaload, 1) := by decide +kernel
theorem dX6_cold_30 : decode cX6_cold 30 = .ok (.sipush (-600), 3) := by decide +kernel
theorem dX6_cold_33 : decode cX6_cold 33 = .ok (.sipush 300, 3) := by decide +kernel
theorem dX6_cold_36 : decode cX6_cold 36 = .ok (.invokestatic 87, 3) := by decide +kernel
theorem dX6_cold_39 : decode cX6_cold 39 = .ok (.istore_n 3, 1) := by decide +kernel
theorem dX6_cold_40 : decode cX6_cold 40 = .ok (.aload_n 0, 1) := by decide +kernel
theorem dX6_cold_41 : decode cX6_cold 41 = .ok (.getfield 33, 3) := by decide +kernel
theorem dX6_cold_44 : decode cX6_cold 44 = .ok (.getfield 135, 3) := by decide +kernel
theorem dX6_cold_47 : decode cX6_cold 47 = .ok (.iload_n 2, 1) := by decide +kernel
theorem dX6_cold_48 : decode cX6_cold 48 = .ok (.iload_n 3, 1) := by decide +kernel
theorem dX6_cold_49 : decode cX6_cold 49 = .ok (.ifCond .eq 12, 3) := by decide +kernel
theorem dX6_cold_52 : decode cX6_cold 52 = .ok (.aload_n 0, 1) := by decide +kernel
theorem dX6_cold_53 : decode cX6_cold 53 = .ok (.getfield 49, 3) := by decide +kernel
theorem dX6_cold_56 : decode cX6_cold 56 = .ok (.iload_n 2, 1) := by decide +kernel
theorem dX6_cold_57 : decode cX6_cold 57 = .ok (.iaload, 1) := by decide +kernel
theorem dX6_cold_58 : decode cX6_cold 58 = .ok (.goto 6, 3) := by decide +kernel
theorem dX6_cold_61 : decode cX6_cold 61 = .ok (.sipush (-9999), 3) := by decide +kernel
theorem dX6_cold_64 : decode cX6_cold 64 = .ok (.iastore, 1) := by decide +kernel
theorem dX6_cold_65 : decode cX6_cold 65 = .ok (.iload_n 1, 1) := by decide +kernel
theorem dX6_cold_66 : decode cX6_cold 66 = .ok (.iload_n 3, 1) := by decide +kernel
theorem dX6_cold_67 : decode cX6_cold 67 = .ok (.ifCond .eq 7, 3) := by decide +kernel
theorem dX6_cold_70 : decode cX6_cold 70 = .ok (.iconst 1, 1) := by decide +kernel
theorem dX6_cold_71 : decode cX6_cold 71 = .ok (.goto 4, 3) := by decide +kernel
theorem dX6_cold_74 : decode cX6_cold 74 = .ok (.iconst 0, 1) := by decide +kernel
theorem dX6_cold_75 : decode cX6_cold 75 = .ok (.iadd, 1) := by decide +kernel
theorem dX6_cold_76 : decode cX6_cold 76 = .ok (.istore_n 1, 1) := by decide +kernel
theorem dX6_cold_77 : decode cX6_cold 77 = .ok (.iinc 2 1, 3) := by decide +kernel
theorem dX6_cold_80 : decode cX6_cold 80 = .ok (.goto (-62), 3) := by decide +kernel
theorem dX6_cold_83 : decode cX6_cold 83 = .ok (.iload_n 1, 1) := by decide +kernel
theorem dX6_cold_84 : decode cX6_cold 84 = .ok (.ireturn, 1) := by decide +kernel
theorem dX6_heat_0 : decode cX6_heat 0 = .ok (.iload_n 1, 1) := by decide +kernel
theorem dX6_heat_1 : decode cX6_heat 1 = .ok (.ifCond .ge 12, 3) := by decide +kernel
theorem dX6_heat_4 : decode cX6_heat 4 = .ok (.aload_n 0, 1) := by decide +kernel
theorem dX6_heat_5 : decode cX6_heat 5 = .ok (.bipush (-3), 2) := by decide +kernel
theorem dX6_heat_7 : decode cX6_heat 7 = .ok (.invokevirtual 91, 3) := by decide +kernel
theorem dX6_heat_10 : decode cX6_heat 10 = .ok (.pop, 1) := by decide +kernel
theorem dX6_heat_11 : decode cX6_heat 11 = .ok (.iconst 0, 1) := by decide +kernel
theorem dX6_heat_12 : decode cX6_heat 12 = .ok (.ireturn, 1) := by decide +kernel
theorem dX6_heat_13 : decode cX6_heat 13 = .ok (.aload_n 0, 1) := by decide +kernel
theorem dX6_heat_14 : decode cX6_heat 14 = .ok (.getfield 33, 3) := by decide +kernel
theorem dX6_heat_17 : decode cX6_heat 17 = .ok (.iload_n 1, 1) := by decide +kernel
theorem dX6_heat_18 : decode cX6_heat 18 = .ok (.invokevirtual 138, 3) := by decide +kernel
theorem dX6_heat_21 : decode cX6_heat 21 = .ok (.ireturn, 1) := by decide +kernel
theorem dX6_sweep_0 : decode cX6_sweep 0 = .ok (.aload_n 0, 1) := by decide +kernel
theorem dX6_sweep_1 : decode cX6_sweep 1 = .ok (.iload_n 1, 1) := by decide +kernel
theorem dX6_sweep_2 : decode cX6_sweep 2 = .ok (.invokevirtual 95, 3) := by decide +kernel
theorem dX6_sweep_5 : decode cX6_sweep 5 = .ok (.ifCond .ne 10, 3) := by decide +kernel
theorem dX6_sweep_8 : decode cX6_sweep 8 = .ok (.aload_n 0, 1) := by decide +kernel
theorem dX6_sweep_9 : decode cX6_sweep 9 = .ok (.bipush (-3), 2) := by decide +kernel
theorem dX6_sweep_11 : decode cX6_sweep 11 = .ok (.invokevirtual 91, 3) := by decide +kernel
theorem dX6_sweep_14 : decode cX6_sweep 14 = .ok (.ireturn, 1) := by decide +kernel
theorem dX6_sweep_15 : decode cX6_sweep 15 = .ok (.aload_n 0, 1) := by decide +kernel
theorem dX6_sweep_16 : decode cX6_sweep 16 = .ok (.getfield 11, 3) := by decide +kernel
theorem dX6_sweep_19 : decode cX6_sweep 19 = .ok (.iload_n 1, 1) := by decide +kernel
theorem dX6_sweep_20 : decode cX6_sweep 20 = .ok (.aaload, 1) := by decide +kernel
theorem dX6_sweep_21 : decode cX6_sweep 21 = .ok (.astore_n 2, 1) := by decide +kernel
theorem dX6_sweep_22 : decode cX6_sweep 22 = .ok (.aload_n 2, 1) := by decide +kernel
theorem dX6_sweep_23 : decode cX6_sweep 23 = .ok (.getfield 99, 3) := by decide +kernel
theorem dX6_sweep_26 : decode cX6_sweep 26 = .ok (.ifCond .eq 18, 3) := by decide +kernel
theorem dX6_sweep_29 : decode cX6_sweep 29 = .ok (.aload_n 2, 1) := by decide +kernel
theorem dX6_sweep_30 : decode cX6_sweep 30 = .ok (.getfield 99, 3) := by decide +kernel
theorem dX6_sweep_33 : decode cX6_sweep 33 = .ok (.iconst 1, 1) := by decide +kernel
theorem dX6_sweep_34 : decode cX6_sweep 34 = .ok (.if_icmp .eq 10, 3) := by decide +kernel
theorem dX6_sweep_37 : decode cX6_sweep 37 = .ok (.aload_n 0, 1) := by decide +kernel
theorem dX6_sweep_38 : decode cX6_sweep 38 = .ok (.bipush (-5), 2) := by decide +kernel
theorem dX6_sweep_40 : decode cX6_sweep 40 = .ok (.invokevirtual 91, 3) := by decide +kernel
theorem dX6_sweep_43 : decode cX6_sweep 43 = .ok (.ireturn, 1) := by decide +kernel
theorem dX6_sweep_44 : decode cX6_sweep 44 = .ok (.aload_n 2, 1) := by decide +kernel
theorem dX6_sweep_45 : decode cX6_sweep 45 = .ok (.iconst 1, 1) := by decide +kernel
theorem dX6_sweep_46 : decode cX6_sweep 46 = .ok (.invokevirtual 141, 3) := by decide +kernel
theorem dX6_sweep_49 : decode cX6_sweep 49 = .ok (.aload_n 2, 1) := by decide +kernel
theorem dX6_sweep_50 : decode cX6_sweep 50 = .ok (.iconst 0, 1) := by decide +kernel
theorem dX6_sweep_51 : decode cX6_sweep 51 = .ok (.putfield 105, 3) := by decide +kernel
theorem dX6_sweep_54 : decode cX6_sweep 54 = .ok (.iconst 1, 1) := by decide +kernel
theorem dX6_sweep_55 : decode cX6_sweep 55 = .ok (.ireturn, 1) := by decide +kernel
theorem dX6_flood_0 : decode cX6_flood 0 = .ok (.aload_n 0, 1) := by decide +kernel
theorem dX6_flood_1 : decode cX6_flood 1 = .ok (.iload_n 1, 1) := by decide +kernel
theorem dX6_flood_2 : decode cX6_flood 2 = .ok (.invokevirtual 95, 3) := by decide +kernel
theorem dX6_flood_5 : decode cX6_flood 5 = .ok (.ifCond .ne 10, 3) := by decide +kernel
theorem dX6_flood_8 : decode cX6_flood 8 = .ok (.aload_n 0, 1) := by decide +kernel
theorem dX6_flood_9 : decode cX6_flood 9 = .ok (.bipush (-3), 2) := by decide +kernel
theorem dX6_flood_11 : decode cX6_flood 11 = .ok (.invokevirtual 91, 3) := by decide +kernel
theorem dX6_flood_14 : decode cX6_flood 14 = .ok (.ireturn, 1) := by decide +kernel
theorem dX6_flood_15 : decode cX6_flood 15 = .ok (.aload_n 0, 1) := by decide +kernel
theorem dX6_flood_16 : decode cX6_flood 16 = .ok (.getfield 11, 3) := by decide +kernel
theorem dX6_flood_19 : decode cX6_flood 19 = .ok (.iload_n 1, 1) := by decide +kernel
theorem dX6_flood_20 : decode cX6_flood 20 = .ok (.aaload, 1) := by decide +kernel
theorem dX6_flood_21 : decode cX6_flood 21 = .ok (.astore_n 2, 1) := by decide +kernel
theorem dX6_flood_22 : decode cX6_flood 22 = .ok (.aload_n 2, 1) := by decide +kernel
theorem dX6_flood_23 : decode cX6_flood 23 = .ok (.getfield 99, 3) := by decide +kernel
theorem dX6_flood_26 : decode cX6_flood 26 = .ok (.iconst 1, 1) := by decide +kernel
theorem dX6_flood_27 : decode cX6_flood 27 = .ok (.if_icmp .eq 18, 3) := by decide +kernel
theorem dX6_flood_30 : decode cX6_flood 30 = .ok (.aload_n 2, 1) := by decide +kernel
theorem dX6_flood_31 : decode cX6_flood 31 = .ok (.getfield 99, 3) := by decide +kernel
theorem dX6_flood_34 : decode cX6_flood 34 = .ok (.iconst 2, 1) := by decide +kernel
theorem dX6_flood_35 : decode cX6_flood 35 = .ok (.if_icmp .eq 10, 3) := by decide +kernel
theorem dX6_flood_38 : decode cX6_flood 38 = .ok (.aload_n 0, 1) := by decide +kernel
theorem dX6_flood_39 : decode cX6_flood 39 = .ok (.bipush (-5), 2) := by decide +kernel
theorem dX6_flood_41 : decode cX6_flood 41 = .ok (.invokevirtual 91, 3) := by decide +kernel
theorem dX6_flood_44 : decode cX6_flood 44 = .ok (.ireturn, 1) := by decide +kernel
theorem dX6_flood_45 : decode cX6_flood 45 = .ok (.aload_n 2, 1) := by decide +kernel
theorem dX6_flood_46 : decode cX6_flood 46 = .ok (.iconst 2, 1) := by decide +kernel
theorem dX6_flood_47 : decode cX6_flood 47 = .ok (.invokevirtual 141, 3) := by decide +kernel
theorem dX6_flood_50 : decode cX6_flood 50 = .ok (.iconst 1, 1) := by decide +kernel
theorem dX6_flood_51 : decode cX6_flood 51 = .ok (.ireturn, 1) := by decide +kernel
theorem dX6_bypass_0 : decode cX6_bypass 0 = .ok (.aload_n 0, 1) := by decide +kernel
theorem dX6_bypass_1 : decode cX6_bypass 1 = .ok (.iload_n 1, 1) := by decide +kernel
theorem dX6_bypass_2 : decode cX6_bypass 2 = .ok (.invokevirtual 95, 3) := by decide +kernel
theorem dX6_bypass_5 : decode cX6_bypass 5 = .ok (.ifCond .ne 10, 3) := by decide +kernel
theorem dX6_bypass_8 : decode cX6_bypass 8 = .ok (.aload_n 0, 1) := by decide +kernel
theorem dX6_bypass_9 : decode cX6_bypass 9 = .ok (.bipush (-3), 2) := by decide +kernel
theorem dX6_bypass_11 : decode cX6_bypass 11 = .ok (.invokevirtual 91, 3) := by decide +kernel
theorem dX6_bypass_14 : decode cX6_bypass 14 = .ok (.ireturn, 1) := by decide +kernel
theorem dX6_bypass_15 : decode cX6_bypass 15 = .ok (.aload_n 0, 1) := by decide +kernel
theorem dX6_bypass_16 : decode cX6_bypass 16 = .ok (.getfield 11, 3) := by decide +kernel
theorem dX6_bypass_19 : decode cX6_bypass 19 = .ok (.iload_n 1, 1) := by decide +kernel
theorem dX6_bypass_20 : decode cX6_bypass 20 = .ok (.aaload, 1) := by decide +kernel
theorem dX6_bypass_21 : decode cX6_bypass 21 = .ok (.astore_n 2, 1) := by decide +kernel
theorem dX6_bypass_22 : decode cX6_bypass 22 = .ok (.aload_n 2, 1) := by decide +kernel
theorem dX6_bypass_23 : decode cX6_bypass 23 = .ok (.getfield 99, 3) := by decide +kernel
theorem dX6_bypass_26 : decode cX6_bypass 26 = .ok (.iconst 3, 1) := by decide +kernel
theorem dX6_bypass_27 : decode cX6_bypass 27 = .ok (.if_icmp .eq 10, 3) := by decide +kernel
theorem dX6_bypass_30 : decode cX6_bypass 30 = .ok (.aload_n 0, 1) := by decide +kernel
theorem dX6_bypass_31 : decode cX6_bypass 31 = .ok (.bipush (-5), 2) := by decide +kernel
theorem dX6_bypass_33 : decode cX6_bypass 33 = .ok (.invokevirtual 91, 3) := by decide +kernel
