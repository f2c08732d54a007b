theorem dX4_hang_97 : decode cX4_hang 97 = .ok (.invokespecial 74, 3) := by decide +kernel
theorem dX4_hang_100 : decode cX4_hang 100 = .ok (.invokevirtual 77, 3) := by decide +kernel
theorem dX4_hang_103 : decode cX4_hang 103 = .ok (.aload_n 0, 1) := by decide +kernel
theorem dX4_hang_104 : decode cX4_hang 104 = .ok (.getfield 12, 3) := by decide +kernel
theorem dX4_hang_107 : decode cX4_hang 107 = .ok (.invokevirtual 63, 3) := by decide +kernel
theorem dX4_hang_110 : decode cX4_hang 110 = .ok (.iconst 1, 1) := by decide +kernel
theorem dX4_hang_111 : decode cX4_hang 111 = .ok (.isub, 1) := by decide +kernel
theorem dX4_hang_112 : decode cX4_hang 112 = .ok (.ireturn, 1) := by decide +kernel
theorem dX4_roll_0 : decode cX4_roll 0 = .ok (.aload_n 0, 1) := by decide +kernel
theorem dX4_roll_1 : decode cX4_roll 1 = .ok (.getfield 12, 3) := by decide +kernel
theorem dX4_roll_4 : decode cX4_roll 4 = .ok (.iload_n 1, 1) := by decide +kernel
theorem dX4_roll_5 : decode cX4_roll 5 = .ok (.invokevirtual 81, 3) := by decide +kernel
theorem dX4_roll_8 : decode cX4_roll 8 = .ok (.astore_n 2, 1) := by decide +kernel
theorem dX4_roll_9 : decode cX4_roll 9 = .ok (.aload_n 2, 1) := by decide +kernel
theorem dX4_roll_10 : decode cX4_roll 10 = .ok (.aload_n 2, 1) := by decide +kernel
theorem dX4_roll_11 : decode cX4_roll 11 = .ok (.getfield 85, 3) := by decide +kernel
theorem dX4_roll_14 : decode cX4_roll 14 = .ok (.ifCond .ne 7, 3) := by decide +kernel
theorem dX4_roll_17 : decode cX4_roll 17 = .ok (.iconst 1, 1) := by decide +kernel
theorem dX4_roll_18 : decode cX4_roll 18 = .ok (.goto 4, 3) := by decide +kernel
theorem dX4_roll_21 : decode cX4_roll 21 = .ok (.iconst 0, 1) := by decide +kernel
theorem dX4_roll_22 : decode cX4_roll 22 = .ok (.putfield 85, 3) := by decide +kernel
theorem dX4_roll_25 : decode cX4_roll 25 = .ok (.aload_n 0, 1) := by decide +kernel
theorem dX4_roll_26 : decode cX4_roll 26 = .ok (.getfield 12, 3) := by decide +kernel
theorem dX4_roll_29 : decode cX4_roll 29 = .ok (.invokevirtual 89, 3) := by decide +kernel
theorem dX4_roll_32 : decode cX4_roll 32 = .ok (.aload_n 2, 1) := by decide +kernel
theorem dX4_roll_33 : decode cX4_roll 33 = .ok (.getfield 85, 3) := by decide +kernel
theorem dX4_roll_36 : decode cX4_roll 36 = .ok (.ireturn, 1) := by decide +kernel
theorem dX4_move_0 : decode cX4_move 0 = .ok (.aload_n 0, 1) := by decide +kernel
theorem dX4_move_1 : decode cX4_move 1 = .ok (.getfield 12, 3) := by decide +kernel
theorem dX4_move_4 : decode cX4_move 4 = .ok (.iload_n 1, 1) := by decide +kernel
theorem dX4_move_5 : decode cX4_move 5 = .ok (.invokevirtual 81, 3) := by decide +kernel
theorem dX4_move_8 : decode cX4_move 8 = .ok (.astore 4, 2) := by decide +kernel
theorem dX4_move_10 : decode cX4_move 10 = .ok (.iload_n 2, 1) := by decide +kernel
theorem dX4_move_11 : decode cX4_move 11 = .ok (.iload_n 3, 1) := by decide +kernel
theorem dX4_move_12 : decode cX4_move 12 = .ok (.aload 4, 2) := by decide +kernel
theorem dX4_move_14 : decode cX4_move 14 = .ok (.getfield 92, 3) := by decide +kernel
theorem dX4_move_17 : decode cX4_move 17 = .ok (.aload 4, 2) := by decide +kernel
theorem dX4_move_19 : decode cX4_move 19 = .ok (.getfield 95, 3) := by decide +kernel
theorem dX4_move_22 : decode cX4_move 22 = .ok (.invokestatic 59, 3) := by decide +kernel
theorem dX4_move_25 : decode cX4_move 25 = .ok (.aload 4, 2) := by decide +kernel
theorem dX4_move_27 : decode cX4_move 27 = .ok (.iload_n 2, 1) := by decide +kernel
theorem dX4_move_28 : decode cX4_move 28 = .ok (.putfield 98, 3) := by decide +kernel
theorem dX4_move_31 : decode cX4_move 31 = .ok (.aload 4, 2) := by decide +kernel
theorem dX4_move_33 : decode cX4_move 33 = .ok (.iload_n 3, 1) := by decide +kernel
theorem dX4_move_34 : decode cX4_move 34 = .ok (.putfield 101, 3) := by decide +kernel
theorem dX4_move_37 : decode cX4_move 37 = .ok (.aload_n 0, 1) := by decide +kernel
theorem dX4_move_38 : decode cX4_move 38 = .ok (.getfield 12, 3) := by decide +kernel
theorem dX4_move_41 : decode cX4_move 41 = .ok (.invokevirtual 89, 3) := by decide +kernel
theorem dX4_move_44 : decode cX4_move 44 = .ok (.aload_n 0, 1) := by decide +kernel
theorem dX4_move_45 : decode cX4_move 45 = .ok (.getfield 12, 3) := by decide +kernel
theorem dX4_move_48 : decode cX4_move 48 = .ok (.invokevirtual 104, 3) := by decide +kernel
theorem dX4_move_51 : decode cX4_move 51 = .ok (.ireturn, 1) := by decide +kernel
theorem dX4_take_0 : decode cX4_take 0 = .ok (.aload_n 0, 1) := by decide +kernel
theorem dX4_take_1 : decode cX4_take 1 = .ok (.getfield 12, 3) := by decide +kernel
theorem dX4_take_4 : decode cX4_take 4 = .ok (.iload_n 1, 1) := by decide +kernel
theorem dX4_take_5 : decode cX4_take 5 = .ok (.invokevirtual 107, 3) := by decide +kernel
theorem dX4_take_8 : decode cX4_take 8 = .ok (.aload_n 0, 1) := by decide +kernel
theorem dX4_take_9 : decode cX4_take 9 = .ok (.getfield 12, 3) := by decide +kernel
theorem dX4_take_12 : decode cX4_take 12 = .ok (.invokevirtual 63, 3) := by decide +kernel
theorem dX4_take_15 : decode cX4_take 15 = .ok (.ireturn, 1) := by decide +kernel
theorem dX4_stall_0 : decode cX4_stall 0 = .ok (.iload_n 1, 1) := by decide +kernel
theorem dX4_stall_1 : decode cX4_stall 1 = .ok (.iload_n 2, 1) := by decide +kernel
theorem dX4_stall_2 : decode cX4_stall 2 = .ok (.invokestatic 111, 3) := by decide +kernel
theorem dX4_stall_5 : decode cX4_stall 5 = .ok (.aload_n 0, 1) := by decide +kernel
theorem dX4_stall_6 : decode cX4_stall 6 = .ok (.getfield 28, 3) := by decide +kernel
theorem dX4_stall_9 : decode cX4_stall 9 = .ok (.invokevirtual 114, 3) := by decide +kernel
theorem dX4_stall_12 : decode cX4_stall 12 = .ok (.bipush 8, 2) := by decide +kernel
theorem dX4_stall_14 : decode cX4_stall 14 = .ok (.if_icmp .lt 13, 3) := by decide +kernel
theorem dX4_stall_17 : decode cX4_stall 17 = .ok (.new 67, 3) := by decide +kernel
theorem dX4_stall_20 : decode cX4_stall 20 = .ok (.dup, 1) := by decide +kernel
theorem dX4_stall_21 : decode cX4_stall 21 = .ok (.ldc 115, 2) := by decide +kernel
theorem dX4_stall_23 : decode cX4_stall 23 = .ok (.invokespecial 71, 3) := by decide +kernel
theorem dX4_stall_26 : decode cX4_stall 26 = .ok (.athrow, 1) := by decide +kernel
theorem dX4_stall_27 : decode cX4_stall 27 = .ok (.aload_n 0, 1) := by decide +kernel
theorem dX4_stall_28 : decode cX4_stall 28 = .ok (.iload_n 1, 1) := by decide +kernel
theorem dX4_stall_29 : decode cX4_stall 29 = .ok (.iload_n 2, 1) := by decide +kernel
theorem dX4_stall_30 : decode cX4_stall 30 = .ok (.invokevirtual 117, 3) := by decide +kernel
theorem dX4_stall_33 : decode cX4_stall 33 = .ok (.ifCond .eq 13, 3) := by decide +kernel
theorem dX4_stall_36 : decode cX4_stall 36 = .ok (.new 67, 3) := by decide +kernel
theorem dX4_stall_39 : decode cX4_stall 39 = .ok (.dup, 1) := by decide +kernel
theorem dX4_stall_40 : decode cX4_stall 40 = .ok (.ldc 121, 2) := by decide +kernel
theorem dX4_stall_42 : decode cX4_stall 42 = .ok (.invokespecial 71, 3) := by decide +kernel
theorem dX4_stall_45 : decode cX4_stall 45 = .ok (.athrow, 1) := by decide +kernel
theorem dX4_stall_46 : decode cX4_stall 46 = .ok (.aload_n 0, 1) := by decide +kernel
theorem dX4_stall_47 : decode cX4_stall 47 = .ok (.getfield 28, 3) := by decide +kernel
theorem dX4_stall_50 : decode cX4_stall 50 = .ok (.new 123, 3) := by decide +kernel
theorem dX4_stall_53 : decode cX4_stall 53 = .ok (.dup, 1) := by decide +kernel
theorem dX4_stall_54 : decode cX4_stall 54 = .ok (.iload_n 1, 1) := by decide +kernel
theorem dX4_stall_55 : decode cX4_stall 55 = .ok (.iload_n 2, 1) := by decide +kernel
theorem dX4_stall_56 : decode cX4_stall 56 = .ok (.aload_n 0, 1) := by decide +kernel
theorem dX4_stall_57 : decode cX4_stall 57 = .ok (.iload_n 1, 1) := by decide +kernel
theorem dX4_stall_58 : decode cX4_stall 58 = .ok (.iload_n 2, 1) := by decide +kernel
theorem dX4_stall_59 : decode cX4_stall 59 = .ok (.invokevirtual 125, 3) := by decide +kernel
theorem dX4_stall_62 : decode cX4_stall 62 = .ok (.invokespecial 129, 3) := by decide +kernel
theorem dX4_stall_65 : decode cX4_stall 65 = .ok (.invokevirtual 132, 3) := by decide +kernel
theorem dX4_stall_68 : decode cX4_stall 68 = .ok (.pop, 1) := by decide +kernel
theorem dX4_stall_69 : decode cX4_stall 69 = .ok (.aload_n 0, 1) := by decide +kernel
theorem dX4_stall_70 : decode cX4_stall 70 = .ok (.getfield 28, 3) := by decide +kernel
theorem dX4_stall_73 : decode cX4_stall 73 = .ok (.invokevirtual 114, 3) := by decide +kernel
theorem dX4_stall_76 : decode cX4_stall 76 = .ok (.iconst 1, 1) := by decide +kernel
theorem dX4_stall_77 : decode cX4_stall 77 = .ok (.isub, 1) := by decide +kernel
theorem dX4_stall_78 : decode cX4_stall 78 = .ok (.ireturn, 1) := by decide +kernel
theorem dX4_rain_0 : decode cX4_rain 0 = .ok (.iload_n 1, 1) := by decide +kernel
theorem dX4_rain_1 : decode cX4_rain 1 = .ok (.invokestatic 136, 3) := by decide +kernel
theorem dX4_rain_4 : decode cX4_rain 4 = .ok (.aload_n 0, 1) := by decide +kernel
theorem dX4_rain_5 : decode cX4_rain 5 = .ok (.getfield 21, 3) := by decide +kernel
theorem dX4_rain_8 : decode cX4_rain 8 = .ok (.iload_n 1, 1) := by decide +kernel
theorem dX4_rain_9 : decode cX4_rain 9 = .ok (.invokevirtual 139, 3) := by decide +kernel
theorem dX4_rain_12 : decode cX4_rain 12 = .ok (.iconst 0, 1) := by decide +kernel
theorem dX4_rain_13 : decode cX4_rain 13 = .ok (.istore_n 2, 1) := by decide +kernel
theorem dX4_rain_14 : decode cX4_rain 14 = .ok (.iload_n 2, 1) := by decide +kernel
theorem dX4_rain_15 : decode cX4_rain 15 = .ok (.bipush 24, 2) := by decide +kernel
theorem dX4_rain_17 : decode cX4_rain 17 = .ok (.if_icmp .ge 46, 3) := by decide +kernel
theorem dX4_rain_20 : decode cX4_rain 20 = .ok (.iconst 0, 1) := by decide +kernel
theorem dX4_rain_21 : decode cX4_rain 21 = .ok (.istore_n 3, 1) := by decide +kernel
theorem dX4_rain_22 : decode cX4_rain 22 = .ok (.iload_n 3, 1) := by decide +kernel
theorem dX4_rain_23 : decode cX4_rain 23 = .ok (.bipush 24, 2) := by decide +kernel
theorem dX4_rain_25 : decode cX4_rain 25 = .ok (.if_icmp .ge 32, 3) := by decide +kernel
theorem dX4_rain_28 : decode cX4_rain 28 = .ok (.aload_n 0, 1) := by decide +kernel
theorem dX4_rain_29 : decode cX4_rain 29 = .ok (.getfield 32, 3) := by decide +kernel
theorem dX4_rain_32 : decode cX4_rain 32 = .ok (.iload_n 2, 1) := by decide +kernel
theorem dX4_rain_33 : decode cX4_rain 33 = .ok (.bipush 24, 2) := by decide +kernel
theorem dX4_rain_35 : decode cX4_rain 35 = .ok (.imul, 1) := by decide +kernel
theorem dX4_rain_36 : decode cX4_rain 36 = .ok (.iload_n 3, 1) := by decide +kernel
theorem dX4_rain_37 : decode cX4_rain 37 = .ok (.iadd, 1) := by decide +kernel
theorem dX4_rain_38 : decode cX4_rain 38 = .ok (.dup2, 1) := by decide +kernel
theorem dX4_rain_39 : decode cX4_rain 39 = .ok (.iaload, 1) := by decide +kernel
theorem dX4_rain_40 : decode cX4_rain 40 = .ok (.aload_n 0, 1) := by decide +kernel
theorem dX4_rain_41 : decode cX4_rain 41 = .ok (.getfield 21, 3) := by decide +kernel
theorem dX4_rain_44 : decode cX4_rain 44 = .ok (.iload_n 3, 1) := by decide +kernel
theorem dX4_rain_45 : decode cX4_rain 45 = .ok (.iload_n 2, 1) := by decide +kernel
theorem dX4_rain_46 : decode cX4_rain 46 = .ok (.invokevirtual 142, 3) := by decide +kernel
theorem dX4_rain_49 : decode cX4_rain 49 = .ok (.iadd, 1) := by decide +kernel
theorem dX4_rain_50 : decode cX4_rain 50 = .ok (.iastore, 1) := by decide +kernel
theorem dX4_rain_51 : decode cX4_rain 51 = .ok (.iinc 3 1, 3) := by decide +kernel
theorem dX4_rain_54 : decode cX4_rain 54 = .ok (.goto (-32), 3) := by decide +kernel
theorem dX4_rain_57 : decode cX4_rain 57 = .ok (.iinc 2 1, 3) := by decide +kernel
theorem dX4_rain_60 : decode cX4_rain 60 = .ok (.goto (-46), 3) := by decide +kernel
theorem dX4_rain_63 : decode cX4_rain 63 = .ok (.iconst 0, 1) := by decide +kernel
theorem dX4_rain_64 : decode cX4_rain 64 = .ok (.istore_n 2, 1) := by decide +kernel
theorem dX4_rain_65 : decode cX4_rain 65 = .ok (.iload_n 2, 1) := by decide +kernel
theorem dX4_rain_66 : decode cX4_rain 66 = .ok (.aload_n 0, 1) := by decide +kernel
theorem dX4_rain_67 : decode cX4_rain 67 = .ok (.getfield 12, 3) := by decide +kernel
theorem dX4_rain_70 : decode cX4_rain 70 = .ok (.invokevirtual 63, 3) := by decide +kernel
theorem dX4_rain_73 : decode cX4_rain 73 = .ok (.if_icmp .ge 33, 3) := by decide +kernel
theorem dX4_rain_76 : decode cX4_rain 76 = .ok (.aload_n 0, 1) := by decide +kernel
theorem dX4_rain_77 : decode cX4_rain 77 = .ok (.getfield 12, 3) := by decide +kernel
theorem dX4_rain_80 : decode cX4_rain 80 = .ok (.iload_n 2, 1) := by decide +kernel
theorem dX4_rain_81 : decode cX4_rain 81 = .ok (.invokevirtual 81, 3) := by decide +kernel
theorem dX4_rain_84 : decode cX4_rain 84 = .ok (.dup, 1) := by decide +kernel
theorem dX4_rain_85 : decode cX4_rain 85 = .ok (.getfield 145, 3) := by decide +kernel
theorem dX4_rain_88 : decode cX4_rain 88 = .ok (.aload_n 0, 1) := by decide +kernel
theorem dX4_rain_89 : decode cX4_rain 89 = .ok (.getfield 21, 3) := by decide +kernel
theorem dX4_rain_92 : decode cX4_rain 92 = .ok (.iload_n 2, 1) := by decide +kernel
theorem dX4_rain_93 : decode cX4_rain 93 = .ok (.invokevirtual 148, 3) := by decide +kernel
theorem dX4_rain_96 : decode cX4_rain 96 = .ok (.iadd, 1) := by decide +kernel
theorem dX4_rain_97 : decode cX4_rain 97 = .ok (.putfield 145, 3) := by decide +kernel
theorem dX4_rain_100 : decode cX4_rain 100 = .ok (.iinc 2 1, 3) := by decide +kernel
theorem dX4_rain_103 : decode cX4_rain 103 = .ok (.goto (-38), 3) := by decide +kernel
theorem dX4_rain_106 : decode cX4_rain 106 = .ok (.aload_n 0, 1) := by decide +kernel
theorem dX4_rain_107 : decode cX4_rain 107 = .ok (.dup, 1) := by decide +kernel
theorem dX4_rain_108 : decode cX4_rain 108 = .ok (.getfield 36, 3) := by decide +kernel
theorem dX4_rain_111 : decode cX4_rain 111 = .ok (.iconst 1, 1) := by decide +kernel
theorem dX4_rain_112 : decode cX4_rain 112 = .ok (.iadd, 1) := by decide +kernel
theorem dX4_rain_113 : decode cX4_rain 113 = .ok (.putfield 36, 3) := by decide +kernel
theorem dX4_rain_116 : decode cX4_rain 116 = .ok (.aload_n 0, 1) := by decide +kernel
theorem dX4_rain_117 : decode cX4_rain 117 = .ok (.dup, 1) := by decide +kernel
theorem dX4_rain_118 : decode cX4_rain 118 = .ok (.getfield 40, 3) := by decide +kernel
theorem dX4_rain_121 : decode cX4_rain 121 = .ok (.aload_n 0, 1) := by decide +kernel
theorem dX4_rain_122 : decode cX4_rain 122 = .ok (.getfield 21, 3) := by decide +kernel
theorem dX4_rain_125 : decode cX4_rain 125 = .ok (.getfield 152, 3) := by decide +kernel
theorem dX4_rain_128 : decode cX4_rain 128 = .ok (.iadd, 1) := by decide +kernel
theorem dX4_rain_129 : decode cX4_rain 129 = .ok (.putfield 40, 3) := by decide +kernel
theorem dX4_rain_132 : decode cX4_rain 132 = .ok (.aload_n 0, 1) := by decide +kernel
theorem dX4_rain_133 : decode cX4_rain 133 = .ok (.dup, 1) := by decide +kernel
theorem dX4_rain_134 : decode cX4_rain 134 = .ok (.getfield 43, 3) := by decide +kernel
theorem dX4_rain_137 : decode cX4_rain 137 = .ok (.aload_n 0, 1) := by decide +kernel
theorem dX4_rain_138 : decode cX4_rain 138 = .ok (.getfield 21, 3) := by decide +kernel
theorem dX4_rain_141 : decode cX4_rain 141 = .ok (.getfield 155, 3) := by decide +kernel
theorem dX4_rain_144 : decode cX4_rain 144 = .ok (.iadd, 1) := by decide +kernel
theorem dX4_rain_145 : decode cX4_rain 145 = .ok (.putfield 43, 3) := by decide +kernel
theorem dX4_rain_148 : decode cX4_rain 148 = .ok (.aload_n 0, 1) := by decide +kernel
theorem dX4_rain_149 : decode cX4_rain 149 = .ok (.getfield 21, 3) := by decide +kernel
theorem dX4_rain_152 : decode cX4_rain 152 = .ok (.getfield 152, 3) := by decide +kernel
theorem dX4_rain_155 : decode cX4_rain 155 = .ok (.ireturn, 1) := by decide +kernel
theorem dX4_about_0 : decode cX4_about 0 = .ok (.aload_n 0, 1) := by decide +kernel
theorem dX4_about_1 : decode cX4_about 1 = .ok (.getfield 12, 3) := by decide +kernel
theorem dX4_about_4 : decode cX4_about 4 = .ok (.iload_n 1, 1) := by decide +kernel
theorem dX4_about_5 : decode cX4_about 5 = .ok (.invokevirtual 81, 3) := by decide +kernel
theorem dX4_about_8 : decode cX4_about 8 = .ok (.astore_n 3, 1) := by decide +kernel
theorem dX4_about_9 : decode cX4_about 9 = .ok (.iload_n 2, 1) := by decide +kernel
theorem dX4_about_10 : decode cX4_about 10 = .ok (.bipush 8, 2) := by decide +kernel
theorem dX4_about_12 : decode cX4_about 12 = .ok (.invokestatic 158, 3) := by decide +kernel
theorem dX4_about_15 : decode cX4_about 15 = .ok (.iload_n 2, 1) := by decide +kernel
theorem dX4_about_16 : decode cX4_about 16 = .ok (.tableswitch 100 0 7 #[48, 53, 58, 63, 68, 73, 78, 91], 48) := by decide +kernel
theorem dX4_about_64 : decode cX4_about 64 = .ok (.aload_n 3, 1) := by decide +kernel
theorem dX4_about_65 : decode cX4_about 65 = .ok (.getfield 98, 3) := by decide +kernel
theorem dX4_about_68 : decode cX4_about 68 = .ok (.ireturn, 1) := by decide +kernel
theorem dX4_about_69 : decode cX4_about 69 = .ok (.aload_n 3, 1) := by decide +kernel
theorem dX4_about_70 : decode cX4_about 70 = .ok (.getfield 101, 3) := by decide +kernel
theorem dX4_about_73 : decode cX4_about 73 = .ok (.ireturn, 1) := by decide +kernel
theorem dX4_about_74 : decode cX4_about 74 = .ok (.aload_n 3, 1) := by decide +kernel
theorem dX4_about_75 : decode cX4_about 75 = .ok (.getfield 92, 3) := by decide +kernel
theorem dX4_about_78 : decode cX4_about 78 = .ok (.ireturn, 1) := by decide +kernel
theorem dX4_about_79 : decode cX4_about 79 = .ok (.aload_n 3, 1) := by decide +kernel
theorem dX4_about_80 : decode cX4_about 80 = .ok (.getfield 95, 3) := by decide +kernel
theorem dX4_about_83 : decode cX4_about 83 = .ok (.ireturn, 1) := by decide +kernel
theorem dX4_about_84 : decode cX4_about 84 = .ok (.aload_n 3, 1) := by decide +kernel
theorem dX4_about_85 : decode cX4_about 85 = .ok (.getfield 161, 3) := by decide +kernel
theorem dX4_about_88 : decode cX4_about 88 = .ok (.ireturn, 1) := by decide +kernel
theorem dX4_about_89 : decode cX4_about 89 = .ok (.aload_n 3, 1) := by decide +kernel
theorem dX4_about_90 : decode cX4_about 90 = .ok (.getfield 164, 3) := by decide +kernel
theorem dX4_about_93 : decode cX4_about 93 = .ok (.ireturn, 1) := by decide +kernel
theorem dX4_about_94 : decode cX4_about 94 = .ok (.aload_n 3, 1) := by decide +kernel
theorem dX4_about_95 : decode cX4_about 95 = .ok (.getfield 85, 3) := by decide +kernel
theorem dX4_about_98 : decode cX4_about 98 = .ok (.ifCond .eq 7, 3) := by decide +kernel
theorem dX4_about_101 : decode cX4_about 101 = .ok (.iconst 1, 1) := by decide +kernel
theorem dX4_about_102 : decode cX4_about 102 = .ok (.goto 4, 3) := by decide +kernel
theorem dX4_about_105 : decode cX4_about 105 = .ok (.iconst 0, 1) := by decide +kernel
theorem dX4_about_106 : decode cX4_about 106 = .ok (.ireturn, 1) := by decide +kernel
theorem dX4_about_107 : decode cX4_about 107 = .ok (.aload_n 0, 1) := by decide +kernel
theorem dX4_about_108 : decode cX4_about 108 = .ok (.getfield 12, 3) := by decide +kernel
theorem dX4_about_111 : decode cX4_about 111 = .ok (.aload_n 3, 1) := by decide +kernel
theorem dX4_about_112 : decode cX4_about 112 = .ok (.invokevirtual 167, 3) := by decide +kernel
theorem dX4_about_115 : decode cX4_about 115 = .ok (.ireturn, 1) := by decide +kernel
theorem dX4_about_116 : decode cX4_about 116 = .ok (.aload_n 3, 1) := by decide +kernel
theorem dX4_about_117 : decode cX4_about 117 = .ok (.getfield 145, 3) := by decide +kernel
theorem dX4_about_120 : decode cX4_about 120 = .ok (.ireturn, 1) := by decide +kernel
theorem dX4_cell_0 : decode cX4_cell 0 = .ok (.iload_n 1, 1) := by decide +kernel
theorem dX4_cell_1 : decode cX4_cell 1 = .ok (.iload_n 2, 1) := by decide +kernel
theorem dX4_cell_2 : decode cX4_cell 2 = .ok (.invokestatic 111, 3) := by decide +kernel
theorem dX4_cell_5 : decode cX4_cell 5 = .ok (.iload_n 3, 1) := by decide +kernel
theorem dX4_cell_6 : decode cX4_cell 6 = .ok (.iconst 2, 1) := by decide +kernel
theorem dX4_cell_7 : decode cX4_cell 7 = .ok (.invokestatic 158, 3) := by decide +kernel
theorem dX4_cell_10 : decode cX4_cell 10 = .ok (.iload_n 3, 1) := by decide +kernel
theorem dX4_cell_11 : decode cX4_cell 11 = .ok (.lookupswitch 47 #[(0, 25), (1, 35)], 25) := by decide +kernel
theorem dX4_cell_36 : decode cX4_cell 36 = .ok (.aload_n 0, 1) := by decide +kernel
theorem dX4_cell_37 : decode cX4_cell 37 = .ok (.getfield 12, 3) := by decide +kernel
theorem dX4_cell_40 : decode cX4_cell 40 = .ok (.iload_n 1, 1) := by decide +kernel
theorem dX4_cell_41 : decode cX4_cell 41 = .ok (.iload_n 2, 1) := by decide +kernel
theorem dX4_cell_42 : decode cX4_cell 42 = .ok (.invokevirtual 171, 3) := by decide +kernel
theorem dX4_cell_45 : decode cX4_cell 45 = .ok (.ireturn, 1) := by decide +kernel
theorem dX4_cell_46 : decode cX4_cell 46 = .ok (.aload_n 0, 1) := by decide +kernel
theorem dX4_cell_47 : decode cX4_cell 47 = .ok (.getfield 12, 3) := by decide +kernel
theorem dX4_cell_50 : decode cX4_cell 50 = .ok (.bipush 10, 2) := by decide +kernel
theorem dX4_cell_52 : decode cX4_cell 52 = .ok (.iload_n 1, 1) := by decide +kernel
theorem dX4_cell_53 : decode cX4_cell 53 = .ok (.iload_n 2, 1) := by decide +kernel
theorem dX4_cell_54 : decode cX4_cell 54 = .ok (.invokevirtual 174, 3) := by decide +kernel
theorem dX4_cell_57 : decode cX4_cell 57 = .ok (.ireturn, 1) := by decide +kernel
theorem dX4_cell_58 : decode cX4_cell 58 = .ok (.aload_n 0, 1) := by decide +kernel
theorem dX4_cell_59 : decode cX4_cell 59 = .ok (.iload_n 1, 1) := by decide +kernel
theorem dX4_cell_60 : decode cX4_cell 60 = .ok (.iload_n 2, 1) := by decide +kernel
theorem dX4_cell_61 : decode cX4_cell 61 = .ok (.invokevirtual 125, 3) := by decide +kernel
theorem dX4_cell_64 : decode cX4_cell 64 = .ok (.ireturn, 1) := by decide +kernel
theorem dX4_cord_0 : decode cX4_cord 0 = .ok (.iload_n 1, 1) := by decide +kernel
theorem dX4_cord_1 : decode cX4_cord 1 = .ok (.ifCond .lt 9, 3) := by decide +kernel
theorem dX4_cord_4 : decode cX4_cord 4 = .ok (.iload_n 1, 1) := by decide +kernel
theorem dX4_cord_5 : decode cX4_cord 5 = .ok (.bipush 24, 2) := by decide +kernel
theorem dX4_cord_7 : decode cX4_cord 7 = .ok (.if_icmp .lt 13, 3) := by decide +kernel
theorem dX4_cord_10 : decode cX4_cord 10 = .ok (.new 178, 3) := by decide +kernel
theorem dX4_cord_13 : decode cX4_cord 13 = .ok (.dup, 1) := by decide +kernel
theorem dX4_cord_14 : decode cX4_cord 14 = .ok (.ldc 180, 2) := by decide +kernel
theorem dX4_cord_16 : decode cX4_cord 16 = .ok (.invokespecial 182, 3) := by decide +kernel
theorem dX4_cord_19 : decode cX4_cord 19 = .ok (.athrow, 1) := by decide +kernel
theorem dX4_cord_20 : decode cX4_cord 20 = .ok (.iload_n 2, 1) := by decide +kernel
theorem dX4_cord_21 : decode cX4_cord 21 = .ok (.iconst 3, 1) := by decide +kernel
theorem dX4_cord_22 : decode cX4_cord 22 = .ok (.invokestatic 158, 3) := by decide +kernel
theorem dX4_cord_25 : decode cX4_cord 25 = .ok (.iload_n 2, 1) := by decide +kernel
theorem dX4_cord_26 : decode cX4_cord 26 = .ok (.tableswitch 53 0 2 #[26, 35, 44], 26) := by decide +kernel
theorem dX4_cord_52 : decode cX4_cord 52 = .ok (.aload_n 0, 1) := by decide +kernel
theorem dX4_cord_53 : decode cX4_cord 53 = .ok (.getfield 12, 3) := by decide +kernel
theorem dX4_cord_56 : decode cX4_cord 56 = .ok (.iload_n 1, 1) := by decide +kernel
theorem dX4_cord_57 : decode cX4_cord 57 = .ok (.invokevirtual 183, 3) := by decide +kernel
theorem dX4_cord_60 : decode cX4_cord 60 = .ok (.ireturn, 1) := by decide +kernel
theorem dX4_cord_61 : decode cX4_cord 61 = .ok (.aload_n 0, 1) := by decide +kernel
theorem dX4_cord_62 : decode cX4_cord 62 = .ok (.getfield 12, 3) := by decide +kernel
theorem dX4_cord_65 : decode cX4_cord 65 = .ok (.iload_n 1, 1) := by decide +kernel
theorem dX4_cord_66 : decode cX4_cord 66 = .ok (.invokevirtual 186, 3) := by decide +kernel
theorem dX4_cord_69 : decode cX4_cord 69 = .ok (.ireturn, 1) := by decide +kernel
theorem dX4_cord_70 : decode cX4_cord 70 = .ok (.aload_n 0, 1) := by decide +kernel
theorem dX4_cord_71 : decode cX4_cord 71 = .ok (.getfield 12, 3) := by decide +kernel
theorem dX4_cord_74 : decode cX4_cord 74 = .ok (.iload_n 1, 1) := by decide +kernel
theorem dX4_cord_75 : decode cX4_cord 75 = .ok (.invokevirtual 189, 3) := by decide +kernel
theorem dX4_cord_78 : decode cX4_cord 78 = .ok (.ireturn, 1) := by decide +kernel
theorem dX4_cord_79 : decode cX4_cord 79 = .ok (.aload_n 0, 1) := by decide +kernel
theorem dX4_cord_80 : decode cX4_cord 80 = .ok (.getfield 12, 3) := by decide +kernel
theorem dX4_cord_83 : decode cX4_cord 83 = .ok (.iload_n 1, 1) := by decide +kernel
theorem dX4_cord_84 : decode cX4_cord 84 = .ok (.invokevirtual 192, 3) := by decide +kernel
theorem dX4_cord_87 : decode cX4_cord 87 = .ok (.ireturn, 1) := by decide +kernel
theorem dX4_told_0 : decode cX4_told 0 = .ok (.aload_n 0, 1) := by decide +kernel
theorem dX4_told_1 : decode cX4_told 1 = .ok (.iload_n 1, 1) := by decide +kernel
theorem dX4_told_2 : decode cX4_told 2 = .ok (.invokevirtual 195, 3) := by decide +kernel
theorem dX4_told_5 : decode cX4_told 5 = .ok (.astore_n 3, 1) := by decide +kernel
theorem dX4_told_6 : decode cX4_told 6 = .ok (.iload_n 2, 1) := by decide +kernel
theorem dX4_told_7 : decode cX4_told 7 = .ok (.iconst 3, 1) := by decide +kernel
theorem dX4_told_8 : decode cX4_told 8 = .ok (.invokestatic 158, 3) := by decide +kernel
theorem dX4_told_11 : decode cX4_told 11 = .ok (.iload_n 2, 1) := by decide +kernel
theorem dX4_told_12 : decode cX4_told 12 = .ok (.tableswitch 44 0 2 #[28, 33, 38], 28) := by decide +kernel
theorem dX4_told_40 : decode cX4_told 40 = .ok (.aload_n 3, 1) := by decide +kernel
theorem dX4_told_41 : decode cX4_told 41 = .ok (.getfield 199, 3) := by decide +kernel
theorem dX4_told_44 : decode cX4_told 44 = .ok (.ireturn, 1) := by decide +kernel
theorem dX4_told_45 : decode cX4_told 45 = .ok (.aload_n 3, 1) := by decide +kernel
theorem dX4_told_46 : decode cX4_told 46 = .ok (.getfield 200, 3) := by decide +kernel
theorem dX4_told_49 : decode cX4_told 49 = .ok (.ireturn, 1) := by decide +kernel
theorem dX4_told_50 : decode cX4_told 50 = .ok (.aload_n 0, 1) := by decide +kernel
theorem dX4_told_51 : decode cX4_told 51 = .ok (.aload_n 3, 1) := by decide +kernel
theorem dX4_told_52 : decode cX4_told 52 = .ok (.invokevirtual 201, 3) := by decide +kernel
theorem dX4_told_55 : decode cX4_told 55 = .ok (.ireturn, 1) := by decide +kernel
theorem dX4_told_56 : decode cX4_told 56 = .ok (.aload_n 0, 1) := by decide +kernel
theorem dX4_told_57 : decode cX4_told 57 = .ok (.getfield 12, 3) := by decide +kernel
theorem dX4_told_60 : decode cX4_told 60 = .ok (.aload_n 3, 1) := by decide +kernel
theorem dX4_told_61 : decode cX4_told 61 = .ok (.getfield 199, 3) := by decide +kernel
theorem dX4_told_64 : decode cX4_told 64 = .ok (.aload_n 3, 1) := by decide +kernel
theorem dX4_told_65 : decode cX4_told 65 = .ok (.getfield 200, 3) := by decide +kernel
theorem dX4_told_68 : decode cX4_told 68 = .ok (.invokevirtual 171, 3) := by decide +kernel
theorem dX4_told_71 : decode cX4_told 71 = .ok (.ireturn, 1) := by decide +kernel
theorem dX4_share_0 : decode cX4_share 0 = .ok (.aload_n 0, 1) := by decide +kernel
theorem dX4_share_1 : decode cX4_share 1 = .ok (.getfield 12, 3) := by decide +kernel
theorem dX4_share_4 : decode cX4_share 4 = .ok (.iload_n 1, 1) := by decide +kernel
theorem dX4_share_5 : decode cX4_share 5 = .ok (.invokevirtual 81, 3) := by decide +kernel
theorem dX4_share_8 : decode cX4_share 8 = .ok (.astore_n 3, 1) := by decide +kernel
theorem dX4_share_9 : decode cX4_share 9 = .ok (.aload_n 0, 1) := by decide +kernel
theorem dX4_share_10 : decode cX4_share 10 = .ok (.getfield 12, 3) := by decide +kernel
theorem dX4_share_13 : decode cX4_share 13 = .ok (.iload_n 2, 1) := by decide +kernel
theorem dX4_share_14 : decode cX4_share 14 = .ok (.invokevirtual 81, 3) := by decide +kernel
theorem dX4_share_17 : decode cX4_share 17 = .ok (.astore 4, 2) := by decide +kernel
theorem dX4_share_19 : decode cX4_share 19 = .ok (.aload_n 3, 1) := by decide +kernel
theorem dX4_share_20 : decode cX4_share 20 = .ok (.getfield 85, 3) := by decide +kernel
theorem dX4_share_23 : decode cX4_share 23 = .ok (.ifCond .eq 11, 3) := by decide +kernel
theorem dX4_share_26 : decode cX4_share 26 = .ok (.aload 4, 2) := by decide +kernel
theorem dX4_share_28 : decode cX4_share 28 = .ok (.getfield 85, 3) := by decide +kernel
theorem dX4_share_31 : decode cX4_share 31 = .ok (.ifCond .ne 5, 3) := by decide +kernel
theorem dX4_share_34 : decode cX4_share 34 = .ok (.iconst 0, 1) := by decide +kernel
theorem dX4_share_35 : decode cX4_share 35 = .ok (.ireturn, 1) := by decide +kernel
theorem dX4_share_36 : decode cX4_share 36 = .ok (.aload_n 3, 1) := by decide +kernel
theorem dX4_share_37 : decode cX4_share 37 = .ok (.getfield 98, 3) := by decide +kernel
theorem dX4_share_40 : decode cX4_share 40 = .ok (.aload_n 3, 1) := by decide +kernel
theorem dX4_share_41 : decode cX4_share 41 = .ok (.getfield 92, 3) := by decide +kernel
theorem dX4_share_44 : decode cX4_share 44 = .ok (.iadd, 1) := by decide +kernel
theorem dX4_share_45 : decode cX4_share 45 = .ok (.aload 4, 2) := by decide +kernel
theorem dX4_share_47 : decode cX4_share 47 = .ok (.getfield 98, 3) := by decide +kernel
theorem dX4_share_50 : decode cX4_share 50 = .ok (.aload 4, 2) := by decide +kernel
theorem dX4_share_52 : decode cX4_share 52 = .ok (.getfield 92, 3) := by decide +kernel
theorem dX4_share_55 : decode cX4_share 55 = .ok (.iadd, 1) := by decide +kernel
theorem dX4_share_56 : decode cX4_share 56 = .ok (.invokestatic 205, 3) := by decide +kernel
theorem dX4_share_59 : decode cX4_share 59 = .ok (.aload_n 3, 1) := by decide +kernel
theorem dX4_share_60 : decode cX4_share 60 = .ok (.getfield 98, 3) := by decide +kernel
theorem dX4_share_63 : decode cX4_share 63 = .ok (.aload 4, 2) := by decide +kernel
theorem dX4_share_65 : decode cX4_share 65 = .ok (.getfield 98, 3) := by decide +kernel
theorem dX4_share_68 : decode cX4_share 68 = .ok (.invokestatic 210, 3) := by decide +kernel
theorem dX4_share_71 : decode cX4_share 71 = .ok (.isub, 1) := by decide +kernel
theorem dX4_share_72 : decode cX4_share 72 = .ok (.istore 5, 2) := by decide +kernel
theorem dX4_share_74 : decode cX4_share 74 = .ok (.aload_n 3, 1) := by decide +kernel
theorem dX4_share_75 : decode cX4_share 75 = .ok (.getfield 101, 3) := by decide +kernel
theorem dX4_share_78 : decode cX4_share 78 = .ok (.aload_n 3, 1) := by decide +kernel
theorem dX4_share_79 : decode cX4_share 79 = .ok (.getfield 95, 3) := by decide +kernel
theorem dX4_share_82 : decode cX4_share 82 = .ok (.iadd, 1) := by decide +kernel
theorem dX4_share_83 : decode cX4_share 83 = .ok (.aload 4, 2) := by decide +kernel
theorem dX4_share_85 : decode cX4_share 85 = .ok (.getfield 101, 3) := by decide +kernel
theorem dX4_share_88 : decode cX4_share 88 = .ok (.aload 4, 2) := by decide +kernel
theorem dX4_share_90 : decode cX4_share 90 = .ok (.getfield 95, 3) := by decide +kernel
theorem dX4_share_93 : decode cX4_share 93 = .ok (.iadd, 1) := by decide +kernel
theorem dX4_share_94 : decode cX4_share 94 = .ok (.invokestatic 205, 3) := by decide +kernel
theorem dX4_share_97 : decode cX4_share 97 = .ok (.aload_n 3, 1) := by decide +kernel
theorem dX4_share_98 : decode cX4_share 98 = .ok (.getfield 101, 3) := by decide +kernel
theorem dX4_share_101 : decode cX4_share 101 = .ok (.aload 4, 2) := by decide +kernel
theorem dX4_share_103 : decode cX4_share 103 = .ok (.getfield 101, 3) := by decide +kernel
theorem dX4_share_106 : decode cX4_share 106 = .ok (.invokestatic 210, 3) := by decide +kernel
theorem dX4_share_109 : decode cX4_share 109 = .ok (.isub, 1) := by decide +kernel
theorem dX4_share_110 : decode cX4_share 110 = .ok (.istore 6, 2) := by decide +kernel
theorem dX4_share_112 : decode cX4_share 112 = .ok (.iload 5, 2) := by decide +kernel
theorem dX4_share_114 : decode cX4_share 114 = .ok (.ifCond .le 16, 3) := by decide +kernel
theorem dX4_share_117 : decode cX4_share 117 = .ok (.iload 6, 2) := by decide +kernel
theorem dX4_share_119 : decode cX4_share 119 = .ok (.ifCond .le 11, 3) := by decide +kernel
theorem dX4_share_122 : decode cX4_share 122 = .ok (.iload 5, 2) := by decide +kernel
theorem dX4_share_124 : decode cX4_share 124 = .ok (.iload 6, 2) := by decide +kernel
theorem dX4_share_126 : decode cX4_share 126 = .ok (.imul, 1) := by decide +kernel
theorem dX4_share_127 : decode cX4_share 127 = .ok (.goto 4, 3) := by decide +kernel
theorem dX4_share_130 : decode cX4_share 130 = .ok (.iconst 0, 1) := by decide +kernel
theorem dX4_share_131 : decode cX4_share 131 = .ok (.ireturn, 1) := by decide +kernel
theorem dX4_count_0 : decode cX4_count 0 = .ok (.iload_n 1, 1) := by decide +kernel
theorem dX4_count_1 : decode cX4_count 1 = .ok (.bipush 10, 2) := by decide +kernel
theorem dX4_count_3 : decode cX4_count 3 = .ok (.invokestatic 158, 3) := by decide +kernel
theorem dX4_count_6 : decode cX4_count 6 = .ok (.iload_n 1, 1) := by decide +kernel
theorem dX4_count_7 : decode cX4_count 7 = .ok (.tableswitch 125 0 9 #[53, 61, 69, 77, 85, 93, 101, 110, 115, 120], 53) := by decide +kernel
theorem dX4_count_60 : decode cX4_count 60 = .ok (.aload_n 0, 1) := by decide +kernel
theorem dX4_count_61 : decode cX4_count 61 = .ok (.getfield 12, 3) := by decide +kernel
theorem dX4_count_64 : decode cX4_count 64 = .ok (.invokevirtual 63, 3) := by decide +kernel
theorem dX4_count_67 : decode cX4_count 67 = .ok (.ireturn, 1) := by decide +kernel
theorem dX4_count_68 : decode cX4_count 68 = .ok (.aload_n 0, 1) := by decide +kernel
theorem dX4_count_69 : decode cX4_count 69 = .ok (.getfield 12, 3) := by decide +kernel
theorem dX4_count_72 : decode cX4_count 72 = .ok (.invokevirtual 213, 3) := by decide +kernel
theorem dX4_count_75 : decode cX4_count 75 = .ok (.ireturn, 1) := by decide +kernel
theorem dX4_count_76 : decode cX4_count 76 = .ok (.aload_n 0, 1) := by decide +kernel
theorem dX4_count_77 : decode cX4_count 77 = .ok (.getfield 28, 3) := by decide +kernel
theorem dX4_count_80 : decode cX4_count 80 = .ok (.invokevirtual 114, 3) := by decide +kernel
theorem dX4_count_83 : decode cX4_count 83 = .ok (.ireturn, 1) := by decide +kernel
theorem dX4_count_84 : decode cX4_count 84 = .ok (.aload_n 0, 1) := by decide +kernel
theorem dX4_count_85 : decode cX4_count 85 = .ok (.getfield 12, 3) := by decide +kernel
theorem dX4_count_88 : decode cX4_count 88 = .ok (.invokevirtual 104, 3) := by decide +kernel
theorem dX4_count_91 : decode cX4_count 91 = .ok (.ireturn, 1) := by decide +kernel
theorem dX4_count_92 : decode cX4_count 92 = .ok (.aload_n 0, 1) := by decide +kernel
theorem dX4_count_93 : decode cX4_count 93 = .ok (.getfield 12, 3) := by decide +kernel
theorem dX4_count_96 : decode cX4_count 96 = .ok (.invokevirtual 216, 3) := by decide +kernel
theorem dX4_count_99 : decode cX4_count 99 = .ok (.ireturn, 1) := by decide +kernel
theorem dX4_count_100 : decode cX4_count 100 = .ok (.aload_n 0, 1) := by decide +kernel
theorem dX4_count_101 : decode cX4_count 101 = .ok (.getfield 12, 3) := by decide +kernel
theorem dX4_count_104 : decode cX4_count 104 = .ok (.invokevirtual 219, 3) := by decide +kernel
theorem dX4_count_107 : decode cX4_count 107 = .ok (.ireturn, 1) := by decide +kernel
theorem dX4_count_108 : decode cX4_count 108 = .ok (.aload_n 0, 1) := by decide +kernel
theorem dX4_count_109 : decode cX4_count 109 = .ok (.getfield 12, 3) := by decide +kernel
theorem dX4_count_112 : decode cX4_count 112 = .ok (.iconst 2, 1) := by decide +kernel
theorem dX4_count_113 : decode cX4_count 113 = .ok (.invokevirtual 222, 3) := by decide +kernel
theorem dX4_count_116 : decode cX4_count 116 = .ok (.ireturn, 1) := by decide +kernel
theorem dX4_count_117 : decode cX4_count 117 = .ok (.aload_n 0, 1) := by decide +kernel
theorem dX4_count_118 : decode cX4_count 118 = .ok (.getfield 36, 3) := by decide +kernel
theorem dX4_count_121 : decode cX4_count 121 = .ok (.ireturn, 1) := by decide +kernel
theorem dX4_count_122 : decode cX4_count 122 = .ok (.aload_n 0, 1) := by decide +kernel
theorem dX4_count_123 : decode cX4_count 123 = .ok (.getfield 40, 3) := by decide +kernel
theorem dX4_count_126 : decode cX4_count 126 = .ok (.ireturn, 1) := by decide +kernel
theorem dX4_count_127 : decode cX4_count 127 = .ok (.aload_n 0, 1) := by decide +kernel
theorem dX4_count_128 : decode cX4_count 128 = .ok (.getfield 43, 3) := by decide +kernel
theorem dX4_count_131 : decode cX4_count 131 = .ok (.ireturn, 1) := by decide +kernel
theorem dX4_count_132 : decode cX4_count 132 = .ok (.aload_n 0, 1) := by decide +kernel
theorem dX4_count_133 : decode cX4_count 133 = .ok (.invokevirtual 225, 3) := by decide +kernel
theorem dX4_count_136 : decode cX4_count 136 = .ok (.ireturn, 1) := by decide +kernel
theorem dX4_advise_0 : decode cX4_advise 0 = .ok (.iconst (-1), 1) := by decide +kernel
theorem dX4_advise_1 : decode cX4_advise 1 = .ok (.istore_n 1, 1) := by decide +kernel
theorem dX4_advise_2 : decode cX4_advise 2 = .ok (.sipush 577, 3) := by decide +kernel
theorem dX4_advise_5 : decode cX4_advise 5 = .ok (.istore_n 2, 1) := by decide +kernel
theorem dX4_advise_6 : decode cX4_advise 6 = .ok (.iconst 0, 1) := by decide +kernel
theorem dX4_advise_7 : decode cX4_advise 7 = .ok (.istore_n 3, 1) := by decide +kernel
theorem dX4_advise_8 : decode cX4_advise 8 = .ok (.iload_n 3, 1) := by decide +kernel
theorem dX4_advise_9 : decode cX4_advise 9 = .ok (.aload_n 0, 1) := by decide +kernel
theorem dX4_advise_10 : decode cX4_advise 10 = .ok (.getfield 12, 3) := by decide +kernel
theorem dX4_advise_13 : decode cX4_advise 13 = .ok (.invokevirtual 63, 3) := by decide +kernel
theorem dX4_advise_16 : decode cX4_advise 16 = .ok (.if_icmp .ge 52, 3) := by decide +kernel
theorem dX4_advise_19 : decode cX4_advise 19 = .ok (.aload_n 0, 1) := by decide +kernel
theorem dX4_advise_20 : decode cX4_advise 20 = .ok (.getfield 12, 3) := by decide +kernel
theorem dX4_advise_23 : decode cX4_advise 23 = .ok (.iload_n 3, 1) := by decide +kernel
theorem dX4_advise_24 : decode cX4_advise 24 = .ok (.invokevirtual 81, 3) := by decide +kernel
theorem dX4_advise_27 : decode cX4_advise 27 = .ok (.astore 4, 2) := by decide +kernel
theorem dX4_advise_29 : decode cX4_advise 29 = .ok (.aload 4, 2) := by decide +kernel
theorem dX4_advise_31 : decode cX4_advise 31 = .ok (.getfield 85, 3) := by decide +kernel
theorem dX4_advise_34 : decode cX4_advise 34 = .ok (.ifCond .ne 6, 3) := by decide +kernel
theorem dX4_advise_37 : decode cX4_advise 37 = .ok (.goto 25, 3) := by decide +kernel
theorem dX4_advise_40 : decode cX4_advise 40 = .ok (.aload_n 0, 1) := by decide +kernel
theorem dX4_advise_41 : decode cX4_advise 41 = .ok (.getfield 12, 3) := by decide +kernel
theorem dX4_advise_44 : decode cX4_advise 44 = .ok (.aload 4, 2) := by decide +kernel
theorem dX4_advise_46 : decode cX4_advise 46 = .ok (.invokevirtual 167, 3) := by decide +kernel
theorem dX4_advise_49 : decode cX4_advise 49 = .ok (.istore 5, 2) := by decide +kernel
theorem dX4_advise_51 : decode cX4_advise 51 = .ok (.iload 5, 2) := by decide +kernel
theorem dX4_advise_53 : decode cX4_advise 53 = .ok (.iload_n 2, 1) := by decide +kernel
theorem dX4_advise_54 : decode cX4_advise 54 = .ok (.if_icmp .ge 8, 3) := by decide +kernel
theorem dX4_advise_57 : decode cX4_advise 57 = .ok (.iload 5, 2) := by decide +kernel
theorem dX4_advise_59 : decode cX4_advise 59 = .ok (.istore_n 2, 1) := by decide +kernel
theorem dX4_advise_60 : decode cX4_advise 60 = .ok (.iload_n 3, 1) := by decide +kernel
theorem dX4_advise_61 : decode cX4_advise 61 = .ok (.istore_n 1, 1) := by decide +kernel
theorem dX4_advise_62 : decode cX4_advise 62 = .ok (.iinc 3 1, 3) := by decide +kernel
theorem dX4_advise_65 : decode cX4_advise 65 = .ok (.goto (-57), 3) := by decide +kernel
theorem dX4_advise_68 : decode cX4_advise 68 = .ok (.iload_n 1, 1) := by decide +kernel
theorem dX4_advise_69 : decode cX4_advise 69 = .ok (.ireturn, 1) := by decide +kernel
theorem dX4_mean_0 : decode cX4_mean 0 = .ok (.aload_n 0, 1) := by decide +kernel
theorem dX4_mean_1 : decode cX4_mean 1 = .ok (.getfield 28, 3) := by decide +kernel
theorem dX4_mean_4 : decode cX4_mean 4 = .ok (.invokevirtual 114, 3) := by decide +kernel
theorem dX4_mean_7 : decode cX4_mean 7 = .ok (.istore_n 1, 1) := by decide +kernel
theorem dX4_mean_8 : decode cX4_mean 8 = .ok (.iload_n 1, 1) := by decide +kernel
theorem dX4_mean_9 : decode cX4_mean 9 = .ok (.ifCond .ne 5, 3) := by decide +kernel
theorem dX4_mean_12 : decode cX4_mean 12 = .ok (.dconst 0, 1) := by decide +kernel
theorem dX4_mean_13 : decode cX4_mean 13 = .ok (.dreturn, 1) := by decide +kernel
theorem dX4_mean_14 : decode cX4_mean 14 = .ok (.iconst 0, 1) := by decide +kernel
theorem dX4_mean_15 : decode cX4_mean 15 = .ok (.istore_n 2, 1) := by decide +kernel
theorem dX4_mean_16 : decode cX4_mean 16 = .ok (.iconst 0, 1) := by decide +kernel
theorem dX4_mean_17 : decode cX4_mean 17 = .ok (.istore_n 3, 1) := by decide +kernel
theorem dX4_mean_18 : decode cX4_mean 18 = .ok (.iload_n 3, 1) := by decide +kernel
theorem dX4_mean_19 : decode cX4_mean 19 = .ok (.iload_n 1, 1) := by decide +kernel
theorem dX4_mean_20 : decode cX4_mean 20 = .ok (.if_icmp .ge 21, 3) := by decide +kernel
theorem dX4_mean_23 : decode cX4_mean 23 = .ok (.iload_n 2, 1) := by decide +kernel
theorem dX4_mean_24 : decode cX4_mean 24 = .ok (.aload_n 0, 1) := by decide +kernel
theorem dX4_mean_25 : decode cX4_mean 25 = .ok (.aload_n 0, 1) := by decide +kernel
theorem dX4_mean_26 : decode cX4_mean 26 = .ok (.iload_n 3, 1) := by decide +kernel
theorem dX4_mean_27 : decode cX4_mean 27 = .ok (.invokevirtual 195, 3) := by decide +kernel
theorem dX4_mean_30 : decode cX4_mean 30 = .ok (.invokevirtual 201, 3) := by decide +kernel
theorem dX4_mean_33 : decode cX4_mean 33 = .ok (.iadd, 1) := by decide +kernel
theorem dX4_mean_34 : decode cX4_mean 34 = .ok (.istore_n 2, 1) := by decide +kernel
theorem dX4_mean_35 : decode cX4_mean 35 = .ok (.iinc 3 1, 3) := by decide +kernel
theorem dX4_mean_38 : decode cX4_mean 38 = .ok (.goto (-20), 3) := by decide +kernel
theorem dX4_mean_41 : decode cX4_mean 41 = .ok (.iload_n 2, 1) := by decide +kernel
theorem dX4_mean_42 : decode cX4_mean 42 = .ok (.i2d, 1) := by decide +kernel
theorem dX4_mean_43 : decode cX4_mean 43 = .ok (.iload_n 1, 1) := by decide +kernel
theorem dX4_mean_44 : decode cX4_mean 44 = .ok (.i2d, 1) := by decide +kernel
theorem dX4_mean_45 : decode cX4_mean 45 = .ok (.ddiv, 1) := by decide +kernel
theorem dX4_mean_46 : decode cX4_mean 46 = .ok (.dreturn, 1) := by decide +kernel
theorem dX4_digest_0 : decode cX4_digest 0 = .ok (.ldc2_w 232, 3) := by decide +kernel
theorem dX4_digest_3 : decode cX4_digest 3 = .ok (.lstore_n 1, 1) := by decide +kernel
theorem dX4_digest_4 : decode cX4_digest 4 = .ok (.iconst 0, 1) := by decide +kernel
theorem dX4_digest_5 : decode cX4_digest 5 = .ok (.istore_n 3, 1) := by decide +kernel
theorem dX4_digest_6 : decode cX4_digest 6 = .ok (.iload_n 3, 1) := by decide +kernel
theorem dX4_digest_7 : decode cX4_digest 7 = .ok (.bipush 10, 2) := by decide +kernel
theorem dX4_digest_9 : decode cX4_digest 9 = .ok (.if_icmp .gt 22, 3) := by decide +kernel
theorem dX4_digest_12 : decode cX4_digest 12 = .ok (.lload_n 1, 1) := by decide +kernel
theorem dX4_digest_13 : decode cX4_digest 13 = .ok (.ldc2_w 234, 3) := by decide +kernel
theorem dX4_digest_16 : decode cX4_digest 16 = .ok (.lmul, 1) := by decide +kernel
theorem dX4_digest_17 : decode cX4_digest 17 = .ok (.aload_n 0, 1) := by decide +kernel
theorem dX4_digest_18 : decode cX4_digest 18 = .ok (.iload_n 3, 1) := by decide +kernel
theorem dX4_digest_19 : decode cX4_digest 19 = .ok (.invokevirtual 236, 3) := by decide +kernel
theorem dX4_digest_22 : decode cX4_digest 22 = .ok (.i2l, 1) := by decide +kernel
theorem dX4_digest_23 : decode cX4_digest 23 = .ok (.ladd, 1) := by decide +kernel
theorem dX4_digest_24 : decode cX4_digest 24 = .ok (.lstore_n 1, 1) := by decide +kernel
theorem dX4_digest_25 : decode cX4_digest 25 = .ok (.iinc 3 1, 3) := by decide +kernel
theorem dX4_digest_28 : decode cX4_digest 28 = .ok (.goto (-22), 3) := by decide +kernel
theorem dX4_digest_31 : decode cX4_digest 31 = .ok (.iconst 0, 1) := by decide +kernel
theorem dX4_digest_32 : decode cX4_digest 32 = .ok (.istore_n 3, 1) := by decide +kernel
theorem dX4_digest_33 : decode cX4_digest 33 = .ok (.iload_n 3, 1) := by decide +kernel
theorem dX4_digest_34 : decode cX4_digest 34 = .ok (.aload_n 0, 1) := by decide +kernel
theorem dX4_digest_35 : decode cX4_digest 35 = .ok (.getfield 12, 3) := by decide +kernel
theorem dX4_digest_38 : decode cX4_digest 38 = .ok (.invokevirtual 63, 3) := by decide +kernel
theorem dX4_digest_41 : decode cX4_digest 41 = .ok (.if_icmp .ge 40, 3) := by decide +kernel
theorem dX4_digest_44 : decode cX4_digest 44 = .ok (.iconst 0, 1) := by decide +kernel
theorem dX4_digest_45 : decode cX4_digest 45 = .ok (.istore 4, 2) := by decide +kernel
theorem dX4_digest_47 : decode cX4_digest 47 = .ok (.iload 4, 2) := by decide +kernel
theorem dX4_digest_49 : decode cX4_digest 49 = .ok (.bipush 8, 2) := by decide +kernel
theorem dX4_digest_51 : decode cX4_digest 51 = .ok (.if_icmp .gt 24, 3) := by decide +kernel
theorem dX4_digest_54 : decode cX4_digest 54 = .ok (.lload_n 1, 1) := by decide +kernel
theorem dX4_digest_55 : decode cX4_digest 55 = .ok (.ldc2_w 234, 3) := by decide +kernel
theorem dX4_digest_58 : decode cX4_digest 58 = .ok (.lmul, 1) := by decide +kernel
theorem dX4_digest_59 : decode cX4_digest 59 = .ok (.aload_n 0, 1) := by decide +kernel
theorem dX4_digest_60 : decode cX4_digest 60 = .ok (.iload_n 3, 1) := by decide +kernel
theorem dX4_digest_61 : decode cX4_digest 61 = .ok (.iload 4, 2) := by decide +kernel
theorem dX4_digest_63 : decode cX4_digest 63 = .ok (.invokevirtual 239, 3) := by decide +kernel
theorem dX4_digest_66 : decode cX4_digest 66 = .ok (.i2l, 1) := by decide +kernel
theorem dX4_digest_67 : decode cX4_digest 67 = .ok (.ladd, 1) := by decide +kernel
theorem dX4_digest_68 : decode cX4_digest 68 = .ok (.lstore_n 1, 1) := by decide +kernel
theorem dX4_digest_69 : decode cX4_digest 69 = .ok (.iinc 4 1, 3) := by decide +kernel
theorem dX4_digest_72 : decode cX4_digest 72 = .ok (.goto (-25), 3) := by decide +kernel
theorem dX4_digest_75 : decode cX4_digest 75 = .ok (.iinc 3 1, 3) := by decide +kernel
theorem dX4_digest_78 : decode cX4_digest 78 = .ok (.goto (-45), 3) := by decide +kernel
theorem dX4_digest_81 : decode cX4_digest 81 = .ok (.iconst 0, 1) := by decide +kernel
theorem dX4_digest_82 : decode cX4_digest 82 = .ok (.istore_n 3, 1) := by decide +kernel
theorem dX4_digest_83 : decode cX4_digest 83 = .ok (.iload_n 3, 1) := by decide +kernel
theorem dX4_digest_84 : decode cX4_digest 84 = .ok (.aload_n 0, 1) := by decide +kernel
theorem dX4_digest_85 : decode cX4_digest 85 = .ok (.getfield 28, 3) := by decide +kernel
theorem dX4_digest_88 : decode cX4_digest 88 = .ok (.invokevirtual 114, 3) := by decide +kernel
theorem dX4_digest_91 : decode cX4_digest 91 = .ok (.if_icmp .ge 39, 3) := by decide +kernel
theorem dX4_digest_94 : decode cX4_digest 94 = .ok (.iconst 0, 1) := by decide +kernel
theorem dX4_digest_95 : decode cX4_digest 95 = .ok (.istore 4, 2) := by decide +kernel
theorem dX4_digest_97 : decode cX4_digest 97 = .ok (.iload 4, 2) := by decide +kernel
theorem dX4_digest_99 : decode cX4_digest 99 = .ok (.iconst 3, 1) := by decide +kernel
theorem dX4_digest_100 : decode cX4_digest 100 = .ok (.if_icmp .gt 24, 3) := by decide +kernel
theorem dX4_digest_103 : decode cX4_digest 103 = .ok (.lload_n 1, 1) := by decide +kernel
theorem dX4_digest_104 : decode cX4_digest 104 = .ok (.ldc2_w 234, 3) := by decide +kernel
theorem dX4_digest_107 : decode cX4_digest 107 = .ok (.lmul, 1) := by decide +kernel
theorem dX4_digest_108 : decode cX4_digest 108 = .ok (.aload_n 0, 1) := by decide +kernel
theorem dX4_digest_109 : decode cX4_digest 109 = .ok (.iload_n 3, 1) := by decide +kernel
theorem dX4_digest_110 : decode cX4_digest 110 = .ok (.iload 4, 2) := by decide +kernel
theorem dX4_digest_112 : decode cX4_digest 112 = .ok (.invokevirtual 242, 3) := by decide +kernel
theorem dX4_digest_115 : decode cX4_digest 115 = .ok (.i2l, 1) := by decide +kernel
theorem dX4_digest_116 : decode cX4_digest 116 = .ok (.ladd, 1) := by decide +kernel
theorem dX4_digest_117 : decode cX4_digest 117 = .ok (.lstore_n 1, 1) := by decide +kernel
theorem dX4_digest_118 : decode cX4_digest 118 = .ok (.iinc 4 1, 3) := by decide +kernel
theorem dX4_digest_121 : decode cX4_digest 121 = .ok (.goto (-24), 3) := by decide +kernel
theorem dX4_digest_124 : decode cX4_digest 124 = .ok (.iinc 3 1, 3) := by decide +kernel
theorem dX4_digest_127 : decode cX4_digest 127 = .ok (.goto (-44), 3) := by decide +kernel
theorem dX4_digest_130 : decode cX4_digest 130 = .ok (.iconst 0, 1) := by decide +kernel
theorem dX4_digest_131 : decode cX4_digest 131 = .ok (.istore_n 3, 1) := by decide +kernel
theorem dX4_digest_132 : decode cX4_digest 132 = .ok (.iload_n 3, 1) := by decide +kernel
theorem dX4_digest_133 : decode cX4_digest 133 = .ok (.bipush 24, 2) := by decide +kernel
theorem dX4_digest_135 : decode cX4_digest 135 = .ok (.if_icmp .ge 16, 3) := by decide +kernel
theorem dX4_digest_138 : decode cX4_digest 138 = .ok (.aload_n 0, 1) := by decide +kernel
theorem dX4_digest_139 : decode cX4_digest 139 = .ok (.lload_n 1, 1) := by decide +kernel
theorem dX4_digest_140 : decode cX4_digest 140 = .ok (.iload_n 3, 1) := by decide +kernel
theorem dX4_digest_141 : decode cX4_digest 141 = .ok (.invokevirtual 245, 3) := by decide +kernel
theorem dX4_digest_144 : decode cX4_digest 144 = .ok (.lstore_n 1, 1) := by decide +kernel
theorem dX4_digest_145 : decode cX4_digest 145 = .ok (.iinc 3 1, 3) := by decide +kernel
theorem dX4_digest_148 : decode cX4_digest 148 = .ok (.goto (-16), 3) := by decide +kernel
theorem dX4_digest_151 : decode cX4_digest 151 = .ok (.lload_n 1, 1) := by decide +kernel
theorem dX4_digest_152 : decode cX4_digest 152 = .ok (.lreturn, 1) := by decide +kernel
theorem dX4_digestOfColumn_0 : decode cX4_digestOfColumn 0 = .ok (.lload_n 1, 1) := by decide +kernel
theorem dX4_digestOfColumn_1 : decode cX4_digestOfColumn 1 = .ok (.lstore 4, 2) := by decide +kernel
theorem dX4_digestOfColumn_3 : decode cX4_digestOfColumn 3 = .ok (.iconst 0, 1) := by decide +kernel
theorem dX4_digestOfColumn_4 : decode cX4_digestOfColumn 4 = .ok (.istore 6, 2) := by decide +kernel
theorem dX4_digestOfColumn_6 : decode cX4_digestOfColumn 6 = .ok (.iload 6, 2) := by decide +kernel
theorem dX4_digestOfColumn_8 : decode cX4_digestOfColumn 8 = .ok (.iconst 3, 1) := by decide +kernel
theorem dX4_digestOfColumn_9 : decode cX4_digestOfColumn 9 = .ok (.if_icmp .gt 26, 3) := by decide +kernel
theorem dX4_digestOfColumn_12 : decode cX4_digestOfColumn 12 = .ok (.lload 4, 2) := by decide +kernel
theorem dX4_digestOfColumn_14 : decode cX4_digestOfColumn 14 = .ok (.ldc2_w 234, 3) := by decide +kernel
theorem dX4_digestOfColumn_17 : decode cX4_digestOfColumn 17 = .ok (.lmul, 1) := by decide +kernel
theorem dX4_digestOfColumn_18 : decode cX4_digestOfColumn 18 = .ok (.aload_n 0, 1) := by decide +kernel
theorem dX4_digestOfColumn_19 : decode cX4_digestOfColumn 19 = .ok (.iload_n 3, 1) := by decide +kernel
theorem dX4_digestOfColumn_20 : decode cX4_digestOfColumn 20 = .ok (.iload 6, 2) := by decide +kernel
theorem dX4_digestOfColumn_22 : decode cX4_digestOfColumn 22 = .ok (.invokevirtual 249, 3) := by decide +kernel
theorem dX4_digestOfColumn_25 : decode cX4_digestOfColumn 25 = .ok (.i2l, 1) := by decide +kernel
theorem dX4_digestOfColumn_26 : decode cX4_digestOfColumn 26 = .ok (.ladd, 1) := by decide +kernel
theorem dX4_digestOfColumn_27 : decode cX4_digestOfColumn 27 = .ok (.lstore 4, 2) := by decide +kernel
theorem dX4_digestOfColumn_29 : decode cX4_digestOfColumn 29 = .ok (.iinc 6 1, 3) := by decide +kernel
theorem dX4_digestOfColumn_32 : decode cX4_digestOfColumn 32 = .ok (.goto (-26), 3) := by decide +kernel
theorem dX4_digestOfColumn_35 : decode cX4_digestOfColumn 35 = .ok (.iconst 0, 1) := by decide +kernel
theorem dX4_digestOfColumn_36 : decode cX4_digestOfColumn 36 = .ok (.istore 6, 2) := by decide +kernel
theorem dX4_digestOfColumn_38 : decode cX4_digestOfColumn 38 = .ok (.iload 6, 2) := by decide +kernel
theorem dX4_digestOfColumn_40 : decode cX4_digestOfColumn 40 = .ok (.bipush 24, 2) := by decide +kernel
theorem dX4_digestOfColumn_42 : decode cX4_digestOfColumn 42 = .ok (.if_icmp .ge 43, 3) := by decide +kernel
theorem dX4_digestOfColumn_45 : decode cX4_digestOfColumn 45 = .ok (.iconst 0, 1) := by decide +kernel
theorem dX4_digestOfColumn_46 : decode cX4_digestOfColumn 46 = .ok (.istore 7, 2) := by decide +kernel
theorem dX4_digestOfColumn_48 : decode cX4_digestOfColumn 48 = .ok (.iload 7, 2) := by decide +kernel
theorem dX4_digestOfColumn_50 : decode cX4_digestOfColumn 50 = .ok (.iconst 2, 1) := by decide +kernel
theorem dX4_digestOfColumn_51 : decode cX4_digestOfColumn 51 = .ok (.if_icmp .gt 28, 3) := by decide +kernel
theorem dX4_digestOfColumn_54 : decode cX4_digestOfColumn 54 = .ok (.lload 4, 2) := by decide +kernel
theorem dX4_digestOfColumn_56 : decode cX4_digestOfColumn 56 = .ok (.ldc2_w 234, 3) := by decide +kernel
theorem dX4_digestOfColumn_59 : decode cX4_digestOfColumn 59 = .ok (.lmul, 1) := by decide +kernel
theorem dX4_digestOfColumn_60 : decode cX4_digestOfColumn 60 = .ok (.aload_n 0, 1) := by decide +kernel
theorem dX4_digestOfColumn_61 : decode cX4_digestOfColumn 61 = .ok (.iload_n 3, 1) := by decide +kernel
theorem dX4_digestOfColumn_62 : decode cX4_digestOfColumn 62 = .ok (.iload 6, 2) := by decide +kernel
theorem dX4_digestOfColumn_64 : decode cX4_digestOfColumn 64 = .ok (.iload 7, 2) := by decide +kernel
theorem dX4_digestOfColumn_66 : decode cX4_digestOfColumn 66 = .ok (.invokevirtual 252, 3) := by decide +kernel
theorem dX4_digestOfColumn_69 : decode cX4_digestOfColumn 69 = .ok (.i2l, 1) := by decide +kernel
theorem dX4_digestOfColumn_70 : decode cX4_digestOfColumn 70 = .ok (.ladd, 1) := by decide +kernel
theorem dX4_digestOfColumn_71 : decode cX4_digestOfColumn 71 = .ok (.lstore 4, 2) := by decide +kernel
theorem dX4_digestOfColumn_73 : decode cX4_digestOfColumn 73 = .ok (.iinc 7 1, 3) := by decide +kernel
theorem dX4_digestOfColumn_76 : decode cX4_digestOfColumn 76 = .ok (.goto (-28), 3) := by decide +kernel
theorem dX4_digestOfColumn_79 : decode cX4_digestOfColumn 79 = .ok (.iinc 6 1, 3) := by decide +kernel
theorem dX4_digestOfColumn_82 : decode cX4_digestOfColumn 82 = .ok (.goto (-44), 3) := by decide +kernel
theorem dX4_digestOfColumn_85 : decode cX4_digestOfColumn 85 = .ok (.lload 4, 2) := by decide +kernel
theorem dX4_digestOfColumn_87 : decode cX4_digestOfColumn 87 = .ok (.lreturn, 1) := by decide +kernel
theorem dX4_numberedStall_0 : decode cX4_numberedStall 0 = .ok (.iload_n 1, 1) := by decide +kernel
theorem dX4_numberedStall_1 : decode cX4_numberedStall 1 = .ok (.ifCond .lt 14, 3) := by decide +kernel
theorem dX4_numberedStall_4 : decode cX4_numberedStall 4 = .ok (.iload_n 1, 1) := by decide +kernel
theorem dX4_numberedStall_5 : decode cX4_numberedStall 5 = .ok (.aload_n 0, 1) := by decide +kernel
theorem dX4_numberedStall_6 : decode cX4_numberedStall 6 = .ok (.getfield 28, 3) := by decide +kernel
theorem dX4_numberedStall_9 : decode cX4_numberedStall 9 = .ok (.invokevirtual 114, 3) := by decide +kernel
theorem dX4_numberedStall_12 : decode cX4_numberedStall 12 = .ok (.if_icmp .lt 13, 3) := by decide +kernel
theorem dX4_numberedStall_15 : decode cX4_numberedStall 15 = .ok (.new 178, 3) := by decide +kernel
theorem dX4_numberedStall_18 : decode cX4_numberedStall 18 = .ok (.dup, 1) := by decide +kernel
theorem dX4_numberedStall_19 : decode cX4_numberedStall 19 = .ok (.ldc 255, 2) := by decide +kernel
theorem dX4_numberedStall_21 : decode cX4_numberedStall 21 = .ok (.invokespecial 182, 3) := by decide +kernel
theorem dX4_numberedStall_24 : decode cX4_numberedStall 24 = .ok (.athrow, 1) := by decide +kernel
theorem dX4_numberedStall_25 : decode cX4_numberedStall 25 = .ok (.aload_n 0, 1) := by decide +kernel
theorem dX4_numberedStall_26 : decode cX4_numberedStall 26 = .ok (.getfield 28, 3) := by decide +kernel
theorem dX4_numberedStall_29 : decode cX4_numberedStall 29 = .ok (.iload_n 1, 1) := by decide +kernel
theorem dX4_numberedStall_30 : decode cX4_numberedStall 30 = .ok (.invokevirtual 257, 3) := by decide +kernel
theorem dX4_numberedStall_33 : decode cX4_numberedStall 33 = .ok (.checkcast 123, 3) := by decide +kernel
theorem dX4_numberedStall_36 : decode cX4_numberedStall 36 = .ok (.areturn, 1) := by decide +kernel
theorem dX4_hasStallAt_0 : decode cX4_hasStallAt 0 = .ok (.iconst 0, 1) := by decide +kernel
theorem dX4_hasStallAt_1 : decode cX4_hasStallAt 1 = .ok (.istore_n 3, 1) := by decide +kernel
theorem dX4_hasStallAt_2 : decode cX4_hasStallAt 2 = .ok (.iload_n 3, 1) := by decide +kernel
theorem dX4_hasStallAt_3 : decode cX4_hasStallAt 3 = .ok (.aload_n 0, 1) := by decide +kernel
theorem dX4_hasStallAt_4 : decode cX4_hasStallAt 4 = .ok (.getfield 28, 3) := by decide +kernel
theorem dX4_hasStallAt_7 : decode cX4_hasStallAt 7 = .ok (.invokevirtual 114, 3) := by decide +kernel
theorem dX4_hasStallAt_10 : decode cX4_hasStallAt 10 = .ok (.if_icmp .ge 42, 3) := by decide +kernel
theorem dX4_hasStallAt_13 : decode cX4_hasStallAt 13 = .ok (.aload_n 0, 1) := by decide +kernel
theorem dX4_hasStallAt_14 : decode cX4_hasStallAt 14 = .ok (.getfield 28, 3) := by decide +kernel
theorem dX4_hasStallAt_17 : decode cX4_hasStallAt 17 = .ok (.iload_n 3, 1) := by decide +kernel
theorem dX4_hasStallAt_18 : decode cX4_hasStallAt 18 = .ok (.invokevirtual 257, 3) := by decide +kernel
theorem dX4_hasStallAt_21 : decode cX4_hasStallAt 21 = .ok (.checkcast 123, 3) := by decide +kernel
theorem dX4_hasStallAt_24 : decode cX4_hasStallAt 24 = .ok (.astore 4, 2) := by decide +kernel
theorem dX4_hasStallAt_26 : decode cX4_hasStallAt 26 = .ok (.aload 4, 2) := by decide +kernel
theorem dX4_hasStallAt_28 : decode cX4_hasStallAt 28 = .ok (.getfield 199, 3) := by decide +kernel
theorem dX4_hasStallAt_31 : decode cX4_hasStallAt 31 = .ok (.iload_n 1, 1) := by decide +kernel
theorem dX4_hasStallAt_32 : decode cX4_hasStallAt 32 = .ok (.if_icmp .ne 14, 3) := by decide +kernel
theorem dX4_hasStallAt_35 : decode cX4_hasStallAt 35 = .ok (.aload 4, 2) := by decide +kernel
theorem dX4_hasStallAt_37 : decode cX4_hasStallAt 37 = .ok (.getfield 200, 3) := by decide +kernel
theorem dX4_hasStallAt_40 : decode cX4_hasStallAt 40 = .ok (.iload_n 2, 1) := by decide +kernel
theorem dX4_hasStallAt_41 : decode cX4_hasStallAt 41 = .ok (.if_icmp .ne 5, 3) := by decide +kernel
theorem dX4_hasStallAt_44 : decode cX4_hasStallAt 44 = .ok (.iconst 1, 1) := by decide +kernel
theorem dX4_hasStallAt_45 : decode cX4_hasStallAt 45 = .ok (.ireturn, 1) := by decide +kernel
theorem dX4_hasStallAt_46 : decode cX4_hasStallAt 46 = .ok (.iinc 3 1, 3) := by decide +kernel
theorem dX4_hasStallAt_49 : decode cX4_hasStallAt 49 = .ok (.goto (-47), 3) := by decide +kernel
theorem dX4_hasStallAt_52 : decode cX4_hasStallAt 52 = .ok (.iconst 0, 1) := by decide +kernel
theorem dX4_hasStallAt_53 : decode cX4_hasStallAt 53 = .ok (.ireturn, 1) := by decide +kernel
theorem dX4_stallsNotCovered_0 : decode cX4_stallsNotCovered 0 = .ok (.iconst 0, 1) := by decide +kernel
theorem dX4_stallsNotCovered_1 : decode cX4_stallsNotCovered 1 = .ok (.istore_n 1, 1) := by decide +kernel
theorem dX4_stallsNotCovered_2 : decode cX4_stallsNotCovered 2 = .ok (.iconst 0, 1) := by decide +kernel
theorem dX4_stallsNotCovered_3 : decode cX4_stallsNotCovered 3 = .ok (.istore_n 2, 1) := by decide +kernel
theorem dX4_stallsNotCovered_4 : decode cX4_stallsNotCovered 4 = .ok (.iload_n 2, 1) := by decide +kernel
theorem dX4_stallsNotCovered_5 : decode cX4_stallsNotCovered 5 = .ok (.aload_n 0, 1) := by decide +kernel
theorem dX4_stallsNotCovered_6 : decode cX4_stallsNotCovered 6 = .ok (.getfield 28, 3) := by decide +kernel
theorem dX4_stallsNotCovered_9 : decode cX4_stallsNotCovered 9 = .ok (.invokevirtual 114, 3) := by decide +kernel
theorem dX4_stallsNotCovered_12 : decode cX4_stallsNotCovered 12 = .ok (.if_icmp .ge 42, 3) := by decide +kernel
theorem dX4_stallsNotCovered_15 : decode cX4_stallsNotCovered 15 = .ok (.aload_n 0, 1) := by decide +kernel
theorem dX4_stallsNotCovered_16 : decode cX4_stallsNotCovered 16 = .ok (.getfield 28, 3) := by decide +kernel
theorem dX4_stallsNotCovered_19 : decode cX4_stallsNotCovered 19 = .ok (.iload_n 2, 1) := by decide +kernel
theorem dX4_stallsNotCovered_20 : decode cX4_stallsNotCovered 20 = .ok (.invokevirtual 257, 3) := by decide +kernel
theorem dX4_stallsNotCovered_23 : decode cX4_stallsNotCovered 23 = .ok (.checkcast 123, 3) := by decide +kernel
theorem dX4_stallsNotCovered_26 : decode cX4_stallsNotCovered 26 = .ok (.astore_n 3, 1) := by decide +kernel
theorem dX4_stallsNotCovered_27 : decode cX4_stallsNotCovered 27 = .ok (.aload_n 0, 1) := by decide +kernel
theorem dX4_stallsNotCovered_28 : decode cX4_stallsNotCovered 28 = .ok (.getfield 12, 3) := by decide +kernel
theorem dX4_stallsNotCovered_31 : decode cX4_stallsNotCovered 31 = .ok (.aload_n 3, 1) := by decide +kernel
theorem dX4_stallsNotCovered_32 : decode cX4_stallsNotCovered 32 = .ok (.getfield 199, 3) := by decide +kernel
theorem dX4_stallsNotCovered_35 : decode cX4_stallsNotCovered 35 = .ok (.aload_n 3, 1) := by decide +kernel
theorem dX4_stallsNotCovered_36 : decode cX4_stallsNotCovered 36 = .ok (.getfield 200, 3) := by decide +kernel
theorem dX4_stallsNotCovered_39 : decode cX4_stallsNotCovered 39 = .ok (.invokevirtual 171, 3) := by decide +kernel
theorem dX4_stallsNotCovered_42 : decode cX4_stallsNotCovered 42 = .ok (.ifCond .ne 6, 3) := by decide +kernel
theorem dX4_stallsNotCovered_45 : decode cX4_stallsNotCovered 45 = .ok (.iinc 1 1, 3) := by decide +kernel
theorem dX4_stallsNotCovered_48 : decode cX4_stallsNotCovered 48 = .ok (.iinc 2 1, 3) := by decide +kernel
theorem dX4_stallsNotCovered_51 : decode cX4_stallsNotCovered 51 = .ok (.goto (-47), 3) := by decide +kernel
theorem dX4_stallsNotCovered_54 : decode cX4_stallsNotCovered 54 = .ok (.iload_n 1, 1) := by decide +kernel
theorem dX4_stallsNotCovered_55 : decode cX4_stallsNotCovered 55 = .ok (.ireturn, 1) := by decide +kernel
theorem dX4_gotBy_0 : decode cX4_gotBy 0 = .ok (.aload_n 0, 1) := by decide +kernel
theorem dX4_gotBy_1 : decode cX4_gotBy 1 = .ok (.aload_n 1, 1) := by decide +kernel
theorem dX4_gotBy_2 : decode cX4_gotBy 2 = .ok (.getfield 199, 3) := by decide +kernel
theorem dX4_gotBy_5 : decode cX4_gotBy 5 = .ok (.aload_n 1, 1) := by decide +kernel
theorem dX4_gotBy_6 : decode cX4_gotBy 6 = .ok (.getfield 200, 3) := by decide +kernel
theorem dX4_gotBy_9 : decode cX4_gotBy 9 = .ok (.invokevirtual 125, 3) := by decide +kernel
theorem dX4_gotBy_12 : decode cX4_gotBy 12 = .ok (.aload_n 1, 1) := by decide +kernel
theorem dX4_gotBy_13 : decode cX4_gotBy 13 = .ok (.getfield 261, 3) := by decide +kernel
theorem dX4_gotBy_16 : decode cX4_gotBy 16 = .ok (.isub, 1) := by decide +kernel
theorem dX4_gotBy_17 : decode cX4_gotBy 17 = .ok (.ireturn, 1) := by decide +kernel
theorem dX4_groundAt_0 : decode cX4_groundAt 0 = .ok (.iload_n 1, 1) := by decide +kernel
theorem dX4_groundAt_1 : decode cX4_groundAt 1 = .ok (.iload_n 2, 1) := by decide +kernel
theorem dX4_groundAt_2 : decode cX4_groundAt 2 = .ok (.invokestatic 264, 3) := by decide +kernel
theorem dX4_groundAt_5 : decode cX4_groundAt 5 = .ok (.ifCond .eq 17, 3) := by decide +kernel
theorem dX4_groundAt_8 : decode cX4_groundAt 8 = .ok (.aload_n 0, 1) := by decide +kernel
theorem dX4_groundAt_9 : decode cX4_groundAt 9 = .ok (.getfield 32, 3) := by decide +kernel
theorem dX4_groundAt_12 : decode cX4_groundAt 12 = .ok (.iload_n 2, 1) := by decide +kernel
theorem dX4_groundAt_13 : decode cX4_groundAt 13 = .ok (.bipush 24, 2) := by decide +kernel
theorem dX4_groundAt_15 : decode cX4_groundAt 15 = .ok (.imul, 1) := by decide +kernel
theorem dX4_groundAt_16 : decode cX4_groundAt 16 = .ok (.iload_n 1, 1) := by decide +kernel
theorem dX4_groundAt_17 : decode cX4_groundAt 17 = .ok (.iadd, 1) := by decide +kernel
theorem dX4_groundAt_18 : decode cX4_groundAt 18 = .ok (.iaload, 1) := by decide +kernel
theorem dX4_groundAt_19 : decode cX4_groundAt 19 = .ok (.goto 4, 3) := by decide +kernel
theorem dX4_groundAt_22 : decode cX4_groundAt 22 = .ok (.iconst 0, 1) := by decide +kernel
theorem dX4_groundAt_23 : decode cX4_groundAt 23 = .ok (.ireturn, 1) := by decide +kernel
theorem dX4_isCell_0 : decode cX4_isCell 0 = .ok (.iload_n 0, 1) := by decide +kernel
theorem dX4_isCell_1 : decode cX4_isCell 1 = .ok (.ifCond .lt 23, 3) := by decide +kernel
theorem dX4_isCell_4 : decode cX4_isCell 4 = .ok (.iload_n 0, 1) := by decide +kernel
theorem dX4_isCell_5 : decode cX4_isCell 5 = .ok (.bipush 24, 2) := by decide +kernel
theorem dX4_isCell_7 : decode cX4_isCell 7 = .ok (.if_icmp .ge 17, 3) := by decide +kernel
theorem dX4_isCell_10 : decode cX4_isCell 10 = .ok (.iload_n 1, 1) := by decide +kernel
theorem dX4_isCell_11 : decode cX4_isCell 11 = .ok (.ifCond .lt 13, 3) := by decide +kernel
theorem dX4_isCell_14 : decode cX4_isCell 14 = .ok (.iload_n 1, 1) := by decide +kernel
theorem dX4_isCell_15 : decode cX4_isCell 15 = .ok (.bipush 24, 2) := by decide +kernel
theorem dX4_isCell_17 : decode cX4_isCell 17 = .ok (.if_icmp .ge 7, 3) := by decide +kernel
theorem dX4_isCell_20 : decode cX4_isCell 20 = .ok (.iconst 1, 1) := by decide +kernel
theorem dX4_isCell_21 : decode cX4_isCell 21 = .ok (.goto 4, 3) := by decide +kernel
theorem dX4_isCell_24 : decode cX4_isCell 24 = .ok (.iconst 0, 1) := by decide +kernel
theorem dX4_isCell_25 : decode cX4_isCell 25 = .ok (.ireturn, 1) := by decide +kernel
theorem dX4_requireCell_0 : decode cX4_requireCell 0 = .ok (.iload_n 0, 1) := by decide +kernel
theorem dX4_requireCell_1 : decode cX4_requireCell 1 = .ok (.iload_n 1, 1) := by decide +kernel
theorem dX4_requireCell_2 : decode cX4_requireCell 2 = .ok (.invokestatic 264, 3) := by decide +kernel
theorem dX4_requireCell_5 : decode cX4_requireCell 5 = .ok (.ifCond .ne 14, 3) := by decide +kernel
theorem dX4_requireCell_8 : decode cX4_requireCell 8 = .ok (.new 178, 3) := by decide +kernel
theorem dX4_requireCell_11 : decode cX4_requireCell 11 = .ok (.dup, 1) := by decide +kernel
theorem dX4_requireCell_12 : decode cX4_requireCell 12 = .ok (.ldc_w 267, 3) := by decide +kernel
theorem dX4_requireCell_15 : decode cX4_requireCell 15 = .ok (.invokespecial 182, 3) := by decide +kernel
theorem dX4_requireCell_18 : decode cX4_requireCell 18 = .ok (.athrow, 1) := by decide +kernel
theorem dX4_requireCell_19 : decode cX4_requireCell 19 = .ok (.return_, 1) := by decide +kernel
theorem dX4_requireExtent_0 : decode cX4_requireExtent 0 = .ok (.iload_n 0, 1) := by decide +kernel
theorem dX4_requireExtent_1 : decode cX4_requireExtent 1 = .ok (.iconst 1, 1) := by decide +kernel
theorem dX4_requireExtent_2 : decode cX4_requireExtent 2 = .ok (.if_icmp .lt 20, 3) := by decide +kernel
theorem dX4_requireExtent_5 : decode cX4_requireExtent 5 = .ok (.iload_n 0, 1) := by decide +kernel
theorem dX4_requireExtent_6 : decode cX4_requireExtent 6 = .ok (.bipush 24, 2) := by decide +kernel
theorem dX4_requireExtent_8 : decode cX4_requireExtent 8 = .ok (.if_icmp .gt 14, 3) := by decide +kernel
theorem dX4_requireExtent_11 : decode cX4_requireExtent 11 = .ok (.iload_n 1, 1) := by decide +kernel
theorem dX4_requireExtent_12 : decode cX4_requireExtent 12 = .ok (.iconst 1, 1) := by decide +kernel
theorem dX4_requireExtent_13 : decode cX4_requireExtent 13 = .ok (.if_icmp .lt 9, 3) := by decide +kernel
theorem dX4_requireExtent_16 : decode cX4_requireExtent 16 = .ok (.iload_n 1, 1) := by decide +kernel
theorem dX4_requireExtent_17 : decode cX4_requireExtent 17 = .ok (.bipush 24, 2) := by decide +kernel
theorem dX4_requireExtent_19 : decode cX4_requireExtent 19 = .ok (.if_icmp .le 14, 3) := by decide +kernel
theorem dX4_requireExtent_22 : decode cX4_requireExtent 22 = .ok (.new 50, 3) := by decide +kernel
theorem dX4_requireExtent_25 : decode cX4_requireExtent 25 = .ok (.dup, 1) := by decide +kernel
theorem dX4_requireExtent_26 : decode cX4_requireExtent 26 = .ok (.ldc_w 269, 3) := by decide +kernel
theorem dX4_requireExtent_29 : decode cX4_requireExtent 29 = .ok (.invokespecial 54, 3) := by decide +kernel
theorem dX4_requireExtent_32 : decode cX4_requireExtent 32 = .ok (.athrow, 1) := by decide +kernel
theorem dX4_requireExtent_33 : decode cX4_requireExtent 33 = .ok (.return_, 1) := by decide +kernel
theorem dX4_requireRoomInSquare_0 : decode cX4_requireRoomInSquare 0 = .ok (.iload_n 0, 1) := by decide +kernel
theorem dX4_requireRoomInSquare_1 : decode cX4_requireRoomInSquare 1 = .ok (.ifCond .lt 23, 3) := by decide +kernel
theorem dX4_requireRoomInSquare_4 : decode cX4_requireRoomInSquare 4 = .ok (.iload_n 1, 1) := by decide +kernel
theorem dX4_requireRoomInSquare_5 : decode cX4_requireRoomInSquare 5 = .ok (.ifCond .lt 19, 3) := by decide +kernel
theorem dX4_requireRoomInSquare_8 : decode cX4_requireRoomInSquare 8 = .ok (.iload_n 0, 1) := by decide +kernel
theorem dX4_requireRoomInSquare_9 : decode cX4_requireRoomInSquare 9 = .ok (.bipush 24, 2) := by decide +kernel
theorem dX4_requireRoomInSquare_11 : decode cX4_requireRoomInSquare 11 = .ok (.iload_n 2, 1) := by decide +kernel
theorem dX4_requireRoomInSquare_12 : decode cX4_requireRoomInSquare 12 = .ok (.isub, 1) := by decide +kernel
theorem dX4_requireRoomInSquare_13 : decode cX4_requireRoomInSquare 13 = .ok (.if_icmp .gt 11, 3) := by decide +kernel
theorem dX4_requireRoomInSquare_16 : decode cX4_requireRoomInSquare 16 = .ok (.iload_n 1, 1) := by decide +kernel
theorem dX4_requireRoomInSquare_17 : decode cX4_requireRoomInSquare 17 = .ok (.bipush 24, 2) := by decide +kernel
theorem dX4_requireRoomInSquare_19 : decode cX4_requireRoomInSquare 19 = .ok (.iload_n 3, 1) := by decide +kernel
theorem dX4_requireRoomInSquare_20 : decode cX4_requireRoomInSquare 20 = .ok (.isub, 1) := by decide +kernel
theorem dX4_requireRoomInSquare_21 : decode cX4_requireRoomInSquare 21 = .ok (.if_icmp .le 14, 3) := by decide +kernel
theorem dX4_requireRoomInSquare_24 : decode cX4_requireRoomInSquare 24 = .ok (.new 178, 3) := by decide +kernel
theorem dX4_requireRoomInSquare_27 : decode cX4_requireRoomInSquare 27 = .ok (.dup, 1) := by decide +kernel
theorem dX4_requireRoomInSquare_28 : decode cX4_requireRoomInSquare 28 = .ok (.ldc_w 271, 3) := by decide +kernel
theorem dX4_requireRoomInSquare_31 : decode cX4_requireRoomInSquare 31 = .ok (.invokespecial 182, 3) := by decide +kernel
theorem dX4_requireRoomInSquare_34 : decode cX4_requireRoomInSquare 34 = .ok (.athrow, 1) := by decide +kernel
theorem dX4_requireRoomInSquare_35 : decode cX4_requireRoomInSquare 35 = .ok (.return_, 1) := by decide +kernel
theorem dX4_requireDrops_0 : decode cX4_requireDrops 0 = .ok (.iload_n 0, 1) := by decide +kernel
theorem dX4_requireDrops_1 : decode cX4_requireDrops 1 = .ok (.iconst 1, 1) := by decide +kernel
theorem dX4_requireDrops_2 : decode cX4_requireDrops 2 = .ok (.if_icmp .lt 9, 3) := by decide +kernel
theorem dX4_requireDrops_5 : decode cX4_requireDrops 5 = .ok (.iload_n 0, 1) := by decide +kernel
theorem dX4_requireDrops_6 : decode cX4_requireDrops 6 = .ok (.bipush 20, 2) := by decide +kernel
theorem dX4_requireDrops_8 : decode cX4_requireDrops 8 = .ok (.if_icmp .le 14, 3) := by decide +kernel
theorem dX4_requireDrops_11 : decode cX4_requireDrops 11 = .ok (.new 50, 3) := by decide +kernel
theorem dX4_requireDrops_14 : decode cX4_requireDrops 14 = .ok (.dup, 1) := by decide +kernel
theorem dX4_requireDrops_15 : decode cX4_requireDrops 15 = .ok (.ldc_w 273, 3) := by decide +kernel
theorem dX4_requireDrops_18 : decode cX4_requireDrops 18 = .ok (.invokespecial 54, 3) := by decide +kernel
theorem dX4_requireDrops_21 : decode cX4_requireDrops 21 = .ok (.athrow, 1) := by decide +kernel
theorem dX4_requireDrops_22 : decode cX4_requireDrops 22 = .ok (.return_, 1) := by decide +kernel
theorem dX4_requireWhat_0 : decode cX4_requireWhat 0 = .ok (.iload_n 0, 1) := by decide +kernel
theorem dX4_requireWhat_1 : decode cX4_requireWhat 1 = .ok (.ifCond .lt 8, 3) := by decide +kernel
theorem dX4_requireWhat_4 : decode cX4_requireWhat 4 = .ok (.iload_n 0, 1) := by decide +kernel
theorem dX4_requireWhat_5 : decode cX4_requireWhat 5 = .ok (.iload_n 1, 1) := by decide +kernel
theorem dX4_requireWhat_6 : decode cX4_requireWhat 6 = .ok (.if_icmp .le 14, 3) := by decide +kernel
theorem dX4_requireWhat_9 : decode cX4_requireWhat 9 = .ok (.new 178, 3) := by decide +kernel
theorem dX4_requireWhat_12 : decode cX4_requireWhat 12 = .ok (.dup, 1) := by decide +kernel
theorem dX4_requireWhat_13 : decode cX4_requireWhat 13 = .ok (.ldc_w 275, 3) := by decide +kernel
theorem dX4_requireWhat_16 : decode cX4_requireWhat 16 = .ok (.invokespecial 182, 3) := by decide +kernel
theorem dX4_requireWhat_19 : decode cX4_requireWhat 19 = .ok (.athrow, 1) := by decide +kernel
theorem dX4_requireWhat_20 : decode cX4_requireWhat 20 = .ok (.return_, 1) := by decide +kernel
theorem dX5_init_0 : decode cX5_init 0 = .ok (.aload_n 0, 1) := by decide +kernel
theorem dX5_init_1 : decode cX5_init 1 = .ok (.invokespecial 1, 3) := by decide +kernel
theorem dX5_init_4 : decode cX5_init 4 = .ok (.aload_n 0, 1) := by decide +kernel
theorem dX5_init_5 : decode cX5_init 5 = .ok (.iconst 0, 1) := by decide +kernel
theorem dX5_init_6 : decode cX5_init 6 = .ok (.anewarray 7, 3) := by decide +kernel
theorem dX5_init_9 : decode cX5_init 9 = .ok (.putfield 9, 3) := by decide +kernel
theorem dX5_init_12 : decode cX5_init 12 = .ok (.aload_n 0, 1) := by decide +kernel
theorem dX5_init_13 : decode cX5_init 13 = .ok (.iconst 0, 1) := by decide +kernel
theorem dX5_init_14 : decode cX5_init 14 = .ok (.anewarray 7, 3) := by decide +kernel
theorem dX5_init_17 : decode cX5_init 17 = .ok (.putfield 15, 3) := by decide +kernel
theorem dX5_init_20 : decode cX5_init 20 = .ok (.aload_n 0, 1) := by decide +kernel
theorem dX5_init_21 : decode cX5_init 21 = .ok (.bipush 24, 2) := by decide +kernel
theorem dX5_init_23 : decode cX5_init 23 = .ok (.bipush 24, 2) := by decide +kernel
theorem dX5_init_25 : decode cX5_init 25 = .ok (.multianewarray 18 2, 4) := by decide +kernel
theorem dX5_init_29 : decode cX5_init 29 = .ok (.putfield 19, 3) := by decide +kernel
theorem dX5_init_32 : decode cX5_init 32 = .ok (.return_, 1) := by decide +kernel
theorem dX5_with_0 : decode cX5_with 0 = .ok (.aload_n 0, 1) := by decide +kernel
theorem dX5_with_1 : decode cX5_with 1 = .ok (.arraylength, 1) := by decide +kernel
theorem dX5_with_2 : decode cX5_with 2 = .ok (.iconst 1, 1) := by decide +kernel
theorem dX5_with_3 : decode cX5_with 3 = .ok (.iadd, 1) := by decide +kernel
theorem dX5_with_4 : decode cX5_with 4 = .ok (.anewarray 7, 3) := by decide +kernel
theorem dX5_with_7 : decode cX5_with 7 = .ok (.astore_n 2, 1) := by decide +kernel
theorem dX5_with_8 : decode cX5_with 8 = .ok (.iconst 0, 1) := by decide +kernel
theorem dX5_with_9 : decode cX5_with 9 = .ok (.istore_n 3, 1) := by decide +kernel
theorem dX5_with_10 : decode cX5_with 10 = .ok (.iload_n 3, 1) := by decide +kernel
theorem dX5_with_11 : decode cX5_with 11 = .ok (.aload_n 0, 1) := by decide +kernel
theorem dX5_with_12 : decode cX5_with 12 = .ok (.arraylength, 1) := by decide +kernel
theorem dX5_with_13 : decode cX5_with 13 = .ok (.if_icmp .ge 15, 3) := by decide +kernel
theorem dX5_with_16 : decode cX5_with 16 = .ok (.aload_n 2, 1) := by decide +kernel
theorem dX5_with_17 : decode cX5_with 17 = .ok (.iload_n 3, 1) := by decide +kernel
theorem dX5_with_18 : decode cX5_with 18 = .ok (.aload_n 0, 1) := by decide +kernel
theorem dX5_with_19 : decode cX5_with 19 = .ok (.iload_n 3, 1) := by decide +kernel
theorem dX5_with_20 : decode cX5_with 20 = .ok (.aaload, 1) := by decide +kernel
theorem dX5_with_21 : decode cX5_with 21 = .ok (.aastore, 1) := by decide +kernel
theorem dX5_with_22 : decode cX5_with 22 = .ok (.iinc 3 1, 3) := by decide +kernel
theorem dX5_with_25 : decode cX5_with 25 = .ok (.goto (-15), 3) := by decide +kernel
theorem dX5_with_28 : decode cX5_with 28 = .ok (.aload_n 2, 1) := by decide +kernel
theorem dX5_with_29 : decode cX5_with 29 = .ok (.aload_n 0, 1) := by decide +kernel
theorem dX5_with_30 : decode cX5_with 30 = .ok (.arraylength, 1) := by decide +kernel
theorem dX5_with_31 : decode cX5_with 31 = .ok (.aload_n 1, 1) := by decide +kernel
theorem dX5_with_32 : decode cX5_with 32 = .ok (.aastore, 1) := by decide +kernel
theorem dX5_with_33 : decode cX5_with 33 = .ok (.aload_n 2, 1) := by decide +kernel
theorem dX5_with_34 : decode cX5_with 34 = .ok (.areturn, 1) := by decide +kernel
theorem dX5_without_0 : decode cX5_without 0 = .ok (.aload_n 0, 1) := by decide +kernel
theorem dX5_without_1 : decode cX5_without 1 = .ok (.arraylength, 1) := by decide +kernel
theorem dX5_without_2 : decode cX5_without 2 = .ok (.iconst 1, 1) := by decide +kernel
theorem dX5_without_3 : decode cX5_without 3 = .ok (.isub, 1) := by decide +kernel
theorem dX5_without_4 : decode cX5_without 4 = .ok (.anewarray 7, 3) := by decide +kernel
theorem dX5_without_7 : decode cX5_without 7 = .ok (.astore_n 2, 1) := by decide +kernel
theorem dX5_without_8 : decode cX5_without 8 = .ok (.iconst 0, 1) := by decide +kernel
theorem dX5_without_9 : decode cX5_without 9 = .ok (.istore_n 3, 1) := by decide +kernel
theorem dX5_without_10 : decode cX5_without 10 = .ok (.iload_n 3, 1) := by decide +kernel
theorem dX5_without_11 : decode cX5_without 11 = .ok (.aload_n 2, 1) := by decide +kernel
theorem dX5_without_12 : decode cX5_without 12 = .ok (.arraylength, 1) := by decide +kernel
theorem dX5_without_13 : decode cX5_without 13 = .ok (.if_icmp .ge 26, 3) := by decide +kernel
theorem dX5_without_16 : decode cX5_without 16 = .ok (.aload_n 2, 1) := by decide +kernel
theorem dX5_without_17 : decode cX5_without 17 = .ok (.iload_n 3, 1) := by decide +kernel
theorem dX5_without_18 : decode cX5_without 18 = .ok (.aload_n 0, 1) := by decide +kernel
theorem dX5_without_19 : decode cX5_without 19 = .ok (.iload_n 3, 1) := by decide +kernel
theorem dX5_without_20 : decode cX5_without 20 = .ok (.iload_n 1, 1) := by decide +kernel
theorem dX5_without_21 : decode cX5_without 21 = .ok (.if_icmp .ge 7, 3) := by decide +kernel
theorem dX5_without_24 : decode cX5_without 24 = .ok (.iload_n 3, 1) := by decide +kernel
theorem dX5_without_25 : decode cX5_without 25 = .ok (.goto 6, 3) := by decide +kernel
theorem dX5_without_28 : decode cX5_without 28 = .ok (.iload_n 3, 1) := by decide +kernel
theorem dX5_without_29 : decode cX5_without 29 = .ok (.iconst 1, 1) := by decide +kernel
theorem dX5_without_30 : decode cX5_without 30 = .ok (.iadd, 1) := by decide +kernel
theorem dX5_without_31 : decode cX5_without 31 = .ok (.aaload, 1) := by decide +kernel
theorem dX5_without_32 : decode cX5_without 32 = .ok (.aastore, 1) := by decide +kernel
theorem dX5_without_33 : decode cX5_without 33 = .ok (.iinc 3 1, 3) := by decide +kernel
theorem dX5_without_36 : decode cX5_without 36 = .ok (.goto (-26), 3) := by decide +kernel
theorem dX5_without_39 : decode cX5_without 39 = .ok (.aload_n 2, 1) := by decide +kernel
theorem dX5_without_40 : decode cX5_without 40 = .ok (.areturn, 1) := by decide +kernel
theorem dX5_lies_0 : decode cX5_lies 0 = .ok (.aload_n 0, 1) := by decide +kernel
theorem dX5_lies_1 : decode cX5_lies 1 = .ok (.getfield 9, 3) := by decide +kernel
theorem dX5_lies_4 : decode cX5_lies 4 = .ok (.iload_n 1, 1) := by decide +kernel
theorem dX5_lies_5 : decode cX5_lies 5 = .ok (.aaload, 1) := by decide +kernel
theorem dX5_lies_6 : decode cX5_lies 6 = .ok (.astore 4, 2) := by decide +kernel
theorem dX5_lies_8 : decode cX5_lies 8 = .ok (.aload 4, 2) := by decide +kernel
theorem dX5_lies_10 : decode cX5_lies 10 = .ok (.bipush 6, 2) := by decide +kernel
theorem dX5_lies_12 : decode cX5_lies 12 = .ok (.iaload, 1) := by decide +kernel
theorem dX5_lies_13 : decode cX5_lies 13 = .ok (.iconst 1, 1) := by decide +kernel
theorem dX5_lies_14 : decode cX5_lies 14 = .ok (.if_icmp .ne 49, 3) := by decide +kernel
theorem dX5_lies_17 : decode cX5_lies 17 = .ok (.iload_n 2, 1) := by decide +kernel
theorem dX5_lies_18 : decode cX5_lies 18 = .ok (.aload 4, 2) := by decide +kernel
theorem dX5_lies_20 : decode cX5_lies 20 = .ok (.iconst 0, 1) := by decide +kernel
theorem dX5_lies_21 : decode cX5_lies 21 = .ok (.iaload, 1) := by decide +kernel
theorem dX5_lies_22 : decode cX5_lies 22 = .ok (.if_icmp .lt 41, 3) := by decide +kernel
theorem dX5_lies_25 : decode cX5_lies 25 = .ok (.iload_n 2, 1) := by decide +kernel
theorem dX5_lies_26 : decode cX5_lies 26 = .ok (.aload 4, 2) := by decide +kernel
theorem dX5_lies_28 : decode cX5_lies 28 = .ok (.iconst 0, 1) := by decide +kernel
theorem dX5_lies_29 : decode cX5_lies 29 = .ok (.iaload, 1) := by decide +kernel
theorem dX5_lies_30 : decode cX5_lies 30 = .ok (.aload 4, 2) := by decide +kernel
theorem dX5_lies_32 : decode cX5_lies 32 = .ok (.iconst 2, 1) := by decide +kernel
theorem dX5_lies_33 : decode cX5_lies 33 = .ok (.iaload, 1) := by decide +kernel
theorem dX5_lies_34 : decode cX5_lies 34 = .ok (.iadd, 1) := by decide +kernel
theorem dX5_lies_35 : decode cX5_lies 35 = .ok (.if_icmp .ge 28, 3) := by decide +kernel
theorem dX5_lies_38 : decode cX5_lies 38 = .ok (.iload_n 3, 1) := by decide +kernel
theorem dX5_lies_39 : decode cX5_lies 39 = .ok (.aload 4, 2) := by decide +kernel
theorem dX5_lies_41 : decode cX5_lies 41 = .ok (.iconst 1, 1) := by decide +kernel
theorem dX5_lies_42 : decode cX5_lies 42 = .ok (.iaload, 1) := by decide +kernel
theorem dX5_lies_43 : decode cX5_lies 43 = .ok (.if_icmp .lt 20, 3) := by decide +kernel
theorem dX5_lies_46 : decode cX5_lies 46 = .ok (.iload_n 3, 1) := by decide +kernel
theorem dX5_lies_47 : decode cX5_lies 47 = .ok (.aload 4, 2) := by decide +kernel
theorem dX5_lies_49 : decode cX5_lies 49 = .ok (.iconst 1, 1) := by decide +kernel
theorem dX5_lies_50 : decode cX5_lies 50 = .ok (.iaload, 1) := by decide +kernel
theorem dX5_lies_51 : decode cX5_lies 51 = .ok (.aload 4, 2) := by decide +kernel
theorem dX5_lies_53 : decode cX5_lies 53 = .ok (.iconst 3, 1) := by decide +kernel
theorem dX5_lies_54 : decode cX5_lies 54 = .ok (.iaload, 1) := by decide +kernel
theorem dX5_lies_55 : decode cX5_lies 55 = .ok (.iadd, 1) := by decide +kernel
theorem dX5_lies_56 : decode cX5_lies 56 = .ok (.if_icmp .ge 7, 3) := by decide +kernel
theorem dX5_lies_59 : decode cX5_lies 59 = .ok (.iconst 1, 1) := by decide +kernel
theorem dX5_lies_60 : decode cX5_lies 60 = .ok (.goto 4, 3) := by decide +kernel
theorem dX5_lies_63 : decode cX5_lies 63 = .ok (.iconst 0, 1) := by decide +kernel
theorem dX5_lies_64 : decode cX5_lies 64 = .ok (.ireturn, 1) := by decide +kernel
theorem dX5_lying_0 : decode cX5_lying 0 = .ok (.iconst 0, 1) := by decide +kernel
theorem dX5_lying_1 : decode cX5_lying 1 = .ok (.istore_n 3, 1) := by decide +kernel
theorem dX5_lying_2 : decode cX5_lying 2 = .ok (.iconst 0, 1) := by decide +kernel
theorem dX5_lying_3 : decode cX5_lying 3 = .ok (.istore 4, 2) := by decide +kernel
theorem dX5_lying_5 : decode cX5_lying 5 = .ok (.iload 4, 2) := by decide +kernel
theorem dX5_lying_7 : decode cX5_lying 7 = .ok (.aload_n 0, 1) := by decide +kernel
theorem dX5_lying_8 : decode cX5_lying 8 = .ok (.getfield 9, 3) := by decide +kernel
theorem dX5_lying_11 : decode cX5_lying 11 = .ok (.arraylength, 1) := by decide +kernel
theorem dX5_lying_12 : decode cX5_lying 12 = .ok (.if_icmp .ge 28, 3) := by decide +kernel
theorem dX5_lying_15 : decode cX5_lying 15 = .ok (.iload_n 3, 1) := by decide +kernel
theorem dX5_lying_16 : decode cX5_lying 16 = .ok (.aload_n 0, 1) := by decide +kernel
theorem dX5_lying_17 : decode cX5_lying 17 = .ok (.iload 4, 2) := by decide +kernel
theorem dX5_lying_19 : decode cX5_lying 19 = .ok (.iload_n 1, 1) := by decide +kernel
theorem dX5_lying_20 : decode cX5_lying 20 = .ok (.iload_n 2, 1) := by decide +kernel
theorem dX5_lying_21 : decode cX5_lying 21 = .ok (.invokevirtual 22, 3) := by decide +kernel
theorem dX5_lying_24 : decode cX5_lying 24 = .ok (.ifCond .eq 7, 3) := by decide +kernel
theorem dX5_lying_27 : decode cX5_lying 27 = .ok (.iconst 1, 1) := by decide +kernel
theorem dX5_lying_28 : decode cX5_lying 28 = .ok (.goto 4, 3) := by decide +kernel
theorem dX5_lying_31 : decode cX5_lying 31 = .ok (.iconst 0, 1) := by decide +kernel
theorem dX5_lying_32 : decode cX5_lying 32 = .ok (.iadd, 1) := by decide +kernel
theorem dX5_lying_33 : decode cX5_lying 33 = .ok (.istore_n 3, 1) := by decide +kernel
theorem dX5_lying_34 : decode cX5_lying 34 = .ok (.iinc 4 1, 3) := by decide +kernel
theorem dX5_lying_37 : decode cX5_lying 37 = .ok (.goto (-32), 3) := by decide +kernel
theorem dX5_lying_40 : decode cX5_lying 40 = .ok (.iload_n 3, 1) := by decide +kernel
theorem dX5_lying_41 : decode cX5_lying 41 = .ok (.ireturn, 1) := by decide +kernel
theorem dX5_isCovered_0 : decode cX5_isCovered 0 = .ok (.iload_n 1, 1) := by decide +kernel
theorem dX5_isCovered_1 : decode cX5_isCovered 1 = .ok (.ifCond .lt 32, 3) := by decide +kernel
theorem dX5_isCovered_4 : decode cX5_isCovered 4 = .ok (.iload_n 2, 1) := by decide +kernel
theorem dX5_isCovered_5 : decode cX5_isCovered 5 = .ok (.ifCond .lt 28, 3) := by decide +kernel
theorem dX5_isCovered_8 : decode cX5_isCovered 8 = .ok (.iload_n 1, 1) := by decide +kernel
theorem dX5_isCovered_9 : decode cX5_isCovered 9 = .ok (.bipush 24, 2) := by decide +kernel
theorem dX5_isCovered_11 : decode cX5_isCovered 11 = .ok (.if_icmp .ge 22, 3) := by decide +kernel
theorem dX5_isCovered_14 : decode cX5_isCovered 14 = .ok (.iload_n 2, 1) := by decide +kernel
theorem dX5_isCovered_15 : decode cX5_isCovered 15 = .ok (.bipush 24, 2) := by decide +kernel
theorem dX5_isCovered_17 : decode cX5_isCovered 17 = .ok (.if_icmp .ge 16, 3) := by decide +kernel
theorem dX5_isCovered_20 : decode cX5_isCovered 20 = .ok (.aload_n 0, 1) := by decide +kernel
theorem dX5_isCovered_21 : decode cX5_isCovered 21 = .ok (.iload_n 1, 1) := by decide +kernel
theorem dX5_isCovered_22 : decode cX5_isCovered 22 = .ok (.iload_n 2, 1) := by decide +kernel
theorem dX5_isCovered_23 : decode cX5_isCovered 23 = .ok (.invokevirtual 26, 3) := by decide +kernel
theorem dX5_isCovered_26 : decode cX5_isCovered 26 = .ok (.ifCond .le 7, 3) := by decide +kernel
theorem dX5_isCovered_29 : decode cX5_isCovered 29 = .ok (.iconst 1, 1) := by decide +kernel
theorem dX5_isCovered_30 : decode cX5_isCovered 30 = .ok (.goto 4, 3) := by decide +kernel
theorem dX5_isCovered_33 : decode cX5_isCovered 33 = .ok (.iconst 0, 1) := by decide +kernel
theorem dX5_isCovered_34 : decode cX5_isCovered 34 = .ok (.ireturn, 1) := by decide +kernel
theorem dX5_highest_0 : decode cX5_highest 0 = .ok (.iconst (-1), 1) := by decide +kernel
theorem dX5_highest_1 : decode cX5_highest 1 = .ok (.istore 4, 2) := by decide +kernel
theorem dX5_highest_3 : decode cX5_highest 3 = .ok (.aload_n 0, 1) := by decide +kernel
theorem dX5_highest_4 : decode cX5_highest 4 = .ok (.getfield 9, 3) := by decide +kernel
theorem dX5_highest_7 : decode cX5_highest 7 = .ok (.arraylength, 1) := by decide +kernel
theorem dX5_highest_8 : decode cX5_highest 8 = .ok (.iconst 1, 1) := by decide +kernel
theorem dX5_highest_9 : decode cX5_highest 9 = .ok (.isub, 1) := by decide +kernel
theorem dX5_highest_10 : decode cX5_highest 10 = .ok (.istore 5, 2) := by decide +kernel
theorem dX5_highest_12 : decode cX5_highest 12 = .ok (.iload 5, 2) := by decide +kernel
theorem dX5_highest_14 : decode cX5_highest 14 = .ok (.ifCond .lt 63, 3) := by decide +kernel
theorem dX5_highest_17 : decode cX5_highest 17 = .ok (.aload_n 0, 1) := by decide +kernel
theorem dX5_highest_18 : decode cX5_highest 18 = .ok (.iload 5, 2) := by decide +kernel
theorem dX5_highest_20 : decode cX5_highest 20 = .ok (.iload_n 1, 1) := by decide +kernel
theorem dX5_highest_21 : decode cX5_highest 21 = .ok (.iload_n 2, 1) := by decide +kernel
theorem dX5_highest_22 : decode cX5_highest 22 = .ok (.invokevirtual 22, 3) := by decide +kernel
theorem dX5_highest_25 : decode cX5_highest 25 = .ok (.ifCond .eq 46, 3) := by decide +kernel
theorem dX5_highest_28 : decode cX5_highest 28 = .ok (.aload_n 0, 1) := by decide +kernel
theorem dX5_highest_29 : decode cX5_highest 29 = .ok (.getfield 9, 3) := by decide +kernel
theorem dX5_highest_32 : decode cX5_highest 32 = .ok (.iload 5, 2) := by decide +kernel
theorem dX5_highest_34 : decode cX5_highest 34 = .ok (.aaload, 1) := by decide +kernel
theorem dX5_highest_35 : decode cX5_highest 35 = .ok (.iconst 4, 1) := by decide +kernel
theorem dX5_highest_36 : decode cX5_highest 36 = .ok (.iaload, 1) := by decide +kernel
theorem dX5_highest_37 : decode cX5_highest 37 = .ok (.iload_n 3, 1) := by decide +kernel
theorem dX5_highest_38 : decode cX5_highest 38 = .ok (.if_icmp .ge 33, 3) := by decide +kernel
theorem dX5_highest_41 : decode cX5_highest 41 = .ok (.iload 4, 2) := by decide +kernel
theorem dX5_highest_43 : decode cX5_highest 43 = .ok (.ifCond .lt 24, 3) := by decide +kernel
theorem dX5_highest_46 : decode cX5_highest 46 = .ok (.aload_n 0, 1) := by decide +kernel
theorem dX5_highest_47 : decode cX5_highest 47 = .ok (.getfield 9, 3) := by decide +kernel
theorem dX5_highest_50 : decode cX5_highest 50 = .ok (.iload 5, 2) := by decide +kernel
theorem dX5_highest_52 : decode cX5_highest 52 = .ok (.aaload, 1) := by decide +kernel
theorem dX5_highest_53 : decode cX5_highest 53 = .ok (.iconst 4, 1) := by decide +kernel
theorem dX5_highest_54 : decode cX5_highest 54 = .ok (.iaload, 1) := by decide +kernel
theorem dX5_highest_55 : decode cX5_highest 55 = .ok (.aload_n 0, 1) := by decide +kernel
theorem dX5_highest_56 : decode cX5_highest 56 = .ok (.getfield 9, 3) := by decide +kernel
theorem dX5_highest_59 : decode cX5_highest 59 = .ok (.iload 4, 2) := by decide +kernel
theorem dX5_highest_61 : decode cX5_highest 61 = .ok (.aaload, 1) := by decide +kernel
