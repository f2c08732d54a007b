theorem dX5_cord_7 : decode cX5_cord 7 = .ok (.bipush 23, 2) := by decide +kernel
theorem dX5_cord_9 : decode cX5_cord 9 = .ok (.invokestatic 32, 3) := by decide +kernel
theorem dX5_cord_12 : decode cX5_cord 12 = .ok (.ifCond .eq 21, 3) := by decide +kernel
theorem dX5_cord_15 : decode cX5_cord 15 = .ok (.iload_n 2, 1) := by decide +kernel
theorem dX5_cord_16 : decode cX5_cord 16 = .ok (.iconst 0, 1) := by decide +kernel
theorem dX5_cord_17 : decode cX5_cord 17 = .ok (.iconst 3, 1) := by decide +kernel
theorem dX5_cord_18 : decode cX5_cord 18 = .ok (.invokestatic 32, 3) := by decide +kernel
theorem dX5_cord_21 : decode cX5_cord 21 = .ok (.ifCond .eq 12, 3) := by decide +kernel
theorem dX5_cord_24 : decode cX5_cord 24 = .ok (.aload_n 0, 1) := by decide +kernel
theorem dX5_cord_25 : decode cX5_cord 25 = .ok (.iload_n 1, 1) := by decide +kernel
theorem dX5_cord_26 : decode cX5_cord 26 = .ok (.iload_n 2, 1) := by decide +kernel
theorem dX5_cord_27 : decode cX5_cord 27 = .ok (.invokevirtual 137, 3) := by decide +kernel
theorem dX5_cord_30 : decode cX5_cord 30 = .ok (.goto 8, 3) := by decide +kernel
theorem dX5_cord_33 : decode cX5_cord 33 = .ok (.aload_n 0, 1) := by decide +kernel
theorem dX5_cord_34 : decode cX5_cord 34 = .ok (.iconst 1, 1) := by decide +kernel
theorem dX5_cord_35 : decode cX5_cord 35 = .ok (.invokevirtual 78, 3) := by decide +kernel
theorem dX5_cord_38 : decode cX5_cord 38 = .ok (.ireturn, 1) := by decide +kernel
theorem dX5_got_0 : decode cX5_got 0 = .ok (.aload_n 0, 1) := by decide +kernel
theorem dX5_got_1 : decode cX5_got 1 = .ok (.getfield 19, 3) := by decide +kernel
theorem dX5_got_4 : decode cX5_got 4 = .ok (.aload_n 0, 1) := by decide +kernel
theorem dX5_got_5 : decode cX5_got 5 = .ok (.getfield 13, 3) := by decide +kernel
theorem dX5_got_8 : decode cX5_got 8 = .ok (.iload_n 1, 1) := by decide +kernel
theorem dX5_got_9 : decode cX5_got 9 = .ok (.iaload, 1) := by decide +kernel
theorem dX5_got_10 : decode cX5_got 10 = .ok (.iaload, 1) := by decide +kernel
theorem dX5_got_11 : decode cX5_got 11 = .ok (.aload_n 0, 1) := by decide +kernel
theorem dX5_got_12 : decode cX5_got 12 = .ok (.getfield 16, 3) := by decide +kernel
theorem dX5_got_15 : decode cX5_got 15 = .ok (.iload_n 1, 1) := by decide +kernel
theorem dX5_got_16 : decode cX5_got 16 = .ok (.iaload, 1) := by decide +kernel
theorem dX5_got_17 : decode cX5_got 17 = .ok (.isub, 1) := by decide +kernel
theorem dX5_got_18 : decode cX5_got 18 = .ok (.ireturn, 1) := by decide +kernel
theorem dX5_stallTold_0 : decode cX5_stallTold 0 = .ok (.iload_n 2, 1) := by decide +kernel
theorem dX5_stallTold_1 : decode cX5_stallTold 1 = .ok (.tableswitch 53 0 2 #[27, 37, 47], 27) := by decide +kernel
theorem dX5_stallTold_28 : decode cX5_stallTold 28 = .ok (.aload_n 0, 1) := by decide +kernel
theorem dX5_stallTold_29 : decode cX5_stallTold 29 = .ok (.getfield 13, 3) := by decide +kernel
theorem dX5_stallTold_32 : decode cX5_stallTold 32 = .ok (.iload_n 1, 1) := by decide +kernel
theorem dX5_stallTold_33 : decode cX5_stallTold 33 = .ok (.iaload, 1) := by decide +kernel
theorem dX5_stallTold_34 : decode cX5_stallTold 34 = .ok (.bipush 24, 2) := by decide +kernel
theorem dX5_stallTold_36 : decode cX5_stallTold 36 = .ok (.idiv, 1) := by decide +kernel
theorem dX5_stallTold_37 : decode cX5_stallTold 37 = .ok (.ireturn, 1) := by decide +kernel
theorem dX5_stallTold_38 : decode cX5_stallTold 38 = .ok (.aload_n 0, 1) := by decide +kernel
theorem dX5_stallTold_39 : decode cX5_stallTold 39 = .ok (.getfield 13, 3) := by decide +kernel
theorem dX5_stallTold_42 : decode cX5_stallTold 42 = .ok (.iload_n 1, 1) := by decide +kernel
theorem dX5_stallTold_43 : decode cX5_stallTold 43 = .ok (.iaload, 1) := by decide +kernel
theorem dX5_stallTold_44 : decode cX5_stallTold 44 = .ok (.bipush 24, 2) := by decide +kernel
theorem dX5_stallTold_46 : decode cX5_stallTold 46 = .ok (.irem, 1) := by decide +kernel
theorem dX5_stallTold_47 : decode cX5_stallTold 47 = .ok (.ireturn, 1) := by decide +kernel
theorem dX5_stallTold_48 : decode cX5_stallTold 48 = .ok (.aload_n 0, 1) := by decide +kernel
theorem dX5_stallTold_49 : decode cX5_stallTold 49 = .ok (.iload_n 1, 1) := by decide +kernel
theorem dX5_stallTold_50 : decode cX5_stallTold 50 = .ok (.invokevirtual 140, 3) := by decide +kernel
theorem dX5_stallTold_53 : decode cX5_stallTold 53 = .ok (.ireturn, 1) := by decide +kernel
theorem dX5_stallTold_54 : decode cX5_stallTold 54 = .ok (.aload_n 0, 1) := by decide +kernel
theorem dX5_stallTold_55 : decode cX5_stallTold 55 = .ok (.aload_n 0, 1) := by decide +kernel
theorem dX5_stallTold_56 : decode cX5_stallTold 56 = .ok (.getfield 13, 3) := by decide +kernel
theorem dX5_stallTold_59 : decode cX5_stallTold 59 = .ok (.iload_n 1, 1) := by decide +kernel
theorem dX5_stallTold_60 : decode cX5_stallTold 60 = .ok (.iaload, 1) := by decide +kernel
theorem dX5_stallTold_61 : decode cX5_stallTold 61 = .ok (.bipush 24, 2) := by decide +kernel
theorem dX5_stallTold_63 : decode cX5_stallTold 63 = .ok (.idiv, 1) := by decide +kernel
theorem dX5_stallTold_64 : decode cX5_stallTold 64 = .ok (.aload_n 0, 1) := by decide +kernel
theorem dX5_stallTold_65 : decode cX5_stallTold 65 = .ok (.getfield 13, 3) := by decide +kernel
theorem dX5_stallTold_68 : decode cX5_stallTold 68 = .ok (.iload_n 1, 1) := by decide +kernel
theorem dX5_stallTold_69 : decode cX5_stallTold 69 = .ok (.iaload, 1) := by decide +kernel
theorem dX5_stallTold_70 : decode cX5_stallTold 70 = .ok (.bipush 24, 2) := by decide +kernel
theorem dX5_stallTold_72 : decode cX5_stallTold 72 = .ok (.irem, 1) := by decide +kernel
theorem dX5_stallTold_73 : decode cX5_stallTold 73 = .ok (.invokevirtual 118, 3) := by decide +kernel
theorem dX5_stallTold_76 : decode cX5_stallTold 76 = .ok (.ireturn, 1) := by decide +kernel
theorem dX5_told_0 : decode cX5_told 0 = .ok (.aload_n 0, 1) := by decide +kernel
theorem dX5_told_1 : decode cX5_told 1 = .ok (.iconst 0, 1) := by decide +kernel
theorem dX5_told_2 : decode cX5_told 2 = .ok (.putfield 28, 3) := by decide +kernel
theorem dX5_told_5 : decode cX5_told 5 = .ok (.aload_n 0, 1) := by decide +kernel
theorem dX5_told_6 : decode cX5_told 6 = .ok (.iload_n 1, 1) := by decide +kernel
theorem dX5_told_7 : decode cX5_told 7 = .ok (.invokevirtual 143, 3) := by decide +kernel
theorem dX5_told_10 : decode cX5_told 10 = .ok (.ifCond .eq 21, 3) := by decide +kernel
theorem dX5_told_13 : decode cX5_told 13 = .ok (.iload_n 2, 1) := by decide +kernel
theorem dX5_told_14 : decode cX5_told 14 = .ok (.iconst 0, 1) := by decide +kernel
theorem dX5_told_15 : decode cX5_told 15 = .ok (.iconst 3, 1) := by decide +kernel
theorem dX5_told_16 : decode cX5_told 16 = .ok (.invokestatic 32, 3) := by decide +kernel
theorem dX5_told_19 : decode cX5_told 19 = .ok (.ifCond .eq 12, 3) := by decide +kernel
theorem dX5_told_22 : decode cX5_told 22 = .ok (.aload_n 0, 1) := by decide +kernel
theorem dX5_told_23 : decode cX5_told 23 = .ok (.iload_n 1, 1) := by decide +kernel
theorem dX5_told_24 : decode cX5_told 24 = .ok (.iload_n 2, 1) := by decide +kernel
theorem dX5_told_25 : decode cX5_told 25 = .ok (.invokevirtual 146, 3) := by decide +kernel
theorem dX5_told_28 : decode cX5_told 28 = .ok (.goto 8, 3) := by decide +kernel
theorem dX5_told_31 : decode cX5_told 31 = .ok (.aload_n 0, 1) := by decide +kernel
theorem dX5_told_32 : decode cX5_told 32 = .ok (.iconst 1, 1) := by decide +kernel
theorem dX5_told_33 : decode cX5_told 33 = .ok (.invokevirtual 78, 3) := by decide +kernel
theorem dX5_told_36 : decode cX5_told 36 = .ok (.ireturn, 1) := by decide +kernel
theorem dX5_share_0 : decode cX5_share 0 = .ok (.aload_n 0, 1) := by decide +kernel
theorem dX5_share_1 : decode cX5_share 1 = .ok (.iconst 0, 1) := by decide +kernel
theorem dX5_share_2 : decode cX5_share 2 = .ok (.putfield 28, 3) := by decide +kernel
theorem dX5_share_5 : decode cX5_share 5 = .ok (.aload_n 0, 1) := by decide +kernel
theorem dX5_share_6 : decode cX5_share 6 = .ok (.iload_n 1, 1) := by decide +kernel
theorem dX5_share_7 : decode cX5_share 7 = .ok (.invokevirtual 91, 3) := by decide +kernel
theorem dX5_share_10 : decode cX5_share 10 = .ok (.ifCond .eq 11, 3) := by decide +kernel
theorem dX5_share_13 : decode cX5_share 13 = .ok (.aload_n 0, 1) := by decide +kernel
theorem dX5_share_14 : decode cX5_share 14 = .ok (.iload_n 2, 1) := by decide +kernel
theorem dX5_share_15 : decode cX5_share 15 = .ok (.invokevirtual 91, 3) := by decide +kernel
theorem dX5_share_18 : decode cX5_share 18 = .ok (.ifCond .ne 9, 3) := by decide +kernel
theorem dX5_share_21 : decode cX5_share 21 = .ok (.aload_n 0, 1) := by decide +kernel
theorem dX5_share_22 : decode cX5_share 22 = .ok (.iconst 1, 1) := by decide +kernel
theorem dX5_share_23 : decode cX5_share 23 = .ok (.invokevirtual 78, 3) := by decide +kernel
theorem dX5_share_26 : decode cX5_share 26 = .ok (.ireturn, 1) := by decide +kernel
theorem dX5_share_27 : decode cX5_share 27 = .ok (.iconst 0, 1) := by decide +kernel
theorem dX5_share_28 : decode cX5_share 28 = .ok (.istore_n 3, 1) := by decide +kernel
theorem dX5_share_29 : decode cX5_share 29 = .ok (.iconst 0, 1) := by decide +kernel
theorem dX5_share_30 : decode cX5_share 30 = .ok (.istore 4, 2) := by decide +kernel
theorem dX5_share_32 : decode cX5_share 32 = .ok (.iload 4, 2) := by decide +kernel
theorem dX5_share_34 : decode cX5_share 34 = .ok (.bipush 24, 2) := by decide +kernel
theorem dX5_share_36 : decode cX5_share 36 = .ok (.if_icmp .ge 30, 3) := by decide +kernel
theorem dX5_share_39 : decode cX5_share 39 = .ok (.iload_n 3, 1) := by decide +kernel
theorem dX5_share_40 : decode cX5_share 40 = .ok (.aload_n 0, 1) := by decide +kernel
theorem dX5_share_41 : decode cX5_share 41 = .ok (.iload_n 1, 1) := by decide +kernel
theorem dX5_share_42 : decode cX5_share 42 = .ok (.iload 4, 2) := by decide +kernel
theorem dX5_share_44 : decode cX5_share 44 = .ok (.invokevirtual 53, 3) := by decide +kernel
theorem dX5_share_47 : decode cX5_share 47 = .ok (.aload_n 0, 1) := by decide +kernel
theorem dX5_share_48 : decode cX5_share 48 = .ok (.iload_n 2, 1) := by decide +kernel
theorem dX5_share_49 : decode cX5_share 49 = .ok (.iload 4, 2) := by decide +kernel
theorem dX5_share_51 : decode cX5_share 51 = .ok (.invokevirtual 53, 3) := by decide +kernel
theorem dX5_share_54 : decode cX5_share 54 = .ok (.iand, 1) := by decide +kernel
theorem dX5_share_55 : decode cX5_share 55 = .ok (.invokestatic 109, 3) := by decide +kernel
theorem dX5_share_58 : decode cX5_share 58 = .ok (.iadd, 1) := by decide +kernel
theorem dX5_share_59 : decode cX5_share 59 = .ok (.istore_n 3, 1) := by decide +kernel
theorem dX5_share_60 : decode cX5_share 60 = .ok (.iinc 4 1, 3) := by decide +kernel
theorem dX5_share_63 : decode cX5_share 63 = .ok (.goto (-31), 3) := by decide +kernel
theorem dX5_share_66 : decode cX5_share 66 = .ok (.iload_n 3, 1) := by decide +kernel
theorem dX5_share_67 : decode cX5_share 67 = .ok (.ireturn, 1) := by decide +kernel
theorem dX5_outline_0 : decode cX5_outline 0 = .ok (.iconst 0, 1) := by decide +kernel
theorem dX5_outline_1 : decode cX5_outline 1 = .ok (.istore_n 1, 1) := by decide +kernel
theorem dX5_outline_2 : decode cX5_outline 2 = .ok (.iconst 0, 1) := by decide +kernel
theorem dX5_outline_3 : decode cX5_outline 3 = .ok (.istore_n 2, 1) := by decide +kernel
theorem dX5_outline_4 : decode cX5_outline 4 = .ok (.iload_n 2, 1) := by decide +kernel
theorem dX5_outline_5 : decode cX5_outline 5 = .ok (.bipush 24, 2) := by decide +kernel
theorem dX5_outline_7 : decode cX5_outline 7 = .ok (.if_icmp .gt 39, 3) := by decide +kernel
theorem dX5_outline_10 : decode cX5_outline 10 = .ok (.aload_n 0, 1) := by decide +kernel
theorem dX5_outline_11 : decode cX5_outline 11 = .ok (.iload_n 2, 1) := by decide +kernel
theorem dX5_outline_12 : decode cX5_outline 12 = .ok (.invokevirtual 129, 3) := by decide +kernel
theorem dX5_outline_15 : decode cX5_outline 15 = .ok (.istore_n 3, 1) := by decide +kernel
theorem dX5_outline_16 : decode cX5_outline 16 = .ok (.iload_n 1, 1) := by decide +kernel
theorem dX5_outline_17 : decode cX5_outline 17 = .ok (.iload_n 3, 1) := by decide +kernel
theorem dX5_outline_18 : decode cX5_outline 18 = .ok (.iload_n 3, 1) := by decide +kernel
theorem dX5_outline_19 : decode cX5_outline 19 = .ok (.iconst 1, 1) := by decide +kernel
theorem dX5_outline_20 : decode cX5_outline 20 = .ok (.ishl, 1) := by decide +kernel
theorem dX5_outline_21 : decode cX5_outline 21 = .ok (.ixor, 1) := by decide +kernel
theorem dX5_outline_22 : decode cX5_outline 22 = .ok (.invokestatic 109, 3) := by decide +kernel
theorem dX5_outline_25 : decode cX5_outline 25 = .ok (.iload_n 3, 1) := by decide +kernel
theorem dX5_outline_26 : decode cX5_outline 26 = .ok (.aload_n 0, 1) := by decide +kernel
theorem dX5_outline_27 : decode cX5_outline 27 = .ok (.iload_n 2, 1) := by decide +kernel
theorem dX5_outline_28 : decode cX5_outline 28 = .ok (.iconst 1, 1) := by decide +kernel
theorem dX5_outline_29 : decode cX5_outline 29 = .ok (.isub, 1) := by decide +kernel
theorem dX5_outline_30 : decode cX5_outline 30 = .ok (.invokevirtual 129, 3) := by decide +kernel
theorem dX5_outline_33 : decode cX5_outline 33 = .ok (.ixor, 1) := by decide +kernel
theorem dX5_outline_34 : decode cX5_outline 34 = .ok (.invokestatic 109, 3) := by decide +kernel
theorem dX5_outline_37 : decode cX5_outline 37 = .ok (.iadd, 1) := by decide +kernel
theorem dX5_outline_38 : decode cX5_outline 38 = .ok (.iadd, 1) := by decide +kernel
theorem dX5_outline_39 : decode cX5_outline 39 = .ok (.istore_n 1, 1) := by decide +kernel
theorem dX5_outline_40 : decode cX5_outline 40 = .ok (.iinc 2 1, 3) := by decide +kernel
theorem dX5_outline_43 : decode cX5_outline 43 = .ok (.goto (-39), 3) := by decide +kernel
theorem dX5_outline_46 : decode cX5_outline 46 = .ok (.iload_n 1, 1) := by decide +kernel
theorem dX5_outline_47 : decode cX5_outline 47 = .ok (.ireturn, 1) := by decide +kernel
theorem dX5_parts_0 : decode cX5_parts 0 = .ok (.bipush 26, 2) := by decide +kernel
theorem dX5_parts_2 : decode cX5_parts 2 = .ok (.newarray .int, 2) := by decide +kernel
theorem dX5_parts_4 : decode cX5_parts 4 = .ok (.astore_n 1, 1) := by decide +kernel
theorem dX5_parts_5 : decode cX5_parts 5 = .ok (.bipush 26, 2) := by decide +kernel
theorem dX5_parts_7 : decode cX5_parts 7 = .ok (.newarray .int, 2) := by decide +kernel
theorem dX5_parts_9 : decode cX5_parts 9 = .ok (.astore_n 2, 1) := by decide +kernel
theorem dX5_parts_10 : decode cX5_parts 10 = .ok (.iconst 0, 1) := by decide +kernel
theorem dX5_parts_11 : decode cX5_parts 11 = .ok (.istore_n 3, 1) := by decide +kernel
theorem dX5_parts_12 : decode cX5_parts 12 = .ok (.iload_n 3, 1) := by decide +kernel
theorem dX5_parts_13 : decode cX5_parts 13 = .ok (.bipush 24, 2) := by decide +kernel
theorem dX5_parts_15 : decode cX5_parts 15 = .ok (.if_icmp .ge 19, 3) := by decide +kernel
theorem dX5_parts_18 : decode cX5_parts 18 = .ok (.aload_n 1, 1) := by decide +kernel
theorem dX5_parts_19 : decode cX5_parts 19 = .ok (.iload_n 3, 1) := by decide +kernel
theorem dX5_parts_20 : decode cX5_parts 20 = .ok (.iconst 1, 1) := by decide +kernel
theorem dX5_parts_21 : decode cX5_parts 21 = .ok (.iadd, 1) := by decide +kernel
theorem dX5_parts_22 : decode cX5_parts 22 = .ok (.aload_n 0, 1) := by decide +kernel
theorem dX5_parts_23 : decode cX5_parts 23 = .ok (.iload_n 3, 1) := by decide +kernel
theorem dX5_parts_24 : decode cX5_parts 24 = .ok (.invokevirtual 129, 3) := by decide +kernel
theorem dX5_parts_27 : decode cX5_parts 27 = .ok (.iastore, 1) := by decide +kernel
theorem dX5_parts_28 : decode cX5_parts 28 = .ok (.iinc 3 1, 3) := by decide +kernel
theorem dX5_parts_31 : decode cX5_parts 31 = .ok (.goto (-19), 3) := by decide +kernel
theorem dX5_parts_34 : decode cX5_parts 34 = .ok (.iconst 0, 1) := by decide +kernel
theorem dX5_parts_35 : decode cX5_parts 35 = .ok (.istore_n 3, 1) := by decide +kernel
theorem dX5_parts_36 : decode cX5_parts 36 = .ok (.iconst 1, 1) := by decide +kernel
theorem dX5_parts_37 : decode cX5_parts 37 = .ok (.istore 4, 2) := by decide +kernel
theorem dX5_parts_39 : decode cX5_parts 39 = .ok (.iload 4, 2) := by decide +kernel
theorem dX5_parts_41 : decode cX5_parts 41 = .ok (.bipush 24, 2) := by decide +kernel
theorem dX5_parts_43 : decode cX5_parts 43 = .ok (.if_icmp .gt 104, 3) := by decide +kernel
theorem dX5_parts_46 : decode cX5_parts 46 = .ok (.aload_n 1, 1) := by decide +kernel
theorem dX5_parts_47 : decode cX5_parts 47 = .ok (.iload 4, 2) := by decide +kernel
theorem dX5_parts_49 : decode cX5_parts 49 = .ok (.iaload, 1) := by decide +kernel
theorem dX5_parts_50 : decode cX5_parts 50 = .ok (.ifCond .eq 91, 3) := by decide +kernel
theorem dX5_parts_53 : decode cX5_parts 53 = .ok (.iconst 0, 1) := by decide +kernel
theorem dX5_parts_54 : decode cX5_parts 54 = .ok (.istore 5, 2) := by decide +kernel
theorem dX5_parts_56 : decode cX5_parts 56 = .ok (.iload 5, 2) := by decide +kernel
theorem dX5_parts_58 : decode cX5_parts 58 = .ok (.aload_n 2, 1) := by decide +kernel
theorem dX5_parts_59 : decode cX5_parts 59 = .ok (.arraylength, 1) := by decide +kernel
theorem dX5_parts_60 : decode cX5_parts 60 = .ok (.if_icmp .ge 14, 3) := by decide +kernel
theorem dX5_parts_63 : decode cX5_parts 63 = .ok (.aload_n 2, 1) := by decide +kernel
theorem dX5_parts_64 : decode cX5_parts 64 = .ok (.iload 5, 2) := by decide +kernel
theorem dX5_parts_66 : decode cX5_parts 66 = .ok (.iconst 0, 1) := by decide +kernel
theorem dX5_parts_67 : decode cX5_parts 67 = .ok (.iastore, 1) := by decide +kernel
theorem dX5_parts_68 : decode cX5_parts 68 = .ok (.iinc 5 1, 3) := by decide +kernel
theorem dX5_parts_71 : decode cX5_parts 71 = .ok (.goto (-15), 3) := by decide +kernel
theorem dX5_parts_74 : decode cX5_parts 74 = .ok (.aload_n 2, 1) := by decide +kernel
theorem dX5_parts_75 : decode cX5_parts 75 = .ok (.iload 4, 2) := by decide +kernel
theorem dX5_parts_77 : decode cX5_parts 77 = .ok (.aload_n 1, 1) := by decide +kernel
theorem dX5_parts_78 : decode cX5_parts 78 = .ok (.iload 4, 2) := by decide +kernel
theorem dX5_parts_80 : decode cX5_parts 80 = .ok (.iaload, 1) := by decide +kernel
theorem dX5_parts_81 : decode cX5_parts 81 = .ok (.aload_n 1, 1) := by decide +kernel
theorem dX5_parts_82 : decode cX5_parts 82 = .ok (.iload 4, 2) := by decide +kernel
theorem dX5_parts_84 : decode cX5_parts 84 = .ok (.iaload, 1) := by decide +kernel
theorem dX5_parts_85 : decode cX5_parts 85 = .ok (.ineg, 1) := by decide +kernel
theorem dX5_parts_86 : decode cX5_parts 86 = .ok (.iand, 1) := by decide +kernel
theorem dX5_parts_87 : decode cX5_parts 87 = .ok (.iastore, 1) := by decide +kernel
theorem dX5_parts_88 : decode cX5_parts 88 = .ok (.iconst 1, 1) := by decide +kernel
theorem dX5_parts_89 : decode cX5_parts 89 = .ok (.istore 5, 2) := by decide +kernel
theorem dX5_parts_91 : decode cX5_parts 91 = .ok (.iload 5, 2) := by decide +kernel
theorem dX5_parts_93 : decode cX5_parts 93 = .ok (.ifCond .eq 13, 3) := by decide +kernel
theorem dX5_parts_96 : decode cX5_parts 96 = .ok (.aload_n 2, 1) := by decide +kernel
theorem dX5_parts_97 : decode cX5_parts 97 = .ok (.aload_n 1, 1) := by decide +kernel
theorem dX5_parts_98 : decode cX5_parts 98 = .ok (.invokestatic 149, 3) := by decide +kernel
theorem dX5_parts_101 : decode cX5_parts 101 = .ok (.istore 5, 2) := by decide +kernel
theorem dX5_parts_103 : decode cX5_parts 103 = .ok (.goto (-12), 3) := by decide +kernel
theorem dX5_parts_106 : decode cX5_parts 106 = .ok (.iconst 0, 1) := by decide +kernel
theorem dX5_parts_107 : decode cX5_parts 107 = .ok (.istore 6, 2) := by decide +kernel
theorem dX5_parts_109 : decode cX5_parts 109 = .ok (.iload 6, 2) := by decide +kernel
theorem dX5_parts_111 : decode cX5_parts 111 = .ok (.aload_n 2, 1) := by decide +kernel
theorem dX5_parts_112 : decode cX5_parts 112 = .ok (.arraylength, 1) := by decide +kernel
theorem dX5_parts_113 : decode cX5_parts 113 = .ok (.if_icmp .ge 22, 3) := by decide +kernel
theorem dX5_parts_116 : decode cX5_parts 116 = .ok (.aload_n 1, 1) := by decide +kernel
theorem dX5_parts_117 : decode cX5_parts 117 = .ok (.iload 6, 2) := by decide +kernel
theorem dX5_parts_119 : decode cX5_parts 119 = .ok (.dup2, 1) := by decide +kernel
theorem dX5_parts_120 : decode cX5_parts 120 = .ok (.iaload, 1) := by decide +kernel
theorem dX5_parts_121 : decode cX5_parts 121 = .ok (.aload_n 2, 1) := by decide +kernel
theorem dX5_parts_122 : decode cX5_parts 122 = .ok (.iload 6, 2) := by decide +kernel
theorem dX5_parts_124 : decode cX5_parts 124 = .ok (.iaload, 1) := by decide +kernel
theorem dX5_parts_125 : decode cX5_parts 125 = .ok (.iconst (-1), 1) := by decide +kernel
theorem dX5_parts_126 : decode cX5_parts 126 = .ok (.ixor, 1) := by decide +kernel
theorem dX5_parts_127 : decode cX5_parts 127 = .ok (.iand, 1) := by decide +kernel
theorem dX5_parts_128 : decode cX5_parts 128 = .ok (.iastore, 1) := by decide +kernel
theorem dX5_parts_129 : decode cX5_parts 129 = .ok (.iinc 6 1, 3) := by decide +kernel
theorem dX5_parts_132 : decode cX5_parts 132 = .ok (.goto (-23), 3) := by decide +kernel
theorem dX5_parts_135 : decode cX5_parts 135 = .ok (.iinc 3 1, 3) := by decide +kernel
theorem dX5_parts_138 : decode cX5_parts 138 = .ok (.goto (-92), 3) := by decide +kernel
theorem dX5_parts_141 : decode cX5_parts 141 = .ok (.iinc 4 1, 3) := by decide +kernel
theorem dX5_parts_144 : decode cX5_parts 144 = .ok (.goto (-105), 3) := by decide +kernel
theorem dX5_parts_147 : decode cX5_parts 147 = .ok (.iload_n 3, 1) := by decide +kernel
theorem dX5_parts_148 : decode cX5_parts 148 = .ok (.ireturn, 1) := by decide +kernel
theorem dX5_spreads_0 : decode cX5_spreads 0 = .ok (.iconst 0, 1) := by decide +kernel
theorem dX5_spreads_1 : decode cX5_spreads 1 = .ok (.istore_n 2, 1) := by decide +kernel
theorem dX5_spreads_2 : decode cX5_spreads 2 = .ok (.iconst 1, 1) := by decide +kernel
theorem dX5_spreads_3 : decode cX5_spreads 3 = .ok (.istore_n 3, 1) := by decide +kernel
theorem dX5_spreads_4 : decode cX5_spreads 4 = .ok (.iload_n 3, 1) := by decide +kernel
theorem dX5_spreads_5 : decode cX5_spreads 5 = .ok (.bipush 24, 2) := by decide +kernel
theorem dX5_spreads_7 : decode cX5_spreads 7 = .ok (.if_icmp .gt 63, 3) := by decide +kernel
theorem dX5_spreads_10 : decode cX5_spreads 10 = .ok (.aload_n 0, 1) := by decide +kernel
theorem dX5_spreads_11 : decode cX5_spreads 11 = .ok (.iload_n 3, 1) := by decide +kernel
theorem dX5_spreads_12 : decode cX5_spreads 12 = .ok (.iaload, 1) := by decide +kernel
theorem dX5_spreads_13 : decode cX5_spreads 13 = .ok (.aload_n 0, 1) := by decide +kernel
theorem dX5_spreads_14 : decode cX5_spreads 14 = .ok (.iload_n 3, 1) := by decide +kernel
theorem dX5_spreads_15 : decode cX5_spreads 15 = .ok (.iaload, 1) := by decide +kernel
theorem dX5_spreads_16 : decode cX5_spreads 16 = .ok (.iconst 1, 1) := by decide +kernel
theorem dX5_spreads_17 : decode cX5_spreads 17 = .ok (.ishl, 1) := by decide +kernel
theorem dX5_spreads_18 : decode cX5_spreads 18 = .ok (.ior, 1) := by decide +kernel
theorem dX5_spreads_19 : decode cX5_spreads 19 = .ok (.aload_n 0, 1) := by decide +kernel
theorem dX5_spreads_20 : decode cX5_spreads 20 = .ok (.iload_n 3, 1) := by decide +kernel
theorem dX5_spreads_21 : decode cX5_spreads 21 = .ok (.iaload, 1) := by decide +kernel
theorem dX5_spreads_22 : decode cX5_spreads 22 = .ok (.iconst 1, 1) := by decide +kernel
theorem dX5_spreads_23 : decode cX5_spreads 23 = .ok (.ishr, 1) := by decide +kernel
theorem dX5_spreads_24 : decode cX5_spreads 24 = .ok (.ior, 1) := by decide +kernel
theorem dX5_spreads_25 : decode cX5_spreads 25 = .ok (.aload_n 0, 1) := by decide +kernel
theorem dX5_spreads_26 : decode cX5_spreads 26 = .ok (.iload_n 3, 1) := by decide +kernel
theorem dX5_spreads_27 : decode cX5_spreads 27 = .ok (.iconst 1, 1) := by decide +kernel
theorem dX5_spreads_28 : decode cX5_spreads 28 = .ok (.isub, 1) := by decide +kernel
theorem dX5_spreads_29 : decode cX5_spreads 29 = .ok (.iaload, 1) := by decide +kernel
theorem dX5_spreads_30 : decode cX5_spreads 30 = .ok (.ior, 1) := by decide +kernel
theorem dX5_spreads_31 : decode cX5_spreads 31 = .ok (.aload_n 0, 1) := by decide +kernel
theorem dX5_spreads_32 : decode cX5_spreads 32 = .ok (.iload_n 3, 1) := by decide +kernel
theorem dX5_spreads_33 : decode cX5_spreads 33 = .ok (.iconst 1, 1) := by decide +kernel
theorem dX5_spreads_34 : decode cX5_spreads 34 = .ok (.iadd, 1) := by decide +kernel
theorem dX5_spreads_35 : decode cX5_spreads 35 = .ok (.iaload, 1) := by decide +kernel
theorem dX5_spreads_36 : decode cX5_spreads 36 = .ok (.ior, 1) := by decide +kernel
theorem dX5_spreads_37 : decode cX5_spreads 37 = .ok (.aload_n 1, 1) := by decide +kernel
theorem dX5_spreads_38 : decode cX5_spreads 38 = .ok (.iload_n 3, 1) := by decide +kernel
theorem dX5_spreads_39 : decode cX5_spreads 39 = .ok (.iaload, 1) := by decide +kernel
theorem dX5_spreads_40 : decode cX5_spreads 40 = .ok (.iand, 1) := by decide +kernel
theorem dX5_spreads_41 : decode cX5_spreads 41 = .ok (.istore 4, 2) := by decide +kernel
theorem dX5_spreads_43 : decode cX5_spreads 43 = .ok (.iload_n 2, 1) := by decide +kernel
theorem dX5_spreads_44 : decode cX5_spreads 44 = .ok (.iload 4, 2) := by decide +kernel
theorem dX5_spreads_46 : decode cX5_spreads 46 = .ok (.aload_n 0, 1) := by decide +kernel
theorem dX5_spreads_47 : decode cX5_spreads 47 = .ok (.iload_n 3, 1) := by decide +kernel
theorem dX5_spreads_48 : decode cX5_spreads 48 = .ok (.iaload, 1) := by decide +kernel
theorem dX5_spreads_49 : decode cX5_spreads 49 = .ok (.if_icmp .eq 7, 3) := by decide +kernel
theorem dX5_spreads_52 : decode cX5_spreads 52 = .ok (.iconst 1, 1) := by decide +kernel
theorem dX5_spreads_53 : decode cX5_spreads 53 = .ok (.goto 4, 3) := by decide +kernel
theorem dX5_spreads_56 : decode cX5_spreads 56 = .ok (.iconst 0, 1) := by decide +kernel
theorem dX5_spreads_57 : decode cX5_spreads 57 = .ok (.ior, 1) := by decide +kernel
theorem dX5_spreads_58 : decode cX5_spreads 58 = .ok (.istore_n 2, 1) := by decide +kernel
theorem dX5_spreads_59 : decode cX5_spreads 59 = .ok (.aload_n 0, 1) := by decide +kernel
theorem dX5_spreads_60 : decode cX5_spreads 60 = .ok (.iload_n 3, 1) := by decide +kernel
theorem dX5_spreads_61 : decode cX5_spreads 61 = .ok (.iload 4, 2) := by decide +kernel
theorem dX5_spreads_63 : decode cX5_spreads 63 = .ok (.iastore, 1) := by decide +kernel
theorem dX5_spreads_64 : decode cX5_spreads 64 = .ok (.iinc 3 1, 3) := by decide +kernel
theorem dX5_spreads_67 : decode cX5_spreads 67 = .ok (.goto (-63), 3) := by decide +kernel
theorem dX5_spreads_70 : decode cX5_spreads 70 = .ok (.iload_n 2, 1) := by decide +kernel
theorem dX5_spreads_71 : decode cX5_spreads 71 = .ok (.ireturn, 1) := by decide +kernel
theorem dX5_sumOf_0 : decode cX5_sumOf 0 = .ok (.iconst 0, 1) := by decide +kernel
theorem dX5_sumOf_1 : decode cX5_sumOf 1 = .ok (.istore_n 2, 1) := by decide +kernel
theorem dX5_sumOf_2 : decode cX5_sumOf 2 = .ok (.iconst 0, 1) := by decide +kernel
theorem dX5_sumOf_3 : decode cX5_sumOf 3 = .ok (.istore_n 3, 1) := by decide +kernel
theorem dX5_sumOf_4 : decode cX5_sumOf 4 = .ok (.iload_n 3, 1) := by decide +kernel
theorem dX5_sumOf_5 : decode cX5_sumOf 5 = .ok (.bipush 24, 2) := by decide +kernel
theorem dX5_sumOf_7 : decode cX5_sumOf 7 = .ok (.if_icmp .ge 95, 3) := by decide +kernel
theorem dX5_sumOf_10 : decode cX5_sumOf 10 = .ok (.iload_n 2, 1) := by decide +kernel
theorem dX5_sumOf_11 : decode cX5_sumOf 11 = .ok (.iload_n 1, 1) := by decide +kernel
theorem dX5_sumOf_12 : decode cX5_sumOf 12 = .ok (.iconst 3, 1) := by decide +kernel
theorem dX5_sumOf_13 : decode cX5_sumOf 13 = .ok (.if_icmp .ne 14, 3) := by decide +kernel
theorem dX5_sumOf_16 : decode cX5_sumOf 16 = .ok (.aload_n 0, 1) := by decide +kernel
theorem dX5_sumOf_17 : decode cX5_sumOf 17 = .ok (.iload_n 3, 1) := by decide +kernel
theorem dX5_sumOf_18 : decode cX5_sumOf 18 = .ok (.invokevirtual 129, 3) := by decide +kernel
theorem dX5_sumOf_21 : decode cX5_sumOf 21 = .ok (.invokestatic 109, 3) := by decide +kernel
theorem dX5_sumOf_24 : decode cX5_sumOf 24 = .ok (.goto 4, 3) := by decide +kernel
theorem dX5_sumOf_27 : decode cX5_sumOf 27 = .ok (.iconst 0, 1) := by decide +kernel
theorem dX5_sumOf_28 : decode cX5_sumOf 28 = .ok (.iadd, 1) := by decide +kernel
theorem dX5_sumOf_29 : decode cX5_sumOf 29 = .ok (.istore_n 2, 1) := by decide +kernel
theorem dX5_sumOf_30 : decode cX5_sumOf 30 = .ok (.iconst 0, 1) := by decide +kernel
theorem dX5_sumOf_31 : decode cX5_sumOf 31 = .ok (.istore 4, 2) := by decide +kernel
theorem dX5_sumOf_33 : decode cX5_sumOf 33 = .ok (.iload 4, 2) := by decide +kernel
theorem dX5_sumOf_35 : decode cX5_sumOf 35 = .ok (.bipush 24, 2) := by decide +kernel
theorem dX5_sumOf_37 : decode cX5_sumOf 37 = .ok (.if_icmp .ge 59, 3) := by decide +kernel
theorem dX5_sumOf_40 : decode cX5_sumOf 40 = .ok (.iload_n 2, 1) := by decide +kernel
theorem dX5_sumOf_41 : decode cX5_sumOf 41 = .ok (.iload_n 1, 1) := by decide +kernel
theorem dX5_sumOf_42 : decode cX5_sumOf 42 = .ok (.bipush 6, 2) := by decide +kernel
theorem dX5_sumOf_44 : decode cX5_sumOf 44 = .ok (.if_icmp .ne 22, 3) := by decide +kernel
theorem dX5_sumOf_47 : decode cX5_sumOf 47 = .ok (.aload_n 0, 1) := by decide +kernel
theorem dX5_sumOf_48 : decode cX5_sumOf 48 = .ok (.iload_n 3, 1) := by decide +kernel
theorem dX5_sumOf_49 : decode cX5_sumOf 49 = .ok (.iload 4, 2) := by decide +kernel
theorem dX5_sumOf_51 : decode cX5_sumOf 51 = .ok (.invokevirtual 118, 3) := by decide +kernel
theorem dX5_sumOf_54 : decode cX5_sumOf 54 = .ok (.iconst 1, 1) := by decide +kernel
theorem dX5_sumOf_55 : decode cX5_sumOf 55 = .ok (.if_icmp .le 7, 3) := by decide +kernel
theorem dX5_sumOf_58 : decode cX5_sumOf 58 = .ok (.iconst 1, 1) := by decide +kernel
theorem dX5_sumOf_59 : decode cX5_sumOf 59 = .ok (.goto 29, 3) := by decide +kernel
theorem dX5_sumOf_62 : decode cX5_sumOf 62 = .ok (.iconst 0, 1) := by decide +kernel
theorem dX5_sumOf_63 : decode cX5_sumOf 63 = .ok (.goto 25, 3) := by decide +kernel
theorem dX5_sumOf_66 : decode cX5_sumOf 66 = .ok (.iload_n 1, 1) := by decide +kernel
theorem dX5_sumOf_67 : decode cX5_sumOf 67 = .ok (.bipush 8, 2) := by decide +kernel
theorem dX5_sumOf_69 : decode cX5_sumOf 69 = .ok (.if_icmp .ne 18, 3) := by decide +kernel
theorem dX5_sumOf_72 : decode cX5_sumOf 72 = .ok (.aload_n 0, 1) := by decide +kernel
theorem dX5_sumOf_73 : decode cX5_sumOf 73 = .ok (.getfield 19, 3) := by decide +kernel
theorem dX5_sumOf_76 : decode cX5_sumOf 76 = .ok (.bipush 24, 2) := by decide +kernel
theorem dX5_sumOf_78 : decode cX5_sumOf 78 = .ok (.iload_n 3, 1) := by decide +kernel
theorem dX5_sumOf_79 : decode cX5_sumOf 79 = .ok (.imul, 1) := by decide +kernel
theorem dX5_sumOf_80 : decode cX5_sumOf 80 = .ok (.iload 4, 2) := by decide +kernel
theorem dX5_sumOf_82 : decode cX5_sumOf 82 = .ok (.iadd, 1) := by decide +kernel
theorem dX5_sumOf_83 : decode cX5_sumOf 83 = .ok (.iaload, 1) := by decide +kernel
theorem dX5_sumOf_84 : decode cX5_sumOf 84 = .ok (.goto 4, 3) := by decide +kernel
theorem dX5_sumOf_87 : decode cX5_sumOf 87 = .ok (.iconst 0, 1) := by decide +kernel
theorem dX5_sumOf_88 : decode cX5_sumOf 88 = .ok (.iadd, 1) := by decide +kernel
theorem dX5_sumOf_89 : decode cX5_sumOf 89 = .ok (.istore_n 2, 1) := by decide +kernel
theorem dX5_sumOf_90 : decode cX5_sumOf 90 = .ok (.iinc 4 1, 3) := by decide +kernel
theorem dX5_sumOf_93 : decode cX5_sumOf 93 = .ok (.goto (-60), 3) := by decide +kernel
theorem dX5_sumOf_96 : decode cX5_sumOf 96 = .ok (.iinc 3 1, 3) := by decide +kernel
theorem dX5_sumOf_99 : decode cX5_sumOf 99 = .ok (.goto (-95), 3) := by decide +kernel
theorem dX5_sumOf_102 : decode cX5_sumOf 102 = .ok (.iload_n 2, 1) := by decide +kernel
theorem dX5_sumOf_103 : decode cX5_sumOf 103 = .ok (.ireturn, 1) := by decide +kernel
theorem dX5_out_0 : decode cX5_out 0 = .ok (.iconst 0, 1) := by decide +kernel
theorem dX5_out_1 : decode cX5_out 1 = .ok (.istore_n 1, 1) := by decide +kernel
theorem dX5_out_2 : decode cX5_out 2 = .ok (.iconst 0, 1) := by decide +kernel
theorem dX5_out_3 : decode cX5_out 3 = .ok (.istore_n 2, 1) := by decide +kernel
theorem dX5_out_4 : decode cX5_out 4 = .ok (.iload_n 2, 1) := by decide +kernel
theorem dX5_out_5 : decode cX5_out 5 = .ok (.aload_n 0, 1) := by decide +kernel
theorem dX5_out_6 : decode cX5_out 6 = .ok (.getfield 36, 3) := by decide +kernel
theorem dX5_out_9 : decode cX5_out 9 = .ok (.if_icmp .ge 19, 3) := by decide +kernel
theorem dX5_out_12 : decode cX5_out 12 = .ok (.iload_n 1, 1) := by decide +kernel
theorem dX5_out_13 : decode cX5_out 13 = .ok (.aload_n 0, 1) := by decide +kernel
theorem dX5_out_14 : decode cX5_out 14 = .ok (.iload_n 2, 1) := by decide +kernel
theorem dX5_out_15 : decode cX5_out 15 = .ok (.bipush 6, 2) := by decide +kernel
theorem dX5_out_17 : decode cX5_out 17 = .ok (.invokevirtual 42, 3) := by decide +kernel
theorem dX5_out_20 : decode cX5_out 20 = .ok (.iadd, 1) := by decide +kernel
theorem dX5_out_21 : decode cX5_out 21 = .ok (.istore_n 1, 1) := by decide +kernel
theorem dX5_out_22 : decode cX5_out 22 = .ok (.iinc 2 1, 3) := by decide +kernel
theorem dX5_out_25 : decode cX5_out 25 = .ok (.goto (-21), 3) := by decide +kernel
theorem dX5_out_28 : decode cX5_out 28 = .ok (.iload_n 1, 1) := by decide +kernel
theorem dX5_out_29 : decode cX5_out 29 = .ok (.ireturn, 1) := by decide +kernel
theorem dX5_open_0 : decode cX5_open 0 = .ok (.iconst 0, 1) := by decide +kernel
theorem dX5_open_1 : decode cX5_open 1 = .ok (.istore_n 1, 1) := by decide +kernel
theorem dX5_open_2 : decode cX5_open 2 = .ok (.iconst 0, 1) := by decide +kernel
theorem dX5_open_3 : decode cX5_open 3 = .ok (.istore_n 2, 1) := by decide +kernel
theorem dX5_open_4 : decode cX5_open 4 = .ok (.iload_n 2, 1) := by decide +kernel
theorem dX5_open_5 : decode cX5_open 5 = .ok (.aload_n 0, 1) := by decide +kernel
theorem dX5_open_6 : decode cX5_open 6 = .ok (.getfield 39, 3) := by decide +kernel
theorem dX5_open_9 : decode cX5_open 9 = .ok (.if_icmp .ge 26, 3) := by decide +kernel
theorem dX5_open_12 : decode cX5_open 12 = .ok (.iload_n 1, 1) := by decide +kernel
theorem dX5_open_13 : decode cX5_open 13 = .ok (.aload_n 0, 1) := by decide +kernel
theorem dX5_open_14 : decode cX5_open 14 = .ok (.iload_n 2, 1) := by decide +kernel
theorem dX5_open_15 : decode cX5_open 15 = .ok (.iconst 3, 1) := by decide +kernel
theorem dX5_open_16 : decode cX5_open 16 = .ok (.invokevirtual 146, 3) := by decide +kernel
theorem dX5_open_19 : decode cX5_open 19 = .ok (.ifCond .ne 7, 3) := by decide +kernel
theorem dX5_open_22 : decode cX5_open 22 = .ok (.iconst 1, 1) := by decide +kernel
theorem dX5_open_23 : decode cX5_open 23 = .ok (.goto 4, 3) := by decide +kernel
theorem dX5_open_26 : decode cX5_open 26 = .ok (.iconst 0, 1) := by decide +kernel
theorem dX5_open_27 : decode cX5_open 27 = .ok (.iadd, 1) := by decide +kernel
theorem dX5_open_28 : decode cX5_open 28 = .ok (.istore_n 1, 1) := by decide +kernel
theorem dX5_open_29 : decode cX5_open 29 = .ok (.iinc 2 1, 3) := by decide +kernel
theorem dX5_open_32 : decode cX5_open 32 = .ok (.goto (-28), 3) := by decide +kernel
theorem dX5_open_35 : decode cX5_open 35 = .ok (.iload_n 1, 1) := by decide +kernel
theorem dX5_open_36 : decode cX5_open 36 = .ok (.ireturn, 1) := by decide +kernel
theorem dX5_counted_0 : decode cX5_counted 0 = .ok (.iload_n 1, 1) := by decide +kernel
theorem dX5_counted_1 : decode cX5_counted 1 = .ok (.tableswitch 99 0 10 #[59, 64, 69, 99, 74, 79, 99, 84, 99, 89, 94], 59) := by decide +kernel
theorem dX5_counted_60 : decode cX5_counted 60 = .ok (.aload_n 0, 1) := by decide +kernel
theorem dX5_counted_61 : decode cX5_counted 61 = .ok (.getfield 36, 3) := by decide +kernel
theorem dX5_counted_64 : decode cX5_counted 64 = .ok (.ireturn, 1) := by decide +kernel
theorem dX5_counted_65 : decode cX5_counted 65 = .ok (.aload_n 0, 1) := by decide +kernel
theorem dX5_counted_66 : decode cX5_counted 66 = .ok (.invokevirtual 153, 3) := by decide +kernel
theorem dX5_counted_69 : decode cX5_counted 69 = .ok (.ireturn, 1) := by decide +kernel
theorem dX5_counted_70 : decode cX5_counted 70 = .ok (.aload_n 0, 1) := by decide +kernel
theorem dX5_counted_71 : decode cX5_counted 71 = .ok (.getfield 39, 3) := by decide +kernel
theorem dX5_counted_74 : decode cX5_counted 74 = .ok (.ireturn, 1) := by decide +kernel
theorem dX5_counted_75 : decode cX5_counted 75 = .ok (.aload_n 0, 1) := by decide +kernel
theorem dX5_counted_76 : decode cX5_counted 76 = .ok (.invokevirtual 157, 3) := by decide +kernel
theorem dX5_counted_79 : decode cX5_counted 79 = .ok (.ireturn, 1) := by decide +kernel
theorem dX5_counted_80 : decode cX5_counted 80 = .ok (.aload_n 0, 1) := by decide +kernel
theorem dX5_counted_81 : decode cX5_counted 81 = .ok (.invokevirtual 160, 3) := by decide +kernel
theorem dX5_counted_84 : decode cX5_counted 84 = .ok (.ireturn, 1) := by decide +kernel
theorem dX5_counted_85 : decode cX5_counted 85 = .ok (.aload_n 0, 1) := by decide +kernel
theorem dX5_counted_86 : decode cX5_counted 86 = .ok (.getfield 106, 3) := by decide +kernel
theorem dX5_counted_89 : decode cX5_counted 89 = .ok (.ireturn, 1) := by decide +kernel
theorem dX5_counted_90 : decode cX5_counted 90 = .ok (.aload_n 0, 1) := by decide +kernel
theorem dX5_counted_91 : decode cX5_counted 91 = .ok (.getfield 103, 3) := by decide +kernel
theorem dX5_counted_94 : decode cX5_counted 94 = .ok (.ireturn, 1) := by decide +kernel
theorem dX5_counted_95 : decode cX5_counted 95 = .ok (.aload_n 0, 1) := by decide +kernel
theorem dX5_counted_96 : decode cX5_counted 96 = .ok (.invokevirtual 163, 3) := by decide +kernel
theorem dX5_counted_99 : decode cX5_counted 99 = .ok (.ireturn, 1) := by decide +kernel
theorem dX5_counted_100 : decode cX5_counted 100 = .ok (.aload_n 0, 1) := by decide +kernel
theorem dX5_counted_101 : decode cX5_counted 101 = .ok (.iload_n 1, 1) := by decide +kernel
theorem dX5_counted_102 : decode cX5_counted 102 = .ok (.invokevirtual 166, 3) := by decide +kernel
theorem dX5_counted_105 : decode cX5_counted 105 = .ok (.ireturn, 1) := by decide +kernel
theorem dX5_count_0 : decode cX5_count 0 = .ok (.aload_n 0, 1) := by decide +kernel
theorem dX5_count_1 : decode cX5_count 1 = .ok (.iconst 0, 1) := by decide +kernel
theorem dX5_count_2 : decode cX5_count 2 = .ok (.putfield 28, 3) := by decide +kernel
theorem dX5_count_5 : decode cX5_count 5 = .ok (.iload_n 1, 1) := by decide +kernel
theorem dX5_count_6 : decode cX5_count 6 = .ok (.iconst 0, 1) := by decide +kernel
theorem dX5_count_7 : decode cX5_count 7 = .ok (.bipush 10, 2) := by decide +kernel
theorem dX5_count_9 : decode cX5_count 9 = .ok (.invokestatic 32, 3) := by decide +kernel
theorem dX5_count_12 : decode cX5_count 12 = .ok (.ifCond .eq 11, 3) := by decide +kernel
theorem dX5_count_15 : decode cX5_count 15 = .ok (.aload_n 0, 1) := by decide +kernel
theorem dX5_count_16 : decode cX5_count 16 = .ok (.iload_n 1, 1) := by decide +kernel
theorem dX5_count_17 : decode cX5_count 17 = .ok (.invokevirtual 94, 3) := by decide +kernel
theorem dX5_count_20 : decode cX5_count 20 = .ok (.goto 8, 3) := by decide +kernel
theorem dX5_count_23 : decode cX5_count 23 = .ok (.aload_n 0, 1) := by decide +kernel
theorem dX5_count_24 : decode cX5_count 24 = .ok (.iconst 1, 1) := by decide +kernel
theorem dX5_count_25 : decode cX5_count 25 = .ok (.invokevirtual 78, 3) := by decide +kernel
theorem dX5_count_28 : decode cX5_count 28 = .ok (.ireturn, 1) := by decide +kernel
theorem dX5_would_0 : decode cX5_would 0 = .ok (.aload_n 0, 1) := by decide +kernel
theorem dX5_would_1 : decode cX5_would 1 = .ok (.iconst 0, 1) := by decide +kernel
theorem dX5_would_2 : decode cX5_would 2 = .ok (.putfield 28, 3) := by decide +kernel
theorem dX5_would_5 : decode cX5_would 5 = .ok (.aload_n 0, 1) := by decide +kernel
theorem dX5_would_6 : decode cX5_would 6 = .ok (.iload_n 1, 1) := by decide +kernel
theorem dX5_would_7 : decode cX5_would 7 = .ok (.invokevirtual 143, 3) := by decide +kernel
theorem dX5_would_10 : decode cX5_would 10 = .ok (.ifCond .ne 9, 3) := by decide +kernel
theorem dX5_would_13 : decode cX5_would 13 = .ok (.aload_n 0, 1) := by decide +kernel
theorem dX5_would_14 : decode cX5_would 14 = .ok (.iconst 1, 1) := by decide +kernel
theorem dX5_would_15 : decode cX5_would 15 = .ok (.invokevirtual 78, 3) := by decide +kernel
theorem dX5_would_18 : decode cX5_would 18 = .ok (.ireturn, 1) := by decide +kernel
theorem dX5_would_19 : decode cX5_would 19 = .ok (.iload_n 2, 1) := by decide +kernel
theorem dX5_would_20 : decode cX5_would 20 = .ok (.iconst 1, 1) := by decide +kernel
theorem dX5_would_21 : decode cX5_would 21 = .ok (.bipush 20, 2) := by decide +kernel
theorem dX5_would_23 : decode cX5_would 23 = .ok (.invokestatic 32, 3) := by decide +kernel
theorem dX5_would_26 : decode cX5_would 26 = .ok (.ifCond .ne 9, 3) := by decide +kernel
theorem dX5_would_29 : decode cX5_would 29 = .ok (.aload_n 0, 1) := by decide +kernel
theorem dX5_would_30 : decode cX5_would 30 = .ok (.iconst 2, 1) := by decide +kernel
theorem dX5_would_31 : decode cX5_would 31 = .ok (.invokevirtual 78, 3) := by decide +kernel
theorem dX5_would_34 : decode cX5_would 34 = .ok (.ireturn, 1) := by decide +kernel
theorem dX5_would_35 : decode cX5_would 35 = .ok (.aload_n 0, 1) := by decide +kernel
theorem dX5_would_36 : decode cX5_would 36 = .ok (.iload_n 2, 1) := by decide +kernel
theorem dX5_would_37 : decode cX5_would 37 = .ok (.invokevirtual 100, 3) := by decide +kernel
theorem dX5_would_40 : decode cX5_would 40 = .ok (.pop, 1) := by decide +kernel
theorem dX5_would_41 : decode cX5_would 41 = .ok (.aload_n 0, 1) := by decide +kernel
theorem dX5_would_42 : decode cX5_would 42 = .ok (.getfield 22, 3) := by decide +kernel
theorem dX5_would_45 : decode cX5_would 45 = .ok (.aload_n 0, 1) := by decide +kernel
theorem dX5_would_46 : decode cX5_would 46 = .ok (.getfield 13, 3) := by decide +kernel
theorem dX5_would_49 : decode cX5_would 49 = .ok (.iload_n 1, 1) := by decide +kernel
theorem dX5_would_50 : decode cX5_would 50 = .ok (.iaload, 1) := by decide +kernel
theorem dX5_would_51 : decode cX5_would 51 = .ok (.iaload, 1) := by decide +kernel
theorem dX5_would_52 : decode cX5_would 52 = .ok (.ireturn, 1) := by decide +kernel
theorem dX5_best_0 : decode cX5_best 0 = .ok (.aload_n 0, 1) := by decide +kernel
theorem dX5_best_1 : decode cX5_best 1 = .ok (.iconst 0, 1) := by decide +kernel
theorem dX5_best_2 : decode cX5_best 2 = .ok (.putfield 28, 3) := by decide +kernel
theorem dX5_best_5 : decode cX5_best 5 = .ok (.iload_n 1, 1) := by decide +kernel
theorem dX5_best_6 : decode cX5_best 6 = .ok (.iconst 1, 1) := by decide +kernel
theorem dX5_best_7 : decode cX5_best 7 = .ok (.bipush 24, 2) := by decide +kernel
theorem dX5_best_9 : decode cX5_best 9 = .ok (.invokestatic 32, 3) := by decide +kernel
theorem dX5_best_12 : decode cX5_best 12 = .ok (.ifCond .eq 13, 3) := by decide +kernel
theorem dX5_best_15 : decode cX5_best 15 = .ok (.iload_n 2, 1) := by decide +kernel
theorem dX5_best_16 : decode cX5_best 16 = .ok (.iconst 1, 1) := by decide +kernel
theorem dX5_best_17 : decode cX5_best 17 = .ok (.bipush 24, 2) := by decide +kernel
theorem dX5_best_19 : decode cX5_best 19 = .ok (.invokestatic 32, 3) := by decide +kernel
theorem dX5_best_22 : decode cX5_best 22 = .ok (.ifCond .ne 9, 3) := by decide +kernel
theorem dX5_best_25 : decode cX5_best 25 = .ok (.aload_n 0, 1) := by decide +kernel
theorem dX5_best_26 : decode cX5_best 26 = .ok (.iconst 1, 1) := by decide +kernel
theorem dX5_best_27 : decode cX5_best 27 = .ok (.invokevirtual 78, 3) := by decide +kernel
theorem dX5_best_30 : decode cX5_best 30 = .ok (.ireturn, 1) := by decide +kernel
theorem dX5_best_31 : decode cX5_best 31 = .ok (.iload_n 3, 1) := by decide +kernel
theorem dX5_best_32 : decode cX5_best 32 = .ok (.iconst 0, 1) := by decide +kernel
theorem dX5_best_33 : decode cX5_best 33 = .ok (.iconst 2, 1) := by decide +kernel
theorem dX5_best_34 : decode cX5_best 34 = .ok (.invokestatic 32, 3) := by decide +kernel
theorem dX5_best_37 : decode cX5_best 37 = .ok (.ifCond .ne 9, 3) := by decide +kernel
theorem dX5_best_40 : decode cX5_best 40 = .ok (.aload_n 0, 1) := by decide +kernel
theorem dX5_best_41 : decode cX5_best 41 = .ok (.iconst 2, 1) := by decide +kernel
theorem dX5_best_42 : decode cX5_best 42 = .ok (.invokevirtual 78, 3) := by decide +kernel
theorem dX5_best_45 : decode cX5_best 45 = .ok (.ireturn, 1) := by decide +kernel
theorem dX5_best_46 : decode cX5_best 46 = .ok (.bipush 24, 2) := by decide +kernel
theorem dX5_best_48 : decode cX5_best 48 = .ok (.newarray .int, 2) := by decide +kernel
theorem dX5_best_50 : decode cX5_best 50 = .ok (.astore 4, 2) := by decide +kernel
theorem dX5_best_52 : decode cX5_best 52 = .ok (.iconst 0, 1) := by decide +kernel
theorem dX5_best_53 : decode cX5_best 53 = .ok (.istore 5, 2) := by decide +kernel
theorem dX5_best_55 : decode cX5_best 55 = .ok (.iload 5, 2) := by decide +kernel
theorem dX5_best_57 : decode cX5_best 57 = .ok (.bipush 24, 2) := by decide +kernel
theorem dX5_best_59 : decode cX5_best 59 = .ok (.if_icmp .ge 22, 3) := by decide +kernel
theorem dX5_best_62 : decode cX5_best 62 = .ok (.aload 4, 2) := by decide +kernel
theorem dX5_best_64 : decode cX5_best 64 = .ok (.iload 5, 2) := by decide +kernel
theorem dX5_best_66 : decode cX5_best 66 = .ok (.aload_n 0, 1) := by decide +kernel
theorem dX5_best_67 : decode cX5_best 67 = .ok (.iload 5, 2) := by decide +kernel
theorem dX5_best_69 : decode cX5_best 69 = .ok (.invokevirtual 129, 3) := by decide +kernel
theorem dX5_best_72 : decode cX5_best 72 = .ok (.iconst (-1), 1) := by decide +kernel
theorem dX5_best_73 : decode cX5_best 73 = .ok (.ixor, 1) := by decide +kernel
theorem dX5_best_74 : decode cX5_best 74 = .ok (.iastore, 1) := by decide +kernel
theorem dX5_best_75 : decode cX5_best 75 = .ok (.iinc 5 1, 3) := by decide +kernel
theorem dX5_best_78 : decode cX5_best 78 = .ok (.goto (-23), 3) := by decide +kernel
theorem dX5_best_81 : decode cX5_best 81 = .ok (.iconst 3, 1) := by decide +kernel
theorem dX5_best_82 : decode cX5_best 82 = .ok (.newarray .int, 2) := by decide +kernel
theorem dX5_best_84 : decode cX5_best 84 = .ok (.dup, 1) := by decide +kernel
theorem dX5_best_85 : decode cX5_best 85 = .ok (.iconst 0, 1) := by decide +kernel
theorem dX5_best_86 : decode cX5_best 86 = .ok (.iconst 0, 1) := by decide +kernel
theorem dX5_best_87 : decode cX5_best 87 = .ok (.iastore, 1) := by decide +kernel
theorem dX5_best_88 : decode cX5_best 88 = .ok (.dup, 1) := by decide +kernel
theorem dX5_best_89 : decode cX5_best 89 = .ok (.iconst 1, 1) := by decide +kernel
theorem dX5_best_90 : decode cX5_best 90 = .ok (.iconst 0, 1) := by decide +kernel
theorem dX5_best_91 : decode cX5_best 91 = .ok (.iastore, 1) := by decide +kernel
theorem dX5_best_92 : decode cX5_best 92 = .ok (.dup, 1) := by decide +kernel
theorem dX5_best_93 : decode cX5_best 93 = .ok (.iconst 2, 1) := by decide +kernel
theorem dX5_best_94 : decode cX5_best 94 = .ok (.iconst (-1), 1) := by decide +kernel
theorem dX5_best_95 : decode cX5_best 95 = .ok (.iastore, 1) := by decide +kernel
theorem dX5_best_96 : decode cX5_best 96 = .ok (.astore 5, 2) := by decide +kernel
theorem dX5_best_98 : decode cX5_best 98 = .ok (.iconst 0, 1) := by decide +kernel
theorem dX5_best_99 : decode cX5_best 99 = .ok (.istore 6, 2) := by decide +kernel
theorem dX5_best_101 : decode cX5_best 101 = .ok (.iload 6, 2) := by decide +kernel
theorem dX5_best_103 : decode cX5_best 103 = .ok (.iload_n 2, 1) := by decide +kernel
theorem dX5_best_104 : decode cX5_best 104 = .ok (.iadd, 1) := by decide +kernel
theorem dX5_best_105 : decode cX5_best 105 = .ok (.bipush 24, 2) := by decide +kernel
theorem dX5_best_107 : decode cX5_best 107 = .ok (.if_icmp .gt 99, 3) := by decide +kernel
theorem dX5_best_110 : decode cX5_best 110 = .ok (.iconst 0, 1) := by decide +kernel
theorem dX5_best_111 : decode cX5_best 111 = .ok (.istore 7, 2) := by decide +kernel
theorem dX5_best_113 : decode cX5_best 113 = .ok (.iload 7, 2) := by decide +kernel
theorem dX5_best_115 : decode cX5_best 115 = .ok (.iload_n 1, 1) := by decide +kernel
theorem dX5_best_116 : decode cX5_best 116 = .ok (.iadd, 1) := by decide +kernel
theorem dX5_best_117 : decode cX5_best 117 = .ok (.bipush 24, 2) := by decide +kernel
theorem dX5_best_119 : decode cX5_best 119 = .ok (.if_icmp .gt 81, 3) := by decide +kernel
theorem dX5_best_122 : decode cX5_best 122 = .ok (.iconst 0, 1) := by decide +kernel
theorem dX5_best_123 : decode cX5_best 123 = .ok (.istore 8, 2) := by decide +kernel
theorem dX5_best_125 : decode cX5_best 125 = .ok (.iload 7, 2) := by decide +kernel
theorem dX5_best_127 : decode cX5_best 127 = .ok (.istore 9, 2) := by decide +kernel
theorem dX5_best_129 : decode cX5_best 129 = .ok (.iload 9, 2) := by decide +kernel
theorem dX5_best_131 : decode cX5_best 131 = .ok (.iload 7, 2) := by decide +kernel
theorem dX5_best_133 : decode cX5_best 133 = .ok (.iload_n 1, 1) := by decide +kernel
theorem dX5_best_134 : decode cX5_best 134 = .ok (.iadd, 1) := by decide +kernel
theorem dX5_best_135 : decode cX5_best 135 = .ok (.if_icmp .ge 29, 3) := by decide +kernel
theorem dX5_best_138 : decode cX5_best 138 = .ok (.iload 8, 2) := by decide +kernel
theorem dX5_best_140 : decode cX5_best 140 = .ok (.aload 4, 2) := by decide +kernel
theorem dX5_best_142 : decode cX5_best 142 = .ok (.iload 9, 2) := by decide +kernel
theorem dX5_best_144 : decode cX5_best 144 = .ok (.iaload, 1) := by decide +kernel
theorem dX5_best_145 : decode cX5_best 145 = .ok (.iload 6, 2) := by decide +kernel
theorem dX5_best_147 : decode cX5_best 147 = .ok (.iload_n 2, 1) := by decide +kernel
theorem dX5_best_148 : decode cX5_best 148 = .ok (.invokestatic 50, 3) := by decide +kernel
theorem dX5_best_151 : decode cX5_best 151 = .ok (.iand, 1) := by decide +kernel
theorem dX5_best_152 : decode cX5_best 152 = .ok (.invokestatic 109, 3) := by decide +kernel
theorem dX5_best_155 : decode cX5_best 155 = .ok (.iadd, 1) := by decide +kernel
theorem dX5_best_156 : decode cX5_best 156 = .ok (.istore 8, 2) := by decide +kernel
theorem dX5_best_158 : decode cX5_best 158 = .ok (.iinc 9 1, 3) := by decide +kernel
theorem dX5_best_161 : decode cX5_best 161 = .ok (.goto (-32), 3) := by decide +kernel
theorem dX5_best_164 : decode cX5_best 164 = .ok (.iload 8, 2) := by decide +kernel
theorem dX5_best_166 : decode cX5_best 166 = .ok (.aload 5, 2) := by decide +kernel
theorem dX5_best_168 : decode cX5_best 168 = .ok (.iconst 2, 1) := by decide +kernel
theorem dX5_best_169 : decode cX5_best 169 = .ok (.iaload, 1) := by decide +kernel
theorem dX5_best_170 : decode cX5_best 170 = .ok (.if_icmp .gt 6, 3) := by decide +kernel
theorem dX5_best_173 : decode cX5_best 173 = .ok (.goto 21, 3) := by decide +kernel
theorem dX5_best_176 : decode cX5_best 176 = .ok (.aload 5, 2) := by decide +kernel
theorem dX5_best_178 : decode cX5_best 178 = .ok (.iconst 0, 1) := by decide +kernel
theorem dX5_best_179 : decode cX5_best 179 = .ok (.iload 7, 2) := by decide +kernel
theorem dX5_best_181 : decode cX5_best 181 = .ok (.iastore, 1) := by decide +kernel
theorem dX5_best_182 : decode cX5_best 182 = .ok (.aload 5, 2) := by decide +kernel
theorem dX5_best_184 : decode cX5_best 184 = .ok (.iconst 1, 1) := by decide +kernel
theorem dX5_best_185 : decode cX5_best 185 = .ok (.iload 6, 2) := by decide +kernel
theorem dX5_best_187 : decode cX5_best 187 = .ok (.iastore, 1) := by decide +kernel
theorem dX5_best_188 : decode cX5_best 188 = .ok (.aload 5, 2) := by decide +kernel
theorem dX5_best_190 : decode cX5_best 190 = .ok (.iconst 2, 1) := by decide +kernel
theorem dX5_best_191 : decode cX5_best 191 = .ok (.iload 8, 2) := by decide +kernel
theorem dX5_best_193 : decode cX5_best 193 = .ok (.iastore, 1) := by decide +kernel
theorem dX5_best_194 : decode cX5_best 194 = .ok (.iinc 7 1, 3) := by decide +kernel
theorem dX5_best_197 : decode cX5_best 197 = .ok (.goto (-84), 3) := by decide +kernel
theorem dX5_best_200 : decode cX5_best 200 = .ok (.iinc 6 1, 3) := by decide +kernel
theorem dX5_best_203 : decode cX5_best 203 = .ok (.goto (-102), 3) := by decide +kernel
theorem dX5_best_206 : decode cX5_best 206 = .ok (.aload 5, 2) := by decide +kernel
theorem dX5_best_208 : decode cX5_best 208 = .ok (.iload_n 3, 1) := by decide +kernel
theorem dX5_best_209 : decode cX5_best 209 = .ok (.iaload, 1) := by decide +kernel
theorem dX5_best_210 : decode cX5_best 210 = .ok (.ireturn, 1) := by decide +kernel
theorem dX5_advise_0 : decode cX5_advise 0 = .ok (.aload_n 0, 1) := by decide +kernel
theorem dX5_advise_1 : decode cX5_advise 1 = .ok (.iconst 0, 1) := by decide +kernel
theorem dX5_advise_2 : decode cX5_advise 2 = .ok (.putfield 28, 3) := by decide +kernel
theorem dX5_advise_5 : decode cX5_advise 5 = .ok (.iconst (-1), 1) := by decide +kernel
theorem dX5_advise_6 : decode cX5_advise 6 = .ok (.istore_n 1, 1) := by decide +kernel
theorem dX5_advise_7 : decode cX5_advise 7 = .ok (.iconst 0, 1) := by decide +kernel
theorem dX5_advise_8 : decode cX5_advise 8 = .ok (.istore_n 2, 1) := by decide +kernel
theorem dX5_advise_9 : decode cX5_advise 9 = .ok (.iload_n 2, 1) := by decide +kernel
theorem dX5_advise_10 : decode cX5_advise 10 = .ok (.aload_n 0, 1) := by decide +kernel
theorem dX5_advise_11 : decode cX5_advise 11 = .ok (.getfield 36, 3) := by decide +kernel
theorem dX5_advise_14 : decode cX5_advise 14 = .ok (.if_icmp .ge 37, 3) := by decide +kernel
theorem dX5_advise_17 : decode cX5_advise 17 = .ok (.aload_n 0, 1) := by decide +kernel
theorem dX5_advise_18 : decode cX5_advise 18 = .ok (.iload_n 2, 1) := by decide +kernel
theorem dX5_advise_19 : decode cX5_advise 19 = .ok (.invokevirtual 46, 3) := by decide +kernel
theorem dX5_advise_22 : decode cX5_advise 22 = .ok (.ifCond .eq 23, 3) := by decide +kernel
theorem dX5_advise_25 : decode cX5_advise 25 = .ok (.iload_n 1, 1) := by decide +kernel
theorem dX5_advise_26 : decode cX5_advise 26 = .ok (.iconst (-1), 1) := by decide +kernel
theorem dX5_advise_27 : decode cX5_advise 27 = .ok (.if_icmp .eq 16, 3) := by decide +kernel
theorem dX5_advise_30 : decode cX5_advise 30 = .ok (.aload_n 0, 1) := by decide +kernel
theorem dX5_advise_31 : decode cX5_advise 31 = .ok (.iload_n 2, 1) := by decide +kernel
theorem dX5_advise_32 : decode cX5_advise 32 = .ok (.invokevirtual 112, 3) := by decide +kernel
theorem dX5_advise_35 : decode cX5_advise 35 = .ok (.aload_n 0, 1) := by decide +kernel
theorem dX5_advise_36 : decode cX5_advise 36 = .ok (.iload_n 1, 1) := by decide +kernel
theorem dX5_advise_37 : decode cX5_advise 37 = .ok (.invokevirtual 112, 3) := by decide +kernel
theorem dX5_advise_40 : decode cX5_advise 40 = .ok (.if_icmp .ge 5, 3) := by decide +kernel
theorem dX5_advise_43 : decode cX5_advise 43 = .ok (.iload_n 2, 1) := by decide +kernel
theorem dX5_advise_44 : decode cX5_advise 44 = .ok (.istore_n 1, 1) := by decide +kernel
theorem dX5_advise_45 : decode cX5_advise 45 = .ok (.iinc 2 1, 3) := by decide +kernel
theorem dX5_advise_48 : decode cX5_advise 48 = .ok (.goto (-39), 3) := by decide +kernel
theorem dX5_advise_51 : decode cX5_advise 51 = .ok (.iload_n 1, 1) := by decide +kernel
theorem dX5_advise_52 : decode cX5_advise 52 = .ok (.ireturn, 1) := by decide +kernel
theorem dX5_mean_0 : decode cX5_mean 0 = .ok (.aload_n 0, 1) := by decide +kernel
theorem dX5_mean_1 : decode cX5_mean 1 = .ok (.iconst 0, 1) := by decide +kernel
theorem dX5_mean_2 : decode cX5_mean 2 = .ok (.putfield 28, 3) := by decide +kernel
theorem dX5_mean_5 : decode cX5_mean 5 = .ok (.iconst 0, 1) := by decide +kernel
theorem dX5_mean_6 : decode cX5_mean 6 = .ok (.istore_n 1, 1) := by decide +kernel
theorem dX5_mean_7 : decode cX5_mean 7 = .ok (.iconst 0, 1) := by decide +kernel
theorem dX5_mean_8 : decode cX5_mean 8 = .ok (.istore_n 2, 1) := by decide +kernel
theorem dX5_mean_9 : decode cX5_mean 9 = .ok (.iload_n 2, 1) := by decide +kernel
theorem dX5_mean_10 : decode cX5_mean 10 = .ok (.aload_n 0, 1) := by decide +kernel
theorem dX5_mean_11 : decode cX5_mean 11 = .ok (.getfield 39, 3) := by decide +kernel
theorem dX5_mean_14 : decode cX5_mean 14 = .ok (.if_icmp .ge 17, 3) := by decide +kernel
theorem dX5_mean_17 : decode cX5_mean 17 = .ok (.iload_n 1, 1) := by decide +kernel
theorem dX5_mean_18 : decode cX5_mean 18 = .ok (.aload_n 0, 1) := by decide +kernel
theorem dX5_mean_19 : decode cX5_mean 19 = .ok (.iload_n 2, 1) := by decide +kernel
theorem dX5_mean_20 : decode cX5_mean 20 = .ok (.invokevirtual 140, 3) := by decide +kernel
theorem dX5_mean_23 : decode cX5_mean 23 = .ok (.iadd, 1) := by decide +kernel
theorem dX5_mean_24 : decode cX5_mean 24 = .ok (.istore_n 1, 1) := by decide +kernel
theorem dX5_mean_25 : decode cX5_mean 25 = .ok (.iinc 2 1, 3) := by decide +kernel
theorem dX5_mean_28 : decode cX5_mean 28 = .ok (.goto (-19), 3) := by decide +kernel
theorem dX5_mean_31 : decode cX5_mean 31 = .ok (.aload_n 0, 1) := by decide +kernel
theorem dX5_mean_32 : decode cX5_mean 32 = .ok (.getfield 39, 3) := by decide +kernel
theorem dX5_mean_35 : decode cX5_mean 35 = .ok (.ifCond .ne 7, 3) := by decide +kernel
theorem dX5_mean_38 : decode cX5_mean 38 = .ok (.dconst 0, 1) := by decide +kernel
theorem dX5_mean_39 : decode cX5_mean 39 = .ok (.goto 11, 3) := by decide +kernel
theorem dX5_mean_42 : decode cX5_mean 42 = .ok (.iload_n 1, 1) := by decide +kernel
theorem dX5_mean_43 : decode cX5_mean 43 = .ok (.i2d, 1) := by decide +kernel
theorem dX5_mean_44 : decode cX5_mean 44 = .ok (.aload_n 0, 1) := by decide +kernel
theorem dX5_mean_45 : decode cX5_mean 45 = .ok (.getfield 39, 3) := by decide +kernel
theorem dX5_mean_48 : decode cX5_mean 48 = .ok (.i2d, 1) := by decide +kernel
theorem dX5_mean_49 : decode cX5_mean 49 = .ok (.ddiv, 1) := by decide +kernel
theorem dX5_mean_50 : decode cX5_mean 50 = .ok (.dreturn, 1) := by decide +kernel
theorem dX5_digest_0 : decode cX5_digest 0 = .ok (.aload_n 0, 1) := by decide +kernel
theorem dX5_digest_1 : decode cX5_digest 1 = .ok (.iconst 0, 1) := by decide +kernel
theorem dX5_digest_2 : decode cX5_digest 2 = .ok (.putfield 28, 3) := by decide +kernel
theorem dX5_digest_5 : decode cX5_digest 5 = .ok (.ldc2_w 169, 3) := by decide +kernel
theorem dX5_digest_8 : decode cX5_digest 8 = .ok (.lstore_n 1, 1) := by decide +kernel
theorem dX5_digest_9 : decode cX5_digest 9 = .ok (.iconst 0, 1) := by decide +kernel
theorem dX5_digest_10 : decode cX5_digest 10 = .ok (.istore_n 3, 1) := by decide +kernel
theorem dX5_digest_11 : decode cX5_digest 11 = .ok (.iload_n 3, 1) := by decide +kernel
theorem dX5_digest_12 : decode cX5_digest 12 = .ok (.bipush 10, 2) := by decide +kernel
theorem dX5_digest_14 : decode cX5_digest 14 = .ok (.if_icmp .gt 22, 3) := by decide +kernel
theorem dX5_digest_17 : decode cX5_digest 17 = .ok (.lload_n 1, 1) := by decide +kernel
theorem dX5_digest_18 : decode cX5_digest 18 = .ok (.ldc2_w 171, 3) := by decide +kernel
theorem dX5_digest_21 : decode cX5_digest 21 = .ok (.lmul, 1) := by decide +kernel
theorem dX5_digest_22 : decode cX5_digest 22 = .ok (.aload_n 0, 1) := by decide +kernel
theorem dX5_digest_23 : decode cX5_digest 23 = .ok (.iload_n 3, 1) := by decide +kernel
theorem dX5_digest_24 : decode cX5_digest 24 = .ok (.invokevirtual 94, 3) := by decide +kernel
theorem dX5_digest_27 : decode cX5_digest 27 = .ok (.i2l, 1) := by decide +kernel
theorem dX5_digest_28 : decode cX5_digest 28 = .ok (.ladd, 1) := by decide +kernel
theorem dX5_digest_29 : decode cX5_digest 29 = .ok (.lstore_n 1, 1) := by decide +kernel
theorem dX5_digest_30 : decode cX5_digest 30 = .ok (.iinc 3 1, 3) := by decide +kernel
theorem dX5_digest_33 : decode cX5_digest 33 = .ok (.goto (-22), 3) := by decide +kernel
theorem dX5_digest_36 : decode cX5_digest 36 = .ok (.iconst 0, 1) := by decide +kernel
theorem dX5_digest_37 : decode cX5_digest 37 = .ok (.istore_n 3, 1) := by decide +kernel
theorem dX5_digest_38 : decode cX5_digest 38 = .ok (.iload_n 3, 1) := by decide +kernel
theorem dX5_digest_39 : decode cX5_digest 39 = .ok (.aload_n 0, 1) := by decide +kernel
theorem dX5_digest_40 : decode cX5_digest 40 = .ok (.getfield 36, 3) := by decide +kernel
theorem dX5_digest_43 : decode cX5_digest 43 = .ok (.if_icmp .ge 40, 3) := by decide +kernel
theorem dX5_digest_46 : decode cX5_digest 46 = .ok (.iconst 0, 1) := by decide +kernel
theorem dX5_digest_47 : decode cX5_digest 47 = .ok (.istore 4, 2) := by decide +kernel
theorem dX5_digest_49 : decode cX5_digest 49 = .ok (.iload 4, 2) := by decide +kernel
theorem dX5_digest_51 : decode cX5_digest 51 = .ok (.bipush 8, 2) := by decide +kernel
theorem dX5_digest_53 : decode cX5_digest 53 = .ok (.if_icmp .gt 24, 3) := by decide +kernel
theorem dX5_digest_56 : decode cX5_digest 56 = .ok (.lload_n 1, 1) := by decide +kernel
theorem dX5_digest_57 : decode cX5_digest 57 = .ok (.ldc2_w 171, 3) := by decide +kernel
theorem dX5_digest_60 : decode cX5_digest 60 = .ok (.lmul, 1) := by decide +kernel
theorem dX5_digest_61 : decode cX5_digest 61 = .ok (.aload_n 0, 1) := by decide +kernel
theorem dX5_digest_62 : decode cX5_digest 62 = .ok (.iload_n 3, 1) := by decide +kernel
theorem dX5_digest_63 : decode cX5_digest 63 = .ok (.iload 4, 2) := by decide +kernel
theorem dX5_digest_65 : decode cX5_digest 65 = .ok (.invokevirtual 115, 3) := by decide +kernel
theorem dX5_digest_68 : decode cX5_digest 68 = .ok (.i2l, 1) := by decide +kernel
theorem dX5_digest_69 : decode cX5_digest 69 = .ok (.ladd, 1) := by decide +kernel
theorem dX5_digest_70 : decode cX5_digest 70 = .ok (.lstore_n 1, 1) := by decide +kernel
theorem dX5_digest_71 : decode cX5_digest 71 = .ok (.iinc 4 1, 3) := by decide +kernel
theorem dX5_digest_74 : decode cX5_digest 74 = .ok (.goto (-25), 3) := by decide +kernel
theorem dX5_digest_77 : decode cX5_digest 77 = .ok (.iinc 3 1, 3) := by decide +kernel
theorem dX5_digest_80 : decode cX5_digest 80 = .ok (.goto (-42), 3) := by decide +kernel
theorem dX5_digest_83 : decode cX5_digest 83 = .ok (.iconst 0, 1) := by decide +kernel
theorem dX5_digest_84 : decode cX5_digest 84 = .ok (.istore_n 3, 1) := by decide +kernel
theorem dX5_digest_85 : decode cX5_digest 85 = .ok (.iload_n 3, 1) := by decide +kernel
theorem dX5_digest_86 : decode cX5_digest 86 = .ok (.aload_n 0, 1) := by decide +kernel
theorem dX5_digest_87 : decode cX5_digest 87 = .ok (.getfield 39, 3) := by decide +kernel
theorem dX5_digest_90 : decode cX5_digest 90 = .ok (.if_icmp .ge 39, 3) := by decide +kernel
theorem dX5_digest_93 : decode cX5_digest 93 = .ok (.iconst 0, 1) := by decide +kernel
theorem dX5_digest_94 : decode cX5_digest 94 = .ok (.istore 4, 2) := by decide +kernel
theorem dX5_digest_96 : decode cX5_digest 96 = .ok (.iload 4, 2) := by decide +kernel
theorem dX5_digest_98 : decode cX5_digest 98 = .ok (.iconst 3, 1) := by decide +kernel
theorem dX5_digest_99 : decode cX5_digest 99 = .ok (.if_icmp .gt 24, 3) := by decide +kernel
theorem dX5_digest_102 : decode cX5_digest 102 = .ok (.lload_n 1, 1) := by decide +kernel
theorem dX5_digest_103 : decode cX5_digest 103 = .ok (.ldc2_w 171, 3) := by decide +kernel
theorem dX5_digest_106 : decode cX5_digest 106 = .ok (.lmul, 1) := by decide +kernel
theorem dX5_digest_107 : decode cX5_digest 107 = .ok (.aload_n 0, 1) := by decide +kernel
theorem dX5_digest_108 : decode cX5_digest 108 = .ok (.iload_n 3, 1) := by decide +kernel
theorem dX5_digest_109 : decode cX5_digest 109 = .ok (.iload 4, 2) := by decide +kernel
theorem dX5_digest_111 : decode cX5_digest 111 = .ok (.invokevirtual 146, 3) := by decide +kernel
theorem dX5_digest_114 : decode cX5_digest 114 = .ok (.i2l, 1) := by decide +kernel
theorem dX5_digest_115 : decode cX5_digest 115 = .ok (.ladd, 1) := by decide +kernel
theorem dX5_digest_116 : decode cX5_digest 116 = .ok (.lstore_n 1, 1) := by decide +kernel
theorem dX5_digest_117 : decode cX5_digest 117 = .ok (.iinc 4 1, 3) := by decide +kernel
theorem dX5_digest_120 : decode cX5_digest 120 = .ok (.goto (-24), 3) := by decide +kernel
theorem dX5_digest_123 : decode cX5_digest 123 = .ok (.iinc 3 1, 3) := by decide +kernel
theorem dX5_digest_126 : decode cX5_digest 126 = .ok (.goto (-41), 3) := by decide +kernel
theorem dX5_digest_129 : decode cX5_digest 129 = .ok (.iconst 0, 1) := by decide +kernel
theorem dX5_digest_130 : decode cX5_digest 130 = .ok (.istore_n 3, 1) := by decide +kernel
theorem dX5_digest_131 : decode cX5_digest 131 = .ok (.iload_n 3, 1) := by decide +kernel
theorem dX5_digest_132 : decode cX5_digest 132 = .ok (.bipush 24, 2) := by decide +kernel
theorem dX5_digest_134 : decode cX5_digest 134 = .ok (.if_icmp .ge 87, 3) := by decide +kernel
theorem dX5_digest_137 : decode cX5_digest 137 = .ok (.iconst 0, 1) := by decide +kernel
theorem dX5_digest_138 : decode cX5_digest 138 = .ok (.istore 4, 2) := by decide +kernel
theorem dX5_digest_140 : decode cX5_digest 140 = .ok (.iload 4, 2) := by decide +kernel
theorem dX5_digest_142 : decode cX5_digest 142 = .ok (.iconst 3, 1) := by decide +kernel
theorem dX5_digest_143 : decode cX5_digest 143 = .ok (.if_icmp .gt 24, 3) := by decide +kernel
theorem dX5_digest_146 : decode cX5_digest 146 = .ok (.lload_n 1, 1) := by decide +kernel
theorem dX5_digest_147 : decode cX5_digest 147 = .ok (.ldc2_w 171, 3) := by decide +kernel
theorem dX5_digest_150 : decode cX5_digest 150 = .ok (.lmul, 1) := by decide +kernel
theorem dX5_digest_151 : decode cX5_digest 151 = .ok (.aload_n 0, 1) := by decide +kernel
theorem dX5_digest_152 : decode cX5_digest 152 = .ok (.iload_n 3, 1) := by decide +kernel
theorem dX5_digest_153 : decode cX5_digest 153 = .ok (.iload 4, 2) := by decide +kernel
theorem dX5_digest_155 : decode cX5_digest 155 = .ok (.invokevirtual 137, 3) := by decide +kernel
theorem dX5_digest_158 : decode cX5_digest 158 = .ok (.i2l, 1) := by decide +kernel
theorem dX5_digest_159 : decode cX5_digest 159 = .ok (.ladd, 1) := by decide +kernel
theorem dX5_digest_160 : decode cX5_digest 160 = .ok (.lstore_n 1, 1) := by decide +kernel
theorem dX5_digest_161 : decode cX5_digest 161 = .ok (.iinc 4 1, 3) := by decide +kernel
theorem dX5_digest_164 : decode cX5_digest 164 = .ok (.goto (-24), 3) := by decide +kernel
theorem dX5_digest_167 : decode cX5_digest 167 = .ok (.iconst 0, 1) := by decide +kernel
theorem dX5_digest_168 : decode cX5_digest 168 = .ok (.istore 4, 2) := by decide +kernel
theorem dX5_digest_170 : decode cX5_digest 170 = .ok (.iload 4, 2) := by decide +kernel
theorem dX5_digest_172 : decode cX5_digest 172 = .ok (.bipush 24, 2) := by decide +kernel
theorem dX5_digest_174 : decode cX5_digest 174 = .ok (.if_icmp .ge 41, 3) := by decide +kernel
theorem dX5_digest_177 : decode cX5_digest 177 = .ok (.iconst 0, 1) := by decide +kernel
theorem dX5_digest_178 : decode cX5_digest 178 = .ok (.istore 5, 2) := by decide +kernel
theorem dX5_digest_180 : decode cX5_digest 180 = .ok (.iload 5, 2) := by decide +kernel
theorem dX5_digest_182 : decode cX5_digest 182 = .ok (.iconst 2, 1) := by decide +kernel
theorem dX5_digest_183 : decode cX5_digest 183 = .ok (.if_icmp .gt 26, 3) := by decide +kernel
theorem dX5_digest_186 : decode cX5_digest 186 = .ok (.lload_n 1, 1) := by decide +kernel
theorem dX5_digest_187 : decode cX5_digest 187 = .ok (.ldc2_w 171, 3) := by decide +kernel
theorem dX5_digest_190 : decode cX5_digest 190 = .ok (.lmul, 1) := by decide +kernel
theorem dX5_digest_191 : decode cX5_digest 191 = .ok (.aload_n 0, 1) := by decide +kernel
theorem dX5_digest_192 : decode cX5_digest 192 = .ok (.iload_n 3, 1) := by decide +kernel
theorem dX5_digest_193 : decode cX5_digest 193 = .ok (.iload 4, 2) := by decide +kernel
theorem dX5_digest_195 : decode cX5_digest 195 = .ok (.iload 5, 2) := by decide +kernel
theorem dX5_digest_197 : decode cX5_digest 197 = .ok (.invokevirtual 121, 3) := by decide +kernel
theorem dX5_digest_200 : decode cX5_digest 200 = .ok (.i2l, 1) := by decide +kernel
theorem dX5_digest_201 : decode cX5_digest 201 = .ok (.ladd, 1) := by decide +kernel
theorem dX5_digest_202 : decode cX5_digest 202 = .ok (.lstore_n 1, 1) := by decide +kernel
theorem dX5_digest_203 : decode cX5_digest 203 = .ok (.iinc 5 1, 3) := by decide +kernel
theorem dX5_digest_206 : decode cX5_digest 206 = .ok (.goto (-26), 3) := by decide +kernel
theorem dX5_digest_209 : decode cX5_digest 209 = .ok (.iinc 4 1, 3) := by decide +kernel
theorem dX5_digest_212 : decode cX5_digest 212 = .ok (.goto (-42), 3) := by decide +kernel
theorem dX5_digest_215 : decode cX5_digest 215 = .ok (.iinc 3 1, 3) := by decide +kernel
theorem dX5_digest_218 : decode cX5_digest 218 = .ok (.goto (-87), 3) := by decide +kernel
theorem dX5_digest_221 : decode cX5_digest 221 = .ok (.lload_n 1, 1) := by decide +kernel
theorem dX5_digest_222 : decode cX5_digest 222 = .ok (.lreturn, 1) := by decide +kernel
theorem dJ9_max_7cf53_0 : decode cJ9_max_7cf53 0 = .ok (.iload_n 0, 1) := by decide +kernel
theorem dJ9_max_7cf53_1 : decode cJ9_max_7cf53 1 = .ok (.iload_n 1, 1) := by decide +kernel
theorem dJ9_max_7cf53_2 : decode cJ9_max_7cf53 2 = .ok (.if_icmp .lt 7, 3) := by decide +kernel
theorem dJ9_max_7cf53_5 : decode cJ9_max_7cf53 5 = .ok (.iload_n 0, 1) := by decide +kernel
theorem dJ9_max_7cf53_6 : decode cJ9_max_7cf53 6 = .ok (.goto 4, 3) := by decide +kernel
theorem dJ9_max_7cf53_9 : decode cJ9_max_7cf53 9 = .ok (.iload_n 1, 1) := by decide +kernel
theorem dJ9_max_7cf53_10 : decode cJ9_max_7cf53 10 = .ok (.ireturn, 1) := by decide +kernel
theorem dJ9_min_7cf53_0 : decode cJ9_min_7cf53 0 = .ok (.iload_n 0, 1) := by decide +kernel
theorem dJ9_min_7cf53_1 : decode cJ9_min_7cf53 1 = .ok (.iload_n 1, 1) := by decide +kernel
theorem dJ9_min_7cf53_2 : decode cJ9_min_7cf53 2 = .ok (.if_icmp .gt 7, 3) := by decide +kernel
theorem dJ9_min_7cf53_5 : decode cJ9_min_7cf53 5 = .ok (.iload_n 0, 1) := by decide +kernel
theorem dJ9_min_7cf53_6 : decode cJ9_min_7cf53 6 = .ok (.goto 4, 3) := by decide +kernel
theorem dJ9_min_7cf53_9 : decode cJ9_min_7cf53 9 = .ok (.iload_n 1, 1) := by decide +kernel
theorem dJ9_min_7cf53_10 : decode cJ9_min_7cf53 10 = .ok (.ireturn, 1) := by decide +kernel
theorem dJxa1e45_init_da8c8_0 : decode cJxa1e45_init_da8c8 0 = .ok (.aload_n 0, 1) := by decide +kernel
theorem dJxa1e45_init_da8c8_1 : decode cJxa1e45_init_da8c8 1 = .ok (.invokespecial 1, 3) := by decide +kernel
theorem dJxa1e45_init_da8c8_4 : decode cJxa1e45_init_da8c8 4 = .ok (.return_, 1) := by decide +kernel
theorem dJxc12de_init_da8c8_0 : decode cJxc12de_init_da8c8 0 = .ok (.aload_n 0, 1) := by decide +kernel
theorem dJxc12de_init_da8c8_1 : decode cJxc12de_init_da8c8 1 = .ok (.invokespecial 1, 3) := by decide +kernel
theorem dJxc12de_init_da8c8_4 : decode cJxc12de_init_da8c8 4 = .ok (.aload_n 0, 1) := by decide +kernel
theorem dJxc12de_init_da8c8_5 : decode cJxc12de_init_da8c8 5 = .ok (.iconst 0, 1) := by decide +kernel
theorem dJxc12de_init_da8c8_6 : decode cJxc12de_init_da8c8 6 = .ok (.putfield 7, 3) := by decide +kernel
theorem dJxc12de_init_da8c8_9 : decode cJxc12de_init_da8c8 9 = .ok (.return_, 1) := by decide +kernel
theorem dJx4a65c_init_da8c8_0 : decode cJx4a65c_init_da8c8 0 = .ok (.aload_n 0, 1) := by decide +kernel
theorem dJx4a65c_init_da8c8_1 : decode cJx4a65c_init_da8c8 1 = .ok (.invokespecial 1, 3) := by decide +kernel
theorem dJx4a65c_init_da8c8_4 : decode cJx4a65c_init_da8c8 4 = .ok (.aload_n 0, 1) := by decide +kernel
theorem dJx4a65c_init_da8c8_5 : decode cJx4a65c_init_da8c8 5 = .ok (.getstatic 39, 3) := by decide +kernel
theorem dJx4a65c_init_da8c8_8 : decode cJx4a65c_init_da8c8 8 = .ok (.putfield 9, 3) := by decide +kernel
theorem dJx4a65c_init_da8c8_11 : decode cJx4a65c_init_da8c8 11 = .ok (.return_, 1) := by decide +kernel
theorem dJx4a65c_grow_92f84_0 : decode cJx4a65c_grow_92f84 0 = .ok (.aload_n 0, 1) := by decide +kernel
theorem dJx4a65c_grow_92f84_1 : decode cJx4a65c_grow_92f84 1 = .ok (.getfield 9, 3) := by decide +kernel
theorem dJx4a65c_grow_92f84_4 : decode cJx4a65c_grow_92f84 4 = .ok (.arraylength, 1) := by decide +kernel
theorem dJx4a65c_grow_92f84_5 : decode cJx4a65c_grow_92f84 5 = .ok (.istore_n 2, 1) := by decide +kernel
theorem dJx4a65c_grow_92f84_6 : decode cJx4a65c_grow_92f84 6 = .ok (.iload_n 2, 1) := by decide +kernel
theorem dJx4a65c_grow_92f84_7 : decode cJx4a65c_grow_92f84 7 = .ok (.ifCond .gt 13, 3) := by decide +kernel
theorem dJx4a65c_grow_92f84_10 : decode cJx4a65c_grow_92f84 10 = .ok (.aload_n 0, 1) := by decide +kernel
theorem dJx4a65c_grow_92f84_11 : decode cJx4a65c_grow_92f84 11 = .ok (.getfield 9, 3) := by decide +kernel
theorem dJx4a65c_grow_92f84_14 : decode cJx4a65c_grow_92f84 14 = .ok (.getstatic 39, 3) := by decide +kernel
theorem dJx4a65c_grow_92f84_17 : decode cJx4a65c_grow_92f84 17 = .ok (.if_acmp .eq 28, 3) := by decide +kernel
theorem dJx4a65c_grow_92f84_20 : decode cJx4a65c_grow_92f84 20 = .ok (.iload_n 2, 1) := by decide +kernel
theorem dJx4a65c_grow_92f84_21 : decode cJx4a65c_grow_92f84 21 = .ok (.iload_n 1, 1) := by decide +kernel
theorem dJx4a65c_grow_92f84_22 : decode cJx4a65c_grow_92f84 22 = .ok (.iload_n 2, 1) := by decide +kernel
theorem dJx4a65c_grow_92f84_23 : decode cJx4a65c_grow_92f84 23 = .ok (.isub, 1) := by decide +kernel
theorem dJx4a65c_grow_92f84_24 : decode cJx4a65c_grow_92f84 24 = .ok (.iload_n 2, 1) := by decide +kernel
theorem dJx4a65c_grow_92f84_25 : decode cJx4a65c_grow_92f84 25 = .ok (.iconst 1, 1) := by decide +kernel
theorem dJx4a65c_grow_92f84_26 : decode cJx4a65c_grow_92f84 26 = .ok (.ishr, 1) := by decide +kernel
theorem dJx4a65c_grow_92f84_27 : decode cJx4a65c_grow_92f84 27 = .ok (.invokestatic 73, 3) := by decide +kernel
theorem dJx4a65c_grow_92f84_30 : decode cJx4a65c_grow_92f84 30 = .ok (.istore_n 3, 1) := by decide +kernel
theorem dJx4a65c_grow_92f84_31 : decode cJx4a65c_grow_92f84 31 = .ok (.aload_n 0, 1) := by decide +kernel
theorem dJx4a65c_grow_92f84_32 : decode cJx4a65c_grow_92f84 32 = .ok (.aload_n 0, 1) := by decide +kernel
theorem dJx4a65c_grow_92f84_33 : decode cJx4a65c_grow_92f84 33 = .ok (.getfield 9, 3) := by decide +kernel
theorem dJx4a65c_grow_92f84_36 : decode cJx4a65c_grow_92f84 36 = .ok (.iload_n 3, 1) := by decide +kernel
theorem dJx4a65c_grow_92f84_37 : decode cJx4a65c_grow_92f84 37 = .ok (.invokestatic 66, 3) := by decide +kernel
theorem dJx4a65c_grow_92f84_40 : decode cJx4a65c_grow_92f84 40 = .ok (.dup_x1, 1) := by decide +kernel
theorem dJx4a65c_grow_92f84_41 : decode cJx4a65c_grow_92f84 41 = .ok (.putfield 9, 3) := by decide +kernel
theorem dJx4a65c_grow_92f84_44 : decode cJx4a65c_grow_92f84 44 = .ok (.areturn, 1) := by decide +kernel
theorem dJx4a65c_grow_92f84_45 : decode cJx4a65c_grow_92f84 45 = .ok (.aload_n 0, 1) := by decide +kernel
theorem dJx4a65c_grow_92f84_46 : decode cJx4a65c_grow_92f84 46 = .ok (.bipush 10, 2) := by decide +kernel
theorem dJx4a65c_grow_92f84_48 : decode cJx4a65c_grow_92f84 48 = .ok (.iload_n 1, 1) := by decide +kernel
theorem dJx4a65c_grow_92f84_49 : decode cJx4a65c_grow_92f84 49 = .ok (.invokestatic 79, 3) := by decide +kernel
theorem dJx4a65c_grow_92f84_52 : decode cJx4a65c_grow_92f84 52 = .ok (.anewarray 7, 3) := by decide +kernel
theorem dJx4a65c_grow_92f84_55 : decode cJx4a65c_grow_92f84 55 = .ok (.dup_x1, 1) := by decide +kernel
theorem dJx4a65c_grow_92f84_56 : decode cJx4a65c_grow_92f84 56 = .ok (.putfield 9, 3) := by decide +kernel
theorem dJx4a65c_grow_92f84_59 : decode cJx4a65c_grow_92f84 59 = .ok (.areturn, 1) := by decide +kernel
theorem dJx4a65c_grow_d5877_0 : decode cJx4a65c_grow_d5877 0 = .ok (.aload_n 0, 1) := by decide +kernel
theorem dJx4a65c_grow_d5877_1 : decode cJx4a65c_grow_d5877 1 = .ok (.aload_n 0, 1) := by decide +kernel
theorem dJx4a65c_grow_d5877_2 : decode cJx4a65c_grow_d5877 2 = .ok (.getfield 48, 3) := by decide +kernel
theorem dJx4a65c_grow_d5877_5 : decode cJx4a65c_grow_d5877 5 = .ok (.iconst 1, 1) := by decide +kernel
theorem dJx4a65c_grow_d5877_6 : decode cJx4a65c_grow_d5877 6 = .ok (.iadd, 1) := by decide +kernel
theorem dJx4a65c_grow_d5877_7 : decode cJx4a65c_grow_d5877 7 = .ok (.invokevirtual 69, 3) := by decide +kernel
theorem dJx4a65c_grow_d5877_10 : decode cJx4a65c_grow_d5877 10 = .ok (.areturn, 1) := by decide +kernel
theorem dJx4a65c_size_8abf5_0 : decode cJx4a65c_size_8abf5 0 = .ok (.aload_n 0, 1) := by decide +kernel
theorem dJx4a65c_size_8abf5_1 : decode cJx4a65c_size_8abf5 1 = .ok (.getfield 48, 3) := by decide +kernel
theorem dJx4a65c_size_8abf5_4 : decode cJx4a65c_size_8abf5 4 = .ok (.ireturn, 1) := by decide +kernel
theorem dJx4a65c_elementData_915e3_0 : decode cJx4a65c_elementData_915e3 0 = .ok (.aload_n 0, 1) := by decide +kernel
theorem dJx4a65c_elementData_915e3_1 : decode cJx4a65c_elementData_915e3 1 = .ok (.getfield 9, 3) := by decide +kernel
theorem dJx4a65c_elementData_915e3_4 : decode cJx4a65c_elementData_915e3 4 = .ok (.iload_n 1, 1) := by decide +kernel
theorem dJx4a65c_elementData_915e3_5 : decode cJx4a65c_elementData_915e3 5 = .ok (.aaload, 1) := by decide +kernel
theorem dJx4a65c_elementData_915e3_6 : decode cJx4a65c_elementData_915e3 6 = .ok (.areturn, 1) := by decide +kernel
theorem dJx4a65c_get_915e3_0 : decode cJx4a65c_get_915e3 0 = .ok (.iload_n 1, 1) := by decide +kernel
theorem dJx4a65c_get_915e3_1 : decode cJx4a65c_get_915e3 1 = .ok (.aload_n 0, 1) := by decide +kernel
theorem dJx4a65c_get_915e3_2 : decode cJx4a65c_get_915e3 2 = .ok (.getfield 48, 3) := by decide +kernel
theorem dJx4a65c_get_915e3_5 : decode cJx4a65c_get_915e3 5 = .ok (.invokestatic 118, 3) := by decide +kernel
theorem dJx4a65c_get_915e3_8 : decode cJx4a65c_get_915e3 8 = .ok (.pop, 1) := by decide +kernel
theorem dJx4a65c_get_915e3_9 : decode cJx4a65c_get_915e3 9 = .ok (.aload_n 0, 1) := by decide +kernel
theorem dJx4a65c_get_915e3_10 : decode cJx4a65c_get_915e3 10 = .ok (.iload_n 1, 1) := by decide +kernel
theorem dJx4a65c_get_915e3_11 : decode cJx4a65c_get_915e3 11 = .ok (.invokevirtual 123, 3) := by decide +kernel
theorem dJx4a65c_get_915e3_14 : decode cJx4a65c_get_915e3 14 = .ok (.areturn, 1) := by decide +kernel
theorem dJx4a65c_add_72be8_0 : decode cJx4a65c_add_72be8 0 = .ok (.iload_n 3, 1) := by decide +kernel
theorem dJx4a65c_add_72be8_1 : decode cJx4a65c_add_72be8 1 = .ok (.aload_n 2, 1) := by decide +kernel
theorem dJx4a65c_add_72be8_2 : decode cJx4a65c_add_72be8 2 = .ok (.arraylength, 1) := by decide +kernel
theorem dJx4a65c_add_72be8_3 : decode cJx4a65c_add_72be8 3 = .ok (.if_icmp .ne 8, 3) := by decide +kernel
theorem dJx4a65c_add_72be8_6 : decode cJx4a65c_add_72be8 6 = .ok (.aload_n 0, 1) := by decide +kernel
theorem dJx4a65c_add_72be8_7 : decode cJx4a65c_add_72be8 7 = .ok (.invokevirtual 129, 3) := by decide +kernel
theorem dJx4a65c_add_72be8_10 : decode cJx4a65c_add_72be8 10 = .ok (.astore_n 2, 1) := by decide +kernel
theorem dJx4a65c_add_72be8_11 : decode cJx4a65c_add_72be8 11 = .ok (.aload_n 2, 1) := by decide +kernel
theorem dJx4a65c_add_72be8_12 : decode cJx4a65c_add_72be8 12 = .ok (.iload_n 3, 1) := by decide +kernel
theorem dJx4a65c_add_72be8_13 : decode cJx4a65c_add_72be8 13 = .ok (.aload_n 1, 1) := by decide +kernel
theorem dJx4a65c_add_72be8_14 : decode cJx4a65c_add_72be8 14 = .ok (.aastore, 1) := by decide +kernel
theorem dJx4a65c_add_72be8_15 : decode cJx4a65c_add_72be8 15 = .ok (.aload_n 0, 1) := by decide +kernel
theorem dJx4a65c_add_72be8_16 : decode cJx4a65c_add_72be8 16 = .ok (.iload_n 3, 1) := by decide +kernel
theorem dJx4a65c_add_72be8_17 : decode cJx4a65c_add_72be8 17 = .ok (.iconst 1, 1) := by decide +kernel
theorem dJx4a65c_add_72be8_18 : decode cJx4a65c_add_72be8 18 = .ok (.iadd, 1) := by decide +kernel
theorem dJx4a65c_add_72be8_19 : decode cJx4a65c_add_72be8 19 = .ok (.putfield 48, 3) := by decide +kernel
theorem dJx4a65c_add_72be8_22 : decode cJx4a65c_add_72be8 22 = .ok (.return_, 1) := by decide +kernel
theorem dJx4a65c_add_9ea2d_0 : decode cJx4a65c_add_9ea2d 0 = .ok (.aload_n 0, 1) := by decide +kernel
theorem dJx4a65c_add_9ea2d_1 : decode cJx4a65c_add_9ea2d 1 = .ok (.dup, 1) := by decide +kernel
theorem dJx4a65c_add_9ea2d_2 : decode cJx4a65c_add_9ea2d 2 = .ok (.getfield 63, 3) := by decide +kernel
theorem dJx4a65c_add_9ea2d_5 : decode cJx4a65c_add_9ea2d 5 = .ok (.iconst 1, 1) := by decide +kernel
theorem dJx4a65c_add_9ea2d_6 : decode cJx4a65c_add_9ea2d 6 = .ok (.iadd, 1) := by decide +kernel
theorem dJx4a65c_add_9ea2d_7 : decode cJx4a65c_add_9ea2d 7 = .ok (.putfield 63, 3) := by decide +kernel
theorem dJx4a65c_add_9ea2d_10 : decode cJx4a65c_add_9ea2d 10 = .ok (.aload_n 0, 1) := by decide +kernel
theorem dJx4a65c_add_9ea2d_11 : decode cJx4a65c_add_9ea2d 11 = .ok (.aload_n 1, 1) := by decide +kernel
theorem dJx4a65c_add_9ea2d_12 : decode cJx4a65c_add_9ea2d 12 = .ok (.aload_n 0, 1) := by decide +kernel
theorem dJx4a65c_add_9ea2d_13 : decode cJx4a65c_add_9ea2d 13 = .ok (.getfield 9, 3) := by decide +kernel
theorem dJx4a65c_add_9ea2d_16 : decode cJx4a65c_add_9ea2d 16 = .ok (.aload_n 0, 1) := by decide +kernel
theorem dJx4a65c_add_9ea2d_17 : decode cJx4a65c_add_9ea2d 17 = .ok (.getfield 48, 3) := by decide +kernel
theorem dJx4a65c_add_9ea2d_20 : decode cJx4a65c_add_9ea2d 20 = .ok (.invokevirtual 131, 3) := by decide +kernel
theorem dJx4a65c_add_9ea2d_23 : decode cJx4a65c_add_9ea2d 23 = .ok (.iconst 1, 1) := by decide +kernel
theorem dJx4a65c_add_9ea2d_24 : decode cJx4a65c_add_9ea2d 24 = .ok (.ireturn, 1) := by decide +kernel
theorem dJx4a65c_remove_915e3_0 : decode cJx4a65c_remove_915e3 0 = .ok (.iload_n 1, 1) := by decide +kernel
theorem dJx4a65c_remove_915e3_1 : decode cJx4a65c_remove_915e3 1 = .ok (.aload_n 0, 1) := by decide +kernel
theorem dJx4a65c_remove_915e3_2 : decode cJx4a65c_remove_915e3 2 = .ok (.getfield 48, 3) := by decide +kernel
theorem dJx4a65c_remove_915e3_5 : decode cJx4a65c_remove_915e3 5 = .ok (.invokestatic 118, 3) := by decide +kernel
theorem dJx4a65c_remove_915e3_8 : decode cJx4a65c_remove_915e3 8 = .ok (.pop, 1) := by decide +kernel
theorem dJx4a65c_remove_915e3_9 : decode cJx4a65c_remove_915e3 9 = .ok (.aload_n 0, 1) := by decide +kernel
theorem dJx4a65c_remove_915e3_10 : decode cJx4a65c_remove_915e3 10 = .ok (.getfield 9, 3) := by decide +kernel
theorem dJx4a65c_remove_915e3_13 : decode cJx4a65c_remove_915e3 13 = .ok (.astore_n 2, 1) := by decide +kernel
theorem dJx4a65c_remove_915e3_14 : decode cJx4a65c_remove_915e3 14 = .ok (.aload_n 2, 1) := by decide +kernel
theorem dJx4a65c_remove_915e3_15 : decode cJx4a65c_remove_915e3 15 = .ok (.iload_n 1, 1) := by decide +kernel
theorem dJx4a65c_remove_915e3_16 : decode cJx4a65c_remove_915e3 16 = .ok (.aaload, 1) := by decide +kernel
theorem dJx4a65c_remove_915e3_17 : decode cJx4a65c_remove_915e3 17 = .ok (.astore_n 3, 1) := by decide +kernel
theorem dJx4a65c_remove_915e3_18 : decode cJx4a65c_remove_915e3 18 = .ok (.aload_n 0, 1) := by decide +kernel
theorem dJx4a65c_remove_915e3_19 : decode cJx4a65c_remove_915e3 19 = .ok (.aload_n 2, 1) := by decide +kernel
theorem dJx4a65c_remove_915e3_20 : decode cJx4a65c_remove_915e3 20 = .ok (.iload_n 1, 1) := by decide +kernel
theorem dJx4a65c_remove_915e3_21 : decode cJx4a65c_remove_915e3 21 = .ok (.invokevirtual 144, 3) := by decide +kernel
theorem dJx4a65c_remove_915e3_24 : decode cJx4a65c_remove_915e3 24 = .ok (.aload_n 3, 1) := by decide +kernel
theorem dJx4a65c_remove_915e3_25 : decode cJx4a65c_remove_915e3 25 = .ok (.areturn, 1) := by decide +kernel
theorem dJx4a65c_fastRemove_b59b0_0 : decode cJx4a65c_fastRemove_b59b0 0 = .ok (.aload_n 0, 1) := by decide +kernel
theorem dJx4a65c_fastRemove_b59b0_1 : decode cJx4a65c_fastRemove_b59b0 1 = .ok (.dup, 1) := by decide +kernel
theorem dJx4a65c_fastRemove_b59b0_2 : decode cJx4a65c_fastRemove_b59b0 2 = .ok (.getfield 63, 3) := by decide +kernel
theorem dJx4a65c_fastRemove_b59b0_5 : decode cJx4a65c_fastRemove_b59b0 5 = .ok (.iconst 1, 1) := by decide +kernel
theorem dJx4a65c_fastRemove_b59b0_6 : decode cJx4a65c_fastRemove_b59b0 6 = .ok (.iadd, 1) := by decide +kernel
theorem dJx4a65c_fastRemove_b59b0_7 : decode cJx4a65c_fastRemove_b59b0 7 = .ok (.putfield 63, 3) := by decide +kernel
theorem dJx4a65c_fastRemove_b59b0_10 : decode cJx4a65c_fastRemove_b59b0 10 = .ok (.aload_n 0, 1) := by decide +kernel
theorem dJx4a65c_fastRemove_b59b0_11 : decode cJx4a65c_fastRemove_b59b0 11 = .ok (.getfield 48, 3) := by decide +kernel
theorem dJx4a65c_fastRemove_b59b0_14 : decode cJx4a65c_fastRemove_b59b0 14 = .ok (.iconst 1, 1) := by decide +kernel
theorem dJx4a65c_fastRemove_b59b0_15 : decode cJx4a65c_fastRemove_b59b0 15 = .ok (.isub, 1) := by decide +kernel
theorem dJx4a65c_fastRemove_b59b0_16 : decode cJx4a65c_fastRemove_b59b0 16 = .ok (.dup, 1) := by decide +kernel
theorem dJx4a65c_fastRemove_b59b0_17 : decode cJx4a65c_fastRemove_b59b0 17 = .ok (.istore_n 3, 1) := by decide +kernel
theorem dJx4a65c_fastRemove_b59b0_18 : decode cJx4a65c_fastRemove_b59b0 18 = .ok (.iload_n 2, 1) := by decide +kernel
theorem dJx4a65c_fastRemove_b59b0_19 : decode cJx4a65c_fastRemove_b59b0 19 = .ok (.if_icmp .le 15, 3) := by decide +kernel
theorem dJx4a65c_fastRemove_b59b0_22 : decode cJx4a65c_fastRemove_b59b0 22 = .ok (.aload_n 1, 1) := by decide +kernel
theorem dJx4a65c_fastRemove_b59b0_23 : decode cJx4a65c_fastRemove_b59b0 23 = .ok (.iload_n 2, 1) := by decide +kernel
theorem dJx4a65c_fastRemove_b59b0_24 : decode cJx4a65c_fastRemove_b59b0 24 = .ok (.iconst 1, 1) := by decide +kernel
theorem dJx4a65c_fastRemove_b59b0_25 : decode cJx4a65c_fastRemove_b59b0 25 = .ok (.iadd, 1) := by decide +kernel
theorem dJx4a65c_fastRemove_b59b0_26 : decode cJx4a65c_fastRemove_b59b0 26 = .ok (.aload_n 1, 1) := by decide +kernel
theorem dJx4a65c_fastRemove_b59b0_27 : decode cJx4a65c_fastRemove_b59b0 27 = .ok (.iload_n 2, 1) := by decide +kernel
theorem dJx4a65c_fastRemove_b59b0_28 : decode cJx4a65c_fastRemove_b59b0 28 = .ok (.iload_n 3, 1) := by decide +kernel
theorem dJx4a65c_fastRemove_b59b0_29 : decode cJx4a65c_fastRemove_b59b0 29 = .ok (.iload_n 2, 1) := by decide +kernel
theorem dJx4a65c_fastRemove_b59b0_30 : decode cJx4a65c_fastRemove_b59b0 30 = .ok (.isub, 1) := by decide +kernel
theorem dJx4a65c_fastRemove_b59b0_31 : decode cJx4a65c_fastRemove_b59b0 31 = .ok (.invokestatic 112, 3) := by decide +kernel
theorem dJx4a65c_fastRemove_b59b0_34 : decode cJx4a65c_fastRemove_b59b0 34 = .ok (.aload_n 1, 1) := by decide +kernel
theorem dJx4a65c_fastRemove_b59b0_35 : decode cJx4a65c_fastRemove_b59b0 35 = .ok (.aload_n 0, 1) := by decide +kernel
theorem dJx4a65c_fastRemove_b59b0_36 : decode cJx4a65c_fastRemove_b59b0 36 = .ok (.iload_n 3, 1) := by decide +kernel
theorem dJx4a65c_fastRemove_b59b0_37 : decode cJx4a65c_fastRemove_b59b0 37 = .ok (.dup_x1, 1) := by decide +kernel
theorem dJx4a65c_fastRemove_b59b0_38 : decode cJx4a65c_fastRemove_b59b0 38 = .ok (.putfield 48, 3) := by decide +kernel
theorem dJx4a65c_fastRemove_b59b0_41 : decode cJx4a65c_fastRemove_b59b0 41 = .ok (.aconst_null, 1) := by decide +kernel
theorem dJx4a65c_fastRemove_b59b0_42 : decode cJx4a65c_fastRemove_b59b0 42 = .ok (.aastore, 1) := by decide +kernel
theorem dJx4a65c_fastRemove_b59b0_43 : decode cJx4a65c_fastRemove_b59b0 43 = .ok (.return_, 1) := by decide +kernel
theorem dJ7_fill_53178_0 : decode cJ7_fill_53178 0 = .ok (.iconst 0, 1) := by decide +kernel
theorem dJ7_fill_53178_1 : decode cJ7_fill_53178 1 = .ok (.istore_n 2, 1) := by decide +kernel
theorem dJ7_fill_53178_2 : decode cJ7_fill_53178 2 = .ok (.aload_n 0, 1) := by decide +kernel
theorem dJ7_fill_53178_3 : decode cJ7_fill_53178 3 = .ok (.arraylength, 1) := by decide +kernel
theorem dJ7_fill_53178_4 : decode cJ7_fill_53178 4 = .ok (.istore_n 3, 1) := by decide +kernel
theorem dJ7_fill_53178_5 : decode cJ7_fill_53178 5 = .ok (.iload_n 2, 1) := by decide +kernel
theorem dJ7_fill_53178_6 : decode cJ7_fill_53178 6 = .ok (.iload_n 3, 1) := by decide +kernel
theorem dJ7_fill_53178_7 : decode cJ7_fill_53178 7 = .ok (.if_icmp .ge 13, 3) := by decide +kernel
theorem dJ7_fill_53178_10 : decode cJ7_fill_53178 10 = .ok (.aload_n 0, 1) := by decide +kernel
theorem dJ7_fill_53178_11 : decode cJ7_fill_53178 11 = .ok (.iload_n 2, 1) := by decide +kernel
theorem dJ7_fill_53178_12 : decode cJ7_fill_53178 12 = .ok (.iload_n 1, 1) := by decide +kernel
theorem dJ7_fill_53178_13 : decode cJ7_fill_53178 13 = .ok (.iastore, 1) := by decide +kernel
theorem dJ7_fill_53178_14 : decode cJ7_fill_53178 14 = .ok (.iinc 2 1, 3) := by decide +kernel
theorem dJ7_fill_53178_17 : decode cJ7_fill_53178 17 = .ok (.goto (-12), 3) := by decide +kernel
theorem dJ7_fill_53178_20 : decode cJ7_fill_53178 20 = .ok (.return_, 1) := by decide +kernel
theorem dJ7_copyOf_1904c_0 : decode cJ7_copyOf_1904c 0 = .ok (.aload_n 0, 1) := by decide +kernel
theorem dJ7_copyOf_1904c_1 : decode cJ7_copyOf_1904c 1 = .ok (.iload_n 1, 1) := by decide +kernel
theorem dJ7_copyOf_1904c_2 : decode cJ7_copyOf_1904c 2 = .ok (.aload_n 0, 1) := by decide +kernel
theorem dJ7_copyOf_1904c_3 : decode cJ7_copyOf_1904c 3 = .ok (.invokevirtual 86, 3) := by decide +kernel
theorem dJ7_copyOf_1904c_6 : decode cJ7_copyOf_1904c 6 = .ok (.invokestatic 300, 3) := by decide +kernel
theorem dJ7_copyOf_1904c_9 : decode cJ7_copyOf_1904c 9 = .ok (.areturn, 1) := by decide +kernel
theorem dJ7_copyOf_6403c_0 : decode cJ7_copyOf_6403c 0 = .ok (.aload_n 2, 1) := by decide +kernel
theorem dJ7_copyOf_6403c_1 : decode cJ7_copyOf_6403c 1 = .ok (.ldc 110, 2) := by decide +kernel
theorem dJ7_copyOf_6403c_3 : decode cJ7_copyOf_6403c 3 = .ok (.if_acmp .ne 10, 3) := by decide +kernel
theorem dJ7_copyOf_6403c_6 : decode cJ7_copyOf_6403c 6 = .ok (.iload_n 1, 1) := by decide +kernel
theorem dJ7_copyOf_6403c_7 : decode cJ7_copyOf_6403c 7 = .ok (.anewarray 2, 3) := by decide +kernel
theorem dJ7_copyOf_6403c_10 : decode cJ7_copyOf_6403c 10 = .ok (.goto 14, 3) := by decide +kernel
theorem dJ7_copyOf_6403c_13 : decode cJ7_copyOf_6403c 13 = .ok (.aload_n 2, 1) := by decide +kernel
theorem dJ7_copyOf_6403c_14 : decode cJ7_copyOf_6403c 14 = .ok (.invokevirtual 90, 3) := by decide +kernel
theorem dJ7_copyOf_6403c_17 : decode cJ7_copyOf_6403c 17 = .ok (.iload_n 1, 1) := by decide +kernel
theorem dJ7_copyOf_6403c_18 : decode cJ7_copyOf_6403c 18 = .ok (.invokestatic 95, 3) := by decide +kernel
theorem dJ7_copyOf_6403c_21 : decode cJ7_copyOf_6403c 21 = .ok (.checkcast 110, 3) := by decide +kernel
theorem dJ7_copyOf_6403c_24 : decode cJ7_copyOf_6403c 24 = .ok (.astore_n 3, 1) := by decide +kernel
theorem dJ7_copyOf_6403c_25 : decode cJ7_copyOf_6403c 25 = .ok (.aload_n 0, 1) := by decide +kernel
theorem dJ7_copyOf_6403c_26 : decode cJ7_copyOf_6403c 26 = .ok (.iconst 0, 1) := by decide +kernel
theorem dJ7_copyOf_6403c_27 : decode cJ7_copyOf_6403c 27 = .ok (.aload_n 3, 1) := by decide +kernel
theorem dJ7_copyOf_6403c_28 : decode cJ7_copyOf_6403c 28 = .ok (.iconst 0, 1) := by decide +kernel
theorem dJ7_copyOf_6403c_29 : decode cJ7_copyOf_6403c 29 = .ok (.aload_n 0, 1) := by decide +kernel
theorem dJ7_copyOf_6403c_30 : decode cJ7_copyOf_6403c 30 = .ok (.arraylength, 1) := by decide +kernel
theorem dJ7_copyOf_6403c_31 : decode cJ7_copyOf_6403c 31 = .ok (.iload_n 1, 1) := by decide +kernel
theorem dJ7_copyOf_6403c_32 : decode cJ7_copyOf_6403c 32 = .ok (.invokestatic 304, 3) := by decide +kernel
