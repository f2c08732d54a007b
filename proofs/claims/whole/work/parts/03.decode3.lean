theorem dX5_of_0 : decode cX5_of 0 = .ok (.aload_n 0, 1) := by decide +kernel
theorem dX5_of_1 : decode cX5_of 1 = .ok (.getfield 9, 3) := by decide +kernel
theorem dX5_of_4 : decode cX5_of 4 = .ok (.bipush 8, 2) := by decide +kernel
theorem dX5_of_6 : decode cX5_of 6 = .ok (.iload_n 1, 1) := by decide +kernel
theorem dX5_of_7 : decode cX5_of 7 = .ok (.imul, 1) := by decide +kernel
theorem dX5_of_8 : decode cX5_of 8 = .ok (.iload_n 2, 1) := by decide +kernel
theorem dX5_of_9 : decode cX5_of 9 = .ok (.iadd, 1) := by decide +kernel
theorem dX5_of_10 : decode cX5_of 10 = .ok (.iaload, 1) := by decide +kernel
theorem dX5_of_11 : decode cX5_of 11 = .ok (.ireturn, 1) := by decide +kernel
theorem dX5_isOut_0 : decode cX5_isOut 0 = .ok (.aload_n 0, 1) := by decide +kernel
theorem dX5_isOut_1 : decode cX5_isOut 1 = .ok (.iload_n 1, 1) := by decide +kernel
theorem dX5_isOut_2 : decode cX5_isOut 2 = .ok (.bipush 6, 2) := by decide +kernel
theorem dX5_isOut_4 : decode cX5_isOut 4 = .ok (.invokevirtual 42, 3) := by decide +kernel
theorem dX5_isOut_7 : decode cX5_isOut 7 = .ok (.iconst 1, 1) := by decide +kernel
theorem dX5_isOut_8 : decode cX5_isOut 8 = .ok (.if_icmp .ne 7, 3) := by decide +kernel
theorem dX5_isOut_11 : decode cX5_isOut 11 = .ok (.iconst 1, 1) := by decide +kernel
theorem dX5_isOut_12 : decode cX5_isOut 12 = .ok (.goto 4, 3) := by decide +kernel
theorem dX5_isOut_15 : decode cX5_isOut 15 = .ok (.iconst 0, 1) := by decide +kernel
theorem dX5_isOut_16 : decode cX5_isOut 16 = .ok (.ireturn, 1) := by decide +kernel
theorem dX5_many_0 : decode cX5_many 0 = .ok (.iconst 0, 1) := by decide +kernel
theorem dX5_many_1 : decode cX5_many 1 = .ok (.istore_n 1, 1) := by decide +kernel
theorem dX5_many_2 : decode cX5_many 2 = .ok (.iload_n 0, 1) := by decide +kernel
theorem dX5_many_3 : decode cX5_many 3 = .ok (.istore_n 2, 1) := by decide +kernel
theorem dX5_many_4 : decode cX5_many 4 = .ok (.iload_n 2, 1) := by decide +kernel
theorem dX5_many_5 : decode cX5_many 5 = .ok (.ifCond .eq 15, 3) := by decide +kernel
theorem dX5_many_8 : decode cX5_many 8 = .ok (.iinc 1 1, 3) := by decide +kernel
theorem dX5_many_11 : decode cX5_many 11 = .ok (.iload_n 2, 1) := by decide +kernel
theorem dX5_many_12 : decode cX5_many 12 = .ok (.iload_n 2, 1) := by decide +kernel
theorem dX5_many_13 : decode cX5_many 13 = .ok (.iconst 1, 1) := by decide +kernel
theorem dX5_many_14 : decode cX5_many 14 = .ok (.isub, 1) := by decide +kernel
theorem dX5_many_15 : decode cX5_many 15 = .ok (.iand, 1) := by decide +kernel
theorem dX5_many_16 : decode cX5_many 16 = .ok (.istore_n 2, 1) := by decide +kernel
theorem dX5_many_17 : decode cX5_many 17 = .ok (.goto (-13), 3) := by decide +kernel
theorem dX5_many_20 : decode cX5_many 20 = .ok (.iload_n 1, 1) := by decide +kernel
theorem dX5_many_21 : decode cX5_many 21 = .ok (.ireturn, 1) := by decide +kernel
theorem dX5_rows_0 : decode cX5_rows 0 = .ok (.iconst 1, 1) := by decide +kernel
theorem dX5_rows_1 : decode cX5_rows 1 = .ok (.iload_n 1, 1) := by decide +kernel
theorem dX5_rows_2 : decode cX5_rows 2 = .ok (.ishl, 1) := by decide +kernel
theorem dX5_rows_3 : decode cX5_rows 3 = .ok (.iconst 1, 1) := by decide +kernel
theorem dX5_rows_4 : decode cX5_rows 4 = .ok (.isub, 1) := by decide +kernel
theorem dX5_rows_5 : decode cX5_rows 5 = .ok (.iload_n 0, 1) := by decide +kernel
theorem dX5_rows_6 : decode cX5_rows 6 = .ok (.ishl, 1) := by decide +kernel
theorem dX5_rows_7 : decode cX5_rows 7 = .ok (.ireturn, 1) := by decide +kernel
theorem dX5_bits_0 : decode cX5_bits 0 = .ok (.aload_n 0, 1) := by decide +kernel
theorem dX5_bits_1 : decode cX5_bits 1 = .ok (.iload_n 1, 1) := by decide +kernel
theorem dX5_bits_2 : decode cX5_bits 2 = .ok (.invokevirtual 46, 3) := by decide +kernel
theorem dX5_bits_5 : decode cX5_bits 5 = .ok (.ifCond .eq 49, 3) := by decide +kernel
theorem dX5_bits_8 : decode cX5_bits 8 = .ok (.iload_n 2, 1) := by decide +kernel
theorem dX5_bits_9 : decode cX5_bits 9 = .ok (.aload_n 0, 1) := by decide +kernel
theorem dX5_bits_10 : decode cX5_bits 10 = .ok (.iload_n 1, 1) := by decide +kernel
theorem dX5_bits_11 : decode cX5_bits 11 = .ok (.iconst 0, 1) := by decide +kernel
theorem dX5_bits_12 : decode cX5_bits 12 = .ok (.invokevirtual 42, 3) := by decide +kernel
theorem dX5_bits_15 : decode cX5_bits 15 = .ok (.aload_n 0, 1) := by decide +kernel
theorem dX5_bits_16 : decode cX5_bits 16 = .ok (.iload_n 1, 1) := by decide +kernel
theorem dX5_bits_17 : decode cX5_bits 17 = .ok (.iconst 0, 1) := by decide +kernel
theorem dX5_bits_18 : decode cX5_bits 18 = .ok (.invokevirtual 42, 3) := by decide +kernel
theorem dX5_bits_21 : decode cX5_bits 21 = .ok (.aload_n 0, 1) := by decide +kernel
theorem dX5_bits_22 : decode cX5_bits 22 = .ok (.iload_n 1, 1) := by decide +kernel
theorem dX5_bits_23 : decode cX5_bits 23 = .ok (.iconst 2, 1) := by decide +kernel
theorem dX5_bits_24 : decode cX5_bits 24 = .ok (.invokevirtual 42, 3) := by decide +kernel
theorem dX5_bits_27 : decode cX5_bits 27 = .ok (.iadd, 1) := by decide +kernel
theorem dX5_bits_28 : decode cX5_bits 28 = .ok (.iconst 1, 1) := by decide +kernel
theorem dX5_bits_29 : decode cX5_bits 29 = .ok (.isub, 1) := by decide +kernel
theorem dX5_bits_30 : decode cX5_bits 30 = .ok (.invokestatic 32, 3) := by decide +kernel
theorem dX5_bits_33 : decode cX5_bits 33 = .ok (.ifCond .eq 21, 3) := by decide +kernel
theorem dX5_bits_36 : decode cX5_bits 36 = .ok (.aload_n 0, 1) := by decide +kernel
theorem dX5_bits_37 : decode cX5_bits 37 = .ok (.iload_n 1, 1) := by decide +kernel
theorem dX5_bits_38 : decode cX5_bits 38 = .ok (.iconst 1, 1) := by decide +kernel
theorem dX5_bits_39 : decode cX5_bits 39 = .ok (.invokevirtual 42, 3) := by decide +kernel
theorem dX5_bits_42 : decode cX5_bits 42 = .ok (.aload_n 0, 1) := by decide +kernel
theorem dX5_bits_43 : decode cX5_bits 43 = .ok (.iload_n 1, 1) := by decide +kernel
theorem dX5_bits_44 : decode cX5_bits 44 = .ok (.iconst 3, 1) := by decide +kernel
theorem dX5_bits_45 : decode cX5_bits 45 = .ok (.invokevirtual 42, 3) := by decide +kernel
theorem dX5_bits_48 : decode cX5_bits 48 = .ok (.invokestatic 50, 3) := by decide +kernel
theorem dX5_bits_51 : decode cX5_bits 51 = .ok (.goto 4, 3) := by decide +kernel
theorem dX5_bits_54 : decode cX5_bits 54 = .ok (.iconst 0, 1) := by decide +kernel
theorem dX5_bits_55 : decode cX5_bits 55 = .ok (.ireturn, 1) := by decide +kernel
theorem dX5_covered_0 : decode cX5_covered 0 = .ok (.iconst 0, 1) := by decide +kernel
theorem dX5_covered_1 : decode cX5_covered 1 = .ok (.istore_n 3, 1) := by decide +kernel
theorem dX5_covered_2 : decode cX5_covered 2 = .ok (.iconst 0, 1) := by decide +kernel
theorem dX5_covered_3 : decode cX5_covered 3 = .ok (.istore 4, 2) := by decide +kernel
theorem dX5_covered_5 : decode cX5_covered 5 = .ok (.iload 4, 2) := by decide +kernel
theorem dX5_covered_7 : decode cX5_covered 7 = .ok (.aload_n 0, 1) := by decide +kernel
theorem dX5_covered_8 : decode cX5_covered 8 = .ok (.getfield 36, 3) := by decide +kernel
theorem dX5_covered_11 : decode cX5_covered 11 = .ok (.if_icmp .ge 29, 3) := by decide +kernel
theorem dX5_covered_14 : decode cX5_covered 14 = .ok (.iload_n 3, 1) := by decide +kernel
theorem dX5_covered_15 : decode cX5_covered 15 = .ok (.iload 4, 2) := by decide +kernel
theorem dX5_covered_17 : decode cX5_covered 17 = .ok (.iload_n 2, 1) := by decide +kernel
theorem dX5_covered_18 : decode cX5_covered 18 = .ok (.if_icmp .ne 7, 3) := by decide +kernel
theorem dX5_covered_21 : decode cX5_covered 21 = .ok (.iconst 0, 1) := by decide +kernel
theorem dX5_covered_22 : decode cX5_covered 22 = .ok (.goto 10, 3) := by decide +kernel
theorem dX5_covered_25 : decode cX5_covered 25 = .ok (.aload_n 0, 1) := by decide +kernel
theorem dX5_covered_26 : decode cX5_covered 26 = .ok (.iload 4, 2) := by decide +kernel
theorem dX5_covered_28 : decode cX5_covered 28 = .ok (.iload_n 1, 1) := by decide +kernel
theorem dX5_covered_29 : decode cX5_covered 29 = .ok (.invokevirtual 53, 3) := by decide +kernel
theorem dX5_covered_32 : decode cX5_covered 32 = .ok (.ior, 1) := by decide +kernel
theorem dX5_covered_33 : decode cX5_covered 33 = .ok (.istore_n 3, 1) := by decide +kernel
theorem dX5_covered_34 : decode cX5_covered 34 = .ok (.iinc 4 1, 3) := by decide +kernel
theorem dX5_covered_37 : decode cX5_covered 37 = .ok (.goto (-32), 3) := by decide +kernel
theorem dX5_covered_40 : decode cX5_covered 40 = .ok (.iload_n 3, 1) := by decide +kernel
theorem dX5_covered_41 : decode cX5_covered 41 = .ok (.ireturn, 1) := by decide +kernel
theorem dX5_covered__0 : decode cX5_covered_ 0 = .ok (.iload_n 1, 1) := by decide +kernel
theorem dX5_covered__1 : decode cX5_covered_ 1 = .ok (.iconst 0, 1) := by decide +kernel
theorem dX5_covered__2 : decode cX5_covered_ 2 = .ok (.bipush 23, 2) := by decide +kernel
theorem dX5_covered__4 : decode cX5_covered_ 4 = .ok (.invokestatic 32, 3) := by decide +kernel
theorem dX5_covered__7 : decode cX5_covered_ 7 = .ok (.ifCond .eq 12, 3) := by decide +kernel
theorem dX5_covered__10 : decode cX5_covered_ 10 = .ok (.aload_n 0, 1) := by decide +kernel
theorem dX5_covered__11 : decode cX5_covered_ 11 = .ok (.iload_n 1, 1) := by decide +kernel
theorem dX5_covered__12 : decode cX5_covered_ 12 = .ok (.iconst (-1), 1) := by decide +kernel
theorem dX5_covered__13 : decode cX5_covered_ 13 = .ok (.invokevirtual 56, 3) := by decide +kernel
theorem dX5_covered__16 : decode cX5_covered_ 16 = .ok (.goto 4, 3) := by decide +kernel
theorem dX5_covered__19 : decode cX5_covered_ 19 = .ok (.iconst 0, 1) := by decide +kernel
theorem dX5_covered__20 : decode cX5_covered_ 20 = .ok (.ireturn, 1) := by decide +kernel
theorem dX5_lying_0 : decode cX5_lying 0 = .ok (.iconst 0, 1) := by decide +kernel
theorem dX5_lying_1 : decode cX5_lying 1 = .ok (.istore_n 3, 1) := by decide +kernel
theorem dX5_lying_2 : decode cX5_lying 2 = .ok (.iconst 0, 1) := by decide +kernel
theorem dX5_lying_3 : decode cX5_lying 3 = .ok (.istore 4, 2) := by decide +kernel
theorem dX5_lying_5 : decode cX5_lying 5 = .ok (.iload 4, 2) := by decide +kernel
theorem dX5_lying_7 : decode cX5_lying 7 = .ok (.aload_n 0, 1) := by decide +kernel
theorem dX5_lying_8 : decode cX5_lying 8 = .ok (.getfield 36, 3) := by decide +kernel
theorem dX5_lying_11 : decode cX5_lying 11 = .ok (.if_icmp .ge 23, 3) := by decide +kernel
theorem dX5_lying_14 : decode cX5_lying 14 = .ok (.iload_n 3, 1) := by decide +kernel
theorem dX5_lying_15 : decode cX5_lying 15 = .ok (.aload_n 0, 1) := by decide +kernel
theorem dX5_lying_16 : decode cX5_lying 16 = .ok (.iload 4, 2) := by decide +kernel
theorem dX5_lying_18 : decode cX5_lying 18 = .ok (.iload_n 1, 1) := by decide +kernel
theorem dX5_lying_19 : decode cX5_lying 19 = .ok (.invokevirtual 53, 3) := by decide +kernel
theorem dX5_lying_22 : decode cX5_lying 22 = .ok (.iload_n 2, 1) := by decide +kernel
theorem dX5_lying_23 : decode cX5_lying 23 = .ok (.ishr, 1) := by decide +kernel
theorem dX5_lying_24 : decode cX5_lying 24 = .ok (.iconst 1, 1) := by decide +kernel
theorem dX5_lying_25 : decode cX5_lying 25 = .ok (.iand, 1) := by decide +kernel
theorem dX5_lying_26 : decode cX5_lying 26 = .ok (.iadd, 1) := by decide +kernel
theorem dX5_lying_27 : decode cX5_lying 27 = .ok (.istore_n 3, 1) := by decide +kernel
theorem dX5_lying_28 : decode cX5_lying 28 = .ok (.iinc 4 1, 3) := by decide +kernel
theorem dX5_lying_31 : decode cX5_lying 31 = .ok (.goto (-26), 3) := by decide +kernel
theorem dX5_lying_34 : decode cX5_lying 34 = .ok (.iload_n 3, 1) := by decide +kernel
theorem dX5_lying_35 : decode cX5_lying 35 = .ok (.ireturn, 1) := by decide +kernel
theorem dX5_below_0 : decode cX5_below 0 = .ok (.iconst (-1), 1) := by decide +kernel
theorem dX5_below_1 : decode cX5_below 1 = .ok (.istore_n 2, 1) := by decide +kernel
theorem dX5_below_2 : decode cX5_below 2 = .ok (.iconst 0, 1) := by decide +kernel
theorem dX5_below_3 : decode cX5_below 3 = .ok (.istore_n 3, 1) := by decide +kernel
theorem dX5_below_4 : decode cX5_below 4 = .ok (.iload_n 3, 1) := by decide +kernel
theorem dX5_below_5 : decode cX5_below 5 = .ok (.aload_n 0, 1) := by decide +kernel
theorem dX5_below_6 : decode cX5_below 6 = .ok (.getfield 36, 3) := by decide +kernel
theorem dX5_below_9 : decode cX5_below 9 = .ok (.if_icmp .ge 47, 3) := by decide +kernel
theorem dX5_below_12 : decode cX5_below 12 = .ok (.aload_n 0, 1) := by decide +kernel
theorem dX5_below_13 : decode cX5_below 13 = .ok (.iload_n 3, 1) := by decide +kernel
theorem dX5_below_14 : decode cX5_below 14 = .ok (.invokevirtual 46, 3) := by decide +kernel
theorem dX5_below_17 : decode cX5_below 17 = .ok (.ifCond .eq 33, 3) := by decide +kernel
theorem dX5_below_20 : decode cX5_below 20 = .ok (.iload_n 1, 1) := by decide +kernel
theorem dX5_below_21 : decode cX5_below 21 = .ok (.iconst (-1), 1) := by decide +kernel
theorem dX5_below_22 : decode cX5_below 22 = .ok (.if_icmp .eq 12, 3) := by decide +kernel
theorem dX5_below_25 : decode cX5_below 25 = .ok (.aload_n 0, 1) := by decide +kernel
theorem dX5_below_26 : decode cX5_below 26 = .ok (.iload_n 1, 1) := by decide +kernel
theorem dX5_below_27 : decode cX5_below 27 = .ok (.iload_n 3, 1) := by decide +kernel
theorem dX5_below_28 : decode cX5_below 28 = .ok (.invokevirtual 59, 3) := by decide +kernel
theorem dX5_below_31 : decode cX5_below 31 = .ok (.ifCond .eq 19, 3) := by decide +kernel
theorem dX5_below_34 : decode cX5_below 34 = .ok (.iload_n 2, 1) := by decide +kernel
theorem dX5_below_35 : decode cX5_below 35 = .ok (.iconst (-1), 1) := by decide +kernel
theorem dX5_below_36 : decode cX5_below 36 = .ok (.if_icmp .eq 12, 3) := by decide +kernel
theorem dX5_below_39 : decode cX5_below 39 = .ok (.aload_n 0, 1) := by decide +kernel
theorem dX5_below_40 : decode cX5_below 40 = .ok (.iload_n 3, 1) := by decide +kernel
theorem dX5_below_41 : decode cX5_below 41 = .ok (.iload_n 2, 1) := by decide +kernel
theorem dX5_below_42 : decode cX5_below 42 = .ok (.invokevirtual 59, 3) := by decide +kernel
theorem dX5_below_45 : decode cX5_below 45 = .ok (.ifCond .eq 5, 3) := by decide +kernel
theorem dX5_below_48 : decode cX5_below 48 = .ok (.iload_n 3, 1) := by decide +kernel
theorem dX5_below_49 : decode cX5_below 49 = .ok (.istore_n 2, 1) := by decide +kernel
theorem dX5_below_50 : decode cX5_below 50 = .ok (.iinc 3 1, 3) := by decide +kernel
theorem dX5_below_53 : decode cX5_below 53 = .ok (.goto (-49), 3) := by decide +kernel
theorem dX5_below_56 : decode cX5_below 56 = .ok (.iload_n 2, 1) := by decide +kernel
theorem dX5_below_57 : decode cX5_below 57 = .ok (.ireturn, 1) := by decide +kernel
theorem dX5_isHigher_0 : decode cX5_isHigher 0 = .ok (.aload_n 0, 1) := by decide +kernel
theorem dX5_isHigher_1 : decode cX5_isHigher 1 = .ok (.iload_n 1, 1) := by decide +kernel
theorem dX5_isHigher_2 : decode cX5_isHigher 2 = .ok (.iconst 4, 1) := by decide +kernel
theorem dX5_isHigher_3 : decode cX5_isHigher 3 = .ok (.invokevirtual 42, 3) := by decide +kernel
theorem dX5_isHigher_6 : decode cX5_isHigher 6 = .ok (.aload_n 0, 1) := by decide +kernel
theorem dX5_isHigher_7 : decode cX5_isHigher 7 = .ok (.iload_n 2, 1) := by decide +kernel
theorem dX5_isHigher_8 : decode cX5_isHigher 8 = .ok (.iconst 4, 1) := by decide +kernel
theorem dX5_isHigher_9 : decode cX5_isHigher 9 = .ok (.invokevirtual 42, 3) := by decide +kernel
theorem dX5_isHigher_12 : decode cX5_isHigher 12 = .ok (.if_icmp .gt 23, 3) := by decide +kernel
theorem dX5_isHigher_15 : decode cX5_isHigher 15 = .ok (.aload_n 0, 1) := by decide +kernel
theorem dX5_isHigher_16 : decode cX5_isHigher 16 = .ok (.iload_n 1, 1) := by decide +kernel
theorem dX5_isHigher_17 : decode cX5_isHigher 17 = .ok (.iconst 4, 1) := by decide +kernel
theorem dX5_isHigher_18 : decode cX5_isHigher 18 = .ok (.invokevirtual 42, 3) := by decide +kernel
theorem dX5_isHigher_21 : decode cX5_isHigher 21 = .ok (.aload_n 0, 1) := by decide +kernel
theorem dX5_isHigher_22 : decode cX5_isHigher 22 = .ok (.iload_n 2, 1) := by decide +kernel
theorem dX5_isHigher_23 : decode cX5_isHigher 23 = .ok (.iconst 4, 1) := by decide +kernel
theorem dX5_isHigher_24 : decode cX5_isHigher 24 = .ok (.invokevirtual 42, 3) := by decide +kernel
theorem dX5_isHigher_27 : decode cX5_isHigher 27 = .ok (.if_icmp .ne 12, 3) := by decide +kernel
theorem dX5_isHigher_30 : decode cX5_isHigher 30 = .ok (.iload_n 1, 1) := by decide +kernel
theorem dX5_isHigher_31 : decode cX5_isHigher 31 = .ok (.iload_n 2, 1) := by decide +kernel
theorem dX5_isHigher_32 : decode cX5_isHigher 32 = .ok (.if_icmp .ge 7, 3) := by decide +kernel
theorem dX5_isHigher_35 : decode cX5_isHigher 35 = .ok (.iconst 1, 1) := by decide +kernel
theorem dX5_isHigher_36 : decode cX5_isHigher 36 = .ok (.goto 4, 3) := by decide +kernel
theorem dX5_isHigher_39 : decode cX5_isHigher 39 = .ok (.iconst 0, 1) := by decide +kernel
theorem dX5_isHigher_40 : decode cX5_isHigher 40 = .ok (.ireturn, 1) := by decide +kernel
theorem dX5_highest_0 : decode cX5_highest 0 = .ok (.aload_n 0, 1) := by decide +kernel
theorem dX5_highest_1 : decode cX5_highest 1 = .ok (.iconst (-1), 1) := by decide +kernel
theorem dX5_highest_2 : decode cX5_highest 2 = .ok (.invokevirtual 63, 3) := by decide +kernel
theorem dX5_highest_5 : decode cX5_highest 5 = .ok (.istore 4, 2) := by decide +kernel
theorem dX5_highest_7 : decode cX5_highest 7 = .ok (.iload 4, 2) := by decide +kernel
theorem dX5_highest_9 : decode cX5_highest 9 = .ok (.iconst (-1), 1) := by decide +kernel
theorem dX5_highest_10 : decode cX5_highest 10 = .ok (.if_icmp .eq 43, 3) := by decide +kernel
theorem dX5_highest_13 : decode cX5_highest 13 = .ok (.aload_n 0, 1) := by decide +kernel
theorem dX5_highest_14 : decode cX5_highest 14 = .ok (.iload 4, 2) := by decide +kernel
theorem dX5_highest_16 : decode cX5_highest 16 = .ok (.iconst 4, 1) := by decide +kernel
theorem dX5_highest_17 : decode cX5_highest 17 = .ok (.invokevirtual 42, 3) := by decide +kernel
theorem dX5_highest_20 : decode cX5_highest 20 = .ok (.iload_n 3, 1) := by decide +kernel
theorem dX5_highest_21 : decode cX5_highest 21 = .ok (.if_icmp .ge 21, 3) := by decide +kernel
theorem dX5_highest_24 : decode cX5_highest 24 = .ok (.aload_n 0, 1) := by decide +kernel
theorem dX5_highest_25 : decode cX5_highest 25 = .ok (.iload 4, 2) := by decide +kernel
theorem dX5_highest_27 : decode cX5_highest 27 = .ok (.iload_n 1, 1) := by decide +kernel
theorem dX5_highest_28 : decode cX5_highest 28 = .ok (.invokevirtual 53, 3) := by decide +kernel
theorem dX5_highest_31 : decode cX5_highest 31 = .ok (.iload_n 2, 1) := by decide +kernel
theorem dX5_highest_32 : decode cX5_highest 32 = .ok (.ishr, 1) := by decide +kernel
theorem dX5_highest_33 : decode cX5_highest 33 = .ok (.iconst 1, 1) := by decide +kernel
theorem dX5_highest_34 : decode cX5_highest 34 = .ok (.iand, 1) := by decide +kernel
theorem dX5_highest_35 : decode cX5_highest 35 = .ok (.iconst 1, 1) := by decide +kernel
theorem dX5_highest_36 : decode cX5_highest 36 = .ok (.if_icmp .ne 6, 3) := by decide +kernel
theorem dX5_highest_39 : decode cX5_highest 39 = .ok (.iload 4, 2) := by decide +kernel
theorem dX5_highest_41 : decode cX5_highest 41 = .ok (.ireturn, 1) := by decide +kernel
theorem dX5_highest_42 : decode cX5_highest 42 = .ok (.aload_n 0, 1) := by decide +kernel
theorem dX5_highest_43 : decode cX5_highest 43 = .ok (.iload 4, 2) := by decide +kernel
theorem dX5_highest_45 : decode cX5_highest 45 = .ok (.invokevirtual 63, 3) := by decide +kernel
theorem dX5_highest_48 : decode cX5_highest 48 = .ok (.istore 4, 2) := by decide +kernel
theorem dX5_highest_50 : decode cX5_highest 50 = .ok (.goto (-43), 3) := by decide +kernel
theorem dX5_highest_53 : decode cX5_highest 53 = .ok (.iconst (-1), 1) := by decide +kernel
theorem dX5_highest_54 : decode cX5_highest 54 = .ok (.ireturn, 1) := by decide +kernel
theorem dX5_fall_0 : decode cX5_fall 0 = .ok (.aload_n 0, 1) := by decide +kernel
theorem dX5_fall_1 : decode cX5_fall 1 = .ok (.iload_n 1, 1) := by decide +kernel
theorem dX5_fall_2 : decode cX5_fall 2 = .ok (.iload_n 2, 1) := by decide +kernel
theorem dX5_fall_3 : decode cX5_fall 3 = .ok (.iload_n 3, 1) := by decide +kernel
theorem dX5_fall_4 : decode cX5_fall 4 = .ok (.invokevirtual 67, 3) := by decide +kernel
theorem dX5_fall_7 : decode cX5_fall 7 = .ok (.istore 5, 2) := by decide +kernel
theorem dX5_fall_9 : decode cX5_fall 9 = .ok (.iload 5, 2) := by decide +kernel
theorem dX5_fall_11 : decode cX5_fall 11 = .ok (.iconst (-1), 1) := by decide +kernel
theorem dX5_fall_12 : decode cX5_fall 12 = .ok (.if_icmp .ne 22, 3) := by decide +kernel
theorem dX5_fall_15 : decode cX5_fall 15 = .ok (.aload_n 0, 1) := by decide +kernel
theorem dX5_fall_16 : decode cX5_fall 16 = .ok (.getfield 22, 3) := by decide +kernel
theorem dX5_fall_19 : decode cX5_fall 19 = .ok (.bipush 24, 2) := by decide +kernel
theorem dX5_fall_21 : decode cX5_fall 21 = .ok (.iload_n 1, 1) := by decide +kernel
theorem dX5_fall_22 : decode cX5_fall 22 = .ok (.imul, 1) := by decide +kernel
theorem dX5_fall_23 : decode cX5_fall 23 = .ok (.iload_n 2, 1) := by decide +kernel
theorem dX5_fall_24 : decode cX5_fall 24 = .ok (.iadd, 1) := by decide +kernel
theorem dX5_fall_25 : decode cX5_fall 25 = .ok (.dup2, 1) := by decide +kernel
theorem dX5_fall_26 : decode cX5_fall 26 = .ok (.iaload, 1) := by decide +kernel
theorem dX5_fall_27 : decode cX5_fall 27 = .ok (.iload 4, 2) := by decide +kernel
theorem dX5_fall_29 : decode cX5_fall 29 = .ok (.iadd, 1) := by decide +kernel
theorem dX5_fall_30 : decode cX5_fall 30 = .ok (.iastore, 1) := by decide +kernel
theorem dX5_fall_31 : decode cX5_fall 31 = .ok (.goto 15, 3) := by decide +kernel
theorem dX5_fall_34 : decode cX5_fall 34 = .ok (.aload_n 0, 1) := by decide +kernel
theorem dX5_fall_35 : decode cX5_fall 35 = .ok (.getfield 25, 3) := by decide +kernel
theorem dX5_fall_38 : decode cX5_fall 38 = .ok (.iload 5, 2) := by decide +kernel
theorem dX5_fall_40 : decode cX5_fall 40 = .ok (.dup2, 1) := by decide +kernel
theorem dX5_fall_41 : decode cX5_fall 41 = .ok (.iaload, 1) := by decide +kernel
theorem dX5_fall_42 : decode cX5_fall 42 = .ok (.iload 4, 2) := by decide +kernel
theorem dX5_fall_44 : decode cX5_fall 44 = .ok (.iadd, 1) := by decide +kernel
theorem dX5_fall_45 : decode cX5_fall 45 = .ok (.iastore, 1) := by decide +kernel
theorem dX5_fall_46 : decode cX5_fall 46 = .ok (.return_, 1) := by decide +kernel
theorem dX5_drip_0 : decode cX5_drip 0 = .ok (.aload_n 0, 1) := by decide +kernel
theorem dX5_drip_1 : decode cX5_drip 1 = .ok (.iload_n 1, 1) := by decide +kernel
theorem dX5_drip_2 : decode cX5_drip 2 = .ok (.iconst 5, 1) := by decide +kernel
theorem dX5_drip_3 : decode cX5_drip 3 = .ok (.invokevirtual 42, 3) := by decide +kernel
theorem dX5_drip_6 : decode cX5_drip 6 = .ok (.iconst 2, 1) := by decide +kernel
theorem dX5_drip_7 : decode cX5_drip 7 = .ok (.irem, 1) := by decide +kernel
theorem dX5_drip_8 : decode cX5_drip 8 = .ok (.ifCond .ne 7, 3) := by decide +kernel
theorem dX5_drip_11 : decode cX5_drip 11 = .ok (.iconst 1, 1) := by decide +kernel
theorem dX5_drip_12 : decode cX5_drip 12 = .ok (.goto 4, 3) := by decide +kernel
theorem dX5_drip_15 : decode cX5_drip 15 = .ok (.iconst 0, 1) := by decide +kernel
theorem dX5_drip_16 : decode cX5_drip 16 = .ok (.istore_n 2, 1) := by decide +kernel
theorem dX5_drip_17 : decode cX5_drip 17 = .ok (.aload_n 0, 1) := by decide +kernel
theorem dX5_drip_18 : decode cX5_drip 18 = .ok (.iload_n 1, 1) := by decide +kernel
theorem dX5_drip_19 : decode cX5_drip 19 = .ok (.iload_n 2, 1) := by decide +kernel
theorem dX5_drip_20 : decode cX5_drip 20 = .ok (.ifCond .eq 7, 3) := by decide +kernel
theorem dX5_drip_23 : decode cX5_drip 23 = .ok (.iconst 3, 1) := by decide +kernel
theorem dX5_drip_24 : decode cX5_drip 24 = .ok (.goto 4, 3) := by decide +kernel
theorem dX5_drip_27 : decode cX5_drip 27 = .ok (.iconst 2, 1) := by decide +kernel
theorem dX5_drip_28 : decode cX5_drip 28 = .ok (.invokevirtual 42, 3) := by decide +kernel
theorem dX5_drip_31 : decode cX5_drip 31 = .ok (.istore_n 3, 1) := by decide +kernel
theorem dX5_drip_32 : decode cX5_drip 32 = .ok (.aload_n 0, 1) := by decide +kernel
theorem dX5_drip_33 : decode cX5_drip 33 = .ok (.iload_n 1, 1) := by decide +kernel
theorem dX5_drip_34 : decode cX5_drip 34 = .ok (.iconst 5, 1) := by decide +kernel
theorem dX5_drip_35 : decode cX5_drip 35 = .ok (.invokevirtual 42, 3) := by decide +kernel
theorem dX5_drip_38 : decode cX5_drip 38 = .ok (.iconst 2, 1) := by decide +kernel
theorem dX5_drip_39 : decode cX5_drip 39 = .ok (.if_icmp .ge 22, 3) := by decide +kernel
theorem dX5_drip_42 : decode cX5_drip 42 = .ok (.aload_n 0, 1) := by decide +kernel
theorem dX5_drip_43 : decode cX5_drip 43 = .ok (.iload_n 1, 1) := by decide +kernel
theorem dX5_drip_44 : decode cX5_drip 44 = .ok (.iload_n 2, 1) := by decide +kernel
theorem dX5_drip_45 : decode cX5_drip 45 = .ok (.ifCond .eq 7, 3) := by decide +kernel
theorem dX5_drip_48 : decode cX5_drip 48 = .ok (.iconst 0, 1) := by decide +kernel
theorem dX5_drip_49 : decode cX5_drip 49 = .ok (.goto 4, 3) := by decide +kernel
theorem dX5_drip_52 : decode cX5_drip 52 = .ok (.iconst 1, 1) := by decide +kernel
theorem dX5_drip_53 : decode cX5_drip 53 = .ok (.invokevirtual 42, 3) := by decide +kernel
theorem dX5_drip_56 : decode cX5_drip 56 = .ok (.iconst 1, 1) := by decide +kernel
theorem dX5_drip_57 : decode cX5_drip 57 = .ok (.isub, 1) := by decide +kernel
theorem dX5_drip_58 : decode cX5_drip 58 = .ok (.goto 32, 3) := by decide +kernel
theorem dX5_drip_61 : decode cX5_drip 61 = .ok (.aload_n 0, 1) := by decide +kernel
theorem dX5_drip_62 : decode cX5_drip 62 = .ok (.iload_n 1, 1) := by decide +kernel
theorem dX5_drip_63 : decode cX5_drip 63 = .ok (.iload_n 2, 1) := by decide +kernel
theorem dX5_drip_64 : decode cX5_drip 64 = .ok (.ifCond .eq 7, 3) := by decide +kernel
theorem dX5_drip_67 : decode cX5_drip 67 = .ok (.iconst 0, 1) := by decide +kernel
theorem dX5_drip_68 : decode cX5_drip 68 = .ok (.goto 4, 3) := by decide +kernel
theorem dX5_drip_71 : decode cX5_drip 71 = .ok (.iconst 1, 1) := by decide +kernel
theorem dX5_drip_72 : decode cX5_drip 72 = .ok (.invokevirtual 42, 3) := by decide +kernel
theorem dX5_drip_75 : decode cX5_drip 75 = .ok (.aload_n 0, 1) := by decide +kernel
theorem dX5_drip_76 : decode cX5_drip 76 = .ok (.iload_n 1, 1) := by decide +kernel
theorem dX5_drip_77 : decode cX5_drip 77 = .ok (.iload_n 2, 1) := by decide +kernel
theorem dX5_drip_78 : decode cX5_drip 78 = .ok (.ifCond .eq 7, 3) := by decide +kernel
theorem dX5_drip_81 : decode cX5_drip 81 = .ok (.iconst 2, 1) := by decide +kernel
theorem dX5_drip_82 : decode cX5_drip 82 = .ok (.goto 4, 3) := by decide +kernel
theorem dX5_drip_85 : decode cX5_drip 85 = .ok (.iconst 3, 1) := by decide +kernel
theorem dX5_drip_86 : decode cX5_drip 86 = .ok (.invokevirtual 42, 3) := by decide +kernel
theorem dX5_drip_89 : decode cX5_drip 89 = .ok (.iadd, 1) := by decide +kernel
theorem dX5_drip_90 : decode cX5_drip 90 = .ok (.istore 4, 2) := by decide +kernel
theorem dX5_drip_92 : decode cX5_drip 92 = .ok (.iload 4, 2) := by decide +kernel
theorem dX5_drip_94 : decode cX5_drip 94 = .ok (.iconst 0, 1) := by decide +kernel
theorem dX5_drip_95 : decode cX5_drip 95 = .ok (.bipush 23, 2) := by decide +kernel
theorem dX5_drip_97 : decode cX5_drip 97 = .ok (.invokestatic 32, 3) := by decide +kernel
theorem dX5_drip_100 : decode cX5_drip 100 = .ok (.ifCond .ne 10, 3) := by decide +kernel
theorem dX5_drip_103 : decode cX5_drip 103 = .ok (.aload_n 0, 1) := by decide +kernel
theorem dX5_drip_104 : decode cX5_drip 104 = .ok (.getfield 25, 3) := by decide +kernel
theorem dX5_drip_107 : decode cX5_drip 107 = .ok (.iload_n 1, 1) := by decide +kernel
theorem dX5_drip_108 : decode cX5_drip 108 = .ok (.iaload, 1) := by decide +kernel
theorem dX5_drip_109 : decode cX5_drip 109 = .ok (.ireturn, 1) := by decide +kernel
theorem dX5_drip_110 : decode cX5_drip 110 = .ok (.aload_n 0, 1) := by decide +kernel
theorem dX5_drip_111 : decode cX5_drip 111 = .ok (.iload_n 1, 1) := by decide +kernel
theorem dX5_drip_112 : decode cX5_drip 112 = .ok (.iload_n 2, 1) := by decide +kernel
theorem dX5_drip_113 : decode cX5_drip 113 = .ok (.ifCond .eq 7, 3) := by decide +kernel
theorem dX5_drip_116 : decode cX5_drip 116 = .ok (.iconst 1, 1) := by decide +kernel
theorem dX5_drip_117 : decode cX5_drip 117 = .ok (.goto 4, 3) := by decide +kernel
theorem dX5_drip_120 : decode cX5_drip 120 = .ok (.iconst 0, 1) := by decide +kernel
theorem dX5_drip_121 : decode cX5_drip 121 = .ok (.invokevirtual 42, 3) := by decide +kernel
theorem dX5_drip_124 : decode cX5_drip 124 = .ok (.istore 5, 2) := by decide +kernel
theorem dX5_drip_126 : decode cX5_drip 126 = .ok (.iconst 0, 1) := by decide +kernel
theorem dX5_drip_127 : decode cX5_drip 127 = .ok (.istore 6, 2) := by decide +kernel
theorem dX5_drip_129 : decode cX5_drip 129 = .ok (.iload 6, 2) := by decide +kernel
theorem dX5_drip_131 : decode cX5_drip 131 = .ok (.iload_n 3, 1) := by decide +kernel
theorem dX5_drip_132 : decode cX5_drip 132 = .ok (.if_icmp .ge 78, 3) := by decide +kernel
theorem dX5_drip_135 : decode cX5_drip 135 = .ok (.aload_n 0, 1) := by decide +kernel
theorem dX5_drip_136 : decode cX5_drip 136 = .ok (.getfield 25, 3) := by decide +kernel
theorem dX5_drip_139 : decode cX5_drip 139 = .ok (.iload_n 1, 1) := by decide +kernel
theorem dX5_drip_140 : decode cX5_drip 140 = .ok (.iaload, 1) := by decide +kernel
theorem dX5_drip_141 : decode cX5_drip 141 = .ok (.iload_n 3, 1) := by decide +kernel
theorem dX5_drip_142 : decode cX5_drip 142 = .ok (.idiv, 1) := by decide +kernel
theorem dX5_drip_143 : decode cX5_drip 143 = .ok (.iload 6, 2) := by decide +kernel
theorem dX5_drip_145 : decode cX5_drip 145 = .ok (.aload_n 0, 1) := by decide +kernel
theorem dX5_drip_146 : decode cX5_drip 146 = .ok (.getfield 25, 3) := by decide +kernel
theorem dX5_drip_149 : decode cX5_drip 149 = .ok (.iload_n 1, 1) := by decide +kernel
theorem dX5_drip_150 : decode cX5_drip 150 = .ok (.iaload, 1) := by decide +kernel
theorem dX5_drip_151 : decode cX5_drip 151 = .ok (.iload_n 3, 1) := by decide +kernel
theorem dX5_drip_152 : decode cX5_drip 152 = .ok (.irem, 1) := by decide +kernel
theorem dX5_drip_153 : decode cX5_drip 153 = .ok (.if_icmp .ge 7, 3) := by decide +kernel
theorem dX5_drip_156 : decode cX5_drip 156 = .ok (.iconst 1, 1) := by decide +kernel
theorem dX5_drip_157 : decode cX5_drip 157 = .ok (.goto 4, 3) := by decide +kernel
theorem dX5_drip_160 : decode cX5_drip 160 = .ok (.iconst 0, 1) := by decide +kernel
theorem dX5_drip_161 : decode cX5_drip 161 = .ok (.iadd, 1) := by decide +kernel
theorem dX5_drip_162 : decode cX5_drip 162 = .ok (.istore 7, 2) := by decide +kernel
theorem dX5_drip_164 : decode cX5_drip 164 = .ok (.aload_n 0, 1) := by decide +kernel
theorem dX5_drip_165 : decode cX5_drip 165 = .ok (.iload_n 2, 1) := by decide +kernel
theorem dX5_drip_166 : decode cX5_drip 166 = .ok (.ifCond .eq 8, 3) := by decide +kernel
theorem dX5_drip_169 : decode cX5_drip 169 = .ok (.iload 4, 2) := by decide +kernel
theorem dX5_drip_171 : decode cX5_drip 171 = .ok (.goto 8, 3) := by decide +kernel
theorem dX5_drip_174 : decode cX5_drip 174 = .ok (.iload 5, 2) := by decide +kernel
theorem dX5_drip_176 : decode cX5_drip 176 = .ok (.iload 6, 2) := by decide +kernel
theorem dX5_drip_178 : decode cX5_drip 178 = .ok (.iadd, 1) := by decide +kernel
theorem dX5_drip_179 : decode cX5_drip 179 = .ok (.iload_n 2, 1) := by decide +kernel
theorem dX5_drip_180 : decode cX5_drip 180 = .ok (.ifCond .eq 11, 3) := by decide +kernel
theorem dX5_drip_183 : decode cX5_drip 183 = .ok (.iload 5, 2) := by decide +kernel
theorem dX5_drip_185 : decode cX5_drip 185 = .ok (.iload 6, 2) := by decide +kernel
theorem dX5_drip_187 : decode cX5_drip 187 = .ok (.iadd, 1) := by decide +kernel
theorem dX5_drip_188 : decode cX5_drip 188 = .ok (.goto 5, 3) := by decide +kernel
theorem dX5_drip_191 : decode cX5_drip 191 = .ok (.iload 4, 2) := by decide +kernel
theorem dX5_drip_193 : decode cX5_drip 193 = .ok (.aload_n 0, 1) := by decide +kernel
theorem dX5_drip_194 : decode cX5_drip 194 = .ok (.iload_n 1, 1) := by decide +kernel
theorem dX5_drip_195 : decode cX5_drip 195 = .ok (.iconst 4, 1) := by decide +kernel
theorem dX5_drip_196 : decode cX5_drip 196 = .ok (.invokevirtual 42, 3) := by decide +kernel
theorem dX5_drip_199 : decode cX5_drip 199 = .ok (.iload 7, 2) := by decide +kernel
theorem dX5_drip_201 : decode cX5_drip 201 = .ok (.invokevirtual 71, 3) := by decide +kernel
theorem dX5_drip_204 : decode cX5_drip 204 = .ok (.iinc 6 1, 3) := by decide +kernel
theorem dX5_drip_207 : decode cX5_drip 207 = .ok (.goto (-78), 3) := by decide +kernel
theorem dX5_drip_210 : decode cX5_drip 210 = .ok (.iconst 0, 1) := by decide +kernel
theorem dX5_drip_211 : decode cX5_drip 211 = .ok (.ireturn, 1) := by decide +kernel
theorem dX5_pour_0 : decode cX5_pour 0 = .ok (.iconst 0, 1) := by decide +kernel
theorem dX5_pour_1 : decode cX5_pour 1 = .ok (.istore_n 2, 1) := by decide +kernel
theorem dX5_pour_2 : decode cX5_pour 2 = .ok (.iload_n 2, 1) := by decide +kernel
theorem dX5_pour_3 : decode cX5_pour 3 = .ok (.sipush 576, 3) := by decide +kernel
theorem dX5_pour_6 : decode cX5_pour 6 = .ok (.if_icmp .ge 16, 3) := by decide +kernel
theorem dX5_pour_9 : decode cX5_pour 9 = .ok (.aload_n 0, 1) := by decide +kernel
theorem dX5_pour_10 : decode cX5_pour 10 = .ok (.getfield 22, 3) := by decide +kernel
theorem dX5_pour_13 : decode cX5_pour 13 = .ok (.iload_n 2, 1) := by decide +kernel
theorem dX5_pour_14 : decode cX5_pour 14 = .ok (.iconst 0, 1) := by decide +kernel
theorem dX5_pour_15 : decode cX5_pour 15 = .ok (.iastore, 1) := by decide +kernel
theorem dX5_pour_16 : decode cX5_pour 16 = .ok (.iinc 2 1, 3) := by decide +kernel
theorem dX5_pour_19 : decode cX5_pour 19 = .ok (.goto (-17), 3) := by decide +kernel
theorem dX5_pour_22 : decode cX5_pour 22 = .ok (.iconst 0, 1) := by decide +kernel
theorem dX5_pour_23 : decode cX5_pour 23 = .ok (.istore_n 2, 1) := by decide +kernel
theorem dX5_pour_24 : decode cX5_pour 24 = .ok (.iload_n 2, 1) := by decide +kernel
theorem dX5_pour_25 : decode cX5_pour 25 = .ok (.bipush 10, 2) := by decide +kernel
theorem dX5_pour_27 : decode cX5_pour 27 = .ok (.if_icmp .ge 16, 3) := by decide +kernel
theorem dX5_pour_30 : decode cX5_pour 30 = .ok (.aload_n 0, 1) := by decide +kernel
theorem dX5_pour_31 : decode cX5_pour 31 = .ok (.getfield 25, 3) := by decide +kernel
theorem dX5_pour_34 : decode cX5_pour 34 = .ok (.iload_n 2, 1) := by decide +kernel
theorem dX5_pour_35 : decode cX5_pour 35 = .ok (.iconst 0, 1) := by decide +kernel
theorem dX5_pour_36 : decode cX5_pour 36 = .ok (.iastore, 1) := by decide +kernel
theorem dX5_pour_37 : decode cX5_pour 37 = .ok (.iinc 2 1, 3) := by decide +kernel
theorem dX5_pour_40 : decode cX5_pour 40 = .ok (.goto (-16), 3) := by decide +kernel
theorem dX5_pour_43 : decode cX5_pour 43 = .ok (.iconst 0, 1) := by decide +kernel
theorem dX5_pour_44 : decode cX5_pour 44 = .ok (.istore_n 2, 1) := by decide +kernel
theorem dX5_pour_45 : decode cX5_pour 45 = .ok (.iload_n 2, 1) := by decide +kernel
theorem dX5_pour_46 : decode cX5_pour 46 = .ok (.sipush 576, 3) := by decide +kernel
theorem dX5_pour_49 : decode cX5_pour 49 = .ok (.if_icmp .ge 24, 3) := by decide +kernel
theorem dX5_pour_52 : decode cX5_pour 52 = .ok (.aload_n 0, 1) := by decide +kernel
theorem dX5_pour_53 : decode cX5_pour 53 = .ok (.iload_n 2, 1) := by decide +kernel
theorem dX5_pour_54 : decode cX5_pour 54 = .ok (.bipush 24, 2) := by decide +kernel
theorem dX5_pour_56 : decode cX5_pour 56 = .ok (.idiv, 1) := by decide +kernel
theorem dX5_pour_57 : decode cX5_pour 57 = .ok (.iload_n 2, 1) := by decide +kernel
theorem dX5_pour_58 : decode cX5_pour 58 = .ok (.bipush 24, 2) := by decide +kernel
theorem dX5_pour_60 : decode cX5_pour 60 = .ok (.irem, 1) := by decide +kernel
theorem dX5_pour_61 : decode cX5_pour 61 = .ok (.bipush 10, 2) := by decide +kernel
theorem dX5_pour_63 : decode cX5_pour 63 = .ok (.iload_n 1, 1) := by decide +kernel
theorem dX5_pour_64 : decode cX5_pour 64 = .ok (.invokevirtual 71, 3) := by decide +kernel
theorem dX5_pour_67 : decode cX5_pour 67 = .ok (.iinc 2 1, 3) := by decide +kernel
theorem dX5_pour_70 : decode cX5_pour 70 = .ok (.goto (-25), 3) := by decide +kernel
theorem dX5_pour_73 : decode cX5_pour 73 = .ok (.iconst 0, 1) := by decide +kernel
theorem dX5_pour_74 : decode cX5_pour 74 = .ok (.istore_n 2, 1) := by decide +kernel
theorem dX5_pour_75 : decode cX5_pour 75 = .ok (.aload_n 0, 1) := by decide +kernel
theorem dX5_pour_76 : decode cX5_pour 76 = .ok (.iconst (-1), 1) := by decide +kernel
theorem dX5_pour_77 : decode cX5_pour 77 = .ok (.invokevirtual 63, 3) := by decide +kernel
theorem dX5_pour_80 : decode cX5_pour 80 = .ok (.istore_n 3, 1) := by decide +kernel
theorem dX5_pour_81 : decode cX5_pour 81 = .ok (.iload_n 3, 1) := by decide +kernel
theorem dX5_pour_82 : decode cX5_pour 82 = .ok (.iconst (-1), 1) := by decide +kernel
theorem dX5_pour_83 : decode cX5_pour 83 = .ok (.if_icmp .eq 20, 3) := by decide +kernel
theorem dX5_pour_86 : decode cX5_pour 86 = .ok (.iload_n 2, 1) := by decide +kernel
theorem dX5_pour_87 : decode cX5_pour 87 = .ok (.aload_n 0, 1) := by decide +kernel
theorem dX5_pour_88 : decode cX5_pour 88 = .ok (.iload_n 3, 1) := by decide +kernel
theorem dX5_pour_89 : decode cX5_pour 89 = .ok (.invokevirtual 75, 3) := by decide +kernel
theorem dX5_pour_92 : decode cX5_pour 92 = .ok (.iadd, 1) := by decide +kernel
theorem dX5_pour_93 : decode cX5_pour 93 = .ok (.istore_n 2, 1) := by decide +kernel
theorem dX5_pour_94 : decode cX5_pour 94 = .ok (.aload_n 0, 1) := by decide +kernel
theorem dX5_pour_95 : decode cX5_pour 95 = .ok (.iload_n 3, 1) := by decide +kernel
theorem dX5_pour_96 : decode cX5_pour 96 = .ok (.invokevirtual 63, 3) := by decide +kernel
theorem dX5_pour_99 : decode cX5_pour 99 = .ok (.istore_n 3, 1) := by decide +kernel
theorem dX5_pour_100 : decode cX5_pour 100 = .ok (.goto (-19), 3) := by decide +kernel
theorem dX5_pour_103 : decode cX5_pour 103 = .ok (.iload_n 2, 1) := by decide +kernel
theorem dX5_pour_104 : decode cX5_pour 104 = .ok (.ireturn, 1) := by decide +kernel
theorem dX5_hang_0 : decode cX5_hang 0 = .ok (.aload_n 0, 1) := by decide +kernel
theorem dX5_hang_1 : decode cX5_hang 1 = .ok (.iconst 0, 1) := by decide +kernel
theorem dX5_hang_2 : decode cX5_hang 2 = .ok (.putfield 28, 3) := by decide +kernel
theorem dX5_hang_5 : decode cX5_hang 5 = .ok (.iload_n 3, 1) := by decide +kernel
theorem dX5_hang_6 : decode cX5_hang 6 = .ok (.iconst 1, 1) := by decide +kernel
theorem dX5_hang_7 : decode cX5_hang 7 = .ok (.bipush 24, 2) := by decide +kernel
theorem dX5_hang_9 : decode cX5_hang 9 = .ok (.invokestatic 32, 3) := by decide +kernel
theorem dX5_hang_12 : decode cX5_hang 12 = .ok (.ifCond .eq 35, 3) := by decide +kernel
theorem dX5_hang_15 : decode cX5_hang 15 = .ok (.iload 4, 2) := by decide +kernel
theorem dX5_hang_17 : decode cX5_hang 17 = .ok (.iconst 1, 1) := by decide +kernel
theorem dX5_hang_18 : decode cX5_hang 18 = .ok (.bipush 24, 2) := by decide +kernel
theorem dX5_hang_20 : decode cX5_hang 20 = .ok (.invokestatic 32, 3) := by decide +kernel
theorem dX5_hang_23 : decode cX5_hang 23 = .ok (.ifCond .eq 24, 3) := by decide +kernel
theorem dX5_hang_26 : decode cX5_hang 26 = .ok (.iload 5, 2) := by decide +kernel
theorem dX5_hang_28 : decode cX5_hang 28 = .ok (.iconst 1, 1) := by decide +kernel
theorem dX5_hang_29 : decode cX5_hang 29 = .ok (.bipush 9, 2) := by decide +kernel
theorem dX5_hang_31 : decode cX5_hang 31 = .ok (.invokestatic 32, 3) := by decide +kernel
theorem dX5_hang_34 : decode cX5_hang 34 = .ok (.ifCond .eq 13, 3) := by decide +kernel
theorem dX5_hang_37 : decode cX5_hang 37 = .ok (.iload 6, 2) := by decide +kernel
theorem dX5_hang_39 : decode cX5_hang 39 = .ok (.iconst 0, 1) := by decide +kernel
theorem dX5_hang_40 : decode cX5_hang 40 = .ok (.iconst 3, 1) := by decide +kernel
theorem dX5_hang_41 : decode cX5_hang 41 = .ok (.invokestatic 32, 3) := by decide +kernel
theorem dX5_hang_44 : decode cX5_hang 44 = .ok (.ifCond .ne 9, 3) := by decide +kernel
theorem dX5_hang_47 : decode cX5_hang 47 = .ok (.aload_n 0, 1) := by decide +kernel
theorem dX5_hang_48 : decode cX5_hang 48 = .ok (.iconst 1, 1) := by decide +kernel
theorem dX5_hang_49 : decode cX5_hang 49 = .ok (.invokevirtual 78, 3) := by decide +kernel
theorem dX5_hang_52 : decode cX5_hang 52 = .ok (.ireturn, 1) := by decide +kernel
theorem dX5_hang_53 : decode cX5_hang 53 = .ok (.iload_n 1, 1) := by decide +kernel
theorem dX5_hang_54 : decode cX5_hang 54 = .ok (.iload_n 2, 1) := by decide +kernel
theorem dX5_hang_55 : decode cX5_hang 55 = .ok (.iload_n 3, 1) := by decide +kernel
theorem dX5_hang_56 : decode cX5_hang 56 = .ok (.iload 4, 2) := by decide +kernel
theorem dX5_hang_58 : decode cX5_hang 58 = .ok (.invokestatic 81, 3) := by decide +kernel
theorem dX5_hang_61 : decode cX5_hang 61 = .ok (.ifCond .ne 9, 3) := by decide +kernel
theorem dX5_hang_64 : decode cX5_hang 64 = .ok (.aload_n 0, 1) := by decide +kernel
theorem dX5_hang_65 : decode cX5_hang 65 = .ok (.iconst 2, 1) := by decide +kernel
theorem dX5_hang_66 : decode cX5_hang 66 = .ok (.invokevirtual 78, 3) := by decide +kernel
theorem dX5_hang_69 : decode cX5_hang 69 = .ok (.ireturn, 1) := by decide +kernel
theorem dX5_hang_70 : decode cX5_hang 70 = .ok (.aload_n 0, 1) := by decide +kernel
theorem dX5_hang_71 : decode cX5_hang 71 = .ok (.getfield 36, 3) := by decide +kernel
theorem dX5_hang_74 : decode cX5_hang 74 = .ok (.bipush 10, 2) := by decide +kernel
theorem dX5_hang_76 : decode cX5_hang 76 = .ok (.if_icmp .ne 9, 3) := by decide +kernel
theorem dX5_hang_79 : decode cX5_hang 79 = .ok (.aload_n 0, 1) := by decide +kernel
theorem dX5_hang_80 : decode cX5_hang 80 = .ok (.iconst 3, 1) := by decide +kernel
theorem dX5_hang_81 : decode cX5_hang 81 = .ok (.invokevirtual 78, 3) := by decide +kernel
theorem dX5_hang_84 : decode cX5_hang 84 = .ok (.ireturn, 1) := by decide +kernel
theorem dX5_hang_85 : decode cX5_hang 85 = .ok (.bipush 8, 2) := by decide +kernel
theorem dX5_hang_87 : decode cX5_hang 87 = .ok (.newarray .int, 2) := by decide +kernel
theorem dX5_hang_89 : decode cX5_hang 89 = .ok (.dup, 1) := by decide +kernel
theorem dX5_hang_90 : decode cX5_hang 90 = .ok (.iconst 0, 1) := by decide +kernel
theorem dX5_hang_91 : decode cX5_hang 91 = .ok (.iload_n 1, 1) := by decide +kernel
theorem dX5_hang_92 : decode cX5_hang 92 = .ok (.iastore, 1) := by decide +kernel
theorem dX5_hang_93 : decode cX5_hang 93 = .ok (.dup, 1) := by decide +kernel
theorem dX5_hang_94 : decode cX5_hang 94 = .ok (.iconst 1, 1) := by decide +kernel
theorem dX5_hang_95 : decode cX5_hang 95 = .ok (.iload_n 2, 1) := by decide +kernel
theorem dX5_hang_96 : decode cX5_hang 96 = .ok (.iastore, 1) := by decide +kernel
theorem dX5_hang_97 : decode cX5_hang 97 = .ok (.dup, 1) := by decide +kernel
theorem dX5_hang_98 : decode cX5_hang 98 = .ok (.iconst 2, 1) := by decide +kernel
theorem dX5_hang_99 : decode cX5_hang 99 = .ok (.iload_n 3, 1) := by decide +kernel
theorem dX5_hang_100 : decode cX5_hang 100 = .ok (.iastore, 1) := by decide +kernel
theorem dX5_hang_101 : decode cX5_hang 101 = .ok (.dup, 1) := by decide +kernel
theorem dX5_hang_102 : decode cX5_hang 102 = .ok (.iconst 3, 1) := by decide +kernel
theorem dX5_hang_103 : decode cX5_hang 103 = .ok (.iload 4, 2) := by decide +kernel
theorem dX5_hang_105 : decode cX5_hang 105 = .ok (.iastore, 1) := by decide +kernel
theorem dX5_hang_106 : decode cX5_hang 106 = .ok (.dup, 1) := by decide +kernel
theorem dX5_hang_107 : decode cX5_hang 107 = .ok (.iconst 4, 1) := by decide +kernel
theorem dX5_hang_108 : decode cX5_hang 108 = .ok (.iload 5, 2) := by decide +kernel
theorem dX5_hang_110 : decode cX5_hang 110 = .ok (.iastore, 1) := by decide +kernel
theorem dX5_hang_111 : decode cX5_hang 111 = .ok (.dup, 1) := by decide +kernel
theorem dX5_hang_112 : decode cX5_hang 112 = .ok (.iconst 5, 1) := by decide +kernel
theorem dX5_hang_113 : decode cX5_hang 113 = .ok (.iload 6, 2) := by decide +kernel
theorem dX5_hang_115 : decode cX5_hang 115 = .ok (.iastore, 1) := by decide +kernel
theorem dX5_hang_116 : decode cX5_hang 116 = .ok (.dup, 1) := by decide +kernel
theorem dX5_hang_117 : decode cX5_hang 117 = .ok (.bipush 6, 2) := by decide +kernel
theorem dX5_hang_119 : decode cX5_hang 119 = .ok (.iconst 1, 1) := by decide +kernel
theorem dX5_hang_120 : decode cX5_hang 120 = .ok (.iastore, 1) := by decide +kernel
theorem dX5_hang_121 : decode cX5_hang 121 = .ok (.dup, 1) := by decide +kernel
theorem dX5_hang_122 : decode cX5_hang 122 = .ok (.bipush 7, 2) := by decide +kernel
theorem dX5_hang_124 : decode cX5_hang 124 = .ok (.iconst 0, 1) := by decide +kernel
theorem dX5_hang_125 : decode cX5_hang 125 = .ok (.iastore, 1) := by decide +kernel
theorem dX5_hang_126 : decode cX5_hang 126 = .ok (.astore 7, 2) := by decide +kernel
theorem dX5_hang_128 : decode cX5_hang 128 = .ok (.aload 7, 2) := by decide +kernel
theorem dX5_hang_130 : decode cX5_hang 130 = .ok (.iconst 0, 1) := by decide +kernel
theorem dX5_hang_131 : decode cX5_hang 131 = .ok (.aload_n 0, 1) := by decide +kernel
theorem dX5_hang_132 : decode cX5_hang 132 = .ok (.getfield 9, 3) := by decide +kernel
theorem dX5_hang_135 : decode cX5_hang 135 = .ok (.bipush 8, 2) := by decide +kernel
theorem dX5_hang_137 : decode cX5_hang 137 = .ok (.aload_n 0, 1) := by decide +kernel
theorem dX5_hang_138 : decode cX5_hang 138 = .ok (.getfield 36, 3) := by decide +kernel
theorem dX5_hang_141 : decode cX5_hang 141 = .ok (.imul, 1) := by decide +kernel
theorem dX5_hang_142 : decode cX5_hang 142 = .ok (.bipush 8, 2) := by decide +kernel
theorem dX5_hang_144 : decode cX5_hang 144 = .ok (.invokestatic 85, 3) := by decide +kernel
theorem dX5_hang_147 : decode cX5_hang 147 = .ok (.aload_n 0, 1) := by decide +kernel
theorem dX5_hang_148 : decode cX5_hang 148 = .ok (.dup, 1) := by decide +kernel
theorem dX5_hang_149 : decode cX5_hang 149 = .ok (.getfield 36, 3) := by decide +kernel
theorem dX5_hang_152 : decode cX5_hang 152 = .ok (.iconst 1, 1) := by decide +kernel
theorem dX5_hang_153 : decode cX5_hang 153 = .ok (.iadd, 1) := by decide +kernel
theorem dX5_hang_154 : decode cX5_hang 154 = .ok (.putfield 36, 3) := by decide +kernel
theorem dX5_hang_157 : decode cX5_hang 157 = .ok (.aload_n 0, 1) := by decide +kernel
theorem dX5_hang_158 : decode cX5_hang 158 = .ok (.getfield 36, 3) := by decide +kernel
theorem dX5_hang_161 : decode cX5_hang 161 = .ok (.iconst 1, 1) := by decide +kernel
theorem dX5_hang_162 : decode cX5_hang 162 = .ok (.isub, 1) := by decide +kernel
theorem dX5_hang_163 : decode cX5_hang 163 = .ok (.ireturn, 1) := by decide +kernel
theorem dX5_roll_0 : decode cX5_roll 0 = .ok (.aload_n 0, 1) := by decide +kernel
theorem dX5_roll_1 : decode cX5_roll 1 = .ok (.aload_n 0, 1) := by decide +kernel
theorem dX5_roll_2 : decode cX5_roll 2 = .ok (.iload_n 1, 1) := by decide +kernel
theorem dX5_roll_3 : decode cX5_roll 3 = .ok (.invokevirtual 91, 3) := by decide +kernel
theorem dX5_roll_6 : decode cX5_roll 6 = .ok (.ifCond .eq 7, 3) := by decide +kernel
theorem dX5_roll_9 : decode cX5_roll 9 = .ok (.iconst 0, 1) := by decide +kernel
theorem dX5_roll_10 : decode cX5_roll 10 = .ok (.goto 4, 3) := by decide +kernel
theorem dX5_roll_13 : decode cX5_roll 13 = .ok (.iconst 1, 1) := by decide +kernel
theorem dX5_roll_14 : decode cX5_roll 14 = .ok (.putfield 28, 3) := by decide +kernel
theorem dX5_roll_17 : decode cX5_roll 17 = .ok (.aload_n 0, 1) := by decide +kernel
theorem dX5_roll_18 : decode cX5_roll 18 = .ok (.getfield 28, 3) := by decide +kernel
theorem dX5_roll_21 : decode cX5_roll 21 = .ok (.ifCond .eq 5, 3) := by decide +kernel
theorem dX5_roll_24 : decode cX5_roll 24 = .ok (.iconst 0, 1) := by decide +kernel
theorem dX5_roll_25 : decode cX5_roll 25 = .ok (.ireturn, 1) := by decide +kernel
theorem dX5_roll_26 : decode cX5_roll 26 = .ok (.aload_n 0, 1) := by decide +kernel
theorem dX5_roll_27 : decode cX5_roll 27 = .ok (.getfield 9, 3) := by decide +kernel
theorem dX5_roll_30 : decode cX5_roll 30 = .ok (.bipush 8, 2) := by decide +kernel
theorem dX5_roll_32 : decode cX5_roll 32 = .ok (.iload_n 1, 1) := by decide +kernel
theorem dX5_roll_33 : decode cX5_roll 33 = .ok (.imul, 1) := by decide +kernel
theorem dX5_roll_34 : decode cX5_roll 34 = .ok (.bipush 6, 2) := by decide +kernel
theorem dX5_roll_36 : decode cX5_roll 36 = .ok (.iadd, 1) := by decide +kernel
theorem dX5_roll_37 : decode cX5_roll 37 = .ok (.iconst 1, 1) := by decide +kernel
theorem dX5_roll_38 : decode cX5_roll 38 = .ok (.aload_n 0, 1) := by decide +kernel
theorem dX5_roll_39 : decode cX5_roll 39 = .ok (.iload_n 1, 1) := by decide +kernel
theorem dX5_roll_40 : decode cX5_roll 40 = .ok (.bipush 6, 2) := by decide +kernel
theorem dX5_roll_42 : decode cX5_roll 42 = .ok (.invokevirtual 42, 3) := by decide +kernel
theorem dX5_roll_45 : decode cX5_roll 45 = .ok (.isub, 1) := by decide +kernel
theorem dX5_roll_46 : decode cX5_roll 46 = .ok (.iastore, 1) := by decide +kernel
theorem dX5_roll_47 : decode cX5_roll 47 = .ok (.aload_n 0, 1) := by decide +kernel
theorem dX5_roll_48 : decode cX5_roll 48 = .ok (.iload_n 1, 1) := by decide +kernel
theorem dX5_roll_49 : decode cX5_roll 49 = .ok (.invokevirtual 46, 3) := by decide +kernel
theorem dX5_roll_52 : decode cX5_roll 52 = .ok (.ireturn, 1) := by decide +kernel
theorem dX5_move_0 : decode cX5_move 0 = .ok (.aload_n 0, 1) := by decide +kernel
theorem dX5_move_1 : decode cX5_move 1 = .ok (.iconst 0, 1) := by decide +kernel
theorem dX5_move_2 : decode cX5_move 2 = .ok (.putfield 28, 3) := by decide +kernel
theorem dX5_move_5 : decode cX5_move 5 = .ok (.aload_n 0, 1) := by decide +kernel
theorem dX5_move_6 : decode cX5_move 6 = .ok (.iload_n 1, 1) := by decide +kernel
theorem dX5_move_7 : decode cX5_move 7 = .ok (.invokevirtual 91, 3) := by decide +kernel
theorem dX5_move_10 : decode cX5_move 10 = .ok (.ifCond .eq 23, 3) := by decide +kernel
theorem dX5_move_13 : decode cX5_move 13 = .ok (.iload_n 2, 1) := by decide +kernel
theorem dX5_move_14 : decode cX5_move 14 = .ok (.iload_n 3, 1) := by decide +kernel
theorem dX5_move_15 : decode cX5_move 15 = .ok (.aload_n 0, 1) := by decide +kernel
theorem dX5_move_16 : decode cX5_move 16 = .ok (.iload_n 1, 1) := by decide +kernel
theorem dX5_move_17 : decode cX5_move 17 = .ok (.iconst 2, 1) := by decide +kernel
theorem dX5_move_18 : decode cX5_move 18 = .ok (.invokevirtual 42, 3) := by decide +kernel
theorem dX5_move_21 : decode cX5_move 21 = .ok (.aload_n 0, 1) := by decide +kernel
theorem dX5_move_22 : decode cX5_move 22 = .ok (.iload_n 1, 1) := by decide +kernel
theorem dX5_move_23 : decode cX5_move 23 = .ok (.iconst 3, 1) := by decide +kernel
theorem dX5_move_24 : decode cX5_move 24 = .ok (.invokevirtual 42, 3) := by decide +kernel
theorem dX5_move_27 : decode cX5_move 27 = .ok (.invokestatic 81, 3) := by decide +kernel
theorem dX5_move_30 : decode cX5_move 30 = .ok (.ifCond .ne 9, 3) := by decide +kernel
theorem dX5_move_33 : decode cX5_move 33 = .ok (.aload_n 0, 1) := by decide +kernel
theorem dX5_move_34 : decode cX5_move 34 = .ok (.iconst 1, 1) := by decide +kernel
theorem dX5_move_35 : decode cX5_move 35 = .ok (.invokevirtual 78, 3) := by decide +kernel
theorem dX5_move_38 : decode cX5_move 38 = .ok (.ireturn, 1) := by decide +kernel
theorem dX5_move_39 : decode cX5_move 39 = .ok (.aload_n 0, 1) := by decide +kernel
theorem dX5_move_40 : decode cX5_move 40 = .ok (.getfield 9, 3) := by decide +kernel
theorem dX5_move_43 : decode cX5_move 43 = .ok (.bipush 8, 2) := by decide +kernel
theorem dX5_move_45 : decode cX5_move 45 = .ok (.iload_n 1, 1) := by decide +kernel
theorem dX5_move_46 : decode cX5_move 46 = .ok (.imul, 1) := by decide +kernel
theorem dX5_move_47 : decode cX5_move 47 = .ok (.iconst 0, 1) := by decide +kernel
theorem dX5_move_48 : decode cX5_move 48 = .ok (.iadd, 1) := by decide +kernel
theorem dX5_move_49 : decode cX5_move 49 = .ok (.iload_n 2, 1) := by decide +kernel
theorem dX5_move_50 : decode cX5_move 50 = .ok (.iastore, 1) := by decide +kernel
theorem dX5_move_51 : decode cX5_move 51 = .ok (.aload_n 0, 1) := by decide +kernel
theorem dX5_move_52 : decode cX5_move 52 = .ok (.getfield 9, 3) := by decide +kernel
theorem dX5_move_55 : decode cX5_move 55 = .ok (.bipush 8, 2) := by decide +kernel
theorem dX5_move_57 : decode cX5_move 57 = .ok (.iload_n 1, 1) := by decide +kernel
theorem dX5_move_58 : decode cX5_move 58 = .ok (.imul, 1) := by decide +kernel
theorem dX5_move_59 : decode cX5_move 59 = .ok (.iconst 1, 1) := by decide +kernel
theorem dX5_move_60 : decode cX5_move 60 = .ok (.iadd, 1) := by decide +kernel
theorem dX5_move_61 : decode cX5_move 61 = .ok (.iload_n 3, 1) := by decide +kernel
theorem dX5_move_62 : decode cX5_move 62 = .ok (.iastore, 1) := by decide +kernel
theorem dX5_move_63 : decode cX5_move 63 = .ok (.aload_n 0, 1) := by decide +kernel
theorem dX5_move_64 : decode cX5_move 64 = .ok (.iconst 3, 1) := by decide +kernel
theorem dX5_move_65 : decode cX5_move 65 = .ok (.invokevirtual 94, 3) := by decide +kernel
theorem dX5_move_68 : decode cX5_move 68 = .ok (.ireturn, 1) := by decide +kernel
theorem dX5_take_0 : decode cX5_take 0 = .ok (.aload_n 0, 1) := by decide +kernel
theorem dX5_take_1 : decode cX5_take 1 = .ok (.iconst 0, 1) := by decide +kernel
theorem dX5_take_2 : decode cX5_take 2 = .ok (.putfield 28, 3) := by decide +kernel
theorem dX5_take_5 : decode cX5_take 5 = .ok (.aload_n 0, 1) := by decide +kernel
theorem dX5_take_6 : decode cX5_take 6 = .ok (.iload_n 1, 1) := by decide +kernel
theorem dX5_take_7 : decode cX5_take 7 = .ok (.invokevirtual 91, 3) := by decide +kernel
theorem dX5_take_10 : decode cX5_take 10 = .ok (.ifCond .ne 9, 3) := by decide +kernel
theorem dX5_take_13 : decode cX5_take 13 = .ok (.aload_n 0, 1) := by decide +kernel
theorem dX5_take_14 : decode cX5_take 14 = .ok (.iconst 1, 1) := by decide +kernel
theorem dX5_take_15 : decode cX5_take 15 = .ok (.invokevirtual 78, 3) := by decide +kernel
theorem dX5_take_18 : decode cX5_take 18 = .ok (.ireturn, 1) := by decide +kernel
theorem dX5_take_19 : decode cX5_take 19 = .ok (.aload_n 0, 1) := by decide +kernel
theorem dX5_take_20 : decode cX5_take 20 = .ok (.dup, 1) := by decide +kernel
theorem dX5_take_21 : decode cX5_take 21 = .ok (.getfield 36, 3) := by decide +kernel
theorem dX5_take_24 : decode cX5_take 24 = .ok (.iconst 1, 1) := by decide +kernel
theorem dX5_take_25 : decode cX5_take 25 = .ok (.isub, 1) := by decide +kernel
theorem dX5_take_26 : decode cX5_take 26 = .ok (.putfield 36, 3) := by decide +kernel
theorem dX5_take_29 : decode cX5_take 29 = .ok (.bipush 8, 2) := by decide +kernel
theorem dX5_take_31 : decode cX5_take 31 = .ok (.iload_n 1, 1) := by decide +kernel
theorem dX5_take_32 : decode cX5_take 32 = .ok (.imul, 1) := by decide +kernel
theorem dX5_take_33 : decode cX5_take 33 = .ok (.istore_n 2, 1) := by decide +kernel
theorem dX5_take_34 : decode cX5_take 34 = .ok (.iload_n 2, 1) := by decide +kernel
theorem dX5_take_35 : decode cX5_take 35 = .ok (.bipush 8, 2) := by decide +kernel
theorem dX5_take_37 : decode cX5_take 37 = .ok (.aload_n 0, 1) := by decide +kernel
theorem dX5_take_38 : decode cX5_take 38 = .ok (.getfield 36, 3) := by decide +kernel
theorem dX5_take_41 : decode cX5_take 41 = .ok (.imul, 1) := by decide +kernel
theorem dX5_take_42 : decode cX5_take 42 = .ok (.if_icmp .ge 24, 3) := by decide +kernel
theorem dX5_take_45 : decode cX5_take 45 = .ok (.aload_n 0, 1) := by decide +kernel
theorem dX5_take_46 : decode cX5_take 46 = .ok (.getfield 9, 3) := by decide +kernel
theorem dX5_take_49 : decode cX5_take 49 = .ok (.iload_n 2, 1) := by decide +kernel
theorem dX5_take_50 : decode cX5_take 50 = .ok (.aload_n 0, 1) := by decide +kernel
theorem dX5_take_51 : decode cX5_take 51 = .ok (.getfield 9, 3) := by decide +kernel
theorem dX5_take_54 : decode cX5_take 54 = .ok (.iload_n 2, 1) := by decide +kernel
theorem dX5_take_55 : decode cX5_take 55 = .ok (.bipush 8, 2) := by decide +kernel
theorem dX5_take_57 : decode cX5_take 57 = .ok (.iadd, 1) := by decide +kernel
theorem dX5_take_58 : decode cX5_take 58 = .ok (.iaload, 1) := by decide +kernel
theorem dX5_take_59 : decode cX5_take 59 = .ok (.iastore, 1) := by decide +kernel
theorem dX5_take_60 : decode cX5_take 60 = .ok (.iinc 2 1, 3) := by decide +kernel
theorem dX5_take_63 : decode cX5_take 63 = .ok (.goto (-29), 3) := by decide +kernel
theorem dX5_take_66 : decode cX5_take 66 = .ok (.aload_n 0, 1) := by decide +kernel
theorem dX5_take_67 : decode cX5_take 67 = .ok (.getfield 36, 3) := by decide +kernel
theorem dX5_take_70 : decode cX5_take 70 = .ok (.ireturn, 1) := by decide +kernel
theorem dX5_stall_0 : decode cX5_stall 0 = .ok (.aload_n 0, 1) := by decide +kernel
theorem dX5_stall_1 : decode cX5_stall 1 = .ok (.iconst 0, 1) := by decide +kernel
theorem dX5_stall_2 : decode cX5_stall 2 = .ok (.putfield 28, 3) := by decide +kernel
theorem dX5_stall_5 : decode cX5_stall 5 = .ok (.iload_n 1, 1) := by decide +kernel
theorem dX5_stall_6 : decode cX5_stall 6 = .ok (.iload_n 2, 1) := by decide +kernel
theorem dX5_stall_7 : decode cX5_stall 7 = .ok (.invokestatic 97, 3) := by decide +kernel
theorem dX5_stall_10 : decode cX5_stall 10 = .ok (.ifCond .ne 9, 3) := by decide +kernel
theorem dX5_stall_13 : decode cX5_stall 13 = .ok (.aload_n 0, 1) := by decide +kernel
theorem dX5_stall_14 : decode cX5_stall 14 = .ok (.iconst 1, 1) := by decide +kernel
theorem dX5_stall_15 : decode cX5_stall 15 = .ok (.invokevirtual 78, 3) := by decide +kernel
theorem dX5_stall_18 : decode cX5_stall 18 = .ok (.ireturn, 1) := by decide +kernel
theorem dX5_stall_19 : decode cX5_stall 19 = .ok (.aload_n 0, 1) := by decide +kernel
theorem dX5_stall_20 : decode cX5_stall 20 = .ok (.getfield 39, 3) := by decide +kernel
theorem dX5_stall_23 : decode cX5_stall 23 = .ok (.bipush 8, 2) := by decide +kernel
theorem dX5_stall_25 : decode cX5_stall 25 = .ok (.if_icmp .ge 7, 3) := by decide +kernel
theorem dX5_stall_28 : decode cX5_stall 28 = .ok (.iconst 1, 1) := by decide +kernel
theorem dX5_stall_29 : decode cX5_stall 29 = .ok (.goto 4, 3) := by decide +kernel
theorem dX5_stall_32 : decode cX5_stall 32 = .ok (.iconst 0, 1) := by decide +kernel
theorem dX5_stall_33 : decode cX5_stall 33 = .ok (.istore_n 3, 1) := by decide +kernel
theorem dX5_stall_34 : decode cX5_stall 34 = .ok (.iconst 0, 1) := by decide +kernel
theorem dX5_stall_35 : decode cX5_stall 35 = .ok (.istore 4, 2) := by decide +kernel
theorem dX5_stall_37 : decode cX5_stall 37 = .ok (.iload 4, 2) := by decide +kernel
theorem dX5_stall_39 : decode cX5_stall 39 = .ok (.aload_n 0, 1) := by decide +kernel
theorem dX5_stall_40 : decode cX5_stall 40 = .ok (.getfield 39, 3) := by decide +kernel
theorem dX5_stall_43 : decode cX5_stall 43 = .ok (.if_icmp .ge 33, 3) := by decide +kernel
theorem dX5_stall_46 : decode cX5_stall 46 = .ok (.iload_n 3, 1) := by decide +kernel
theorem dX5_stall_47 : decode cX5_stall 47 = .ok (.aload_n 0, 1) := by decide +kernel
theorem dX5_stall_48 : decode cX5_stall 48 = .ok (.getfield 13, 3) := by decide +kernel
theorem dX5_stall_51 : decode cX5_stall 51 = .ok (.iload 4, 2) := by decide +kernel
theorem dX5_stall_53 : decode cX5_stall 53 = .ok (.iaload, 1) := by decide +kernel
theorem dX5_stall_54 : decode cX5_stall 54 = .ok (.bipush 24, 2) := by decide +kernel
theorem dX5_stall_56 : decode cX5_stall 56 = .ok (.iload_n 1, 1) := by decide +kernel
theorem dX5_stall_57 : decode cX5_stall 57 = .ok (.imul, 1) := by decide +kernel
theorem dX5_stall_58 : decode cX5_stall 58 = .ok (.iload_n 2, 1) := by decide +kernel
theorem dX5_stall_59 : decode cX5_stall 59 = .ok (.iadd, 1) := by decide +kernel
theorem dX5_stall_60 : decode cX5_stall 60 = .ok (.if_icmp .eq 7, 3) := by decide +kernel
theorem dX5_stall_63 : decode cX5_stall 63 = .ok (.iconst 1, 1) := by decide +kernel
theorem dX5_stall_64 : decode cX5_stall 64 = .ok (.goto 4, 3) := by decide +kernel
theorem dX5_stall_67 : decode cX5_stall 67 = .ok (.iconst 0, 1) := by decide +kernel
theorem dX5_stall_68 : decode cX5_stall 68 = .ok (.iand, 1) := by decide +kernel
theorem dX5_stall_69 : decode cX5_stall 69 = .ok (.istore_n 3, 1) := by decide +kernel
theorem dX5_stall_70 : decode cX5_stall 70 = .ok (.iinc 4 1, 3) := by decide +kernel
theorem dX5_stall_73 : decode cX5_stall 73 = .ok (.goto (-36), 3) := by decide +kernel
theorem dX5_stall_76 : decode cX5_stall 76 = .ok (.iload_n 3, 1) := by decide +kernel
theorem dX5_stall_77 : decode cX5_stall 77 = .ok (.ifCond .ne 9, 3) := by decide +kernel
theorem dX5_stall_80 : decode cX5_stall 80 = .ok (.aload_n 0, 1) := by decide +kernel
theorem dX5_stall_81 : decode cX5_stall 81 = .ok (.iconst 2, 1) := by decide +kernel
theorem dX5_stall_82 : decode cX5_stall 82 = .ok (.invokevirtual 78, 3) := by decide +kernel
theorem dX5_stall_85 : decode cX5_stall 85 = .ok (.ireturn, 1) := by decide +kernel
theorem dX5_stall_86 : decode cX5_stall 86 = .ok (.aload_n 0, 1) := by decide +kernel
theorem dX5_stall_87 : decode cX5_stall 87 = .ok (.getfield 13, 3) := by decide +kernel
theorem dX5_stall_90 : decode cX5_stall 90 = .ok (.aload_n 0, 1) := by decide +kernel
theorem dX5_stall_91 : decode cX5_stall 91 = .ok (.getfield 39, 3) := by decide +kernel
theorem dX5_stall_94 : decode cX5_stall 94 = .ok (.bipush 24, 2) := by decide +kernel
theorem dX5_stall_96 : decode cX5_stall 96 = .ok (.iload_n 1, 1) := by decide +kernel
theorem dX5_stall_97 : decode cX5_stall 97 = .ok (.imul, 1) := by decide +kernel
theorem dX5_stall_98 : decode cX5_stall 98 = .ok (.iload_n 2, 1) := by decide +kernel
theorem dX5_stall_99 : decode cX5_stall 99 = .ok (.iadd, 1) := by decide +kernel
theorem dX5_stall_100 : decode cX5_stall 100 = .ok (.iastore, 1) := by decide +kernel
theorem dX5_stall_101 : decode cX5_stall 101 = .ok (.aload_n 0, 1) := by decide +kernel
theorem dX5_stall_102 : decode cX5_stall 102 = .ok (.getfield 16, 3) := by decide +kernel
theorem dX5_stall_105 : decode cX5_stall 105 = .ok (.aload_n 0, 1) := by decide +kernel
theorem dX5_stall_106 : decode cX5_stall 106 = .ok (.getfield 39, 3) := by decide +kernel
theorem dX5_stall_109 : decode cX5_stall 109 = .ok (.aload_n 0, 1) := by decide +kernel
theorem dX5_stall_110 : decode cX5_stall 110 = .ok (.getfield 19, 3) := by decide +kernel
theorem dX5_stall_113 : decode cX5_stall 113 = .ok (.bipush 24, 2) := by decide +kernel
theorem dX5_stall_115 : decode cX5_stall 115 = .ok (.iload_n 1, 1) := by decide +kernel
theorem dX5_stall_116 : decode cX5_stall 116 = .ok (.imul, 1) := by decide +kernel
theorem dX5_stall_117 : decode cX5_stall 117 = .ok (.iload_n 2, 1) := by decide +kernel
theorem dX5_stall_118 : decode cX5_stall 118 = .ok (.iadd, 1) := by decide +kernel
theorem dX5_stall_119 : decode cX5_stall 119 = .ok (.iaload, 1) := by decide +kernel
theorem dX5_stall_120 : decode cX5_stall 120 = .ok (.iastore, 1) := by decide +kernel
theorem dX5_stall_121 : decode cX5_stall 121 = .ok (.aload_n 0, 1) := by decide +kernel
theorem dX5_stall_122 : decode cX5_stall 122 = .ok (.dup, 1) := by decide +kernel
theorem dX5_stall_123 : decode cX5_stall 123 = .ok (.getfield 39, 3) := by decide +kernel
theorem dX5_stall_126 : decode cX5_stall 126 = .ok (.iconst 1, 1) := by decide +kernel
theorem dX5_stall_127 : decode cX5_stall 127 = .ok (.iadd, 1) := by decide +kernel
theorem dX5_stall_128 : decode cX5_stall 128 = .ok (.putfield 39, 3) := by decide +kernel
theorem dX5_stall_131 : decode cX5_stall 131 = .ok (.aload_n 0, 1) := by decide +kernel
theorem dX5_stall_132 : decode cX5_stall 132 = .ok (.getfield 39, 3) := by decide +kernel
theorem dX5_stall_135 : decode cX5_stall 135 = .ok (.iconst 1, 1) := by decide +kernel
theorem dX5_stall_136 : decode cX5_stall 136 = .ok (.isub, 1) := by decide +kernel
theorem dX5_stall_137 : decode cX5_stall 137 = .ok (.ireturn, 1) := by decide +kernel
theorem dX5_rain_0 : decode cX5_rain 0 = .ok (.aload_n 0, 1) := by decide +kernel
theorem dX5_rain_1 : decode cX5_rain 1 = .ok (.iconst 0, 1) := by decide +kernel
theorem dX5_rain_2 : decode cX5_rain 2 = .ok (.putfield 28, 3) := by decide +kernel
theorem dX5_rain_5 : decode cX5_rain 5 = .ok (.iload_n 1, 1) := by decide +kernel
theorem dX5_rain_6 : decode cX5_rain 6 = .ok (.iconst 1, 1) := by decide +kernel
theorem dX5_rain_7 : decode cX5_rain 7 = .ok (.bipush 20, 2) := by decide +kernel
theorem dX5_rain_9 : decode cX5_rain 9 = .ok (.invokestatic 32, 3) := by decide +kernel
theorem dX5_rain_12 : decode cX5_rain 12 = .ok (.ifCond .ne 9, 3) := by decide +kernel
theorem dX5_rain_15 : decode cX5_rain 15 = .ok (.aload_n 0, 1) := by decide +kernel
theorem dX5_rain_16 : decode cX5_rain 16 = .ok (.iconst 1, 1) := by decide +kernel
theorem dX5_rain_17 : decode cX5_rain 17 = .ok (.invokevirtual 78, 3) := by decide +kernel
theorem dX5_rain_20 : decode cX5_rain 20 = .ok (.ireturn, 1) := by decide +kernel
theorem dX5_rain_21 : decode cX5_rain 21 = .ok (.aload_n 0, 1) := by decide +kernel
theorem dX5_rain_22 : decode cX5_rain 22 = .ok (.iload_n 1, 1) := by decide +kernel
theorem dX5_rain_23 : decode cX5_rain 23 = .ok (.invokevirtual 100, 3) := by decide +kernel
theorem dX5_rain_26 : decode cX5_rain 26 = .ok (.istore_n 2, 1) := by decide +kernel
theorem dX5_rain_27 : decode cX5_rain 27 = .ok (.iconst 0, 1) := by decide +kernel
theorem dX5_rain_28 : decode cX5_rain 28 = .ok (.istore_n 3, 1) := by decide +kernel
theorem dX5_rain_29 : decode cX5_rain 29 = .ok (.iload_n 3, 1) := by decide +kernel
theorem dX5_rain_30 : decode cX5_rain 30 = .ok (.sipush 576, 3) := by decide +kernel
theorem dX5_rain_33 : decode cX5_rain 33 = .ok (.if_icmp .ge 24, 3) := by decide +kernel
theorem dX5_rain_36 : decode cX5_rain 36 = .ok (.aload_n 0, 1) := by decide +kernel
theorem dX5_rain_37 : decode cX5_rain 37 = .ok (.getfield 19, 3) := by decide +kernel
theorem dX5_rain_40 : decode cX5_rain 40 = .ok (.iload_n 3, 1) := by decide +kernel
theorem dX5_rain_41 : decode cX5_rain 41 = .ok (.dup2, 1) := by decide +kernel
theorem dX5_rain_42 : decode cX5_rain 42 = .ok (.iaload, 1) := by decide +kernel
theorem dX5_rain_43 : decode cX5_rain 43 = .ok (.aload_n 0, 1) := by decide +kernel
theorem dX5_rain_44 : decode cX5_rain 44 = .ok (.getfield 22, 3) := by decide +kernel
theorem dX5_rain_47 : decode cX5_rain 47 = .ok (.iload_n 3, 1) := by decide +kernel
theorem dX5_rain_48 : decode cX5_rain 48 = .ok (.iaload, 1) := by decide +kernel
theorem dX5_rain_49 : decode cX5_rain 49 = .ok (.iadd, 1) := by decide +kernel
theorem dX5_rain_50 : decode cX5_rain 50 = .ok (.iastore, 1) := by decide +kernel
theorem dX5_rain_51 : decode cX5_rain 51 = .ok (.iinc 3 1, 3) := by decide +kernel
theorem dX5_rain_54 : decode cX5_rain 54 = .ok (.goto (-25), 3) := by decide +kernel
theorem dX5_rain_57 : decode cX5_rain 57 = .ok (.iconst 0, 1) := by decide +kernel
theorem dX5_rain_58 : decode cX5_rain 58 = .ok (.istore_n 3, 1) := by decide +kernel
theorem dX5_rain_59 : decode cX5_rain 59 = .ok (.iload_n 3, 1) := by decide +kernel
theorem dX5_rain_60 : decode cX5_rain 60 = .ok (.aload_n 0, 1) := by decide +kernel
theorem dX5_rain_61 : decode cX5_rain 61 = .ok (.getfield 36, 3) := by decide +kernel
theorem dX5_rain_64 : decode cX5_rain 64 = .ok (.if_icmp .ge 30, 3) := by decide +kernel
theorem dX5_rain_67 : decode cX5_rain 67 = .ok (.aload_n 0, 1) := by decide +kernel
theorem dX5_rain_68 : decode cX5_rain 68 = .ok (.getfield 9, 3) := by decide +kernel
theorem dX5_rain_71 : decode cX5_rain 71 = .ok (.bipush 8, 2) := by decide +kernel
theorem dX5_rain_73 : decode cX5_rain 73 = .ok (.iload_n 3, 1) := by decide +kernel
theorem dX5_rain_74 : decode cX5_rain 74 = .ok (.imul, 1) := by decide +kernel
theorem dX5_rain_75 : decode cX5_rain 75 = .ok (.bipush 7, 2) := by decide +kernel
theorem dX5_rain_77 : decode cX5_rain 77 = .ok (.iadd, 1) := by decide +kernel
theorem dX5_rain_78 : decode cX5_rain 78 = .ok (.dup2, 1) := by decide +kernel
theorem dX5_rain_79 : decode cX5_rain 79 = .ok (.iaload, 1) := by decide +kernel
theorem dX5_rain_80 : decode cX5_rain 80 = .ok (.aload_n 0, 1) := by decide +kernel
theorem dX5_rain_81 : decode cX5_rain 81 = .ok (.getfield 25, 3) := by decide +kernel
theorem dX5_rain_84 : decode cX5_rain 84 = .ok (.iload_n 3, 1) := by decide +kernel
theorem dX5_rain_85 : decode cX5_rain 85 = .ok (.iaload, 1) := by decide +kernel
theorem dX5_rain_86 : decode cX5_rain 86 = .ok (.iadd, 1) := by decide +kernel
theorem dX5_rain_87 : decode cX5_rain 87 = .ok (.iastore, 1) := by decide +kernel
theorem dX5_rain_88 : decode cX5_rain 88 = .ok (.iinc 3 1, 3) := by decide +kernel
theorem dX5_rain_91 : decode cX5_rain 91 = .ok (.goto (-32), 3) := by decide +kernel
theorem dX5_rain_94 : decode cX5_rain 94 = .ok (.aload_n 0, 1) := by decide +kernel
theorem dX5_rain_95 : decode cX5_rain 95 = .ok (.dup, 1) := by decide +kernel
theorem dX5_rain_96 : decode cX5_rain 96 = .ok (.getfield 103, 3) := by decide +kernel
theorem dX5_rain_99 : decode cX5_rain 99 = .ok (.iload_n 2, 1) := by decide +kernel
theorem dX5_rain_100 : decode cX5_rain 100 = .ok (.iadd, 1) := by decide +kernel
theorem dX5_rain_101 : decode cX5_rain 101 = .ok (.putfield 103, 3) := by decide +kernel
theorem dX5_rain_104 : decode cX5_rain 104 = .ok (.aload_n 0, 1) := by decide +kernel
theorem dX5_rain_105 : decode cX5_rain 105 = .ok (.dup, 1) := by decide +kernel
theorem dX5_rain_106 : decode cX5_rain 106 = .ok (.getfield 106, 3) := by decide +kernel
theorem dX5_rain_109 : decode cX5_rain 109 = .ok (.iconst 1, 1) := by decide +kernel
theorem dX5_rain_110 : decode cX5_rain 110 = .ok (.iadd, 1) := by decide +kernel
theorem dX5_rain_111 : decode cX5_rain 111 = .ok (.putfield 106, 3) := by decide +kernel
theorem dX5_rain_114 : decode cX5_rain 114 = .ok (.sipush 576, 3) := by decide +kernel
theorem dX5_rain_117 : decode cX5_rain 117 = .ok (.iload_n 1, 1) := by decide +kernel
theorem dX5_rain_118 : decode cX5_rain 118 = .ok (.imul, 1) := by decide +kernel
theorem dX5_rain_119 : decode cX5_rain 119 = .ok (.iload_n 2, 1) := by decide +kernel
theorem dX5_rain_120 : decode cX5_rain 120 = .ok (.isub, 1) := by decide +kernel
theorem dX5_rain_121 : decode cX5_rain 121 = .ok (.ireturn, 1) := by decide +kernel
theorem dX5_own_0 : decode cX5_own 0 = .ok (.iconst 0, 1) := by decide +kernel
theorem dX5_own_1 : decode cX5_own 1 = .ok (.istore_n 2, 1) := by decide +kernel
theorem dX5_own_2 : decode cX5_own 2 = .ok (.iconst 0, 1) := by decide +kernel
theorem dX5_own_3 : decode cX5_own 3 = .ok (.istore_n 3, 1) := by decide +kernel
theorem dX5_own_4 : decode cX5_own 4 = .ok (.iload_n 3, 1) := by decide +kernel
theorem dX5_own_5 : decode cX5_own 5 = .ok (.bipush 24, 2) := by decide +kernel
theorem dX5_own_7 : decode cX5_own 7 = .ok (.if_icmp .ge 30, 3) := by decide +kernel
theorem dX5_own_10 : decode cX5_own 10 = .ok (.iload_n 2, 1) := by decide +kernel
theorem dX5_own_11 : decode cX5_own 11 = .ok (.aload_n 0, 1) := by decide +kernel
theorem dX5_own_12 : decode cX5_own 12 = .ok (.iload_n 1, 1) := by decide +kernel
theorem dX5_own_13 : decode cX5_own 13 = .ok (.iload_n 3, 1) := by decide +kernel
theorem dX5_own_14 : decode cX5_own 14 = .ok (.invokevirtual 53, 3) := by decide +kernel
theorem dX5_own_17 : decode cX5_own 17 = .ok (.aload_n 0, 1) := by decide +kernel
theorem dX5_own_18 : decode cX5_own 18 = .ok (.iload_n 3, 1) := by decide +kernel
theorem dX5_own_19 : decode cX5_own 19 = .ok (.iload_n 1, 1) := by decide +kernel
theorem dX5_own_20 : decode cX5_own 20 = .ok (.invokevirtual 56, 3) := by decide +kernel
theorem dX5_own_23 : decode cX5_own 23 = .ok (.iconst (-1), 1) := by decide +kernel
theorem dX5_own_24 : decode cX5_own 24 = .ok (.ixor, 1) := by decide +kernel
theorem dX5_own_25 : decode cX5_own 25 = .ok (.iand, 1) := by decide +kernel
theorem dX5_own_26 : decode cX5_own 26 = .ok (.invokestatic 109, 3) := by decide +kernel
theorem dX5_own_29 : decode cX5_own 29 = .ok (.iadd, 1) := by decide +kernel
theorem dX5_own_30 : decode cX5_own 30 = .ok (.istore_n 2, 1) := by decide +kernel
theorem dX5_own_31 : decode cX5_own 31 = .ok (.iinc 3 1, 3) := by decide +kernel
theorem dX5_own_34 : decode cX5_own 34 = .ok (.goto (-30), 3) := by decide +kernel
theorem dX5_own_37 : decode cX5_own 37 = .ok (.iload_n 2, 1) := by decide +kernel
theorem dX5_own_38 : decode cX5_own 38 = .ok (.ireturn, 1) := by decide +kernel
theorem dX5_awningTold_0 : decode cX5_awningTold 0 = .ok (.iload_n 2, 1) := by decide +kernel
theorem dX5_awningTold_1 : decode cX5_awningTold 1 = .ok (.bipush 7, 2) := by decide +kernel
theorem dX5_awningTold_3 : decode cX5_awningTold 3 = .ok (.if_icmp .ge 12, 3) := by decide +kernel
theorem dX5_awningTold_6 : decode cX5_awningTold 6 = .ok (.aload_n 0, 1) := by decide +kernel
theorem dX5_awningTold_7 : decode cX5_awningTold 7 = .ok (.iload_n 1, 1) := by decide +kernel
theorem dX5_awningTold_8 : decode cX5_awningTold 8 = .ok (.iload_n 2, 1) := by decide +kernel
theorem dX5_awningTold_9 : decode cX5_awningTold 9 = .ok (.invokevirtual 42, 3) := by decide +kernel
theorem dX5_awningTold_12 : decode cX5_awningTold 12 = .ok (.goto 24, 3) := by decide +kernel
theorem dX5_awningTold_15 : decode cX5_awningTold 15 = .ok (.iload_n 2, 1) := by decide +kernel
theorem dX5_awningTold_16 : decode cX5_awningTold 16 = .ok (.bipush 7, 2) := by decide +kernel
theorem dX5_awningTold_18 : decode cX5_awningTold 18 = .ok (.if_icmp .ne 11, 3) := by decide +kernel
theorem dX5_awningTold_21 : decode cX5_awningTold 21 = .ok (.aload_n 0, 1) := by decide +kernel
theorem dX5_awningTold_22 : decode cX5_awningTold 22 = .ok (.iload_n 1, 1) := by decide +kernel
theorem dX5_awningTold_23 : decode cX5_awningTold 23 = .ok (.invokevirtual 112, 3) := by decide +kernel
theorem dX5_awningTold_26 : decode cX5_awningTold 26 = .ok (.goto 10, 3) := by decide +kernel
theorem dX5_awningTold_29 : decode cX5_awningTold 29 = .ok (.aload_n 0, 1) := by decide +kernel
theorem dX5_awningTold_30 : decode cX5_awningTold 30 = .ok (.iload_n 1, 1) := by decide +kernel
theorem dX5_awningTold_31 : decode cX5_awningTold 31 = .ok (.bipush 7, 2) := by decide +kernel
theorem dX5_awningTold_33 : decode cX5_awningTold 33 = .ok (.invokevirtual 42, 3) := by decide +kernel
theorem dX5_awningTold_36 : decode cX5_awningTold 36 = .ok (.ireturn, 1) := by decide +kernel
theorem dX5_about_0 : decode cX5_about 0 = .ok (.aload_n 0, 1) := by decide +kernel
theorem dX5_about_1 : decode cX5_about 1 = .ok (.iconst 0, 1) := by decide +kernel
theorem dX5_about_2 : decode cX5_about 2 = .ok (.putfield 28, 3) := by decide +kernel
theorem dX5_about_5 : decode cX5_about 5 = .ok (.aload_n 0, 1) := by decide +kernel
theorem dX5_about_6 : decode cX5_about 6 = .ok (.iload_n 1, 1) := by decide +kernel
theorem dX5_about_7 : decode cX5_about 7 = .ok (.invokevirtual 91, 3) := by decide +kernel
theorem dX5_about_10 : decode cX5_about 10 = .ok (.ifCond .eq 22, 3) := by decide +kernel
theorem dX5_about_13 : decode cX5_about 13 = .ok (.iload_n 2, 1) := by decide +kernel
theorem dX5_about_14 : decode cX5_about 14 = .ok (.iconst 0, 1) := by decide +kernel
theorem dX5_about_15 : decode cX5_about 15 = .ok (.bipush 8, 2) := by decide +kernel
theorem dX5_about_17 : decode cX5_about 17 = .ok (.invokestatic 32, 3) := by decide +kernel
theorem dX5_about_20 : decode cX5_about 20 = .ok (.ifCond .eq 12, 3) := by decide +kernel
theorem dX5_about_23 : decode cX5_about 23 = .ok (.aload_n 0, 1) := by decide +kernel
theorem dX5_about_24 : decode cX5_about 24 = .ok (.iload_n 1, 1) := by decide +kernel
theorem dX5_about_25 : decode cX5_about 25 = .ok (.iload_n 2, 1) := by decide +kernel
theorem dX5_about_26 : decode cX5_about 26 = .ok (.invokevirtual 115, 3) := by decide +kernel
theorem dX5_about_29 : decode cX5_about 29 = .ok (.goto 8, 3) := by decide +kernel
theorem dX5_about_32 : decode cX5_about 32 = .ok (.aload_n 0, 1) := by decide +kernel
theorem dX5_about_33 : decode cX5_about 33 = .ok (.iconst 1, 1) := by decide +kernel
theorem dX5_about_34 : decode cX5_about 34 = .ok (.invokevirtual 78, 3) := by decide +kernel
theorem dX5_about_37 : decode cX5_about 37 = .ok (.ireturn, 1) := by decide +kernel
theorem dX5_cellTold_0 : decode cX5_cellTold 0 = .ok (.iload_n 3, 1) := by decide +kernel
theorem dX5_cellTold_1 : decode cX5_cellTold 1 = .ok (.ifCond .ne 12, 3) := by decide +kernel
theorem dX5_cellTold_4 : decode cX5_cellTold 4 = .ok (.aload_n 0, 1) := by decide +kernel
theorem dX5_cellTold_5 : decode cX5_cellTold 5 = .ok (.iload_n 1, 1) := by decide +kernel
theorem dX5_cellTold_6 : decode cX5_cellTold 6 = .ok (.iload_n 2, 1) := by decide +kernel
theorem dX5_cellTold_7 : decode cX5_cellTold 7 = .ok (.invokevirtual 118, 3) := by decide +kernel
theorem dX5_cellTold_10 : decode cX5_cellTold 10 = .ok (.goto 30, 3) := by decide +kernel
theorem dX5_cellTold_13 : decode cX5_cellTold 13 = .ok (.iload_n 3, 1) := by decide +kernel
theorem dX5_cellTold_14 : decode cX5_cellTold 14 = .ok (.iconst 1, 1) := by decide +kernel
theorem dX5_cellTold_15 : decode cX5_cellTold 15 = .ok (.if_icmp .ne 14, 3) := by decide +kernel
theorem dX5_cellTold_18 : decode cX5_cellTold 18 = .ok (.aload_n 0, 1) := by decide +kernel
theorem dX5_cellTold_19 : decode cX5_cellTold 19 = .ok (.iload_n 1, 1) := by decide +kernel
theorem dX5_cellTold_20 : decode cX5_cellTold 20 = .ok (.iload_n 2, 1) := by decide +kernel
theorem dX5_cellTold_21 : decode cX5_cellTold 21 = .ok (.bipush 10, 2) := by decide +kernel
theorem dX5_cellTold_23 : decode cX5_cellTold 23 = .ok (.invokevirtual 67, 3) := by decide +kernel
theorem dX5_cellTold_26 : decode cX5_cellTold 26 = .ok (.goto 14, 3) := by decide +kernel
theorem dX5_cellTold_29 : decode cX5_cellTold 29 = .ok (.aload_n 0, 1) := by decide +kernel
theorem dX5_cellTold_30 : decode cX5_cellTold 30 = .ok (.getfield 19, 3) := by decide +kernel
theorem dX5_cellTold_33 : decode cX5_cellTold 33 = .ok (.bipush 24, 2) := by decide +kernel
theorem dX5_cellTold_35 : decode cX5_cellTold 35 = .ok (.iload_n 1, 1) := by decide +kernel
theorem dX5_cellTold_36 : decode cX5_cellTold 36 = .ok (.imul, 1) := by decide +kernel
theorem dX5_cellTold_37 : decode cX5_cellTold 37 = .ok (.iload_n 2, 1) := by decide +kernel
theorem dX5_cellTold_38 : decode cX5_cellTold 38 = .ok (.iadd, 1) := by decide +kernel
theorem dX5_cellTold_39 : decode cX5_cellTold 39 = .ok (.iaload, 1) := by decide +kernel
theorem dX5_cellTold_40 : decode cX5_cellTold 40 = .ok (.ireturn, 1) := by decide +kernel
theorem dX5_cell_0 : decode cX5_cell 0 = .ok (.aload_n 0, 1) := by decide +kernel
theorem dX5_cell_1 : decode cX5_cell 1 = .ok (.iconst 0, 1) := by decide +kernel
theorem dX5_cell_2 : decode cX5_cell 2 = .ok (.putfield 28, 3) := by decide +kernel
theorem dX5_cell_5 : decode cX5_cell 5 = .ok (.iload_n 1, 1) := by decide +kernel
theorem dX5_cell_6 : decode cX5_cell 6 = .ok (.iload_n 2, 1) := by decide +kernel
theorem dX5_cell_7 : decode cX5_cell 7 = .ok (.invokestatic 97, 3) := by decide +kernel
theorem dX5_cell_10 : decode cX5_cell 10 = .ok (.ifCond .eq 22, 3) := by decide +kernel
theorem dX5_cell_13 : decode cX5_cell 13 = .ok (.iload_n 3, 1) := by decide +kernel
theorem dX5_cell_14 : decode cX5_cell 14 = .ok (.iconst 0, 1) := by decide +kernel
theorem dX5_cell_15 : decode cX5_cell 15 = .ok (.iconst 2, 1) := by decide +kernel
theorem dX5_cell_16 : decode cX5_cell 16 = .ok (.invokestatic 32, 3) := by decide +kernel
theorem dX5_cell_19 : decode cX5_cell 19 = .ok (.ifCond .eq 13, 3) := by decide +kernel
theorem dX5_cell_22 : decode cX5_cell 22 = .ok (.aload_n 0, 1) := by decide +kernel
theorem dX5_cell_23 : decode cX5_cell 23 = .ok (.iload_n 1, 1) := by decide +kernel
theorem dX5_cell_24 : decode cX5_cell 24 = .ok (.iload_n 2, 1) := by decide +kernel
theorem dX5_cell_25 : decode cX5_cell 25 = .ok (.iload_n 3, 1) := by decide +kernel
theorem dX5_cell_26 : decode cX5_cell 26 = .ok (.invokevirtual 121, 3) := by decide +kernel
theorem dX5_cell_29 : decode cX5_cell 29 = .ok (.goto 8, 3) := by decide +kernel
theorem dX5_cell_32 : decode cX5_cell 32 = .ok (.aload_n 0, 1) := by decide +kernel
theorem dX5_cell_33 : decode cX5_cell 33 = .ok (.iconst 1, 1) := by decide +kernel
theorem dX5_cell_34 : decode cX5_cell 34 = .ok (.invokevirtual 78, 3) := by decide +kernel
theorem dX5_cell_37 : decode cX5_cell 37 = .ok (.ireturn, 1) := by decide +kernel
theorem dX5_longest_0 : decode cX5_longest 0 = .ok (.iconst 0, 1) := by decide +kernel
theorem dX5_longest_1 : decode cX5_longest 1 = .ok (.istore_n 1, 1) := by decide +kernel
theorem dX5_longest_2 : decode cX5_longest 2 = .ok (.iload_n 0, 1) := by decide +kernel
theorem dX5_longest_3 : decode cX5_longest 3 = .ok (.istore_n 2, 1) := by decide +kernel
theorem dX5_longest_4 : decode cX5_longest 4 = .ok (.iload_n 2, 1) := by decide +kernel
theorem dX5_longest_5 : decode cX5_longest 5 = .ok (.ifCond .eq 15, 3) := by decide +kernel
theorem dX5_longest_8 : decode cX5_longest 8 = .ok (.iinc 1 1, 3) := by decide +kernel
theorem dX5_longest_11 : decode cX5_longest 11 = .ok (.iload_n 2, 1) := by decide +kernel
theorem dX5_longest_12 : decode cX5_longest 12 = .ok (.iload_n 2, 1) := by decide +kernel
theorem dX5_longest_13 : decode cX5_longest 13 = .ok (.iconst 1, 1) := by decide +kernel
theorem dX5_longest_14 : decode cX5_longest 14 = .ok (.ishl, 1) := by decide +kernel
theorem dX5_longest_15 : decode cX5_longest 15 = .ok (.iand, 1) := by decide +kernel
theorem dX5_longest_16 : decode cX5_longest 16 = .ok (.istore_n 2, 1) := by decide +kernel
theorem dX5_longest_17 : decode cX5_longest 17 = .ok (.goto (-13), 3) := by decide +kernel
theorem dX5_longest_20 : decode cX5_longest 20 = .ok (.iload_n 1, 1) := by decide +kernel
theorem dX5_longest_21 : decode cX5_longest 21 = .ok (.ireturn, 1) := by decide +kernel
theorem dX5_deepest_0 : decode cX5_deepest 0 = .ok (.iconst 0, 1) := by decide +kernel
theorem dX5_deepest_1 : decode cX5_deepest 1 = .ok (.istore_n 2, 1) := by decide +kernel
theorem dX5_deepest_2 : decode cX5_deepest 2 = .ok (.iconst 0, 1) := by decide +kernel
theorem dX5_deepest_3 : decode cX5_deepest 3 = .ok (.istore_n 3, 1) := by decide +kernel
theorem dX5_deepest_4 : decode cX5_deepest 4 = .ok (.iload_n 3, 1) := by decide +kernel
theorem dX5_deepest_5 : decode cX5_deepest 5 = .ok (.bipush 24, 2) := by decide +kernel
theorem dX5_deepest_7 : decode cX5_deepest 7 = .ok (.if_icmp .ge 20, 3) := by decide +kernel
theorem dX5_deepest_10 : decode cX5_deepest 10 = .ok (.iload_n 2, 1) := by decide +kernel
theorem dX5_deepest_11 : decode cX5_deepest 11 = .ok (.aload_n 0, 1) := by decide +kernel
theorem dX5_deepest_12 : decode cX5_deepest 12 = .ok (.iload_n 1, 1) := by decide +kernel
theorem dX5_deepest_13 : decode cX5_deepest 13 = .ok (.iload_n 3, 1) := by decide +kernel
theorem dX5_deepest_14 : decode cX5_deepest 14 = .ok (.invokevirtual 118, 3) := by decide +kernel
theorem dX5_deepest_17 : decode cX5_deepest 17 = .ok (.invokestatic 124, 3) := by decide +kernel
theorem dX5_deepest_20 : decode cX5_deepest 20 = .ok (.istore_n 2, 1) := by decide +kernel
theorem dX5_deepest_21 : decode cX5_deepest 21 = .ok (.iinc 3 1, 3) := by decide +kernel
theorem dX5_deepest_24 : decode cX5_deepest 24 = .ok (.goto (-20), 3) := by decide +kernel
theorem dX5_deepest_27 : decode cX5_deepest 27 = .ok (.iload_n 2, 1) := by decide +kernel
theorem dX5_deepest_28 : decode cX5_deepest 28 = .ok (.ireturn, 1) := by decide +kernel
theorem dX5_cordTold_0 : decode cX5_cordTold 0 = .ok (.aload_n 0, 1) := by decide +kernel
theorem dX5_cordTold_1 : decode cX5_cordTold 1 = .ok (.iload_n 1, 1) := by decide +kernel
theorem dX5_cordTold_2 : decode cX5_cordTold 2 = .ok (.invokevirtual 129, 3) := by decide +kernel
theorem dX5_cordTold_5 : decode cX5_cordTold 5 = .ok (.istore_n 3, 1) := by decide +kernel
theorem dX5_cordTold_6 : decode cX5_cordTold 6 = .ok (.iload_n 2, 1) := by decide +kernel
theorem dX5_cordTold_7 : decode cX5_cordTold 7 = .ok (.tableswitch 46 0 2 #[25, 30, 41], 25) := by decide +kernel
theorem dX5_cordTold_32 : decode cX5_cordTold 32 = .ok (.iload_n 3, 1) := by decide +kernel
theorem dX5_cordTold_33 : decode cX5_cordTold 33 = .ok (.invokestatic 109, 3) := by decide +kernel
theorem dX5_cordTold_36 : decode cX5_cordTold 36 = .ok (.ireturn, 1) := by decide +kernel
theorem dX5_cordTold_37 : decode cX5_cordTold 37 = .ok (.iload_n 3, 1) := by decide +kernel
theorem dX5_cordTold_38 : decode cX5_cordTold 38 = .ok (.iload_n 3, 1) := by decide +kernel
theorem dX5_cordTold_39 : decode cX5_cordTold 39 = .ok (.iconst 1, 1) := by decide +kernel
theorem dX5_cordTold_40 : decode cX5_cordTold 40 = .ok (.ishl, 1) := by decide +kernel
theorem dX5_cordTold_41 : decode cX5_cordTold 41 = .ok (.iconst (-1), 1) := by decide +kernel
theorem dX5_cordTold_42 : decode cX5_cordTold 42 = .ok (.ixor, 1) := by decide +kernel
theorem dX5_cordTold_43 : decode cX5_cordTold 43 = .ok (.iand, 1) := by decide +kernel
theorem dX5_cordTold_44 : decode cX5_cordTold 44 = .ok (.invokestatic 109, 3) := by decide +kernel
theorem dX5_cordTold_47 : decode cX5_cordTold 47 = .ok (.ireturn, 1) := by decide +kernel
theorem dX5_cordTold_48 : decode cX5_cordTold 48 = .ok (.iload_n 3, 1) := by decide +kernel
theorem dX5_cordTold_49 : decode cX5_cordTold 49 = .ok (.invokestatic 131, 3) := by decide +kernel
theorem dX5_cordTold_52 : decode cX5_cordTold 52 = .ok (.ireturn, 1) := by decide +kernel
theorem dX5_cordTold_53 : decode cX5_cordTold 53 = .ok (.aload_n 0, 1) := by decide +kernel
theorem dX5_cordTold_54 : decode cX5_cordTold 54 = .ok (.iload_n 1, 1) := by decide +kernel
theorem dX5_cordTold_55 : decode cX5_cordTold 55 = .ok (.invokevirtual 134, 3) := by decide +kernel
theorem dX5_cordTold_58 : decode cX5_cordTold 58 = .ok (.ireturn, 1) := by decide +kernel
theorem dX5_cord_0 : decode cX5_cord 0 = .ok (.aload_n 0, 1) := by decide +kernel
theorem dX5_cord_1 : decode cX5_cord 1 = .ok (.iconst 0, 1) := by decide +kernel
theorem dX5_cord_2 : decode cX5_cord 2 = .ok (.putfield 28, 3) := by decide +kernel
theorem dX5_cord_5 : decode cX5_cord 5 = .ok (.iload_n 1, 1) := by decide +kernel
theorem dX5_cord_6 : decode cX5_cord 6 = .ok (.iconst 0, 1) := by decide +kernel
