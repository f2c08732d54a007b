theorem dX0_init_0 : decode cX0_init 0 = .ok (.aload_n 0, 1) := by decide +kernel
theorem dX0_init_1 : decode cX0_init 1 = .ok (.invokespecial 3, 3) := by decide +kernel
theorem dX0_init_4 : decode cX0_init 4 = .ok (.aload_n 0, 1) := by decide +kernel
theorem dX0_init_5 : decode cX0_init 5 = .ok (.iload_n 1, 1) := by decide +kernel
theorem dX0_init_6 : decode cX0_init 6 = .ok (.putfield 9, 3) := by decide +kernel
theorem dX0_init_9 : decode cX0_init 9 = .ok (.aload_n 0, 1) := by decide +kernel
theorem dX0_init_10 : decode cX0_init 10 = .ok (.iload_n 2, 1) := by decide +kernel
theorem dX0_init_11 : decode cX0_init 11 = .ok (.putfield 15, 3) := by decide +kernel
theorem dX0_init_14 : decode cX0_init 14 = .ok (.aload_n 0, 1) := by decide +kernel
theorem dX0_init_15 : decode cX0_init 15 = .ok (.iload_n 3, 1) := by decide +kernel
theorem dX0_init_16 : decode cX0_init 16 = .ok (.putfield 18, 3) := by decide +kernel
theorem dX0_init_19 : decode cX0_init 19 = .ok (.aload_n 0, 1) := by decide +kernel
theorem dX0_init_20 : decode cX0_init 20 = .ok (.iload 4, 2) := by decide +kernel
theorem dX0_init_22 : decode cX0_init 22 = .ok (.putfield 21, 3) := by decide +kernel
theorem dX0_init_25 : decode cX0_init 25 = .ok (.aload_n 0, 1) := by decide +kernel
theorem dX0_init_26 : decode cX0_init 26 = .ok (.iload 5, 2) := by decide +kernel
theorem dX0_init_28 : decode cX0_init 28 = .ok (.putfield 24, 3) := by decide +kernel
theorem dX0_init_31 : decode cX0_init 31 = .ok (.aload_n 0, 1) := by decide +kernel
theorem dX0_init_32 : decode cX0_init 32 = .ok (.iload 6, 2) := by decide +kernel
theorem dX0_init_34 : decode cX0_init 34 = .ok (.putfield 27, 3) := by decide +kernel
theorem dX0_init_37 : decode cX0_init 37 = .ok (.aload_n 0, 1) := by decide +kernel
theorem dX0_init_38 : decode cX0_init 38 = .ok (.iconst 1, 1) := by decide +kernel
theorem dX0_init_39 : decode cX0_init 39 = .ok (.putfield 30, 3) := by decide +kernel
theorem dX0_init_42 : decode cX0_init 42 = .ok (.aload_n 0, 1) := by decide +kernel
theorem dX0_init_43 : decode cX0_init 43 = .ok (.iconst 0, 1) := by decide +kernel
theorem dX0_init_44 : decode cX0_init 44 = .ok (.putfield 34, 3) := by decide +kernel
theorem dX0_init_47 : decode cX0_init 47 = .ok (.return_, 1) := by decide +kernel
theorem dX0_covers_0 : decode cX0_covers 0 = .ok (.aload_n 0, 1) := by decide +kernel
theorem dX0_covers_1 : decode cX0_covers 1 = .ok (.getfield 30, 3) := by decide +kernel
theorem dX0_covers_4 : decode cX0_covers 4 = .ok (.ifCond .eq 49, 3) := by decide +kernel
theorem dX0_covers_7 : decode cX0_covers 7 = .ok (.iload_n 1, 1) := by decide +kernel
theorem dX0_covers_8 : decode cX0_covers 8 = .ok (.aload_n 0, 1) := by decide +kernel
theorem dX0_covers_9 : decode cX0_covers 9 = .ok (.getfield 9, 3) := by decide +kernel
theorem dX0_covers_12 : decode cX0_covers 12 = .ok (.if_icmp .lt 41, 3) := by decide +kernel
theorem dX0_covers_15 : decode cX0_covers 15 = .ok (.iload_n 1, 1) := by decide +kernel
theorem dX0_covers_16 : decode cX0_covers 16 = .ok (.aload_n 0, 1) := by decide +kernel
theorem dX0_covers_17 : decode cX0_covers 17 = .ok (.getfield 9, 3) := by decide +kernel
theorem dX0_covers_20 : decode cX0_covers 20 = .ok (.aload_n 0, 1) := by decide +kernel
theorem dX0_covers_21 : decode cX0_covers 21 = .ok (.getfield 18, 3) := by decide +kernel
theorem dX0_covers_24 : decode cX0_covers 24 = .ok (.iadd, 1) := by decide +kernel
theorem dX0_covers_25 : decode cX0_covers 25 = .ok (.if_icmp .ge 28, 3) := by decide +kernel
theorem dX0_covers_28 : decode cX0_covers 28 = .ok (.iload_n 2, 1) := by decide +kernel
theorem dX0_covers_29 : decode cX0_covers 29 = .ok (.aload_n 0, 1) := by decide +kernel
theorem dX0_covers_30 : decode cX0_covers 30 = .ok (.getfield 15, 3) := by decide +kernel
theorem dX0_covers_33 : decode cX0_covers 33 = .ok (.if_icmp .lt 20, 3) := by decide +kernel
theorem dX0_covers_36 : decode cX0_covers 36 = .ok (.iload_n 2, 1) := by decide +kernel
theorem dX0_covers_37 : decode cX0_covers 37 = .ok (.aload_n 0, 1) := by decide +kernel
theorem dX0_covers_38 : decode cX0_covers 38 = .ok (.getfield 15, 3) := by decide +kernel
theorem dX0_covers_41 : decode cX0_covers 41 = .ok (.aload_n 0, 1) := by decide +kernel
theorem dX0_covers_42 : decode cX0_covers 42 = .ok (.getfield 21, 3) := by decide +kernel
theorem dX0_covers_45 : decode cX0_covers 45 = .ok (.iadd, 1) := by decide +kernel
theorem dX0_covers_46 : decode cX0_covers 46 = .ok (.if_icmp .ge 7, 3) := by decide +kernel
theorem dX0_covers_49 : decode cX0_covers 49 = .ok (.iconst 1, 1) := by decide +kernel
theorem dX0_covers_50 : decode cX0_covers 50 = .ok (.goto 4, 3) := by decide +kernel
theorem dX0_covers_53 : decode cX0_covers 53 = .ok (.iconst 0, 1) := by decide +kernel
theorem dX0_covers_54 : decode cX0_covers 54 = .ok (.ireturn, 1) := by decide +kernel
theorem dX0_dripsAlongRows_0 : decode cX0_dripsAlongRows 0 = .ok (.aload_n 0, 1) := by decide +kernel
theorem dX0_dripsAlongRows_1 : decode cX0_dripsAlongRows 1 = .ok (.getfield 27, 3) := by decide +kernel
theorem dX0_dripsAlongRows_4 : decode cX0_dripsAlongRows 4 = .ok (.ifCond .eq 11, 3) := by decide +kernel
theorem dX0_dripsAlongRows_7 : decode cX0_dripsAlongRows 7 = .ok (.aload_n 0, 1) := by decide +kernel
theorem dX0_dripsAlongRows_8 : decode cX0_dripsAlongRows 8 = .ok (.getfield 27, 3) := by decide +kernel
theorem dX0_dripsAlongRows_11 : decode cX0_dripsAlongRows 11 = .ok (.iconst 2, 1) := by decide +kernel
theorem dX0_dripsAlongRows_12 : decode cX0_dripsAlongRows 12 = .ok (.if_icmp .ne 7, 3) := by decide +kernel
theorem dX0_dripsAlongRows_15 : decode cX0_dripsAlongRows 15 = .ok (.iconst 1, 1) := by decide +kernel
theorem dX0_dripsAlongRows_16 : decode cX0_dripsAlongRows 16 = .ok (.goto 4, 3) := by decide +kernel
theorem dX0_dripsAlongRows_19 : decode cX0_dripsAlongRows 19 = .ok (.iconst 0, 1) := by decide +kernel
theorem dX0_dripsAlongRows_20 : decode cX0_dripsAlongRows 20 = .ok (.ireturn, 1) := by decide +kernel
theorem dX0_cellsBeyond_0 : decode cX0_cellsBeyond 0 = .ok (.aload_n 0, 1) := by decide +kernel
theorem dX0_cellsBeyond_1 : decode cX0_cellsBeyond 1 = .ok (.invokevirtual 37, 3) := by decide +kernel
theorem dX0_cellsBeyond_4 : decode cX0_cellsBeyond 4 = .ok (.ifCond .eq 10, 3) := by decide +kernel
theorem dX0_cellsBeyond_7 : decode cX0_cellsBeyond 7 = .ok (.aload_n 0, 1) := by decide +kernel
theorem dX0_cellsBeyond_8 : decode cX0_cellsBeyond 8 = .ok (.getfield 21, 3) := by decide +kernel
theorem dX0_cellsBeyond_11 : decode cX0_cellsBeyond 11 = .ok (.goto 7, 3) := by decide +kernel
theorem dX0_cellsBeyond_14 : decode cX0_cellsBeyond 14 = .ok (.aload_n 0, 1) := by decide +kernel
theorem dX0_cellsBeyond_15 : decode cX0_cellsBeyond 15 = .ok (.getfield 18, 3) := by decide +kernel
theorem dX0_cellsBeyond_18 : decode cX0_cellsBeyond 18 = .ok (.ireturn, 1) := by decide +kernel
theorem dX0_columnBeyond_0 : decode cX0_columnBeyond 0 = .ok (.aload_n 0, 1) := by decide +kernel
theorem dX0_columnBeyond_1 : decode cX0_columnBeyond 1 = .ok (.invokevirtual 37, 3) := by decide +kernel
theorem dX0_columnBeyond_4 : decode cX0_columnBeyond 4 = .ok (.ifCond .eq 29, 3) := by decide +kernel
theorem dX0_columnBeyond_7 : decode cX0_columnBeyond 7 = .ok (.aload_n 0, 1) := by decide +kernel
theorem dX0_columnBeyond_8 : decode cX0_columnBeyond 8 = .ok (.getfield 27, 3) := by decide +kernel
theorem dX0_columnBeyond_11 : decode cX0_columnBeyond 11 = .ok (.ifCond .ne 12, 3) := by decide +kernel
theorem dX0_columnBeyond_14 : decode cX0_columnBeyond 14 = .ok (.aload_n 0, 1) := by decide +kernel
theorem dX0_columnBeyond_15 : decode cX0_columnBeyond 15 = .ok (.getfield 9, 3) := by decide +kernel
theorem dX0_columnBeyond_18 : decode cX0_columnBeyond 18 = .ok (.iconst 1, 1) := by decide +kernel
theorem dX0_columnBeyond_19 : decode cX0_columnBeyond 19 = .ok (.isub, 1) := by decide +kernel
theorem dX0_columnBeyond_20 : decode cX0_columnBeyond 20 = .ok (.goto 12, 3) := by decide +kernel
theorem dX0_columnBeyond_23 : decode cX0_columnBeyond 23 = .ok (.aload_n 0, 1) := by decide +kernel
theorem dX0_columnBeyond_24 : decode cX0_columnBeyond 24 = .ok (.getfield 9, 3) := by decide +kernel
theorem dX0_columnBeyond_27 : decode cX0_columnBeyond 27 = .ok (.aload_n 0, 1) := by decide +kernel
theorem dX0_columnBeyond_28 : decode cX0_columnBeyond 28 = .ok (.getfield 18, 3) := by decide +kernel
theorem dX0_columnBeyond_31 : decode cX0_columnBeyond 31 = .ok (.iadd, 1) := by decide +kernel
theorem dX0_columnBeyond_32 : decode cX0_columnBeyond 32 = .ok (.ireturn, 1) := by decide +kernel
theorem dX0_columnBeyond_33 : decode cX0_columnBeyond 33 = .ok (.aload_n 0, 1) := by decide +kernel
theorem dX0_columnBeyond_34 : decode cX0_columnBeyond 34 = .ok (.getfield 9, 3) := by decide +kernel
theorem dX0_columnBeyond_37 : decode cX0_columnBeyond 37 = .ok (.iload_n 1, 1) := by decide +kernel
theorem dX0_columnBeyond_38 : decode cX0_columnBeyond 38 = .ok (.iadd, 1) := by decide +kernel
theorem dX0_columnBeyond_39 : decode cX0_columnBeyond 39 = .ok (.ireturn, 1) := by decide +kernel
theorem dX0_rowBeyond_0 : decode cX0_rowBeyond 0 = .ok (.aload_n 0, 1) := by decide +kernel
theorem dX0_rowBeyond_1 : decode cX0_rowBeyond 1 = .ok (.invokevirtual 37, 3) := by decide +kernel
theorem dX0_rowBeyond_4 : decode cX0_rowBeyond 4 = .ok (.ifCond .eq 10, 3) := by decide +kernel
theorem dX0_rowBeyond_7 : decode cX0_rowBeyond 7 = .ok (.aload_n 0, 1) := by decide +kernel
theorem dX0_rowBeyond_8 : decode cX0_rowBeyond 8 = .ok (.getfield 15, 3) := by decide +kernel
theorem dX0_rowBeyond_11 : decode cX0_rowBeyond 11 = .ok (.iload_n 1, 1) := by decide +kernel
theorem dX0_rowBeyond_12 : decode cX0_rowBeyond 12 = .ok (.iadd, 1) := by decide +kernel
theorem dX0_rowBeyond_13 : decode cX0_rowBeyond 13 = .ok (.ireturn, 1) := by decide +kernel
theorem dX0_rowBeyond_14 : decode cX0_rowBeyond 14 = .ok (.aload_n 0, 1) := by decide +kernel
theorem dX0_rowBeyond_15 : decode cX0_rowBeyond 15 = .ok (.getfield 27, 3) := by decide +kernel
theorem dX0_rowBeyond_18 : decode cX0_rowBeyond 18 = .ok (.iconst 1, 1) := by decide +kernel
theorem dX0_rowBeyond_19 : decode cX0_rowBeyond 19 = .ok (.if_icmp .ne 12, 3) := by decide +kernel
theorem dX0_rowBeyond_22 : decode cX0_rowBeyond 22 = .ok (.aload_n 0, 1) := by decide +kernel
theorem dX0_rowBeyond_23 : decode cX0_rowBeyond 23 = .ok (.getfield 15, 3) := by decide +kernel
theorem dX0_rowBeyond_26 : decode cX0_rowBeyond 26 = .ok (.iconst 1, 1) := by decide +kernel
theorem dX0_rowBeyond_27 : decode cX0_rowBeyond 27 = .ok (.isub, 1) := by decide +kernel
theorem dX0_rowBeyond_28 : decode cX0_rowBeyond 28 = .ok (.goto 12, 3) := by decide +kernel
theorem dX0_rowBeyond_31 : decode cX0_rowBeyond 31 = .ok (.aload_n 0, 1) := by decide +kernel
theorem dX0_rowBeyond_32 : decode cX0_rowBeyond 32 = .ok (.getfield 15, 3) := by decide +kernel
theorem dX0_rowBeyond_35 : decode cX0_rowBeyond 35 = .ok (.aload_n 0, 1) := by decide +kernel
theorem dX0_rowBeyond_36 : decode cX0_rowBeyond 36 = .ok (.getfield 21, 3) := by decide +kernel
theorem dX0_rowBeyond_39 : decode cX0_rowBeyond 39 = .ok (.iadd, 1) := by decide +kernel
theorem dX0_rowBeyond_40 : decode cX0_rowBeyond 40 = .ok (.ireturn, 1) := by decide +kernel
theorem dX1_init_0 : decode cX1_init 0 = .ok (.aload_n 0, 1) := by decide +kernel
theorem dX1_init_1 : decode cX1_init 1 = .ok (.invokespecial 3, 3) := by decide +kernel
theorem dX1_init_4 : decode cX1_init 4 = .ok (.aload_n 0, 1) := by decide +kernel
theorem dX1_init_5 : decode cX1_init 5 = .ok (.new 9, 3) := by decide +kernel
theorem dX1_init_8 : decode cX1_init 8 = .ok (.dup, 1) := by decide +kernel
theorem dX1_init_9 : decode cX1_init 9 = .ok (.invokespecial 11, 3) := by decide +kernel
theorem dX1_init_12 : decode cX1_init 12 = .ok (.putfield 12, 3) := by decide +kernel
theorem dX1_init_15 : decode cX1_init 15 = .ok (.aload_n 0, 1) := by decide +kernel
theorem dX1_init_16 : decode cX1_init 16 = .ok (.sipush 576, 3) := by decide +kernel
theorem dX1_init_19 : decode cX1_init 19 = .ok (.newarray .int, 2) := by decide +kernel
theorem dX1_init_21 : decode cX1_init 21 = .ok (.putfield 18, 3) := by decide +kernel
theorem dX1_init_24 : decode cX1_init 24 = .ok (.aload_n 0, 1) := by decide +kernel
theorem dX1_init_25 : decode cX1_init 25 = .ok (.sipush 576, 3) := by decide +kernel
theorem dX1_init_28 : decode cX1_init 28 = .ok (.newarray .int, 2) := by decide +kernel
theorem dX1_init_30 : decode cX1_init 30 = .ok (.putfield 22, 3) := by decide +kernel
theorem dX1_init_33 : decode cX1_init 33 = .ok (.aload_n 0, 1) := by decide +kernel
theorem dX1_init_34 : decode cX1_init 34 = .ok (.sipush 576, 3) := by decide +kernel
theorem dX1_init_37 : decode cX1_init 37 = .ok (.newarray .int, 2) := by decide +kernel
theorem dX1_init_39 : decode cX1_init 39 = .ok (.putfield 25, 3) := by decide +kernel
theorem dX1_init_42 : decode cX1_init 42 = .ok (.aload_n 0, 1) := by decide +kernel
theorem dX1_init_43 : decode cX1_init 43 = .ok (.iconst 0, 1) := by decide +kernel
theorem dX1_init_44 : decode cX1_init 44 = .ok (.putfield 28, 3) := by decide +kernel
theorem dX1_init_47 : decode cX1_init 47 = .ok (.return_, 1) := by decide +kernel
theorem dX1_size_0 : decode cX1_size 0 = .ok (.aload_n 0, 1) := by decide +kernel
theorem dX1_size_1 : decode cX1_size 1 = .ok (.getfield 12, 3) := by decide +kernel
theorem dX1_size_4 : decode cX1_size 4 = .ok (.invokevirtual 32, 3) := by decide +kernel
theorem dX1_size_7 : decode cX1_size 7 = .ok (.ireturn, 1) := by decide +kernel
theorem dX1_sizeOut_0 : decode cX1_sizeOut 0 = .ok (.iconst 0, 1) := by decide +kernel
theorem dX1_sizeOut_1 : decode cX1_sizeOut 1 = .ok (.istore_n 1, 1) := by decide +kernel
theorem dX1_sizeOut_2 : decode cX1_sizeOut 2 = .ok (.iconst 0, 1) := by decide +kernel
theorem dX1_sizeOut_3 : decode cX1_sizeOut 3 = .ok (.istore_n 2, 1) := by decide +kernel
theorem dX1_sizeOut_4 : decode cX1_sizeOut 4 = .ok (.iload_n 2, 1) := by decide +kernel
theorem dX1_sizeOut_5 : decode cX1_sizeOut 5 = .ok (.aload_n 0, 1) := by decide +kernel
theorem dX1_sizeOut_6 : decode cX1_sizeOut 6 = .ok (.getfield 12, 3) := by decide +kernel
theorem dX1_sizeOut_9 : decode cX1_sizeOut 9 = .ok (.invokevirtual 32, 3) := by decide +kernel
theorem dX1_sizeOut_12 : decode cX1_sizeOut 12 = .ok (.if_icmp .ge 29, 3) := by decide +kernel
theorem dX1_sizeOut_15 : decode cX1_sizeOut 15 = .ok (.aload_n 0, 1) := by decide +kernel
theorem dX1_sizeOut_16 : decode cX1_sizeOut 16 = .ok (.getfield 12, 3) := by decide +kernel
theorem dX1_sizeOut_19 : decode cX1_sizeOut 19 = .ok (.iload_n 2, 1) := by decide +kernel
theorem dX1_sizeOut_20 : decode cX1_sizeOut 20 = .ok (.invokevirtual 36, 3) := by decide +kernel
theorem dX1_sizeOut_23 : decode cX1_sizeOut 23 = .ok (.checkcast 40, 3) := by decide +kernel
theorem dX1_sizeOut_26 : decode cX1_sizeOut 26 = .ok (.getfield 42, 3) := by decide +kernel
theorem dX1_sizeOut_29 : decode cX1_sizeOut 29 = .ok (.ifCond .eq 6, 3) := by decide +kernel
theorem dX1_sizeOut_32 : decode cX1_sizeOut 32 = .ok (.iinc 1 1, 3) := by decide +kernel
theorem dX1_sizeOut_35 : decode cX1_sizeOut 35 = .ok (.iinc 2 1, 3) := by decide +kernel
theorem dX1_sizeOut_38 : decode cX1_sizeOut 38 = .ok (.goto (-34), 3) := by decide +kernel
theorem dX1_sizeOut_41 : decode cX1_sizeOut 41 = .ok (.iload_n 1, 1) := by decide +kernel
theorem dX1_sizeOut_42 : decode cX1_sizeOut 42 = .ok (.ireturn, 1) := by decide +kernel
theorem dX1_numbered_0 : decode cX1_numbered 0 = .ok (.iload_n 1, 1) := by decide +kernel
theorem dX1_numbered_1 : decode cX1_numbered 1 = .ok (.ifCond .lt 14, 3) := by decide +kernel
theorem dX1_numbered_4 : decode cX1_numbered 4 = .ok (.iload_n 1, 1) := by decide +kernel
theorem dX1_numbered_5 : decode cX1_numbered 5 = .ok (.aload_n 0, 1) := by decide +kernel
theorem dX1_numbered_6 : decode cX1_numbered 6 = .ok (.getfield 12, 3) := by decide +kernel
theorem dX1_numbered_9 : decode cX1_numbered 9 = .ok (.invokevirtual 32, 3) := by decide +kernel
theorem dX1_numbered_12 : decode cX1_numbered 12 = .ok (.if_icmp .lt 13, 3) := by decide +kernel
theorem dX1_numbered_15 : decode cX1_numbered 15 = .ok (.new 46, 3) := by decide +kernel
theorem dX1_numbered_18 : decode cX1_numbered 18 = .ok (.dup, 1) := by decide +kernel
theorem dX1_numbered_19 : decode cX1_numbered 19 = .ok (.ldc 48, 2) := by decide +kernel
theorem dX1_numbered_21 : decode cX1_numbered 21 = .ok (.invokespecial 50, 3) := by decide +kernel
theorem dX1_numbered_24 : decode cX1_numbered 24 = .ok (.athrow, 1) := by decide +kernel
theorem dX1_numbered_25 : decode cX1_numbered 25 = .ok (.aload_n 0, 1) := by decide +kernel
theorem dX1_numbered_26 : decode cX1_numbered 26 = .ok (.getfield 12, 3) := by decide +kernel
theorem dX1_numbered_29 : decode cX1_numbered 29 = .ok (.iload_n 1, 1) := by decide +kernel
theorem dX1_numbered_30 : decode cX1_numbered 30 = .ok (.invokevirtual 36, 3) := by decide +kernel
theorem dX1_numbered_33 : decode cX1_numbered 33 = .ok (.checkcast 40, 3) := by decide +kernel
theorem dX1_numbered_36 : decode cX1_numbered 36 = .ok (.areturn, 1) := by decide +kernel
theorem dX1_append_0 : decode cX1_append 0 = .ok (.aload_n 0, 1) := by decide +kernel
theorem dX1_append_1 : decode cX1_append 1 = .ok (.getfield 12, 3) := by decide +kernel
theorem dX1_append_4 : decode cX1_append 4 = .ok (.aload_n 1, 1) := by decide +kernel
theorem dX1_append_5 : decode cX1_append 5 = .ok (.invokevirtual 53, 3) := by decide +kernel
theorem dX1_append_8 : decode cX1_append 8 = .ok (.pop, 1) := by decide +kernel
theorem dX1_append_9 : decode cX1_append 9 = .ok (.aload_n 0, 1) := by decide +kernel
theorem dX1_append_10 : decode cX1_append 10 = .ok (.invokevirtual 57, 3) := by decide +kernel
theorem dX1_append_13 : decode cX1_append 13 = .ok (.return_, 1) := by decide +kernel
theorem dX1_drop_0 : decode cX1_drop 0 = .ok (.iload_n 1, 1) := by decide +kernel
theorem dX1_drop_1 : decode cX1_drop 1 = .ok (.ifCond .lt 14, 3) := by decide +kernel
theorem dX1_drop_4 : decode cX1_drop 4 = .ok (.iload_n 1, 1) := by decide +kernel
theorem dX1_drop_5 : decode cX1_drop 5 = .ok (.aload_n 0, 1) := by decide +kernel
theorem dX1_drop_6 : decode cX1_drop 6 = .ok (.getfield 12, 3) := by decide +kernel
theorem dX1_drop_9 : decode cX1_drop 9 = .ok (.invokevirtual 32, 3) := by decide +kernel
theorem dX1_drop_12 : decode cX1_drop 12 = .ok (.if_icmp .lt 13, 3) := by decide +kernel
theorem dX1_drop_15 : decode cX1_drop 15 = .ok (.new 46, 3) := by decide +kernel
theorem dX1_drop_18 : decode cX1_drop 18 = .ok (.dup, 1) := by decide +kernel
theorem dX1_drop_19 : decode cX1_drop 19 = .ok (.ldc 48, 2) := by decide +kernel
theorem dX1_drop_21 : decode cX1_drop 21 = .ok (.invokespecial 50, 3) := by decide +kernel
theorem dX1_drop_24 : decode cX1_drop 24 = .ok (.athrow, 1) := by decide +kernel
theorem dX1_drop_25 : decode cX1_drop 25 = .ok (.aload_n 0, 1) := by decide +kernel
theorem dX1_drop_26 : decode cX1_drop 26 = .ok (.getfield 12, 3) := by decide +kernel
theorem dX1_drop_29 : decode cX1_drop 29 = .ok (.iload_n 1, 1) := by decide +kernel
theorem dX1_drop_30 : decode cX1_drop 30 = .ok (.invokevirtual 60, 3) := by decide +kernel
theorem dX1_drop_33 : decode cX1_drop 33 = .ok (.pop, 1) := by decide +kernel
theorem dX1_drop_34 : decode cX1_drop 34 = .ok (.aload_n 0, 1) := by decide +kernel
theorem dX1_drop_35 : decode cX1_drop 35 = .ok (.invokevirtual 57, 3) := by decide +kernel
theorem dX1_drop_38 : decode cX1_drop 38 = .ok (.return_, 1) := by decide +kernel
theorem dX1_layOut_0 : decode cX1_layOut 0 = .ok (.aload_n 0, 1) := by decide +kernel
theorem dX1_layOut_1 : decode cX1_layOut 1 = .ok (.getfield 18, 3) := by decide +kernel
theorem dX1_layOut_4 : decode cX1_layOut 4 = .ok (.iconst 0, 1) := by decide +kernel
theorem dX1_layOut_5 : decode cX1_layOut 5 = .ok (.invokestatic 63, 3) := by decide +kernel
theorem dX1_layOut_8 : decode cX1_layOut 8 = .ok (.iconst 0, 1) := by decide +kernel
theorem dX1_layOut_9 : decode cX1_layOut 9 = .ok (.istore_n 1, 1) := by decide +kernel
theorem dX1_layOut_10 : decode cX1_layOut 10 = .ok (.iload_n 1, 1) := by decide +kernel
theorem dX1_layOut_11 : decode cX1_layOut 11 = .ok (.aload_n 0, 1) := by decide +kernel
theorem dX1_layOut_12 : decode cX1_layOut 12 = .ok (.getfield 12, 3) := by decide +kernel
theorem dX1_layOut_15 : decode cX1_layOut 15 = .ok (.invokevirtual 32, 3) := by decide +kernel
theorem dX1_layOut_18 : decode cX1_layOut 18 = .ok (.if_icmp .ge 41, 3) := by decide +kernel
theorem dX1_layOut_21 : decode cX1_layOut 21 = .ok (.aload_n 0, 1) := by decide +kernel
theorem dX1_layOut_22 : decode cX1_layOut 22 = .ok (.getfield 12, 3) := by decide +kernel
theorem dX1_layOut_25 : decode cX1_layOut 25 = .ok (.iload_n 1, 1) := by decide +kernel
theorem dX1_layOut_26 : decode cX1_layOut 26 = .ok (.invokevirtual 36, 3) := by decide +kernel
theorem dX1_layOut_29 : decode cX1_layOut 29 = .ok (.checkcast 40, 3) := by decide +kernel
theorem dX1_layOut_32 : decode cX1_layOut 32 = .ok (.getfield 42, 3) := by decide +kernel
theorem dX1_layOut_35 : decode cX1_layOut 35 = .ok (.ifCond .eq 18, 3) := by decide +kernel
theorem dX1_layOut_38 : decode cX1_layOut 38 = .ok (.aload_n 0, 1) := by decide +kernel
theorem dX1_layOut_39 : decode cX1_layOut 39 = .ok (.aload_n 0, 1) := by decide +kernel
theorem dX1_layOut_40 : decode cX1_layOut 40 = .ok (.getfield 12, 3) := by decide +kernel
theorem dX1_layOut_43 : decode cX1_layOut 43 = .ok (.iload_n 1, 1) := by decide +kernel
theorem dX1_layOut_44 : decode cX1_layOut 44 = .ok (.invokevirtual 36, 3) := by decide +kernel
theorem dX1_layOut_47 : decode cX1_layOut 47 = .ok (.checkcast 40, 3) := by decide +kernel
theorem dX1_layOut_50 : decode cX1_layOut 50 = .ok (.invokevirtual 69, 3) := by decide +kernel
theorem dX1_layOut_53 : decode cX1_layOut 53 = .ok (.iinc 1 1, 3) := by decide +kernel
theorem dX1_layOut_56 : decode cX1_layOut 56 = .ok (.goto (-46), 3) := by decide +kernel
theorem dX1_layOut_59 : decode cX1_layOut 59 = .ok (.return_, 1) := by decide +kernel
theorem dX1_layOver_0 : decode cX1_layOver 0 = .ok (.aload_n 1, 1) := by decide +kernel
theorem dX1_layOver_1 : decode cX1_layOver 1 = .ok (.getfield 73, 3) := by decide +kernel
theorem dX1_layOver_4 : decode cX1_layOver 4 = .ok (.istore_n 2, 1) := by decide +kernel
theorem dX1_layOver_5 : decode cX1_layOver 5 = .ok (.iload_n 2, 1) := by decide +kernel
theorem dX1_layOver_6 : decode cX1_layOver 6 = .ok (.aload_n 1, 1) := by decide +kernel
theorem dX1_layOver_7 : decode cX1_layOver 7 = .ok (.getfield 73, 3) := by decide +kernel
theorem dX1_layOver_10 : decode cX1_layOver 10 = .ok (.aload_n 1, 1) := by decide +kernel
theorem dX1_layOver_11 : decode cX1_layOver 11 = .ok (.getfield 76, 3) := by decide +kernel
theorem dX1_layOver_14 : decode cX1_layOver 14 = .ok (.iadd, 1) := by decide +kernel
theorem dX1_layOver_15 : decode cX1_layOver 15 = .ok (.if_icmp .ge 56, 3) := by decide +kernel
theorem dX1_layOver_18 : decode cX1_layOver 18 = .ok (.aload_n 1, 1) := by decide +kernel
theorem dX1_layOver_19 : decode cX1_layOver 19 = .ok (.getfield 79, 3) := by decide +kernel
theorem dX1_layOver_22 : decode cX1_layOver 22 = .ok (.istore_n 3, 1) := by decide +kernel
theorem dX1_layOver_23 : decode cX1_layOver 23 = .ok (.iload_n 3, 1) := by decide +kernel
theorem dX1_layOver_24 : decode cX1_layOver 24 = .ok (.aload_n 1, 1) := by decide +kernel
theorem dX1_layOver_25 : decode cX1_layOver 25 = .ok (.getfield 79, 3) := by decide +kernel
theorem dX1_layOver_28 : decode cX1_layOver 28 = .ok (.aload_n 1, 1) := by decide +kernel
theorem dX1_layOver_29 : decode cX1_layOver 29 = .ok (.getfield 82, 3) := by decide +kernel
theorem dX1_layOver_32 : decode cX1_layOver 32 = .ok (.iadd, 1) := by decide +kernel
theorem dX1_layOver_33 : decode cX1_layOver 33 = .ok (.if_icmp .ge 32, 3) := by decide +kernel
theorem dX1_layOver_36 : decode cX1_layOver 36 = .ok (.iload_n 3, 1) := by decide +kernel
theorem dX1_layOver_37 : decode cX1_layOver 37 = .ok (.iload_n 2, 1) := by decide +kernel
theorem dX1_layOver_38 : decode cX1_layOver 38 = .ok (.invokestatic 85, 3) := by decide +kernel
theorem dX1_layOver_41 : decode cX1_layOver 41 = .ok (.ifCond .eq 18, 3) := by decide +kernel
theorem dX1_layOver_44 : decode cX1_layOver 44 = .ok (.aload_n 0, 1) := by decide +kernel
theorem dX1_layOver_45 : decode cX1_layOver 45 = .ok (.getfield 18, 3) := by decide +kernel
theorem dX1_layOver_48 : decode cX1_layOver 48 = .ok (.iload_n 2, 1) := by decide +kernel
theorem dX1_layOver_49 : decode cX1_layOver 49 = .ok (.bipush 24, 2) := by decide +kernel
theorem dX1_layOver_51 : decode cX1_layOver 51 = .ok (.imul, 1) := by decide +kernel
theorem dX1_layOver_52 : decode cX1_layOver 52 = .ok (.iload_n 3, 1) := by decide +kernel
theorem dX1_layOver_53 : decode cX1_layOver 53 = .ok (.iadd, 1) := by decide +kernel
theorem dX1_layOver_54 : decode cX1_layOver 54 = .ok (.dup2, 1) := by decide +kernel
theorem dX1_layOver_55 : decode cX1_layOver 55 = .ok (.iaload, 1) := by decide +kernel
theorem dX1_layOver_56 : decode cX1_layOver 56 = .ok (.iconst 1, 1) := by decide +kernel
theorem dX1_layOver_57 : decode cX1_layOver 57 = .ok (.iadd, 1) := by decide +kernel
theorem dX1_layOver_58 : decode cX1_layOver 58 = .ok (.iastore, 1) := by decide +kernel
theorem dX1_layOver_59 : decode cX1_layOver 59 = .ok (.iinc 3 1, 3) := by decide +kernel
theorem dX1_layOver_62 : decode cX1_layOver 62 = .ok (.goto (-39), 3) := by decide +kernel
theorem dX1_layOver_65 : decode cX1_layOver 65 = .ok (.iinc 2 1, 3) := by decide +kernel
theorem dX1_layOver_68 : decode cX1_layOver 68 = .ok (.goto (-63), 3) := by decide +kernel
theorem dX1_layOver_71 : decode cX1_layOver 71 = .ok (.return_, 1) := by decide +kernel
theorem dX1_layersAt_0 : decode cX1_layersAt 0 = .ok (.iload_n 1, 1) := by decide +kernel
theorem dX1_layersAt_1 : decode cX1_layersAt 1 = .ok (.iload_n 2, 1) := by decide +kernel
theorem dX1_layersAt_2 : decode cX1_layersAt 2 = .ok (.invokestatic 85, 3) := by decide +kernel
theorem dX1_layersAt_5 : decode cX1_layersAt 5 = .ok (.ifCond .eq 17, 3) := by decide +kernel
theorem dX1_layersAt_8 : decode cX1_layersAt 8 = .ok (.aload_n 0, 1) := by decide +kernel
theorem dX1_layersAt_9 : decode cX1_layersAt 9 = .ok (.getfield 18, 3) := by decide +kernel
theorem dX1_layersAt_12 : decode cX1_layersAt 12 = .ok (.iload_n 2, 1) := by decide +kernel
theorem dX1_layersAt_13 : decode cX1_layersAt 13 = .ok (.bipush 24, 2) := by decide +kernel
theorem dX1_layersAt_15 : decode cX1_layersAt 15 = .ok (.imul, 1) := by decide +kernel
theorem dX1_layersAt_16 : decode cX1_layersAt 16 = .ok (.iload_n 1, 1) := by decide +kernel
theorem dX1_layersAt_17 : decode cX1_layersAt 17 = .ok (.iadd, 1) := by decide +kernel
theorem dX1_layersAt_18 : decode cX1_layersAt 18 = .ok (.iaload, 1) := by decide +kernel
theorem dX1_layersAt_19 : decode cX1_layersAt 19 = .ok (.goto 4, 3) := by decide +kernel
theorem dX1_layersAt_22 : decode cX1_layersAt 22 = .ok (.iconst 0, 1) := by decide +kernel
theorem dX1_layersAt_23 : decode cX1_layersAt 23 = .ok (.ireturn, 1) := by decide +kernel
theorem dX1_highestBelow_0 : decode cX1_highestBelow 0 = .ok (.iconst (-1), 1) := by decide +kernel
theorem dX1_highestBelow_1 : decode cX1_highestBelow 1 = .ok (.istore 4, 2) := by decide +kernel
theorem dX1_highestBelow_3 : decode cX1_highestBelow 3 = .ok (.iconst 0, 1) := by decide +kernel
theorem dX1_highestBelow_4 : decode cX1_highestBelow 4 = .ok (.istore 5, 2) := by decide +kernel
theorem dX1_highestBelow_6 : decode cX1_highestBelow 6 = .ok (.iconst 0, 1) := by decide +kernel
theorem dX1_highestBelow_7 : decode cX1_highestBelow 7 = .ok (.istore 6, 2) := by decide +kernel
theorem dX1_highestBelow_9 : decode cX1_highestBelow 9 = .ok (.iload 6, 2) := by decide +kernel
theorem dX1_highestBelow_11 : decode cX1_highestBelow 11 = .ok (.aload_n 0, 1) := by decide +kernel
theorem dX1_highestBelow_12 : decode cX1_highestBelow 12 = .ok (.getfield 12, 3) := by decide +kernel
theorem dX1_highestBelow_15 : decode cX1_highestBelow 15 = .ok (.invokevirtual 32, 3) := by decide +kernel
theorem dX1_highestBelow_18 : decode cX1_highestBelow 18 = .ok (.if_icmp .ge 63, 3) := by decide +kernel
theorem dX1_highestBelow_21 : decode cX1_highestBelow 21 = .ok (.aload_n 0, 1) := by decide +kernel
theorem dX1_highestBelow_22 : decode cX1_highestBelow 22 = .ok (.getfield 12, 3) := by decide +kernel
theorem dX1_highestBelow_25 : decode cX1_highestBelow 25 = .ok (.iload 6, 2) := by decide +kernel
theorem dX1_highestBelow_27 : decode cX1_highestBelow 27 = .ok (.invokevirtual 36, 3) := by decide +kernel
theorem dX1_highestBelow_30 : decode cX1_highestBelow 30 = .ok (.checkcast 40, 3) := by decide +kernel
theorem dX1_highestBelow_33 : decode cX1_highestBelow 33 = .ok (.astore 7, 2) := by decide +kernel
theorem dX1_highestBelow_35 : decode cX1_highestBelow 35 = .ok (.aload 7, 2) := by decide +kernel
theorem dX1_highestBelow_37 : decode cX1_highestBelow 37 = .ok (.getfield 89, 3) := by decide +kernel
theorem dX1_highestBelow_40 : decode cX1_highestBelow 40 = .ok (.iload_n 1, 1) := by decide +kernel
theorem dX1_highestBelow_41 : decode cX1_highestBelow 41 = .ok (.if_icmp .ge 34, 3) := by decide +kernel
theorem dX1_highestBelow_44 : decode cX1_highestBelow 44 = .ok (.aload 7, 2) := by decide +kernel
theorem dX1_highestBelow_46 : decode cX1_highestBelow 46 = .ok (.getfield 89, 3) := by decide +kernel
theorem dX1_highestBelow_49 : decode cX1_highestBelow 49 = .ok (.iload 5, 2) := by decide +kernel
theorem dX1_highestBelow_51 : decode cX1_highestBelow 51 = .ok (.if_icmp .le 24, 3) := by decide +kernel
theorem dX1_highestBelow_54 : decode cX1_highestBelow 54 = .ok (.aload 7, 2) := by decide +kernel
theorem dX1_highestBelow_56 : decode cX1_highestBelow 56 = .ok (.iload_n 2, 1) := by decide +kernel
theorem dX1_highestBelow_57 : decode cX1_highestBelow 57 = .ok (.iload_n 3, 1) := by decide +kernel
theorem dX1_highestBelow_58 : decode cX1_highestBelow 58 = .ok (.invokevirtual 92, 3) := by decide +kernel
theorem dX1_highestBelow_61 : decode cX1_highestBelow 61 = .ok (.ifCond .eq 14, 3) := by decide +kernel
theorem dX1_highestBelow_64 : decode cX1_highestBelow 64 = .ok (.iload 6, 2) := by decide +kernel
theorem dX1_highestBelow_66 : decode cX1_highestBelow 66 = .ok (.istore 4, 2) := by decide +kernel
theorem dX1_highestBelow_68 : decode cX1_highestBelow 68 = .ok (.aload 7, 2) := by decide +kernel
theorem dX1_highestBelow_70 : decode cX1_highestBelow 70 = .ok (.getfield 89, 3) := by decide +kernel
theorem dX1_highestBelow_73 : decode cX1_highestBelow 73 = .ok (.istore 5, 2) := by decide +kernel
theorem dX1_highestBelow_75 : decode cX1_highestBelow 75 = .ok (.iinc 6 1, 3) := by decide +kernel
theorem dX1_highestBelow_78 : decode cX1_highestBelow 78 = .ok (.goto (-69), 3) := by decide +kernel
theorem dX1_highestBelow_81 : decode cX1_highestBelow 81 = .ok (.iload 4, 2) := by decide +kernel
theorem dX1_highestBelow_83 : decode cX1_highestBelow 83 = .ok (.ireturn, 1) := by decide +kernel
theorem dX1_covered_0 : decode cX1_covered 0 = .ok (.aload_n 0, 1) := by decide +kernel
theorem dX1_covered_1 : decode cX1_covered 1 = .ok (.iconst 1, 1) := by decide +kernel
theorem dX1_covered_2 : decode cX1_covered 2 = .ok (.invokevirtual 95, 3) := by decide +kernel
theorem dX1_covered_5 : decode cX1_covered 5 = .ok (.ireturn, 1) := by decide +kernel
theorem dX1_cellsWithLayers_0 : decode cX1_cellsWithLayers 0 = .ok (.iconst 0, 1) := by decide +kernel
theorem dX1_cellsWithLayers_1 : decode cX1_cellsWithLayers 1 = .ok (.istore_n 2, 1) := by decide +kernel
theorem dX1_cellsWithLayers_2 : decode cX1_cellsWithLayers 2 = .ok (.iconst 0, 1) := by decide +kernel
theorem dX1_cellsWithLayers_3 : decode cX1_cellsWithLayers 3 = .ok (.istore_n 3, 1) := by decide +kernel
theorem dX1_cellsWithLayers_4 : decode cX1_cellsWithLayers 4 = .ok (.iload_n 3, 1) := by decide +kernel
theorem dX1_cellsWithLayers_5 : decode cX1_cellsWithLayers 5 = .ok (.sipush 576, 3) := by decide +kernel
theorem dX1_cellsWithLayers_8 : decode cX1_cellsWithLayers 8 = .ok (.if_icmp .ge 22, 3) := by decide +kernel
theorem dX1_cellsWithLayers_11 : decode cX1_cellsWithLayers 11 = .ok (.aload_n 0, 1) := by decide +kernel
theorem dX1_cellsWithLayers_12 : decode cX1_cellsWithLayers 12 = .ok (.getfield 18, 3) := by decide +kernel
theorem dX1_cellsWithLayers_15 : decode cX1_cellsWithLayers 15 = .ok (.iload_n 3, 1) := by decide +kernel
theorem dX1_cellsWithLayers_16 : decode cX1_cellsWithLayers 16 = .ok (.iaload, 1) := by decide +kernel
theorem dX1_cellsWithLayers_17 : decode cX1_cellsWithLayers 17 = .ok (.iload_n 1, 1) := by decide +kernel
theorem dX1_cellsWithLayers_18 : decode cX1_cellsWithLayers 18 = .ok (.if_icmp .lt 6, 3) := by decide +kernel
theorem dX1_cellsWithLayers_21 : decode cX1_cellsWithLayers 21 = .ok (.iinc 2 1, 3) := by decide +kernel
theorem dX1_cellsWithLayers_24 : decode cX1_cellsWithLayers 24 = .ok (.iinc 3 1, 3) := by decide +kernel
theorem dX1_cellsWithLayers_27 : decode cX1_cellsWithLayers 27 = .ok (.goto (-23), 3) := by decide +kernel
theorem dX1_cellsWithLayers_30 : decode cX1_cellsWithLayers 30 = .ok (.iload_n 2, 1) := by decide +kernel
theorem dX1_cellsWithLayers_31 : decode cX1_cellsWithLayers 31 = .ok (.ireturn, 1) := by decide +kernel
theorem dX1_coveredOnlyBy_0 : decode cX1_coveredOnlyBy 0 = .ok (.aload_n 1, 1) := by decide +kernel
theorem dX1_coveredOnlyBy_1 : decode cX1_coveredOnlyBy 1 = .ok (.getfield 42, 3) := by decide +kernel
theorem dX1_coveredOnlyBy_4 : decode cX1_coveredOnlyBy 4 = .ok (.ifCond .ne 5, 3) := by decide +kernel
theorem dX1_coveredOnlyBy_7 : decode cX1_coveredOnlyBy 7 = .ok (.iconst 0, 1) := by decide +kernel
theorem dX1_coveredOnlyBy_8 : decode cX1_coveredOnlyBy 8 = .ok (.ireturn, 1) := by decide +kernel
theorem dX1_coveredOnlyBy_9 : decode cX1_coveredOnlyBy 9 = .ok (.iconst 0, 1) := by decide +kernel
theorem dX1_coveredOnlyBy_10 : decode cX1_coveredOnlyBy 10 = .ok (.istore_n 2, 1) := by decide +kernel
theorem dX1_coveredOnlyBy_11 : decode cX1_coveredOnlyBy 11 = .ok (.aload_n 1, 1) := by decide +kernel
theorem dX1_coveredOnlyBy_12 : decode cX1_coveredOnlyBy 12 = .ok (.getfield 73, 3) := by decide +kernel
theorem dX1_coveredOnlyBy_15 : decode cX1_coveredOnlyBy 15 = .ok (.istore_n 3, 1) := by decide +kernel
theorem dX1_coveredOnlyBy_16 : decode cX1_coveredOnlyBy 16 = .ok (.iload_n 3, 1) := by decide +kernel
theorem dX1_coveredOnlyBy_17 : decode cX1_coveredOnlyBy 17 = .ok (.aload_n 1, 1) := by decide +kernel
theorem dX1_coveredOnlyBy_18 : decode cX1_coveredOnlyBy 18 = .ok (.getfield 73, 3) := by decide +kernel
theorem dX1_coveredOnlyBy_21 : decode cX1_coveredOnlyBy 21 = .ok (.aload_n 1, 1) := by decide +kernel
theorem dX1_coveredOnlyBy_22 : decode cX1_coveredOnlyBy 22 = .ok (.getfield 76, 3) := by decide +kernel
theorem dX1_coveredOnlyBy_25 : decode cX1_coveredOnlyBy 25 = .ok (.iadd, 1) := by decide +kernel
theorem dX1_coveredOnlyBy_26 : decode cX1_coveredOnlyBy 26 = .ok (.if_icmp .ge 49, 3) := by decide +kernel
theorem dX1_coveredOnlyBy_29 : decode cX1_coveredOnlyBy 29 = .ok (.aload_n 1, 1) := by decide +kernel
theorem dX1_coveredOnlyBy_30 : decode cX1_coveredOnlyBy 30 = .ok (.getfield 79, 3) := by decide +kernel
theorem dX1_coveredOnlyBy_33 : decode cX1_coveredOnlyBy 33 = .ok (.istore 4, 2) := by decide +kernel
theorem dX1_coveredOnlyBy_35 : decode cX1_coveredOnlyBy 35 = .ok (.iload 4, 2) := by decide +kernel
theorem dX1_coveredOnlyBy_37 : decode cX1_coveredOnlyBy 37 = .ok (.aload_n 1, 1) := by decide +kernel
theorem dX1_coveredOnlyBy_38 : decode cX1_coveredOnlyBy 38 = .ok (.getfield 79, 3) := by decide +kernel
theorem dX1_coveredOnlyBy_41 : decode cX1_coveredOnlyBy 41 = .ok (.aload_n 1, 1) := by decide +kernel
theorem dX1_coveredOnlyBy_42 : decode cX1_coveredOnlyBy 42 = .ok (.getfield 82, 3) := by decide +kernel
theorem dX1_coveredOnlyBy_45 : decode cX1_coveredOnlyBy 45 = .ok (.iadd, 1) := by decide +kernel
theorem dX1_coveredOnlyBy_46 : decode cX1_coveredOnlyBy 46 = .ok (.if_icmp .ge 23, 3) := by decide +kernel
theorem dX1_coveredOnlyBy_49 : decode cX1_coveredOnlyBy 49 = .ok (.aload_n 0, 1) := by decide +kernel
theorem dX1_coveredOnlyBy_50 : decode cX1_coveredOnlyBy 50 = .ok (.iload 4, 2) := by decide +kernel
theorem dX1_coveredOnlyBy_52 : decode cX1_coveredOnlyBy 52 = .ok (.iload_n 3, 1) := by decide +kernel
theorem dX1_coveredOnlyBy_53 : decode cX1_coveredOnlyBy 53 = .ok (.invokevirtual 99, 3) := by decide +kernel
theorem dX1_coveredOnlyBy_56 : decode cX1_coveredOnlyBy 56 = .ok (.iconst 1, 1) := by decide +kernel
theorem dX1_coveredOnlyBy_57 : decode cX1_coveredOnlyBy 57 = .ok (.if_icmp .ne 6, 3) := by decide +kernel
theorem dX1_coveredOnlyBy_60 : decode cX1_coveredOnlyBy 60 = .ok (.iinc 2 1, 3) := by decide +kernel
theorem dX1_coveredOnlyBy_63 : decode cX1_coveredOnlyBy 63 = .ok (.iinc 4 1, 3) := by decide +kernel
theorem dX1_coveredOnlyBy_66 : decode cX1_coveredOnlyBy 66 = .ok (.goto (-31), 3) := by decide +kernel
theorem dX1_coveredOnlyBy_69 : decode cX1_coveredOnlyBy 69 = .ok (.iinc 3 1, 3) := by decide +kernel
theorem dX1_coveredOnlyBy_72 : decode cX1_coveredOnlyBy 72 = .ok (.goto (-56), 3) := by decide +kernel
theorem dX1_coveredOnlyBy_75 : decode cX1_coveredOnlyBy 75 = .ok (.iload_n 2, 1) := by decide +kernel
theorem dX1_coveredOnlyBy_76 : decode cX1_coveredOnlyBy 76 = .ok (.ireturn, 1) := by decide +kernel
theorem dX1_outline_0 : decode cX1_outline 0 = .ok (.iconst 0, 1) := by decide +kernel
theorem dX1_outline_1 : decode cX1_outline 1 = .ok (.istore_n 1, 1) := by decide +kernel
theorem dX1_outline_2 : decode cX1_outline 2 = .ok (.iconst 0, 1) := by decide +kernel
theorem dX1_outline_3 : decode cX1_outline 3 = .ok (.istore_n 2, 1) := by decide +kernel
theorem dX1_outline_4 : decode cX1_outline 4 = .ok (.iload_n 2, 1) := by decide +kernel
theorem dX1_outline_5 : decode cX1_outline 5 = .ok (.bipush 24, 2) := by decide +kernel
theorem dX1_outline_7 : decode cX1_outline 7 = .ok (.if_icmp .ge 41, 3) := by decide +kernel
theorem dX1_outline_10 : decode cX1_outline 10 = .ok (.iconst 0, 1) := by decide +kernel
theorem dX1_outline_11 : decode cX1_outline 11 = .ok (.istore_n 3, 1) := by decide +kernel
theorem dX1_outline_12 : decode cX1_outline 12 = .ok (.iload_n 3, 1) := by decide +kernel
theorem dX1_outline_13 : decode cX1_outline 13 = .ok (.bipush 24, 2) := by decide +kernel
theorem dX1_outline_15 : decode cX1_outline 15 = .ok (.if_icmp .ge 27, 3) := by decide +kernel
theorem dX1_outline_18 : decode cX1_outline 18 = .ok (.aload_n 0, 1) := by decide +kernel
theorem dX1_outline_19 : decode cX1_outline 19 = .ok (.iload_n 3, 1) := by decide +kernel
theorem dX1_outline_20 : decode cX1_outline 20 = .ok (.iload_n 2, 1) := by decide +kernel
theorem dX1_outline_21 : decode cX1_outline 21 = .ok (.invokevirtual 99, 3) := by decide +kernel
theorem dX1_outline_24 : decode cX1_outline 24 = .ok (.ifCond .le 12, 3) := by decide +kernel
theorem dX1_outline_27 : decode cX1_outline 27 = .ok (.iload_n 1, 1) := by decide +kernel
theorem dX1_outline_28 : decode cX1_outline 28 = .ok (.aload_n 0, 1) := by decide +kernel
theorem dX1_outline_29 : decode cX1_outline 29 = .ok (.iload_n 3, 1) := by decide +kernel
theorem dX1_outline_30 : decode cX1_outline 30 = .ok (.iload_n 2, 1) := by decide +kernel
theorem dX1_outline_31 : decode cX1_outline 31 = .ok (.invokevirtual 103, 3) := by decide +kernel
theorem dX1_outline_34 : decode cX1_outline 34 = .ok (.iadd, 1) := by decide +kernel
theorem dX1_outline_35 : decode cX1_outline 35 = .ok (.istore_n 1, 1) := by decide +kernel
theorem dX1_outline_36 : decode cX1_outline 36 = .ok (.iinc 3 1, 3) := by decide +kernel
theorem dX1_outline_39 : decode cX1_outline 39 = .ok (.goto (-27), 3) := by decide +kernel
theorem dX1_outline_42 : decode cX1_outline 42 = .ok (.iinc 2 1, 3) := by decide +kernel
theorem dX1_outline_45 : decode cX1_outline 45 = .ok (.goto (-41), 3) := by decide +kernel
theorem dX1_outline_48 : decode cX1_outline 48 = .ok (.iload_n 1, 1) := by decide +kernel
theorem dX1_outline_49 : decode cX1_outline 49 = .ok (.ireturn, 1) := by decide +kernel
theorem dX1_openSides_0 : decode cX1_openSides 0 = .ok (.aload_n 0, 1) := by decide +kernel
theorem dX1_openSides_1 : decode cX1_openSides 1 = .ok (.iload_n 1, 1) := by decide +kernel
theorem dX1_openSides_2 : decode cX1_openSides 2 = .ok (.iconst 1, 1) := by decide +kernel
theorem dX1_openSides_3 : decode cX1_openSides 3 = .ok (.isub, 1) := by decide +kernel
theorem dX1_openSides_4 : decode cX1_openSides 4 = .ok (.iload_n 2, 1) := by decide +kernel
theorem dX1_openSides_5 : decode cX1_openSides 5 = .ok (.invokevirtual 106, 3) := by decide +kernel
theorem dX1_openSides_8 : decode cX1_openSides 8 = .ok (.aload_n 0, 1) := by decide +kernel
theorem dX1_openSides_9 : decode cX1_openSides 9 = .ok (.iload_n 1, 1) := by decide +kernel
theorem dX1_openSides_10 : decode cX1_openSides 10 = .ok (.iload_n 2, 1) := by decide +kernel
theorem dX1_openSides_11 : decode cX1_openSides 11 = .ok (.iconst 1, 1) := by decide +kernel
theorem dX1_openSides_12 : decode cX1_openSides 12 = .ok (.isub, 1) := by decide +kernel
theorem dX1_openSides_13 : decode cX1_openSides 13 = .ok (.invokevirtual 106, 3) := by decide +kernel
theorem dX1_openSides_16 : decode cX1_openSides 16 = .ok (.iadd, 1) := by decide +kernel
theorem dX1_openSides_17 : decode cX1_openSides 17 = .ok (.aload_n 0, 1) := by decide +kernel
theorem dX1_openSides_18 : decode cX1_openSides 18 = .ok (.iload_n 1, 1) := by decide +kernel
theorem dX1_openSides_19 : decode cX1_openSides 19 = .ok (.iconst 1, 1) := by decide +kernel
theorem dX1_openSides_20 : decode cX1_openSides 20 = .ok (.iadd, 1) := by decide +kernel
theorem dX1_openSides_21 : decode cX1_openSides 21 = .ok (.iload_n 2, 1) := by decide +kernel
theorem dX1_openSides_22 : decode cX1_openSides 22 = .ok (.invokevirtual 106, 3) := by decide +kernel
theorem dX1_openSides_25 : decode cX1_openSides 25 = .ok (.iadd, 1) := by decide +kernel
theorem dX1_openSides_26 : decode cX1_openSides 26 = .ok (.aload_n 0, 1) := by decide +kernel
theorem dX1_openSides_27 : decode cX1_openSides 27 = .ok (.iload_n 1, 1) := by decide +kernel
theorem dX1_openSides_28 : decode cX1_openSides 28 = .ok (.iload_n 2, 1) := by decide +kernel
theorem dX1_openSides_29 : decode cX1_openSides 29 = .ok (.iconst 1, 1) := by decide +kernel
theorem dX1_openSides_30 : decode cX1_openSides 30 = .ok (.iadd, 1) := by decide +kernel
theorem dX1_openSides_31 : decode cX1_openSides 31 = .ok (.invokevirtual 106, 3) := by decide +kernel
theorem dX1_openSides_34 : decode cX1_openSides 34 = .ok (.iadd, 1) := by decide +kernel
theorem dX1_openSides_35 : decode cX1_openSides 35 = .ok (.ireturn, 1) := by decide +kernel
theorem dX1_openAt_0 : decode cX1_openAt 0 = .ok (.aload_n 0, 1) := by decide +kernel
theorem dX1_openAt_1 : decode cX1_openAt 1 = .ok (.iload_n 1, 1) := by decide +kernel
theorem dX1_openAt_2 : decode cX1_openAt 2 = .ok (.iload_n 2, 1) := by decide +kernel
theorem dX1_openAt_3 : decode cX1_openAt 3 = .ok (.invokevirtual 99, 3) := by decide +kernel
theorem dX1_openAt_6 : decode cX1_openAt 6 = .ok (.ifCond .ne 7, 3) := by decide +kernel
theorem dX1_openAt_9 : decode cX1_openAt 9 = .ok (.iconst 1, 1) := by decide +kernel
theorem dX1_openAt_10 : decode cX1_openAt 10 = .ok (.goto 4, 3) := by decide +kernel
theorem dX1_openAt_13 : decode cX1_openAt 13 = .ok (.iconst 0, 1) := by decide +kernel
theorem dX1_openAt_14 : decode cX1_openAt 14 = .ok (.ireturn, 1) := by decide +kernel
theorem dX1_parts_0 : decode cX1_parts 0 = .ok (.aload_n 0, 1) := by decide +kernel
theorem dX1_parts_1 : decode cX1_parts 1 = .ok (.getfield 22, 3) := by decide +kernel
theorem dX1_parts_4 : decode cX1_parts 4 = .ok (.iconst 0, 1) := by decide +kernel
theorem dX1_parts_5 : decode cX1_parts 5 = .ok (.invokestatic 63, 3) := by decide +kernel
theorem dX1_parts_8 : decode cX1_parts 8 = .ok (.iconst 0, 1) := by decide +kernel
theorem dX1_parts_9 : decode cX1_parts 9 = .ok (.istore_n 1, 1) := by decide +kernel
theorem dX1_parts_10 : decode cX1_parts 10 = .ok (.iconst 0, 1) := by decide +kernel
theorem dX1_parts_11 : decode cX1_parts 11 = .ok (.istore_n 2, 1) := by decide +kernel
theorem dX1_parts_12 : decode cX1_parts 12 = .ok (.iload_n 2, 1) := by decide +kernel
theorem dX1_parts_13 : decode cX1_parts 13 = .ok (.bipush 24, 2) := by decide +kernel
theorem dX1_parts_15 : decode cX1_parts 15 = .ok (.if_icmp .ge 48, 3) := by decide +kernel
theorem dX1_parts_18 : decode cX1_parts 18 = .ok (.iconst 0, 1) := by decide +kernel
theorem dX1_parts_19 : decode cX1_parts 19 = .ok (.istore_n 3, 1) := by decide +kernel
theorem dX1_parts_20 : decode cX1_parts 20 = .ok (.iload_n 3, 1) := by decide +kernel
theorem dX1_parts_21 : decode cX1_parts 21 = .ok (.bipush 24, 2) := by decide +kernel
theorem dX1_parts_23 : decode cX1_parts 23 = .ok (.if_icmp .ge 34, 3) := by decide +kernel
theorem dX1_parts_26 : decode cX1_parts 26 = .ok (.aload_n 0, 1) := by decide +kernel
theorem dX1_parts_27 : decode cX1_parts 27 = .ok (.iconst 0, 1) := by decide +kernel
theorem dX1_parts_28 : decode cX1_parts 28 = .ok (.putfield 28, 3) := by decide +kernel
theorem dX1_parts_31 : decode cX1_parts 31 = .ok (.aload_n 0, 1) := by decide +kernel
theorem dX1_parts_32 : decode cX1_parts 32 = .ok (.iload_n 3, 1) := by decide +kernel
theorem dX1_parts_33 : decode cX1_parts 33 = .ok (.iload_n 2, 1) := by decide +kernel
theorem dX1_parts_34 : decode cX1_parts 34 = .ok (.invokevirtual 109, 3) := by decide +kernel
theorem dX1_parts_37 : decode cX1_parts 37 = .ok (.aload_n 0, 1) := by decide +kernel
theorem dX1_parts_38 : decode cX1_parts 38 = .ok (.getfield 28, 3) := by decide +kernel
theorem dX1_parts_41 : decode cX1_parts 41 = .ok (.ifCond .le 10, 3) := by decide +kernel
theorem dX1_parts_44 : decode cX1_parts 44 = .ok (.iinc 1 1, 3) := by decide +kernel
theorem dX1_parts_47 : decode cX1_parts 47 = .ok (.aload_n 0, 1) := by decide +kernel
theorem dX1_parts_48 : decode cX1_parts 48 = .ok (.invokevirtual 113, 3) := by decide +kernel
theorem dX1_parts_51 : decode cX1_parts 51 = .ok (.iinc 3 1, 3) := by decide +kernel
theorem dX1_parts_54 : decode cX1_parts 54 = .ok (.goto (-34), 3) := by decide +kernel
theorem dX1_parts_57 : decode cX1_parts 57 = .ok (.iinc 2 1, 3) := by decide +kernel
theorem dX1_parts_60 : decode cX1_parts 60 = .ok (.goto (-48), 3) := by decide +kernel
theorem dX1_parts_63 : decode cX1_parts 63 = .ok (.iload_n 1, 1) := by decide +kernel
theorem dX1_parts_64 : decode cX1_parts 64 = .ok (.ireturn, 1) := by decide +kernel
theorem dX1_reachAllFromQueue_0 : decode cX1_reachAllFromQueue 0 = .ok (.iconst 0, 1) := by decide +kernel
theorem dX1_reachAllFromQueue_1 : decode cX1_reachAllFromQueue 1 = .ok (.istore_n 1, 1) := by decide +kernel
theorem dX1_reachAllFromQueue_2 : decode cX1_reachAllFromQueue 2 = .ok (.iload_n 1, 1) := by decide +kernel
theorem dX1_reachAllFromQueue_3 : decode cX1_reachAllFromQueue 3 = .ok (.aload_n 0, 1) := by decide +kernel
theorem dX1_reachAllFromQueue_4 : decode cX1_reachAllFromQueue 4 = .ok (.getfield 28, 3) := by decide +kernel
theorem dX1_reachAllFromQueue_7 : decode cX1_reachAllFromQueue 7 = .ok (.if_icmp .ge 68, 3) := by decide +kernel
theorem dX1_reachAllFromQueue_10 : decode cX1_reachAllFromQueue 10 = .ok (.iload_n 1, 1) := by decide +kernel
theorem dX1_reachAllFromQueue_11 : decode cX1_reachAllFromQueue 11 = .ok (.sipush 576, 3) := by decide +kernel
theorem dX1_reachAllFromQueue_14 : decode cX1_reachAllFromQueue 14 = .ok (.if_icmp .ge 61, 3) := by decide +kernel
theorem dX1_reachAllFromQueue_17 : decode cX1_reachAllFromQueue 17 = .ok (.aload_n 0, 1) := by decide +kernel
theorem dX1_reachAllFromQueue_18 : decode cX1_reachAllFromQueue 18 = .ok (.getfield 25, 3) := by decide +kernel
theorem dX1_reachAllFromQueue_21 : decode cX1_reachAllFromQueue 21 = .ok (.iload_n 1, 1) := by decide +kernel
theorem dX1_reachAllFromQueue_22 : decode cX1_reachAllFromQueue 22 = .ok (.iaload, 1) := by decide +kernel
theorem dX1_reachAllFromQueue_23 : decode cX1_reachAllFromQueue 23 = .ok (.bipush 24, 2) := by decide +kernel
theorem dX1_reachAllFromQueue_25 : decode cX1_reachAllFromQueue 25 = .ok (.irem, 1) := by decide +kernel
theorem dX1_reachAllFromQueue_26 : decode cX1_reachAllFromQueue 26 = .ok (.istore_n 2, 1) := by decide +kernel
theorem dX1_reachAllFromQueue_27 : decode cX1_reachAllFromQueue 27 = .ok (.aload_n 0, 1) := by decide +kernel
theorem dX1_reachAllFromQueue_28 : decode cX1_reachAllFromQueue 28 = .ok (.getfield 25, 3) := by decide +kernel
theorem dX1_reachAllFromQueue_31 : decode cX1_reachAllFromQueue 31 = .ok (.iload_n 1, 1) := by decide +kernel
theorem dX1_reachAllFromQueue_32 : decode cX1_reachAllFromQueue 32 = .ok (.iaload, 1) := by decide +kernel
theorem dX1_reachAllFromQueue_33 : decode cX1_reachAllFromQueue 33 = .ok (.bipush 24, 2) := by decide +kernel
theorem dX1_reachAllFromQueue_35 : decode cX1_reachAllFromQueue 35 = .ok (.idiv, 1) := by decide +kernel
theorem dX1_reachAllFromQueue_36 : decode cX1_reachAllFromQueue 36 = .ok (.istore_n 3, 1) := by decide +kernel
theorem dX1_reachAllFromQueue_37 : decode cX1_reachAllFromQueue 37 = .ok (.aload_n 0, 1) := by decide +kernel
theorem dX1_reachAllFromQueue_38 : decode cX1_reachAllFromQueue 38 = .ok (.iload_n 2, 1) := by decide +kernel
theorem dX1_reachAllFromQueue_39 : decode cX1_reachAllFromQueue 39 = .ok (.iconst 1, 1) := by decide +kernel
theorem dX1_reachAllFromQueue_40 : decode cX1_reachAllFromQueue 40 = .ok (.isub, 1) := by decide +kernel
theorem dX1_reachAllFromQueue_41 : decode cX1_reachAllFromQueue 41 = .ok (.iload_n 3, 1) := by decide +kernel
theorem dX1_reachAllFromQueue_42 : decode cX1_reachAllFromQueue 42 = .ok (.invokevirtual 109, 3) := by decide +kernel
theorem dX1_reachAllFromQueue_45 : decode cX1_reachAllFromQueue 45 = .ok (.aload_n 0, 1) := by decide +kernel
theorem dX1_reachAllFromQueue_46 : decode cX1_reachAllFromQueue 46 = .ok (.iload_n 2, 1) := by decide +kernel
theorem dX1_reachAllFromQueue_47 : decode cX1_reachAllFromQueue 47 = .ok (.iload_n 3, 1) := by decide +kernel
theorem dX1_reachAllFromQueue_48 : decode cX1_reachAllFromQueue 48 = .ok (.iconst 1, 1) := by decide +kernel
theorem dX1_reachAllFromQueue_49 : decode cX1_reachAllFromQueue 49 = .ok (.isub, 1) := by decide +kernel
theorem dX1_reachAllFromQueue_50 : decode cX1_reachAllFromQueue 50 = .ok (.invokevirtual 109, 3) := by decide +kernel
theorem dX1_reachAllFromQueue_53 : decode cX1_reachAllFromQueue 53 = .ok (.aload_n 0, 1) := by decide +kernel
theorem dX1_reachAllFromQueue_54 : decode cX1_reachAllFromQueue 54 = .ok (.iload_n 2, 1) := by decide +kernel
theorem dX1_reachAllFromQueue_55 : decode cX1_reachAllFromQueue 55 = .ok (.iconst 1, 1) := by decide +kernel
theorem dX1_reachAllFromQueue_56 : decode cX1_reachAllFromQueue 56 = .ok (.iadd, 1) := by decide +kernel
theorem dX1_reachAllFromQueue_57 : decode cX1_reachAllFromQueue 57 = .ok (.iload_n 3, 1) := by decide +kernel
theorem dX1_reachAllFromQueue_58 : decode cX1_reachAllFromQueue 58 = .ok (.invokevirtual 109, 3) := by decide +kernel
theorem dX1_reachAllFromQueue_61 : decode cX1_reachAllFromQueue 61 = .ok (.aload_n 0, 1) := by decide +kernel
theorem dX1_reachAllFromQueue_62 : decode cX1_reachAllFromQueue 62 = .ok (.iload_n 2, 1) := by decide +kernel
theorem dX1_reachAllFromQueue_63 : decode cX1_reachAllFromQueue 63 = .ok (.iload_n 3, 1) := by decide +kernel
theorem dX1_reachAllFromQueue_64 : decode cX1_reachAllFromQueue 64 = .ok (.iconst 1, 1) := by decide +kernel
theorem dX1_reachAllFromQueue_65 : decode cX1_reachAllFromQueue 65 = .ok (.iadd, 1) := by decide +kernel
theorem dX1_reachAllFromQueue_66 : decode cX1_reachAllFromQueue 66 = .ok (.invokevirtual 109, 3) := by decide +kernel
theorem dX1_reachAllFromQueue_69 : decode cX1_reachAllFromQueue 69 = .ok (.iinc 1 1, 3) := by decide +kernel
theorem dX1_reachAllFromQueue_72 : decode cX1_reachAllFromQueue 72 = .ok (.goto (-70), 3) := by decide +kernel
theorem dX1_reachAllFromQueue_75 : decode cX1_reachAllFromQueue 75 = .ok (.return_, 1) := by decide +kernel
theorem dX1_reach_0 : decode cX1_reach 0 = .ok (.aload_n 0, 1) := by decide +kernel
theorem dX1_reach_1 : decode cX1_reach 1 = .ok (.iload_n 1, 1) := by decide +kernel
theorem dX1_reach_2 : decode cX1_reach 2 = .ok (.iload_n 2, 1) := by decide +kernel
theorem dX1_reach_3 : decode cX1_reach 3 = .ok (.invokevirtual 99, 3) := by decide +kernel
theorem dX1_reach_6 : decode cX1_reach 6 = .ok (.ifCond .eq 11, 3) := by decide +kernel
theorem dX1_reach_9 : decode cX1_reach 9 = .ok (.iload_n 1, 1) := by decide +kernel
theorem dX1_reach_10 : decode cX1_reach 10 = .ok (.iload_n 2, 1) := by decide +kernel
theorem dX1_reach_11 : decode cX1_reach 11 = .ok (.invokestatic 85, 3) := by decide +kernel
theorem dX1_reach_14 : decode cX1_reach 14 = .ok (.ifCond .ne 4, 3) := by decide +kernel
theorem dX1_reach_17 : decode cX1_reach 17 = .ok (.return_, 1) := by decide +kernel
theorem dX1_reach_18 : decode cX1_reach 18 = .ok (.iload_n 2, 1) := by decide +kernel
theorem dX1_reach_19 : decode cX1_reach 19 = .ok (.bipush 24, 2) := by decide +kernel
theorem dX1_reach_21 : decode cX1_reach 21 = .ok (.imul, 1) := by decide +kernel
theorem dX1_reach_22 : decode cX1_reach 22 = .ok (.iload_n 1, 1) := by decide +kernel
theorem dX1_reach_23 : decode cX1_reach 23 = .ok (.iadd, 1) := by decide +kernel
theorem dX1_reach_24 : decode cX1_reach 24 = .ok (.istore_n 3, 1) := by decide +kernel
theorem dX1_reach_25 : decode cX1_reach 25 = .ok (.aload_n 0, 1) := by decide +kernel
theorem dX1_reach_26 : decode cX1_reach 26 = .ok (.getfield 22, 3) := by decide +kernel
theorem dX1_reach_29 : decode cX1_reach 29 = .ok (.iload_n 3, 1) := by decide +kernel
theorem dX1_reach_30 : decode cX1_reach 30 = .ok (.iaload, 1) := by decide +kernel
theorem dX1_reach_31 : decode cX1_reach 31 = .ok (.ifCond .ne 47, 3) := by decide +kernel
theorem dX1_reach_34 : decode cX1_reach 34 = .ok (.aload_n 0, 1) := by decide +kernel
theorem dX1_reach_35 : decode cX1_reach 35 = .ok (.getfield 28, 3) := by decide +kernel
theorem dX1_reach_38 : decode cX1_reach 38 = .ok (.ifCond .lt 40, 3) := by decide +kernel
theorem dX1_reach_41 : decode cX1_reach 41 = .ok (.aload_n 0, 1) := by decide +kernel
theorem dX1_reach_42 : decode cX1_reach 42 = .ok (.getfield 28, 3) := by decide +kernel
theorem dX1_reach_45 : decode cX1_reach 45 = .ok (.sipush 576, 3) := by decide +kernel
theorem dX1_reach_48 : decode cX1_reach 48 = .ok (.if_icmp .ge 30, 3) := by decide +kernel
theorem dX1_reach_51 : decode cX1_reach 51 = .ok (.aload_n 0, 1) := by decide +kernel
theorem dX1_reach_52 : decode cX1_reach 52 = .ok (.getfield 22, 3) := by decide +kernel
theorem dX1_reach_55 : decode cX1_reach 55 = .ok (.iload_n 3, 1) := by decide +kernel
theorem dX1_reach_56 : decode cX1_reach 56 = .ok (.iconst 1, 1) := by decide +kernel
theorem dX1_reach_57 : decode cX1_reach 57 = .ok (.iastore, 1) := by decide +kernel
theorem dX1_reach_58 : decode cX1_reach 58 = .ok (.aload_n 0, 1) := by decide +kernel
theorem dX1_reach_59 : decode cX1_reach 59 = .ok (.getfield 25, 3) := by decide +kernel
theorem dX1_reach_62 : decode cX1_reach 62 = .ok (.aload_n 0, 1) := by decide +kernel
theorem dX1_reach_63 : decode cX1_reach 63 = .ok (.getfield 28, 3) := by decide +kernel
theorem dX1_reach_66 : decode cX1_reach 66 = .ok (.iload_n 3, 1) := by decide +kernel
theorem dX1_reach_67 : decode cX1_reach 67 = .ok (.iastore, 1) := by decide +kernel
theorem dX1_reach_68 : decode cX1_reach 68 = .ok (.aload_n 0, 1) := by decide +kernel
theorem dX1_reach_69 : decode cX1_reach 69 = .ok (.dup, 1) := by decide +kernel
theorem dX1_reach_70 : decode cX1_reach 70 = .ok (.getfield 28, 3) := by decide +kernel
theorem dX1_reach_73 : decode cX1_reach 73 = .ok (.iconst 1, 1) := by decide +kernel
theorem dX1_reach_74 : decode cX1_reach 74 = .ok (.iadd, 1) := by decide +kernel
theorem dX1_reach_75 : decode cX1_reach 75 = .ok (.putfield 28, 3) := by decide +kernel
theorem dX1_reach_78 : decode cX1_reach 78 = .ok (.return_, 1) := by decide +kernel
theorem dX1_coveredInColumn_0 : decode cX1_coveredInColumn 0 = .ok (.iconst 0, 1) := by decide +kernel
theorem dX1_coveredInColumn_1 : decode cX1_coveredInColumn 1 = .ok (.istore_n 2, 1) := by decide +kernel
theorem dX1_coveredInColumn_2 : decode cX1_coveredInColumn 2 = .ok (.iconst 0, 1) := by decide +kernel
theorem dX1_coveredInColumn_3 : decode cX1_coveredInColumn 3 = .ok (.istore_n 3, 1) := by decide +kernel
theorem dX1_coveredInColumn_4 : decode cX1_coveredInColumn 4 = .ok (.iload_n 3, 1) := by decide +kernel
theorem dX1_coveredInColumn_5 : decode cX1_coveredInColumn 5 = .ok (.bipush 24, 2) := by decide +kernel
theorem dX1_coveredInColumn_7 : decode cX1_coveredInColumn 7 = .ok (.if_icmp .ge 21, 3) := by decide +kernel
theorem dX1_coveredInColumn_10 : decode cX1_coveredInColumn 10 = .ok (.aload_n 0, 1) := by decide +kernel
theorem dX1_coveredInColumn_11 : decode cX1_coveredInColumn 11 = .ok (.iload_n 1, 1) := by decide +kernel
theorem dX1_coveredInColumn_12 : decode cX1_coveredInColumn 12 = .ok (.iload_n 3, 1) := by decide +kernel
theorem dX1_coveredInColumn_13 : decode cX1_coveredInColumn 13 = .ok (.invokevirtual 99, 3) := by decide +kernel
theorem dX1_coveredInColumn_16 : decode cX1_coveredInColumn 16 = .ok (.ifCond .le 6, 3) := by decide +kernel
theorem dX1_coveredInColumn_19 : decode cX1_coveredInColumn 19 = .ok (.iinc 2 1, 3) := by decide +kernel
theorem dX1_coveredInColumn_22 : decode cX1_coveredInColumn 22 = .ok (.iinc 3 1, 3) := by decide +kernel
theorem dX1_coveredInColumn_25 : decode cX1_coveredInColumn 25 = .ok (.goto (-21), 3) := by decide +kernel
theorem dX1_coveredInColumn_28 : decode cX1_coveredInColumn 28 = .ok (.iload_n 2, 1) := by decide +kernel
theorem dX1_coveredInColumn_29 : decode cX1_coveredInColumn 29 = .ok (.ireturn, 1) := by decide +kernel
theorem dX1_runsInColumn_0 : decode cX1_runsInColumn 0 = .ok (.iconst 0, 1) := by decide +kernel
theorem dX1_runsInColumn_1 : decode cX1_runsInColumn 1 = .ok (.istore_n 2, 1) := by decide +kernel
theorem dX1_runsInColumn_2 : decode cX1_runsInColumn 2 = .ok (.iconst 0, 1) := by decide +kernel
theorem dX1_runsInColumn_3 : decode cX1_runsInColumn 3 = .ok (.istore_n 3, 1) := by decide +kernel
theorem dX1_runsInColumn_4 : decode cX1_runsInColumn 4 = .ok (.iload_n 3, 1) := by decide +kernel
theorem dX1_runsInColumn_5 : decode cX1_runsInColumn 5 = .ok (.bipush 24, 2) := by decide +kernel
theorem dX1_runsInColumn_7 : decode cX1_runsInColumn 7 = .ok (.if_icmp .ge 32, 3) := by decide +kernel
theorem dX1_runsInColumn_10 : decode cX1_runsInColumn 10 = .ok (.aload_n 0, 1) := by decide +kernel
theorem dX1_runsInColumn_11 : decode cX1_runsInColumn 11 = .ok (.iload_n 1, 1) := by decide +kernel
theorem dX1_runsInColumn_12 : decode cX1_runsInColumn 12 = .ok (.iload_n 3, 1) := by decide +kernel
theorem dX1_runsInColumn_13 : decode cX1_runsInColumn 13 = .ok (.invokevirtual 99, 3) := by decide +kernel
theorem dX1_runsInColumn_16 : decode cX1_runsInColumn 16 = .ok (.ifCond .le 17, 3) := by decide +kernel
theorem dX1_runsInColumn_19 : decode cX1_runsInColumn 19 = .ok (.aload_n 0, 1) := by decide +kernel
theorem dX1_runsInColumn_20 : decode cX1_runsInColumn 20 = .ok (.iload_n 1, 1) := by decide +kernel
theorem dX1_runsInColumn_21 : decode cX1_runsInColumn 21 = .ok (.iload_n 3, 1) := by decide +kernel
theorem dX1_runsInColumn_22 : decode cX1_runsInColumn 22 = .ok (.iconst 1, 1) := by decide +kernel
theorem dX1_runsInColumn_23 : decode cX1_runsInColumn 23 = .ok (.isub, 1) := by decide +kernel
theorem dX1_runsInColumn_24 : decode cX1_runsInColumn 24 = .ok (.invokevirtual 99, 3) := by decide +kernel
theorem dX1_runsInColumn_27 : decode cX1_runsInColumn 27 = .ok (.ifCond .ne 6, 3) := by decide +kernel
theorem dX1_runsInColumn_30 : decode cX1_runsInColumn 30 = .ok (.iinc 2 1, 3) := by decide +kernel
theorem dX1_runsInColumn_33 : decode cX1_runsInColumn 33 = .ok (.iinc 3 1, 3) := by decide +kernel
theorem dX1_runsInColumn_36 : decode cX1_runsInColumn 36 = .ok (.goto (-32), 3) := by decide +kernel
theorem dX1_runsInColumn_39 : decode cX1_runsInColumn 39 = .ok (.iload_n 2, 1) := by decide +kernel
theorem dX1_runsInColumn_40 : decode cX1_runsInColumn 40 = .ok (.ireturn, 1) := by decide +kernel
theorem dX1_longestRunInColumn_0 : decode cX1_longestRunInColumn 0 = .ok (.iconst 0, 1) := by decide +kernel
theorem dX1_longestRunInColumn_1 : decode cX1_longestRunInColumn 1 = .ok (.istore_n 2, 1) := by decide +kernel
theorem dX1_longestRunInColumn_2 : decode cX1_longestRunInColumn 2 = .ok (.iconst 0, 1) := by decide +kernel
theorem dX1_longestRunInColumn_3 : decode cX1_longestRunInColumn 3 = .ok (.istore_n 3, 1) := by decide +kernel
theorem dX1_longestRunInColumn_4 : decode cX1_longestRunInColumn 4 = .ok (.iconst 0, 1) := by decide +kernel
theorem dX1_longestRunInColumn_5 : decode cX1_longestRunInColumn 5 = .ok (.istore 4, 2) := by decide +kernel
theorem dX1_longestRunInColumn_7 : decode cX1_longestRunInColumn 7 = .ok (.iload 4, 2) := by decide +kernel
theorem dX1_longestRunInColumn_9 : decode cX1_longestRunInColumn 9 = .ok (.bipush 24, 2) := by decide +kernel
theorem dX1_longestRunInColumn_11 : decode cX1_longestRunInColumn 11 = .ok (.if_icmp .ge 33, 3) := by decide +kernel
theorem dX1_longestRunInColumn_14 : decode cX1_longestRunInColumn 14 = .ok (.aload_n 0, 1) := by decide +kernel
theorem dX1_longestRunInColumn_15 : decode cX1_longestRunInColumn 15 = .ok (.iload_n 1, 1) := by decide +kernel
theorem dX1_longestRunInColumn_16 : decode cX1_longestRunInColumn 16 = .ok (.iload 4, 2) := by decide +kernel
theorem dX1_longestRunInColumn_18 : decode cX1_longestRunInColumn 18 = .ok (.invokevirtual 99, 3) := by decide +kernel
theorem dX1_longestRunInColumn_21 : decode cX1_longestRunInColumn 21 = .ok (.ifCond .le 9, 3) := by decide +kernel
theorem dX1_longestRunInColumn_24 : decode cX1_longestRunInColumn 24 = .ok (.iload_n 3, 1) := by decide +kernel
theorem dX1_longestRunInColumn_25 : decode cX1_longestRunInColumn 25 = .ok (.iconst 1, 1) := by decide +kernel
theorem dX1_longestRunInColumn_26 : decode cX1_longestRunInColumn 26 = .ok (.iadd, 1) := by decide +kernel
theorem dX1_longestRunInColumn_27 : decode cX1_longestRunInColumn 27 = .ok (.goto 4, 3) := by decide +kernel
theorem dX1_longestRunInColumn_30 : decode cX1_longestRunInColumn 30 = .ok (.iconst 0, 1) := by decide +kernel
theorem dX1_longestRunInColumn_31 : decode cX1_longestRunInColumn 31 = .ok (.istore_n 3, 1) := by decide +kernel
theorem dX1_longestRunInColumn_32 : decode cX1_longestRunInColumn 32 = .ok (.iload_n 2, 1) := by decide +kernel
theorem dX1_longestRunInColumn_33 : decode cX1_longestRunInColumn 33 = .ok (.iload_n 3, 1) := by decide +kernel
theorem dX1_longestRunInColumn_34 : decode cX1_longestRunInColumn 34 = .ok (.invokestatic 116, 3) := by decide +kernel
theorem dX1_longestRunInColumn_37 : decode cX1_longestRunInColumn 37 = .ok (.istore_n 2, 1) := by decide +kernel
theorem dX1_longestRunInColumn_38 : decode cX1_longestRunInColumn 38 = .ok (.iinc 4 1, 3) := by decide +kernel
theorem dX1_longestRunInColumn_41 : decode cX1_longestRunInColumn 41 = .ok (.goto (-34), 3) := by decide +kernel
theorem dX1_longestRunInColumn_44 : decode cX1_longestRunInColumn 44 = .ok (.iload_n 2, 1) := by decide +kernel
theorem dX1_longestRunInColumn_45 : decode cX1_longestRunInColumn 45 = .ok (.ireturn, 1) := by decide +kernel
theorem dX1_mostLayersInColumn_0 : decode cX1_mostLayersInColumn 0 = .ok (.iconst 0, 1) := by decide +kernel
theorem dX1_mostLayersInColumn_1 : decode cX1_mostLayersInColumn 1 = .ok (.istore_n 2, 1) := by decide +kernel
theorem dX1_mostLayersInColumn_2 : decode cX1_mostLayersInColumn 2 = .ok (.iconst 0, 1) := by decide +kernel
theorem dX1_mostLayersInColumn_3 : decode cX1_mostLayersInColumn 3 = .ok (.istore_n 3, 1) := by decide +kernel
theorem dX1_mostLayersInColumn_4 : decode cX1_mostLayersInColumn 4 = .ok (.iload_n 3, 1) := by decide +kernel
theorem dX1_mostLayersInColumn_5 : decode cX1_mostLayersInColumn 5 = .ok (.bipush 24, 2) := by decide +kernel
theorem dX1_mostLayersInColumn_7 : decode cX1_mostLayersInColumn 7 = .ok (.if_icmp .ge 20, 3) := by decide +kernel
theorem dX1_mostLayersInColumn_10 : decode cX1_mostLayersInColumn 10 = .ok (.iload_n 2, 1) := by decide +kernel
theorem dX1_mostLayersInColumn_11 : decode cX1_mostLayersInColumn 11 = .ok (.aload_n 0, 1) := by decide +kernel
theorem dX1_mostLayersInColumn_12 : decode cX1_mostLayersInColumn 12 = .ok (.iload_n 1, 1) := by decide +kernel
theorem dX1_mostLayersInColumn_13 : decode cX1_mostLayersInColumn 13 = .ok (.iload_n 3, 1) := by decide +kernel
theorem dX1_mostLayersInColumn_14 : decode cX1_mostLayersInColumn 14 = .ok (.invokevirtual 99, 3) := by decide +kernel
theorem dX1_mostLayersInColumn_17 : decode cX1_mostLayersInColumn 17 = .ok (.invokestatic 116, 3) := by decide +kernel
theorem dX1_mostLayersInColumn_20 : decode cX1_mostLayersInColumn 20 = .ok (.istore_n 2, 1) := by decide +kernel
theorem dX1_mostLayersInColumn_21 : decode cX1_mostLayersInColumn 21 = .ok (.iinc 3 1, 3) := by decide +kernel
theorem dX1_mostLayersInColumn_24 : decode cX1_mostLayersInColumn 24 = .ok (.goto (-20), 3) := by decide +kernel
theorem dX1_mostLayersInColumn_27 : decode cX1_mostLayersInColumn 27 = .ok (.iload_n 2, 1) := by decide +kernel
theorem dX1_mostLayersInColumn_28 : decode cX1_mostLayersInColumn 28 = .ok (.ireturn, 1) := by decide +kernel
theorem dX2_init_0 : decode cX2_init 0 = .ok (.aload_n 0, 1) := by decide +kernel
theorem dX2_init_1 : decode cX2_init 1 = .ok (.invokespecial 3, 3) := by decide +kernel
theorem dX2_init_4 : decode cX2_init 4 = .ok (.aload_n 0, 1) := by decide +kernel
theorem dX2_init_5 : decode cX2_init 5 = .ok (.aload_n 1, 1) := by decide +kernel
theorem dX2_init_6 : decode cX2_init 6 = .ok (.putfield 9, 3) := by decide +kernel
theorem dX2_init_9 : decode cX2_init 9 = .ok (.aload_n 0, 1) := by decide +kernel
theorem dX2_init_10 : decode cX2_init 10 = .ok (.sipush 576, 3) := by decide +kernel
theorem dX2_init_13 : decode cX2_init 13 = .ok (.newarray .int, 2) := by decide +kernel
theorem dX2_init_15 : decode cX2_init 15 = .ok (.putfield 15, 3) := by decide +kernel
theorem dX2_init_18 : decode cX2_init 18 = .ok (.aload_n 0, 1) := by decide +kernel
theorem dX2_init_19 : decode cX2_init 19 = .ok (.bipush 10, 2) := by decide +kernel
theorem dX2_init_21 : decode cX2_init 21 = .ok (.newarray .int, 2) := by decide +kernel
theorem dX2_init_23 : decode cX2_init 23 = .ok (.putfield 19, 3) := by decide +kernel
theorem dX2_init_26 : decode cX2_init 26 = .ok (.aload_n 0, 1) := by decide +kernel
theorem dX2_init_27 : decode cX2_init 27 = .ok (.iconst 0, 1) := by decide +kernel
theorem dX2_init_28 : decode cX2_init 28 = .ok (.putfield 22, 3) := by decide +kernel
theorem dX2_init_31 : decode cX2_init 31 = .ok (.aload_n 0, 1) := by decide +kernel
theorem dX2_init_32 : decode cX2_init 32 = .ok (.iconst 0, 1) := by decide +kernel
theorem dX2_init_33 : decode cX2_init 33 = .ok (.putfield 26, 3) := by decide +kernel
theorem dX2_init_36 : decode cX2_init 36 = .ok (.return_, 1) := by decide +kernel
theorem dX2_pour_0 : decode cX2_pour 0 = .ok (.aload_n 0, 1) := by decide +kernel
theorem dX2_pour_1 : decode cX2_pour 1 = .ok (.invokevirtual 29, 3) := by decide +kernel
theorem dX2_pour_4 : decode cX2_pour 4 = .ok (.iconst 0, 1) := by decide +kernel
theorem dX2_pour_5 : decode cX2_pour 5 = .ok (.istore_n 2, 1) := by decide +kernel
theorem dX2_pour_6 : decode cX2_pour 6 = .ok (.iload_n 2, 1) := by decide +kernel
theorem dX2_pour_7 : decode cX2_pour 7 = .ok (.bipush 24, 2) := by decide +kernel
theorem dX2_pour_9 : decode cX2_pour 9 = .ok (.if_icmp .ge 32, 3) := by decide +kernel
theorem dX2_pour_12 : decode cX2_pour 12 = .ok (.iconst 0, 1) := by decide +kernel
theorem dX2_pour_13 : decode cX2_pour 13 = .ok (.istore_n 3, 1) := by decide +kernel
theorem dX2_pour_14 : decode cX2_pour 14 = .ok (.iload_n 3, 1) := by decide +kernel
theorem dX2_pour_15 : decode cX2_pour 15 = .ok (.bipush 24, 2) := by decide +kernel
theorem dX2_pour_17 : decode cX2_pour 17 = .ok (.if_icmp .ge 18, 3) := by decide +kernel
theorem dX2_pour_20 : decode cX2_pour 20 = .ok (.aload_n 0, 1) := by decide +kernel
theorem dX2_pour_21 : decode cX2_pour 21 = .ok (.iload_n 1, 1) := by decide +kernel
theorem dX2_pour_22 : decode cX2_pour 22 = .ok (.iload_n 3, 1) := by decide +kernel
theorem dX2_pour_23 : decode cX2_pour 23 = .ok (.iload_n 2, 1) := by decide +kernel
theorem dX2_pour_24 : decode cX2_pour 24 = .ok (.bipush 10, 2) := by decide +kernel
theorem dX2_pour_26 : decode cX2_pour 26 = .ok (.invokevirtual 32, 3) := by decide +kernel
theorem dX2_pour_29 : decode cX2_pour 29 = .ok (.iinc 3 1, 3) := by decide +kernel
theorem dX2_pour_32 : decode cX2_pour 32 = .ok (.goto (-18), 3) := by decide +kernel
theorem dX2_pour_35 : decode cX2_pour 35 = .ok (.iinc 2 1, 3) := by decide +kernel
theorem dX2_pour_38 : decode cX2_pour 38 = .ok (.goto (-32), 3) := by decide +kernel
theorem dX2_pour_41 : decode cX2_pour 41 = .ok (.bipush 9, 2) := by decide +kernel
theorem dX2_pour_43 : decode cX2_pour 43 = .ok (.istore_n 2, 1) := by decide +kernel
theorem dX2_pour_44 : decode cX2_pour 44 = .ok (.iload_n 2, 1) := by decide +kernel
theorem dX2_pour_45 : decode cX2_pour 45 = .ok (.iconst 1, 1) := by decide +kernel
theorem dX2_pour_46 : decode cX2_pour 46 = .ok (.if_icmp .lt 14, 3) := by decide +kernel
theorem dX2_pour_49 : decode cX2_pour 49 = .ok (.aload_n 0, 1) := by decide +kernel
theorem dX2_pour_50 : decode cX2_pour 50 = .ok (.iload_n 2, 1) := by decide +kernel
theorem dX2_pour_51 : decode cX2_pour 51 = .ok (.invokevirtual 36, 3) := by decide +kernel
theorem dX2_pour_54 : decode cX2_pour 54 = .ok (.iinc 2 (-1), 3) := by decide +kernel
theorem dX2_pour_57 : decode cX2_pour 57 = .ok (.goto (-13), 3) := by decide +kernel
theorem dX2_pour_60 : decode cX2_pour 60 = .ok (.return_, 1) := by decide +kernel
theorem dX2_fallenAt_0 : decode cX2_fallenAt 0 = .ok (.iload_n 1, 1) := by decide +kernel
theorem dX2_fallenAt_1 : decode cX2_fallenAt 1 = .ok (.iload_n 2, 1) := by decide +kernel
theorem dX2_fallenAt_2 : decode cX2_fallenAt 2 = .ok (.invokestatic 40, 3) := by decide +kernel
theorem dX2_fallenAt_5 : decode cX2_fallenAt 5 = .ok (.ifCond .eq 17, 3) := by decide +kernel
theorem dX2_fallenAt_8 : decode cX2_fallenAt 8 = .ok (.aload_n 0, 1) := by decide +kernel
theorem dX2_fallenAt_9 : decode cX2_fallenAt 9 = .ok (.getfield 15, 3) := by decide +kernel
theorem dX2_fallenAt_12 : decode cX2_fallenAt 12 = .ok (.iload_n 2, 1) := by decide +kernel
theorem dX2_fallenAt_13 : decode cX2_fallenAt 13 = .ok (.bipush 24, 2) := by decide +kernel
theorem dX2_fallenAt_15 : decode cX2_fallenAt 15 = .ok (.imul, 1) := by decide +kernel
theorem dX2_fallenAt_16 : decode cX2_fallenAt 16 = .ok (.iload_n 1, 1) := by decide +kernel
theorem dX2_fallenAt_17 : decode cX2_fallenAt 17 = .ok (.iadd, 1) := by decide +kernel
theorem dX2_fallenAt_18 : decode cX2_fallenAt 18 = .ok (.iaload, 1) := by decide +kernel
theorem dX2_fallenAt_19 : decode cX2_fallenAt 19 = .ok (.goto 4, 3) := by decide +kernel
theorem dX2_fallenAt_22 : decode cX2_fallenAt 22 = .ok (.iconst 0, 1) := by decide +kernel
theorem dX2_fallenAt_23 : decode cX2_fallenAt 23 = .ok (.ireturn, 1) := by decide +kernel
theorem dX2_caughtBy_0 : decode cX2_caughtBy 0 = .ok (.iload_n 1, 1) := by decide +kernel
theorem dX2_caughtBy_1 : decode cX2_caughtBy 1 = .ok (.ifCond .lt 21, 3) := by decide +kernel
theorem dX2_caughtBy_4 : decode cX2_caughtBy 4 = .ok (.iload_n 1, 1) := by decide +kernel
theorem dX2_caughtBy_5 : decode cX2_caughtBy 5 = .ok (.aload_n 0, 1) := by decide +kernel
theorem dX2_caughtBy_6 : decode cX2_caughtBy 6 = .ok (.getfield 19, 3) := by decide +kernel
theorem dX2_caughtBy_9 : decode cX2_caughtBy 9 = .ok (.arraylength, 1) := by decide +kernel
theorem dX2_caughtBy_10 : decode cX2_caughtBy 10 = .ok (.if_icmp .ge 12, 3) := by decide +kernel
theorem dX2_caughtBy_13 : decode cX2_caughtBy 13 = .ok (.aload_n 0, 1) := by decide +kernel
theorem dX2_caughtBy_14 : decode cX2_caughtBy 14 = .ok (.getfield 19, 3) := by decide +kernel
theorem dX2_caughtBy_17 : decode cX2_caughtBy 17 = .ok (.iload_n 1, 1) := by decide +kernel
theorem dX2_caughtBy_18 : decode cX2_caughtBy 18 = .ok (.iaload, 1) := by decide +kernel
theorem dX2_caughtBy_19 : decode cX2_caughtBy 19 = .ok (.goto 4, 3) := by decide +kernel
theorem dX2_caughtBy_22 : decode cX2_caughtBy 22 = .ok (.iconst 0, 1) := by decide +kernel
theorem dX2_caughtBy_23 : decode cX2_caughtBy 23 = .ok (.ireturn, 1) := by decide +kernel
theorem dX2_dry_0 : decode cX2_dry 0 = .ok (.aload_n 0, 1) := by decide +kernel
theorem dX2_dry_1 : decode cX2_dry 1 = .ok (.getfield 15, 3) := by decide +kernel
theorem dX2_dry_4 : decode cX2_dry 4 = .ok (.iconst 0, 1) := by decide +kernel
theorem dX2_dry_5 : decode cX2_dry 5 = .ok (.invokestatic 44, 3) := by decide +kernel
theorem dX2_dry_8 : decode cX2_dry 8 = .ok (.aload_n 0, 1) := by decide +kernel
theorem dX2_dry_9 : decode cX2_dry 9 = .ok (.getfield 19, 3) := by decide +kernel
theorem dX2_dry_12 : decode cX2_dry 12 = .ok (.iconst 0, 1) := by decide +kernel
theorem dX2_dry_13 : decode cX2_dry 13 = .ok (.invokestatic 44, 3) := by decide +kernel
theorem dX2_dry_16 : decode cX2_dry 16 = .ok (.aload_n 0, 1) := by decide +kernel
theorem dX2_dry_17 : decode cX2_dry 17 = .ok (.iconst 0, 1) := by decide +kernel
theorem dX2_dry_18 : decode cX2_dry 18 = .ok (.putfield 22, 3) := by decide +kernel
theorem dX2_dry_21 : decode cX2_dry 21 = .ok (.aload_n 0, 1) := by decide +kernel
theorem dX2_dry_22 : decode cX2_dry 22 = .ok (.iconst 0, 1) := by decide +kernel
theorem dX2_dry_23 : decode cX2_dry 23 = .ok (.putfield 26, 3) := by decide +kernel
theorem dX2_dry_26 : decode cX2_dry 26 = .ok (.return_, 1) := by decide +kernel
theorem dX2_dripFromLevel_0 : decode cX2_dripFromLevel 0 = .ok (.iconst 0, 1) := by decide +kernel
theorem dX2_dripFromLevel_1 : decode cX2_dripFromLevel 1 = .ok (.istore_n 2, 1) := by decide +kernel
theorem dX2_dripFromLevel_2 : decode cX2_dripFromLevel 2 = .ok (.iload_n 2, 1) := by decide +kernel
theorem dX2_dripFromLevel_3 : decode cX2_dripFromLevel 3 = .ok (.aload_n 0, 1) := by decide +kernel
theorem dX2_dripFromLevel_4 : decode cX2_dripFromLevel 4 = .ok (.getfield 9, 3) := by decide +kernel
theorem dX2_dripFromLevel_7 : decode cX2_dripFromLevel 7 = .ok (.invokevirtual 50, 3) := by decide +kernel
theorem dX2_dripFromLevel_10 : decode cX2_dripFromLevel 10 = .ok (.if_icmp .ge 43, 3) := by decide +kernel
theorem dX2_dripFromLevel_13 : decode cX2_dripFromLevel 13 = .ok (.aload_n 0, 1) := by decide +kernel
theorem dX2_dripFromLevel_14 : decode cX2_dripFromLevel 14 = .ok (.getfield 9, 3) := by decide +kernel
theorem dX2_dripFromLevel_17 : decode cX2_dripFromLevel 17 = .ok (.iload_n 2, 1) := by decide +kernel
theorem dX2_dripFromLevel_18 : decode cX2_dripFromLevel 18 = .ok (.invokevirtual 56, 3) := by decide +kernel
theorem dX2_dripFromLevel_21 : decode cX2_dripFromLevel 21 = .ok (.astore_n 3, 1) := by decide +kernel
theorem dX2_dripFromLevel_22 : decode cX2_dripFromLevel 22 = .ok (.aload_n 3, 1) := by decide +kernel
theorem dX2_dripFromLevel_23 : decode cX2_dripFromLevel 23 = .ok (.getfield 60, 3) := by decide +kernel
theorem dX2_dripFromLevel_26 : decode cX2_dripFromLevel 26 = .ok (.ifCond .eq 21, 3) := by decide +kernel
theorem dX2_dripFromLevel_29 : decode cX2_dripFromLevel 29 = .ok (.aload_n 3, 1) := by decide +kernel
theorem dX2_dripFromLevel_30 : decode cX2_dripFromLevel 30 = .ok (.getfield 66, 3) := by decide +kernel
theorem dX2_dripFromLevel_33 : decode cX2_dripFromLevel 33 = .ok (.iload_n 1, 1) := by decide +kernel
theorem dX2_dripFromLevel_34 : decode cX2_dripFromLevel 34 = .ok (.if_icmp .ne 13, 3) := by decide +kernel
theorem dX2_dripFromLevel_37 : decode cX2_dripFromLevel 37 = .ok (.aload_n 0, 1) := by decide +kernel
theorem dX2_dripFromLevel_38 : decode cX2_dripFromLevel 38 = .ok (.aload_n 3, 1) := by decide +kernel
theorem dX2_dripFromLevel_39 : decode cX2_dripFromLevel 39 = .ok (.aload_n 0, 1) := by decide +kernel
theorem dX2_dripFromLevel_40 : decode cX2_dripFromLevel 40 = .ok (.iload_n 2, 1) := by decide +kernel
theorem dX2_dripFromLevel_41 : decode cX2_dripFromLevel 41 = .ok (.invokevirtual 69, 3) := by decide +kernel
theorem dX2_dripFromLevel_44 : decode cX2_dripFromLevel 44 = .ok (.invokevirtual 73, 3) := by decide +kernel
theorem dX2_dripFromLevel_47 : decode cX2_dripFromLevel 47 = .ok (.iinc 2 1, 3) := by decide +kernel
theorem dX2_dripFromLevel_50 : decode cX2_dripFromLevel 50 = .ok (.goto (-48), 3) := by decide +kernel
theorem dX2_dripFromLevel_53 : decode cX2_dripFromLevel 53 = .ok (.return_, 1) := by decide +kernel
theorem dX2_drip_0 : decode cX2_drip 0 = .ok (.aload_n 1, 1) := by decide +kernel
theorem dX2_drip_1 : decode cX2_drip 1 = .ok (.invokevirtual 77, 3) := by decide +kernel
theorem dX2_drip_4 : decode cX2_drip 4 = .ok (.istore_n 3, 1) := by decide +kernel
theorem dX2_drip_5 : decode cX2_drip 5 = .ok (.iload_n 3, 1) := by decide +kernel
theorem dX2_drip_6 : decode cX2_drip 6 = .ok (.iconst 1, 1) := by decide +kernel
theorem dX2_drip_7 : decode cX2_drip 7 = .ok (.if_icmp .ge 4, 3) := by decide +kernel
theorem dX2_drip_10 : decode cX2_drip 10 = .ok (.return_, 1) := by decide +kernel
theorem dX2_drip_11 : decode cX2_drip 11 = .ok (.iload_n 2, 1) := by decide +kernel
theorem dX2_drip_12 : decode cX2_drip 12 = .ok (.iload_n 3, 1) := by decide +kernel
theorem dX2_drip_13 : decode cX2_drip 13 = .ok (.idiv, 1) := by decide +kernel
theorem dX2_drip_14 : decode cX2_drip 14 = .ok (.istore 4, 2) := by decide +kernel
theorem dX2_drip_16 : decode cX2_drip 16 = .ok (.iload_n 2, 1) := by decide +kernel
theorem dX2_drip_17 : decode cX2_drip 17 = .ok (.iload_n 3, 1) := by decide +kernel
theorem dX2_drip_18 : decode cX2_drip 18 = .ok (.irem, 1) := by decide +kernel
theorem dX2_drip_19 : decode cX2_drip 19 = .ok (.istore 5, 2) := by decide +kernel
theorem dX2_drip_21 : decode cX2_drip 21 = .ok (.iconst 0, 1) := by decide +kernel
theorem dX2_drip_22 : decode cX2_drip 22 = .ok (.istore 6, 2) := by decide +kernel
theorem dX2_drip_24 : decode cX2_drip 24 = .ok (.iload 6, 2) := by decide +kernel
theorem dX2_drip_26 : decode cX2_drip 26 = .ok (.iload_n 3, 1) := by decide +kernel
theorem dX2_drip_27 : decode cX2_drip 27 = .ok (.if_icmp .ge 49, 3) := by decide +kernel
theorem dX2_drip_30 : decode cX2_drip 30 = .ok (.iload 6, 2) := by decide +kernel
theorem dX2_drip_32 : decode cX2_drip 32 = .ok (.iload 5, 2) := by decide +kernel
theorem dX2_drip_34 : decode cX2_drip 34 = .ok (.if_icmp .ge 10, 3) := by decide +kernel
theorem dX2_drip_37 : decode cX2_drip 37 = .ok (.iload 4, 2) := by decide +kernel
theorem dX2_drip_39 : decode cX2_drip 39 = .ok (.iconst 1, 1) := by decide +kernel
theorem dX2_drip_40 : decode cX2_drip 40 = .ok (.iadd, 1) := by decide +kernel
theorem dX2_drip_41 : decode cX2_drip 41 = .ok (.goto 5, 3) := by decide +kernel
theorem dX2_drip_44 : decode cX2_drip 44 = .ok (.iload 4, 2) := by decide +kernel
theorem dX2_drip_46 : decode cX2_drip 46 = .ok (.istore 7, 2) := by decide +kernel
theorem dX2_drip_48 : decode cX2_drip 48 = .ok (.aload_n 0, 1) := by decide +kernel
theorem dX2_drip_49 : decode cX2_drip 49 = .ok (.iload 7, 2) := by decide +kernel
theorem dX2_drip_51 : decode cX2_drip 51 = .ok (.aload_n 1, 1) := by decide +kernel
theorem dX2_drip_52 : decode cX2_drip 52 = .ok (.iload 6, 2) := by decide +kernel
theorem dX2_drip_54 : decode cX2_drip 54 = .ok (.invokevirtual 80, 3) := by decide +kernel
theorem dX2_drip_57 : decode cX2_drip 57 = .ok (.aload_n 1, 1) := by decide +kernel
theorem dX2_drip_58 : decode cX2_drip 58 = .ok (.iload 6, 2) := by decide +kernel
theorem dX2_drip_60 : decode cX2_drip 60 = .ok (.invokevirtual 83, 3) := by decide +kernel
theorem dX2_drip_63 : decode cX2_drip 63 = .ok (.aload_n 1, 1) := by decide +kernel
theorem dX2_drip_64 : decode cX2_drip 64 = .ok (.getfield 66, 3) := by decide +kernel
theorem dX2_drip_67 : decode cX2_drip 67 = .ok (.invokevirtual 32, 3) := by decide +kernel
theorem dX2_drip_70 : decode cX2_drip 70 = .ok (.iinc 6 1, 3) := by decide +kernel
theorem dX2_drip_73 : decode cX2_drip 73 = .ok (.goto (-49), 3) := by decide +kernel
theorem dX2_drip_76 : decode cX2_drip 76 = .ok (.return_, 1) := by decide +kernel
theorem dX2_land_0 : decode cX2_land 0 = .ok (.iload_n 2, 1) := by decide +kernel
theorem dX2_land_1 : decode cX2_land 1 = .ok (.iload_n 3, 1) := by decide +kernel
theorem dX2_land_2 : decode cX2_land 2 = .ok (.invokestatic 40, 3) := by decide +kernel
theorem dX2_land_5 : decode cX2_land 5 = .ok (.ifCond .ne 14, 3) := by decide +kernel
theorem dX2_land_8 : decode cX2_land 8 = .ok (.aload_n 0, 1) := by decide +kernel
theorem dX2_land_9 : decode cX2_land 9 = .ok (.dup, 1) := by decide +kernel
theorem dX2_land_10 : decode cX2_land 10 = .ok (.getfield 26, 3) := by decide +kernel
theorem dX2_land_13 : decode cX2_land 13 = .ok (.iload_n 1, 1) := by decide +kernel
theorem dX2_land_14 : decode cX2_land 14 = .ok (.iadd, 1) := by decide +kernel
theorem dX2_land_15 : decode cX2_land 15 = .ok (.putfield 26, 3) := by decide +kernel
theorem dX2_land_18 : decode cX2_land 18 = .ok (.return_, 1) := by decide +kernel
theorem dX2_land_19 : decode cX2_land 19 = .ok (.aload_n 0, 1) := by decide +kernel
theorem dX2_land_20 : decode cX2_land 20 = .ok (.getfield 9, 3) := by decide +kernel
theorem dX2_land_23 : decode cX2_land 23 = .ok (.iload 4, 2) := by decide +kernel
theorem dX2_land_25 : decode cX2_land 25 = .ok (.iload_n 2, 1) := by decide +kernel
theorem dX2_land_26 : decode cX2_land 26 = .ok (.iload_n 3, 1) := by decide +kernel
theorem dX2_land_27 : decode cX2_land 27 = .ok (.invokevirtual 86, 3) := by decide +kernel
theorem dX2_land_30 : decode cX2_land 30 = .ok (.istore 5, 2) := by decide +kernel
theorem dX2_land_32 : decode cX2_land 32 = .ok (.iload 5, 2) := by decide +kernel
theorem dX2_land_34 : decode cX2_land 34 = .ok (.ifCond .lt 27, 3) := by decide +kernel
theorem dX2_land_37 : decode cX2_land 37 = .ok (.iload 5, 2) := by decide +kernel
theorem dX2_land_39 : decode cX2_land 39 = .ok (.aload_n 0, 1) := by decide +kernel
theorem dX2_land_40 : decode cX2_land 40 = .ok (.getfield 19, 3) := by decide +kernel
theorem dX2_land_43 : decode cX2_land 43 = .ok (.arraylength, 1) := by decide +kernel
theorem dX2_land_44 : decode cX2_land 44 = .ok (.if_icmp .ge 17, 3) := by decide +kernel
theorem dX2_land_47 : decode cX2_land 47 = .ok (.aload_n 0, 1) := by decide +kernel
theorem dX2_land_48 : decode cX2_land 48 = .ok (.getfield 19, 3) := by decide +kernel
theorem dX2_land_51 : decode cX2_land 51 = .ok (.iload 5, 2) := by decide +kernel
theorem dX2_land_53 : decode cX2_land 53 = .ok (.dup2, 1) := by decide +kernel
theorem dX2_land_54 : decode cX2_land 54 = .ok (.iaload, 1) := by decide +kernel
theorem dX2_land_55 : decode cX2_land 55 = .ok (.iload_n 1, 1) := by decide +kernel
theorem dX2_land_56 : decode cX2_land 56 = .ok (.iadd, 1) := by decide +kernel
theorem dX2_land_57 : decode cX2_land 57 = .ok (.iastore, 1) := by decide +kernel
theorem dX2_land_58 : decode cX2_land 58 = .ok (.goto 28, 3) := by decide +kernel
theorem dX2_land_61 : decode cX2_land 61 = .ok (.aload_n 0, 1) := by decide +kernel
theorem dX2_land_62 : decode cX2_land 62 = .ok (.getfield 15, 3) := by decide +kernel
theorem dX2_land_65 : decode cX2_land 65 = .ok (.iload_n 3, 1) := by decide +kernel
theorem dX2_land_66 : decode cX2_land 66 = .ok (.bipush 24, 2) := by decide +kernel
theorem dX2_land_68 : decode cX2_land 68 = .ok (.imul, 1) := by decide +kernel
theorem dX2_land_69 : decode cX2_land 69 = .ok (.iload_n 2, 1) := by decide +kernel
theorem dX2_land_70 : decode cX2_land 70 = .ok (.iadd, 1) := by decide +kernel
theorem dX2_land_71 : decode cX2_land 71 = .ok (.dup2, 1) := by decide +kernel
theorem dX2_land_72 : decode cX2_land 72 = .ok (.iaload, 1) := by decide +kernel
theorem dX2_land_73 : decode cX2_land 73 = .ok (.iload_n 1, 1) := by decide +kernel
theorem dX2_land_74 : decode cX2_land 74 = .ok (.iadd, 1) := by decide +kernel
theorem dX2_land_75 : decode cX2_land 75 = .ok (.iastore, 1) := by decide +kernel
theorem dX2_land_76 : decode cX2_land 76 = .ok (.aload_n 0, 1) := by decide +kernel
theorem dX2_land_77 : decode cX2_land 77 = .ok (.dup, 1) := by decide +kernel
theorem dX2_land_78 : decode cX2_land 78 = .ok (.getfield 22, 3) := by decide +kernel
theorem dX2_land_81 : decode cX2_land 81 = .ok (.iload_n 1, 1) := by decide +kernel
theorem dX2_land_82 : decode cX2_land 82 = .ok (.iadd, 1) := by decide +kernel
theorem dX2_land_83 : decode cX2_land 83 = .ok (.putfield 22, 3) := by decide +kernel
theorem dX2_land_86 : decode cX2_land 86 = .ok (.return_, 1) := by decide +kernel
theorem dX3_init_0 : decode cX3_init 0 = .ok (.aload_n 0, 1) := by decide +kernel
theorem dX3_init_1 : decode cX3_init 1 = .ok (.invokespecial 1, 3) := by decide +kernel
theorem dX3_init_4 : decode cX3_init 4 = .ok (.aload_n 0, 1) := by decide +kernel
theorem dX3_init_5 : decode cX3_init 5 = .ok (.iload_n 1, 1) := by decide +kernel
theorem dX3_init_6 : decode cX3_init 6 = .ok (.putfield 7, 3) := by decide +kernel
theorem dX3_init_9 : decode cX3_init 9 = .ok (.aload_n 0, 1) := by decide +kernel
theorem dX3_init_10 : decode cX3_init 10 = .ok (.iload_n 2, 1) := by decide +kernel
theorem dX3_init_11 : decode cX3_init 11 = .ok (.putfield 13, 3) := by decide +kernel
theorem dX3_init_14 : decode cX3_init 14 = .ok (.aload_n 0, 1) := by decide +kernel
theorem dX3_init_15 : decode cX3_init 15 = .ok (.iload_n 3, 1) := by decide +kernel
theorem dX3_init_16 : decode cX3_init 16 = .ok (.putfield 16, 3) := by decide +kernel
theorem dX3_init_19 : decode cX3_init 19 = .ok (.return_, 1) := by decide +kernel
theorem dX4_init_0 : decode cX4_init 0 = .ok (.aload_n 0, 1) := by decide +kernel
theorem dX4_init_1 : decode cX4_init 1 = .ok (.invokespecial 3, 3) := by decide +kernel
theorem dX4_init_4 : decode cX4_init 4 = .ok (.aload_n 0, 1) := by decide +kernel
theorem dX4_init_5 : decode cX4_init 5 = .ok (.new 9, 3) := by decide +kernel
theorem dX4_init_8 : decode cX4_init 8 = .ok (.dup, 1) := by decide +kernel
theorem dX4_init_9 : decode cX4_init 9 = .ok (.invokespecial 11, 3) := by decide +kernel
theorem dX4_init_12 : decode cX4_init 12 = .ok (.putfield 12, 3) := by decide +kernel
theorem dX4_init_15 : decode cX4_init 15 = .ok (.aload_n 0, 1) := by decide +kernel
theorem dX4_init_16 : decode cX4_init 16 = .ok (.new 16, 3) := by decide +kernel
theorem dX4_init_19 : decode cX4_init 19 = .ok (.dup, 1) := by decide +kernel
theorem dX4_init_20 : decode cX4_init 20 = .ok (.aload_n 0, 1) := by decide +kernel
theorem dX4_init_21 : decode cX4_init 21 = .ok (.getfield 12, 3) := by decide +kernel
theorem dX4_init_24 : decode cX4_init 24 = .ok (.invokespecial 18, 3) := by decide +kernel
theorem dX4_init_27 : decode cX4_init 27 = .ok (.putfield 21, 3) := by decide +kernel
theorem dX4_init_30 : decode cX4_init 30 = .ok (.aload_n 0, 1) := by decide +kernel
theorem dX4_init_31 : decode cX4_init 31 = .ok (.new 25, 3) := by decide +kernel
theorem dX4_init_34 : decode cX4_init 34 = .ok (.dup, 1) := by decide +kernel
theorem dX4_init_35 : decode cX4_init 35 = .ok (.invokespecial 27, 3) := by decide +kernel
theorem dX4_init_38 : decode cX4_init 38 = .ok (.putfield 28, 3) := by decide +kernel
theorem dX4_init_41 : decode cX4_init 41 = .ok (.aload_n 0, 1) := by decide +kernel
theorem dX4_init_42 : decode cX4_init 42 = .ok (.sipush 576, 3) := by decide +kernel
theorem dX4_init_45 : decode cX4_init 45 = .ok (.newarray .int, 2) := by decide +kernel
theorem dX4_init_47 : decode cX4_init 47 = .ok (.putfield 32, 3) := by decide +kernel
theorem dX4_init_50 : decode cX4_init 50 = .ok (.aload_n 0, 1) := by decide +kernel
theorem dX4_init_51 : decode cX4_init 51 = .ok (.iconst 0, 1) := by decide +kernel
theorem dX4_init_52 : decode cX4_init 52 = .ok (.putfield 36, 3) := by decide +kernel
theorem dX4_init_55 : decode cX4_init 55 = .ok (.aload_n 0, 1) := by decide +kernel
theorem dX4_init_56 : decode cX4_init 56 = .ok (.iconst 0, 1) := by decide +kernel
theorem dX4_init_57 : decode cX4_init 57 = .ok (.putfield 40, 3) := by decide +kernel
theorem dX4_init_60 : decode cX4_init 60 = .ok (.aload_n 0, 1) := by decide +kernel
theorem dX4_init_61 : decode cX4_init 61 = .ok (.iconst 0, 1) := by decide +kernel
theorem dX4_init_62 : decode cX4_init 62 = .ok (.putfield 43, 3) := by decide +kernel
theorem dX4_init_65 : decode cX4_init 65 = .ok (.return_, 1) := by decide +kernel
theorem dX4_hang_0 : decode cX4_hang 0 = .ok (.iload_n 3, 1) := by decide +kernel
theorem dX4_hang_1 : decode cX4_hang 1 = .ok (.iload 4, 2) := by decide +kernel
theorem dX4_hang_3 : decode cX4_hang 3 = .ok (.invokestatic 46, 3) := by decide +kernel
theorem dX4_hang_6 : decode cX4_hang 6 = .ok (.iload 5, 2) := by decide +kernel
theorem dX4_hang_8 : decode cX4_hang 8 = .ok (.iconst 1, 1) := by decide +kernel
theorem dX4_hang_9 : decode cX4_hang 9 = .ok (.if_icmp .lt 10, 3) := by decide +kernel
theorem dX4_hang_12 : decode cX4_hang 12 = .ok (.iload 5, 2) := by decide +kernel
theorem dX4_hang_14 : decode cX4_hang 14 = .ok (.bipush 9, 2) := by decide +kernel
theorem dX4_hang_16 : decode cX4_hang 16 = .ok (.if_icmp .le 13, 3) := by decide +kernel
theorem dX4_hang_19 : decode cX4_hang 19 = .ok (.new 50, 3) := by decide +kernel
theorem dX4_hang_22 : decode cX4_hang 22 = .ok (.dup, 1) := by decide +kernel
theorem dX4_hang_23 : decode cX4_hang 23 = .ok (.ldc 52, 2) := by decide +kernel
theorem dX4_hang_25 : decode cX4_hang 25 = .ok (.invokespecial 54, 3) := by decide +kernel
theorem dX4_hang_28 : decode cX4_hang 28 = .ok (.athrow, 1) := by decide +kernel
theorem dX4_hang_29 : decode cX4_hang 29 = .ok (.iload 6, 2) := by decide +kernel
theorem dX4_hang_31 : decode cX4_hang 31 = .ok (.ifCond .lt 9, 3) := by decide +kernel
theorem dX4_hang_34 : decode cX4_hang 34 = .ok (.iload 6, 2) := by decide +kernel
theorem dX4_hang_36 : decode cX4_hang 36 = .ok (.iconst 3, 1) := by decide +kernel
theorem dX4_hang_37 : decode cX4_hang 37 = .ok (.if_icmp .le 13, 3) := by decide +kernel
theorem dX4_hang_40 : decode cX4_hang 40 = .ok (.new 50, 3) := by decide +kernel
theorem dX4_hang_43 : decode cX4_hang 43 = .ok (.dup, 1) := by decide +kernel
theorem dX4_hang_44 : decode cX4_hang 44 = .ok (.ldc 57, 2) := by decide +kernel
theorem dX4_hang_46 : decode cX4_hang 46 = .ok (.invokespecial 54, 3) := by decide +kernel
theorem dX4_hang_49 : decode cX4_hang 49 = .ok (.athrow, 1) := by decide +kernel
theorem dX4_hang_50 : decode cX4_hang 50 = .ok (.iload_n 1, 1) := by decide +kernel
theorem dX4_hang_51 : decode cX4_hang 51 = .ok (.iload_n 2, 1) := by decide +kernel
theorem dX4_hang_52 : decode cX4_hang 52 = .ok (.iload_n 3, 1) := by decide +kernel
theorem dX4_hang_53 : decode cX4_hang 53 = .ok (.iload 4, 2) := by decide +kernel
theorem dX4_hang_55 : decode cX4_hang 55 = .ok (.invokestatic 59, 3) := by decide +kernel
theorem dX4_hang_58 : decode cX4_hang 58 = .ok (.aload_n 0, 1) := by decide +kernel
theorem dX4_hang_59 : decode cX4_hang 59 = .ok (.getfield 12, 3) := by decide +kernel
theorem dX4_hang_62 : decode cX4_hang 62 = .ok (.invokevirtual 63, 3) := by decide +kernel
theorem dX4_hang_65 : decode cX4_hang 65 = .ok (.bipush 10, 2) := by decide +kernel
theorem dX4_hang_67 : decode cX4_hang 67 = .ok (.if_icmp .lt 13, 3) := by decide +kernel
theorem dX4_hang_70 : decode cX4_hang 70 = .ok (.new 67, 3) := by decide +kernel
theorem dX4_hang_73 : decode cX4_hang 73 = .ok (.dup, 1) := by decide +kernel
theorem dX4_hang_74 : decode cX4_hang 74 = .ok (.ldc 69, 2) := by decide +kernel
theorem dX4_hang_76 : decode cX4_hang 76 = .ok (.invokespecial 71, 3) := by decide +kernel
theorem dX4_hang_79 : decode cX4_hang 79 = .ok (.athrow, 1) := by decide +kernel
theorem dX4_hang_80 : decode cX4_hang 80 = .ok (.aload_n 0, 1) := by decide +kernel
theorem dX4_hang_81 : decode cX4_hang 81 = .ok (.getfield 12, 3) := by decide +kernel
theorem dX4_hang_84 : decode cX4_hang 84 = .ok (.new 72, 3) := by decide +kernel
theorem dX4_hang_87 : decode cX4_hang 87 = .ok (.dup, 1) := by decide +kernel
theorem dX4_hang_88 : decode cX4_hang 88 = .ok (.iload_n 1, 1) := by decide +kernel
theorem dX4_hang_89 : decode cX4_hang 89 = .ok (.iload_n 2, 1) := by decide +kernel
theorem dX4_hang_90 : decode cX4_hang 90 = .ok (.iload_n 3, 1) := by decide +kernel
theorem dX4_hang_91 : decode cX4_hang 91 = .ok (.iload 4, 2) := by decide +kernel
theorem dX4_hang_93 : decode cX4_hang 93 = .ok (.iload 5, 2) := by decide +kernel
theorem dX4_hang_95 : decode cX4_hang 95 = .ok (.iload 6, 2) := by decide +kernel
